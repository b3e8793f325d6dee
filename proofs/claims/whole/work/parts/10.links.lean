/-! the links: fields, methods, throws -/
set_option maxRecDepth 100000 in
theorem cf_X0 : kCF 0 RX0 TX0 4 := by
  refine ⟨rfl, rfl, ?_, nmX0, ?_⟩
  · intro w hw
    obtain ⟨k, hk, rfl⟩ := List.mem_map.mp hw
    have hk := List.mem_range.mp hk
    match k, hk with
    | 0, _ => exact inT1 132 (by decide +kernel) rfl
    | 1, _ => exact inT1 134 (by decide +kernel) rfl
    | 2, _ => exact inT1 136 (by decide +kernel) rfl
    | 3, _ => exact inT1 138 (by decide +kernel) rfl
    | k + 4, hk => exact absurd hk (by omega)
  · intro k hk; exact tyX0_ok k hk
set_option maxRecDepth 100000 in
theorem cf_X1 : kCF 1 RX1 TX1 12 := by
  refine ⟨rfl, rfl, ?_, nmX1, ?_⟩
  · intro w hw
    obtain ⟨k, hk, rfl⟩ := List.mem_map.mp hw
    have hk := List.mem_range.mp hk
    match k, hk with
    | 0, _ => exact inT1 172 (by decide +kernel) rfl
    | 1, _ => exact inT1 174 (by decide +kernel) rfl
    | 2, _ => exact inT1 176 (by decide +kernel) rfl
    | 3, _ => exact inT1 178 (by decide +kernel) rfl
    | 4, _ => exact inT1 180 (by decide +kernel) rfl
    | 5, _ => exact inT1 182 (by decide +kernel) rfl
    | 6, _ => exact inT1 184 (by decide +kernel) rfl
    | 7, _ => exact inT1 186 (by decide +kernel) rfl
    | 8, _ => exact inT1 188 (by decide +kernel) rfl
    | 9, _ => exact inT1 190 (by decide +kernel) rfl
    | 10, _ => exact inT1 192 (by decide +kernel) rfl
    | 11, _ => exact inT1 194 (by decide +kernel) rfl
    | k + 12, hk => exact absurd hk (by omega)
  · intro k hk; exact tyX1_ok k hk
set_option maxRecDepth 100000 in
theorem cf_X2 : kCF 2 RX2 TX2 3 := by
  refine ⟨rfl, rfl, ?_, nmX2, ?_⟩
  · intro w hw
    obtain ⟨k, hk, rfl⟩ := List.mem_map.mp hw
    have hk := List.mem_range.mp hk
    match k, hk with
    | 0, _ => exact inT1 108 (by decide +kernel) rfl
    | 1, _ => exact inT1 110 (by decide +kernel) rfl
    | 2, _ => exact inT1 112 (by decide +kernel) rfl
    | k + 3, hk => exact absurd hk (by omega)
  · intro k hk; exact tyX2_ok k hk
set_option maxRecDepth 100000 in
theorem cf_X3 : kCF 3 RX3 TX3 5 := by
  refine ⟨rfl, rfl, ?_, nmX3, ?_⟩
  · intro w hw
    obtain ⟨k, hk, rfl⟩ := List.mem_map.mp hw
    have hk := List.mem_range.mp hk
    match k, hk with
    | 0, _ => exact inT1 87 (by decide +kernel) rfl
    | 1, _ => exact inT1 89 (by decide +kernel) rfl
    | 2, _ => exact inT1 91 (by decide +kernel) rfl
    | 3, _ => exact inT1 93 (by decide +kernel) rfl
    | 4, _ => exact inT1 95 (by decide +kernel) rfl
    | k + 5, hk => exact absurd hk (by omega)
  · intro k hk; exact tyX3_ok k hk
set_option maxRecDepth 100000 in
theorem cf_X4 : kCF 4 RX4 TX4 3 := by
  refine ⟨rfl, rfl, ?_, nmX4, ?_⟩
  · intro w hw
    obtain ⟨k, hk, rfl⟩ := List.mem_map.mp hw
    have hk := List.mem_range.mp hk
    match k, hk with
    | 0, _ => exact inT1 210 (by decide +kernel) rfl
    | 1, _ => exact inT1 212 (by decide +kernel) rfl
    | 2, _ => exact inT1 214 (by decide +kernel) rfl
    | k + 3, hk => exact absurd hk (by omega)
  · intro k hk; exact tyX4_ok k hk
set_option maxRecDepth 100000 in
theorem cf_X5 : kCF 5 RX5 TX5 6 := by
  refine ⟨rfl, rfl, ?_, nmX5, ?_⟩
  · intro w hw
    obtain ⟨k, hk, rfl⟩ := List.mem_map.mp hw
    have hk := List.mem_range.mp hk
    match k, hk with
    | 0, _ => exact inT2 75 (by decide +kernel) rfl
    | 1, _ => exact inT2 77 (by decide +kernel) rfl
    | 2, _ => exact inT2 79 (by decide +kernel) rfl
    | 3, _ => exact inT2 81 (by decide +kernel) rfl
    | 4, _ => exact inT2 83 (by decide +kernel) rfl
    | 5, _ => exact inT2 85 (by decide +kernel) rfl
    | k + 6, hk => exact absurd hk (by omega)
  · intro k hk; exact tyX5_ok k hk
set_option maxRecDepth 100000 in
theorem cf_X6 : kCF 6 RX6 TX6 3 := by
  refine ⟨rfl, rfl, ?_, nmX6, ?_⟩
  · intro w hw
    obtain ⟨k, hk, rfl⟩ := List.mem_map.mp hw
    have hk := List.mem_range.mp hk
    match k, hk with
    | 0, _ => exact inT2 31 (by decide +kernel) rfl
    | 1, _ => exact inT2 33 (by decide +kernel) rfl
    | 2, _ => exact inT2 35 (by decide +kernel) rfl
    | k + 3, hk => exact absurd hk (by omega)
  · intro k hk; exact tyX6_ok k hk
set_option maxRecDepth 100000 in
theorem cf_X7 : kCF 7 RX7 TX7 3 := by
  refine ⟨rfl, rfl, ?_, nmX7, ?_⟩
  · intro w hw
    obtain ⟨k, hk, rfl⟩ := List.mem_map.mp hw
    have hk := List.mem_range.mp hk
    match k, hk with
    | 0, _ => exact inT1 59 (by decide +kernel) rfl
    | 1, _ => exact inT1 61 (by decide +kernel) rfl
    | 2, _ => exact inT1 63 (by decide +kernel) rfl
    | k + 3, hk => exact absurd hk (by omega)
  · intro k hk; exact tyX7_ok k hk
set_option maxRecDepth 100000 in
theorem cf_X8 : kCF 8 RX8 TX8 9 := by
  refine ⟨rfl, rfl, ?_, nmX8, ?_⟩
  · intro w hw
    obtain ⟨k, hk, rfl⟩ := List.mem_map.mp hw
    have hk := List.mem_range.mp hk
    match k, hk with
    | 0, _ => exact inT1 239 (by decide +kernel) rfl
    | 1, _ => exact inT2 1 (by decide +kernel) rfl
    | 2, _ => exact inT2 3 (by decide +kernel) rfl
    | 3, _ => exact inT2 5 (by decide +kernel) rfl
    | 4, _ => exact inT2 7 (by decide +kernel) rfl
    | 5, _ => exact inT2 9 (by decide +kernel) rfl
    | 6, _ => exact inT2 11 (by decide +kernel) rfl
    | 7, _ => exact inT2 13 (by decide +kernel) rfl
    | 8, _ => exact inT2 15 (by decide +kernel) rfl
    | k + 9, hk => exact absurd hk (by omega)
  · intro k hk; exact tyX8_ok k hk
set_option maxRecDepth 100000 in
theorem cf_X9 : kCF 9 RX9 TX9 4 := by
  refine ⟨rfl, rfl, ?_, nmX9, ?_⟩
  · intro w hw
    obtain ⟨k, hk, rfl⟩ := List.mem_map.mp hw
    have hk := List.mem_range.mp hk
    match k, hk with
    | 0, _ => exact inT2 50 (by decide +kernel) rfl
    | 1, _ => exact inT2 52 (by decide +kernel) rfl
    | 2, _ => exact inT2 54 (by decide +kernel) rfl
    | 3, _ => exact inT2 56 (by decide +kernel) rfl
    | k + 4, hk => exact absurd hk (by omega)
  · intro k hk; exact tyX9_ok k hk
set_option maxRecDepth 100000 in
theorem cf_X10 : kCF 10 RX10 TX10 9 := by
  refine ⟨rfl, rfl, ?_, nmX10, ?_⟩
  · intro w hw
    obtain ⟨k, hk, rfl⟩ := List.mem_map.mp hw
    have hk := List.mem_range.mp hk
    match k, hk with
    | 0, _ => exact inT2 97 (by decide +kernel) rfl
    | 1, _ => exact inT2 99 (by decide +kernel) rfl
    | 2, _ => exact inT2 101 (by decide +kernel) rfl
    | 3, _ => exact inT2 103 (by decide +kernel) rfl
    | 4, _ => exact inT2 105 (by decide +kernel) rfl
    | 5, _ => exact inT2 107 (by decide +kernel) rfl
    | 6, _ => exact inT2 109 (by decide +kernel) rfl
    | 7, _ => exact inT2 111 (by decide +kernel) rfl
    | 8, _ => exact inT2 113 (by decide +kernel) rfl
    | k + 9, hk => exact absurd hk (by omega)
  · intro k hk; exact tyX10_ok k hk
set_option maxRecDepth 100000 in
theorem cf_X11 : kCF 11 RX11 TX11 28 := by
  refine ⟨rfl, rfl, ?_, nmX11, ?_⟩
  · intro w hw
    obtain ⟨k, hk, rfl⟩ := List.mem_map.mp hw
    have hk := List.mem_range.mp hk
    match k, hk with
    | 0, _ => exact inT6 49 (by decide +kernel) rfl
    | 1, _ => exact inT6 51 (by decide +kernel) rfl
    | 2, _ => exact inT6 53 (by decide +kernel) rfl
    | 3, _ => exact inT6 55 (by decide +kernel) rfl
    | 4, _ => exact inT6 57 (by decide +kernel) rfl
    | 5, _ => exact inT6 59 (by decide +kernel) rfl
    | 6, _ => exact inT6 61 (by decide +kernel) rfl
    | 7, _ => exact inT6 63 (by decide +kernel) rfl
    | 8, _ => exact inT6 65 (by decide +kernel) rfl
    | 9, _ => exact inT6 67 (by decide +kernel) rfl
    | 10, _ => exact inT6 69 (by decide +kernel) rfl
    | 11, _ => exact inT6 71 (by decide +kernel) rfl
    | 12, _ => exact inT6 73 (by decide +kernel) rfl
    | 13, _ => exact inT6 75 (by decide +kernel) rfl
    | 14, _ => exact inT6 77 (by decide +kernel) rfl
    | 15, _ => exact inT6 79 (by decide +kernel) rfl
    | 16, _ => exact inT6 81 (by decide +kernel) rfl
    | 17, _ => exact inT6 83 (by decide +kernel) rfl
    | 18, _ => exact inT6 85 (by decide +kernel) rfl
    | 19, _ => exact inT6 87 (by decide +kernel) rfl
    | 20, _ => exact inT6 89 (by decide +kernel) rfl
    | 21, _ => exact inT6 91 (by decide +kernel) rfl
    | 22, _ => exact inT6 93 (by decide +kernel) rfl
    | 23, _ => exact inT6 95 (by decide +kernel) rfl
    | 24, _ => exact inT6 97 (by decide +kernel) rfl
    | 25, _ => exact inT6 99 (by decide +kernel) rfl
    | 26, _ => exact inT6 101 (by decide +kernel) rfl
    | 27, _ => exact inT6 103 (by decide +kernel) rfl
    | k + 28, hk => exact absurd hk (by omega)
  · intro k hk; exact tyX11_ok k hk
set_option maxRecDepth 100000 in
theorem fl_X7_9 : kFL RX7 9 7 0 true := ⟨RX7, TX7, 3, cf_X7, by decide, inT1 55 (by decide +kernel) rfl, rfl, trivial⟩
set_option maxRecDepth 100000 in
theorem fl_X10_105 : kFL RX10 105 7 0 true := ⟨RX7, TX7, 3, cf_X7, by decide, inT1 56 (by decide +kernel) rfl, rfl, trivial⟩
set_option maxRecDepth 100000 in
theorem fl_X7_15 : kFL RX7 15 7 1 true := ⟨RX7, TX7, 3, cf_X7, by decide, inT1 57 (by decide +kernel) rfl, rfl, trivial⟩
set_option maxRecDepth 100000 in
theorem fl_X7_18 : kFL RX7 18 7 2 true := ⟨RX7, TX7, 3, cf_X7, by decide, inT1 58 (by decide +kernel) rfl, rfl, trivial⟩
set_option maxRecDepth 100000 in
theorem fl_X3_9 : kFL RX3 9 3 0 true := ⟨RX3, TX3, 5, cf_X3, by decide, inT1 73 (by decide +kernel) rfl, rfl, trivial⟩
set_option maxRecDepth 100000 in
theorem fl_X1_134 : kFL RX1 134 3 0 true := ⟨RX3, TX3, 5, cf_X3, by decide, inT1 74 (by decide +kernel) rfl, rfl, trivial⟩
set_option maxRecDepth 100000 in
theorem fl_X10_206 : kFL RX10 206 3 0 true := ⟨RX3, TX3, 5, cf_X3, by decide, inT1 75 (by decide +kernel) rfl, rfl, trivial⟩
set_option maxRecDepth 100000 in
theorem fl_X3_15 : kFL RX3 15 3 1 true := ⟨RX3, TX3, 5, cf_X3, by decide, inT1 76 (by decide +kernel) rfl, rfl, trivial⟩
set_option maxRecDepth 100000 in
theorem fl_X1_111 : kFL RX1 111 3 1 true := ⟨RX3, TX3, 5, cf_X3, by decide, inT1 77 (by decide +kernel) rfl, rfl, trivial⟩
set_option maxRecDepth 100000 in
theorem fl_X10_214 : kFL RX10 214 3 1 true := ⟨RX3, TX3, 5, cf_X3, by decide, inT1 78 (by decide +kernel) rfl, rfl, trivial⟩
set_option maxRecDepth 100000 in
theorem fl_X3_18 : kFL RX3 18 3 2 true := ⟨RX3, TX3, 5, cf_X3, by decide, inT1 79 (by decide +kernel) rfl, rfl, trivial⟩
set_option maxRecDepth 100000 in
theorem fl_X1_125 : kFL RX1 125 3 2 true := ⟨RX3, TX3, 5, cf_X3, by decide, inT1 80 (by decide +kernel) rfl, rfl, trivial⟩
set_option maxRecDepth 100000 in
theorem fl_X10_217 : kFL RX10 217 3 2 true := ⟨RX3, TX3, 5, cf_X3, by decide, inT1 81 (by decide +kernel) rfl, rfl, trivial⟩
set_option maxRecDepth 100000 in
theorem fl_X3_21 : kFL RX3 21 3 3 true := ⟨RX3, TX3, 5, cf_X3, by decide, inT1 82 (by decide +kernel) rfl, rfl, trivial⟩
set_option maxRecDepth 100000 in
theorem fl_X9_42 : kFL RX9 42 3 3 true := ⟨RX3, TX3, 5, cf_X3, by decide, inT1 83 (by decide +kernel) rfl, rfl, trivial⟩
set_option maxRecDepth 100000 in
theorem fl_X9_36 : kFL RX9 36 3 4 false := ⟨RX3, TX3, 5, cf_X3, by decide, inT1 84 (by decide +kernel) rfl, rfl, trivial⟩
set_option maxRecDepth 100000 in
theorem fl_X3_28 : kFL RX3 28 3 4 false := ⟨RX3, TX3, 5, cf_X3, by decide, inT1 85 (by decide +kernel) rfl, rfl, trivial⟩
set_option maxRecDepth 100000 in
theorem fl_X10_437 : kFL RX10 437 3 4 false := ⟨RX3, TX3, 5, cf_X3, by decide, inT1 86 (by decide +kernel) rfl, rfl, trivial⟩
set_option maxRecDepth 100000 in
theorem fl_X2_9 : kFL RX2 9 2 0 true := ⟨RX2, TX2, 3, cf_X2, by decide, inT1 104 (by decide +kernel) rfl, rfl, trivial⟩
set_option maxRecDepth 100000 in
theorem fl_X2_15 : kFL RX2 15 2 1 true := ⟨RX2, TX2, 3, cf_X2, by decide, inT1 105 (by decide +kernel) rfl, rfl, trivial⟩
set_option maxRecDepth 100000 in
theorem fl_X2_22 : kFL RX2 22 2 2 false := ⟨RX2, TX2, 3, cf_X2, by decide, inT1 106 (by decide +kernel) rfl, rfl, trivial⟩
set_option maxRecDepth 100000 in
theorem fl_X10_267 : kFL RX10 267 2 2 false := ⟨RX2, TX2, 3, cf_X2, by decide, inT1 107 (by decide +kernel) rfl, rfl, trivial⟩
set_option maxRecDepth 100000 in
theorem fl_X0_9 : kFL RX0 9 0 0 true := ⟨RX0, TX0, 4, cf_X0, by decide, inT1 121 (by decide +kernel) rfl, rfl, trivial⟩
set_option maxRecDepth 100000 in
theorem fl_X9_72 : kFL RX9 72 0 0 true := ⟨RX0, TX0, 4, cf_X0, by decide, inT1 122 (by decide +kernel) rfl, rfl, trivial⟩
set_option maxRecDepth 100000 in
theorem fl_X1_153 : kFL RX1 153 0 0 true := ⟨RX0, TX0, 4, cf_X0, by decide, inT1 123 (by decide +kernel) rfl, rfl, trivial⟩
set_option maxRecDepth 100000 in
theorem fl_X10_238 : kFL RX10 238 0 0 true := ⟨RX0, TX0, 4, cf_X0, by decide, inT1 124 (by decide +kernel) rfl, rfl, trivial⟩
set_option maxRecDepth 100000 in
theorem fl_X0_15 : kFL RX0 15 0 1 true := ⟨RX0, TX0, 4, cf_X0, by decide, inT1 125 (by decide +kernel) rfl, rfl, trivial⟩
set_option maxRecDepth 100000 in
theorem fl_X10_419 : kFL RX10 419 0 1 true := ⟨RX0, TX0, 4, cf_X0, by decide, inT1 126 (by decide +kernel) rfl, rfl, trivial⟩
set_option maxRecDepth 100000 in
theorem fl_X0_18 : kFL RX0 18 0 2 true := ⟨RX0, TX0, 4, cf_X0, by decide, inT1 127 (by decide +kernel) rfl, rfl, trivial⟩
set_option maxRecDepth 100000 in
theorem fl_X9_77 : kFL RX9 77 0 2 true := ⟨RX0, TX0, 4, cf_X0, by decide, inT1 128 (by decide +kernel) rfl, rfl, trivial⟩
set_option maxRecDepth 100000 in
theorem fl_X1_156 : kFL RX1 156 0 2 true := ⟨RX0, TX0, 4, cf_X0, by decide, inT1 129 (by decide +kernel) rfl, rfl, trivial⟩
set_option maxRecDepth 100000 in
theorem fl_X0_25 : kFL RX0 25 0 3 false := ⟨RX0, TX0, 4, cf_X0, by decide, inT1 130 (by decide +kernel) rfl, rfl, trivial⟩
set_option maxRecDepth 100000 in
theorem fl_X10_422 : kFL RX10 422 0 3 false := ⟨RX0, TX0, 4, cf_X0, by decide, inT1 131 (by decide +kernel) rfl, rfl, trivial⟩
set_option maxRecDepth 100000 in
theorem fl_X1_9 : kFL RX1 9 1 0 true := ⟨RX1, TX1, 12, cf_X1, by decide, inT1 142 (by decide +kernel) rfl, rfl, trivial⟩
set_option maxRecDepth 100000 in
theorem fl_X10_79 : kFL RX10 79 1 0 true := ⟨RX1, TX1, 12, cf_X1, by decide, inT1 143 (by decide +kernel) rfl, rfl, trivial⟩
set_option maxRecDepth 100000 in
theorem fl_X5_77 : kFL RX5 77 1 0 true := ⟨RX1, TX1, 12, cf_X1, by decide, inT1 144 (by decide +kernel) rfl, rfl, trivial⟩
set_option maxRecDepth 100000 in
theorem fl_X1_15 : kFL RX1 15 1 1 true := ⟨RX1, TX1, 12, cf_X1, by decide, inT1 145 (by decide +kernel) rfl, rfl, trivial⟩
set_option maxRecDepth 100000 in
theorem fl_X10_98 : kFL RX10 98 1 1 true := ⟨RX1, TX1, 12, cf_X1, by decide, inT1 146 (by decide +kernel) rfl, rfl, trivial⟩
set_option maxRecDepth 100000 in
theorem fl_X5_92 : kFL RX5 92 1 1 true := ⟨RX1, TX1, 12, cf_X1, by decide, inT1 147 (by decide +kernel) rfl, rfl, trivial⟩
set_option maxRecDepth 100000 in
theorem fl_X1_18 : kFL RX1 18 1 2 true := ⟨RX1, TX1, 12, cf_X1, by decide, inT1 148 (by decide +kernel) rfl, rfl, trivial⟩
set_option maxRecDepth 100000 in
theorem fl_X5_89 : kFL RX5 89 1 2 true := ⟨RX1, TX1, 12, cf_X1, by decide, inT1 149 (by decide +kernel) rfl, rfl, trivial⟩
set_option maxRecDepth 100000 in
theorem fl_X10_300 : kFL RX10 300 1 2 true := ⟨RX1, TX1, 12, cf_X1, by decide, inT1 150 (by decide +kernel) rfl, rfl, trivial⟩
set_option maxRecDepth 100000 in
theorem fl_X1_21 : kFL RX1 21 1 3 true := ⟨RX1, TX1, 12, cf_X1, by decide, inT1 151 (by decide +kernel) rfl, rfl, trivial⟩
set_option maxRecDepth 100000 in
theorem fl_X10_247 : kFL RX10 247 1 3 true := ⟨RX1, TX1, 12, cf_X1, by decide, inT1 152 (by decide +kernel) rfl, rfl, trivial⟩
set_option maxRecDepth 100000 in
theorem fl_X1_24 : kFL RX1 24 1 4 true := ⟨RX1, TX1, 12, cf_X1, by decide, inT1 153 (by decide +kernel) rfl, rfl, trivial⟩
set_option maxRecDepth 100000 in
theorem fl_X5_80 : kFL RX5 80 1 4 true := ⟨RX1, TX1, 12, cf_X1, by decide, inT1 154 (by decide +kernel) rfl, rfl, trivial⟩
set_option maxRecDepth 100000 in
theorem fl_X10_260 : kFL RX10 260 1 4 true := ⟨RX1, TX1, 12, cf_X1, by decide, inT1 155 (by decide +kernel) rfl, rfl, trivial⟩
set_option maxRecDepth 100000 in
theorem fl_X1_27 : kFL RX1 27 1 5 true := ⟨RX1, TX1, 12, cf_X1, by decide, inT1 156 (by decide +kernel) rfl, rfl, trivial⟩
set_option maxRecDepth 100000 in
theorem fl_X10_413 : kFL RX10 413 1 5 true := ⟨RX1, TX1, 12, cf_X1, by decide, inT1 157 (by decide +kernel) rfl, rfl, trivial⟩
set_option maxRecDepth 100000 in
theorem fl_X1_33 : kFL RX1 33 1 6 true := ⟨RX1, TX1, 12, cf_X1, by decide, inT1 158 (by decide +kernel) rfl, rfl, trivial⟩
set_option maxRecDepth 100000 in
theorem fl_X10_101 : kFL RX10 101 1 6 true := ⟨RX1, TX1, 12, cf_X1, by decide, inT1 159 (by decide +kernel) rfl, rfl, trivial⟩
set_option maxRecDepth 100000 in
theorem fl_X1_40 : kFL RX1 40 1 7 true := ⟨RX1, TX1, 12, cf_X1, by decide, inT1 160 (by decide +kernel) rfl, rfl, trivial⟩
set_option maxRecDepth 100000 in
theorem fl_X9_30 : kFL RX9 30 1 7 true := ⟨RX1, TX1, 12, cf_X1, by decide, inT1 161 (by decide +kernel) rfl, rfl, trivial⟩
set_option maxRecDepth 100000 in
theorem fl_X10_203 : kFL RX10 203 1 7 true := ⟨RX1, TX1, 12, cf_X1, by decide, inT1 162 (by decide +kernel) rfl, rfl, trivial⟩
set_option maxRecDepth 100000 in
theorem fl_X1_47 : kFL RX1 47 1 8 true := ⟨RX1, TX1, 12, cf_X1, by decide, inT1 163 (by decide +kernel) rfl, rfl, trivial⟩
set_option maxRecDepth 100000 in
theorem fl_X5_41 : kFL RX5 41 1 8 true := ⟨RX1, TX1, 12, cf_X1, by decide, inT1 164 (by decide +kernel) rfl, rfl, trivial⟩
set_option maxRecDepth 100000 in
theorem fl_X10_263 : kFL RX10 263 1 8 true := ⟨RX1, TX1, 12, cf_X1, by decide, inT1 165 (by decide +kernel) rfl, rfl, trivial⟩
set_option maxRecDepth 100000 in
theorem fl_X1_54 : kFL RX1 54 1 9 true := ⟨RX1, TX1, 12, cf_X1, by decide, inT1 166 (by decide +kernel) rfl, rfl, trivial⟩
set_option maxRecDepth 100000 in
theorem fl_X9_68 : kFL RX9 68 1 9 true := ⟨RX1, TX1, 12, cf_X1, by decide, inT1 167 (by decide +kernel) rfl, rfl, trivial⟩
set_option maxRecDepth 100000 in
theorem fl_X10_234 : kFL RX10 234 1 9 true := ⟨RX1, TX1, 12, cf_X1, by decide, inT1 168 (by decide +kernel) rfl, rfl, trivial⟩
set_option maxRecDepth 100000 in
theorem fl_X1_84 : kFL RX1 84 1 10 false := ⟨RX1, TX1, 12, cf_X1, by decide, inT1 169 (by decide +kernel) rfl, rfl, trivial⟩
set_option maxRecDepth 100000 in
theorem fl_X10_367 : kFL RX10 367 1 10 false := ⟨RX1, TX1, 12, cf_X1, by decide, inT1 170 (by decide +kernel) rfl, rfl, trivial⟩
set_option maxRecDepth 100000 in
theorem fl_X1_58 : kFL RX1 58 1 11 true := ⟨RX1, TX1, 12, cf_X1, by decide, inT1 171 (by decide +kernel) rfl, rfl, trivial⟩
set_option maxRecDepth 100000 in
theorem fl_X4_11 : kFL RX4 11 4 0 true := ⟨RX4, TX4, 3, cf_X4, by decide, inT1 206 (by decide +kernel) rfl, rfl, trivial⟩
set_option maxRecDepth 100000 in
theorem fl_X4_18 : kFL RX4 18 4 1 false := ⟨RX4, TX4, 3, cf_X4, by decide, inT1 207 (by decide +kernel) rfl, rfl, trivial⟩
set_option maxRecDepth 100000 in
theorem fl_X4_22 : kFL RX4 22 4 2 false := ⟨RX4, TX4, 3, cf_X4, by decide, inT1 208 (by decide +kernel) rfl, rfl, trivial⟩
set_option maxRecDepth 100000 in
theorem fl_X10_443 : kFL RX10 443 4 2 false := ⟨RX4, TX4, 3, cf_X4, by decide, inT1 209 (by decide +kernel) rfl, rfl, trivial⟩
set_option maxRecDepth 100000 in
theorem fl_X8_11 : kFL RX8 11 8 0 true := ⟨RX8, TX8, 9, cf_X8, by decide, inT1 223 (by decide +kernel) rfl, rfl, trivial⟩
set_option maxRecDepth 100000 in
theorem fl_X8_29 : kFL RX8 29 8 1 false := ⟨RX8, TX8, 9, cf_X8, by decide, inT1 224 (by decide +kernel) rfl, rfl, trivial⟩
set_option maxRecDepth 100000 in
theorem fl_X8_26 : kFL RX8 26 8 2 false := ⟨RX8, TX8, 9, cf_X8, by decide, inT1 225 (by decide +kernel) rfl, rfl, trivial⟩
set_option maxRecDepth 100000 in
theorem fl_X10_163 : kFL RX10 163 8 2 false := ⟨RX8, TX8, 9, cf_X8, by decide, inT1 226 (by decide +kernel) rfl, rfl, trivial⟩
set_option maxRecDepth 100000 in
theorem fl_X8_15 : kFL RX8 15 8 3 false := ⟨RX8, TX8, 9, cf_X8, by decide, inT1 227 (by decide +kernel) rfl, rfl, trivial⟩
set_option maxRecDepth 100000 in
theorem fl_X10_175 : kFL RX10 175 8 3 false := ⟨RX8, TX8, 9, cf_X8, by decide, inT1 228 (by decide +kernel) rfl, rfl, trivial⟩
set_option maxRecDepth 100000 in
theorem fl_X8_43 : kFL RX8 43 8 4 false := ⟨RX8, TX8, 9, cf_X8, by decide, inT1 229 (by decide +kernel) rfl, rfl, trivial⟩
set_option maxRecDepth 100000 in
theorem fl_X10_195 : kFL RX10 195 8 4 false := ⟨RX8, TX8, 9, cf_X8, by decide, inT1 230 (by decide +kernel) rfl, rfl, trivial⟩
set_option maxRecDepth 100000 in
theorem fl_X8_54 : kFL RX8 54 8 5 false := ⟨RX8, TX8, 9, cf_X8, by decide, inT1 231 (by decide +kernel) rfl, rfl, trivial⟩
set_option maxRecDepth 100000 in
theorem fl_X10_192 : kFL RX10 192 8 5 false := ⟨RX8, TX8, 9, cf_X8, by decide, inT1 232 (by decide +kernel) rfl, rfl, trivial⟩
set_option maxRecDepth 100000 in
theorem fl_X8_32 : kFL RX8 32 8 6 false := ⟨RX8, TX8, 9, cf_X8, by decide, inT1 233 (by decide +kernel) rfl, rfl, trivial⟩
set_option maxRecDepth 100000 in
theorem fl_X10_186 : kFL RX10 186 8 6 false := ⟨RX8, TX8, 9, cf_X8, by decide, inT1 234 (by decide +kernel) rfl, rfl, trivial⟩
set_option maxRecDepth 100000 in
theorem fl_X8_19 : kFL RX8 19 8 7 true := ⟨RX8, TX8, 9, cf_X8, by decide, inT1 235 (by decide +kernel) rfl, rfl, trivial⟩
set_option maxRecDepth 100000 in
theorem fl_X10_189 : kFL RX10 189 8 7 true := ⟨RX8, TX8, 9, cf_X8, by decide, inT1 236 (by decide +kernel) rfl, rfl, trivial⟩
set_option maxRecDepth 100000 in
theorem fl_X8_23 : kFL RX8 23 8 8 true := ⟨RX8, TX8, 9, cf_X8, by decide, inT1 237 (by decide +kernel) rfl, rfl, trivial⟩
set_option maxRecDepth 100000 in
theorem fl_X10_198 : kFL RX10 198 8 8 true := ⟨RX8, TX8, 9, cf_X8, by decide, inT1 238 (by decide +kernel) rfl, rfl, trivial⟩
set_option maxRecDepth 100000 in
theorem fl_X6_9 : kFL RX6 9 6 0 true := ⟨RX6, TX6, 3, cf_X6, by decide, inT2 25 (by decide +kernel) rfl, rfl, trivial⟩
set_option maxRecDepth 100000 in
theorem fl_X10_431 : kFL RX10 431 6 0 true := ⟨RX6, TX6, 3, cf_X6, by decide, inT2 26 (by decide +kernel) rfl, rfl, trivial⟩
set_option maxRecDepth 100000 in
theorem fl_X6_13 : kFL RX6 13 6 1 true := ⟨RX6, TX6, 3, cf_X6, by decide, inT2 27 (by decide +kernel) rfl, rfl, trivial⟩
set_option maxRecDepth 100000 in
theorem fl_X10_434 : kFL RX10 434 6 1 true := ⟨RX6, TX6, 3, cf_X6, by decide, inT2 28 (by decide +kernel) rfl, rfl, trivial⟩
set_option maxRecDepth 100000 in
theorem fl_X6_16 : kFL RX6 16 6 2 false := ⟨RX6, TX6, 3, cf_X6, by decide, inT2 29 (by decide +kernel) rfl, rfl, trivial⟩
set_option maxRecDepth 100000 in
theorem fl_X10_428 : kFL RX10 428 6 2 false := ⟨RX6, TX6, 3, cf_X6, by decide, inT2 30 (by decide +kernel) rfl, rfl, trivial⟩
set_option maxRecDepth 100000 in
theorem fl_X9_9 : kFL RX9 9 9 0 true := ⟨RX9, TX9, 4, cf_X9, by decide, inT2 46 (by decide +kernel) rfl, rfl, trivial⟩
set_option maxRecDepth 100000 in
theorem fl_X9_15 : kFL RX9 15 9 1 true := ⟨RX9, TX9, 4, cf_X9, by decide, inT2 47 (by decide +kernel) rfl, rfl, trivial⟩
set_option maxRecDepth 100000 in
theorem fl_X9_18 : kFL RX9 18 9 2 true := ⟨RX9, TX9, 4, cf_X9, by decide, inT2 48 (by decide +kernel) rfl, rfl, trivial⟩
set_option maxRecDepth 100000 in
theorem fl_X9_21 : kFL RX9 21 9 3 true := ⟨RX9, TX9, 4, cf_X9, by decide, inT2 49 (by decide +kernel) rfl, rfl, trivial⟩
set_option maxRecDepth 100000 in
theorem fl_X5_9 : kFL RX5 9 5 0 true := ⟨RX5, TX5, 6, cf_X5, by decide, inT2 64 (by decide +kernel) rfl, rfl, trivial⟩
set_option maxRecDepth 100000 in
theorem fl_X5_45 : kFL RX5 45 5 1 false := ⟨RX5, TX5, 6, cf_X5, by decide, inT2 65 (by decide +kernel) rfl, rfl, trivial⟩
set_option maxRecDepth 100000 in
theorem fl_X10_310 : kFL RX10 310 5 1 false := ⟨RX5, TX5, 6, cf_X5, by decide, inT2 66 (by decide +kernel) rfl, rfl, trivial⟩
set_option maxRecDepth 100000 in
theorem fl_X5_15 : kFL RX5 15 5 2 false := ⟨RX5, TX5, 6, cf_X5, by decide, inT2 67 (by decide +kernel) rfl, rfl, trivial⟩
set_option maxRecDepth 100000 in
theorem fl_X10_314 : kFL RX10 314 5 2 false := ⟨RX5, TX5, 6, cf_X5, by decide, inT2 68 (by decide +kernel) rfl, rfl, trivial⟩
set_option maxRecDepth 100000 in
theorem fl_X5_56 : kFL RX5 56 5 3 false := ⟨RX5, TX5, 6, cf_X5, by decide, inT2 69 (by decide +kernel) rfl, rfl, trivial⟩
set_option maxRecDepth 100000 in
theorem fl_X10_317 : kFL RX10 317 5 3 false := ⟨RX5, TX5, 6, cf_X5, by decide, inT2 70 (by decide +kernel) rfl, rfl, trivial⟩
set_option maxRecDepth 100000 in
theorem fl_X5_63 : kFL RX5 63 5 4 false := ⟨RX5, TX5, 6, cf_X5, by decide, inT2 71 (by decide +kernel) rfl, rfl, trivial⟩
set_option maxRecDepth 100000 in
theorem fl_X10_320 : kFL RX10 320 5 4 false := ⟨RX5, TX5, 6, cf_X5, by decide, inT2 72 (by decide +kernel) rfl, rfl, trivial⟩
set_option maxRecDepth 100000 in
theorem fl_X5_70 : kFL RX5 70 5 5 false := ⟨RX5, TX5, 6, cf_X5, by decide, inT2 73 (by decide +kernel) rfl, rfl, trivial⟩
set_option maxRecDepth 100000 in
theorem fl_X10_323 : kFL RX10 323 5 5 false := ⟨RX5, TX5, 6, cf_X5, by decide, inT2 74 (by decide +kernel) rfl, rfl, trivial⟩
set_option maxRecDepth 100000 in
theorem fl_X10_12 : kFL RX10 12 10 0 true := ⟨RX10, TX10, 9, cf_X10, by decide, inT2 88 (by decide +kernel) rfl, rfl, trivial⟩
set_option maxRecDepth 100000 in
theorem fl_X10_16 : kFL RX10 16 10 1 true := ⟨RX10, TX10, 9, cf_X10, by decide, inT2 89 (by decide +kernel) rfl, rfl, trivial⟩
set_option maxRecDepth 100000 in
theorem fl_X10_19 : kFL RX10 19 10 2 true := ⟨RX10, TX10, 9, cf_X10, by decide, inT2 90 (by decide +kernel) rfl, rfl, trivial⟩
set_option maxRecDepth 100000 in
theorem fl_X10_452 : kFL RX10 452 10 3 false := ⟨RX10, TX10, 9, cf_X10, by decide, inT2 91 (by decide +kernel) rfl, rfl, trivial⟩
set_option maxRecDepth 100000 in
theorem fl_X10_25 : kFL RX10 25 10 4 true := ⟨RX10, TX10, 9, cf_X10, by decide, inT2 92 (by decide +kernel) rfl, rfl, trivial⟩
set_option maxRecDepth 100000 in
theorem fl_X10_32 : kFL RX10 32 10 5 true := ⟨RX10, TX10, 9, cf_X10, by decide, inT2 93 (by decide +kernel) rfl, rfl, trivial⟩
set_option maxRecDepth 100000 in
theorem fl_X10_39 : kFL RX10 39 10 6 true := ⟨RX10, TX10, 9, cf_X10, by decide, inT2 94 (by decide +kernel) rfl, rfl, trivial⟩
set_option maxRecDepth 100000 in
theorem fl_X10_45 : kFL RX10 45 10 7 true := ⟨RX10, TX10, 9, cf_X10, by decide, inT2 95 (by decide +kernel) rfl, rfl, trivial⟩
set_option maxRecDepth 100000 in
theorem fl_X10_52 : kFL RX10 52 10 8 true := ⟨RX10, TX10, 9, cf_X10, by decide, inT2 96 (by decide +kernel) rfl, rfl, trivial⟩
set_option maxRecDepth 100000 in
theorem fl_X11_48 : kFL RX11 48 11 0 false := ⟨RX11, TX11, 28, cf_X11, by decide, inT6 21 (by decide +kernel) rfl, rfl, trivial⟩
set_option maxRecDepth 100000 in
theorem fl_X11_7 : kFL RX11 7 11 1 true := ⟨RX11, TX11, 28, cf_X11, by decide, inT6 22 (by decide +kernel) rfl, rfl, trivial⟩
set_option maxRecDepth 100000 in
theorem fl_X11_13 : kFL RX11 13 11 2 true := ⟨RX11, TX11, 28, cf_X11, by decide, inT6 23 (by decide +kernel) rfl, rfl, trivial⟩
set_option maxRecDepth 100000 in
theorem fl_X11_16 : kFL RX11 16 11 3 true := ⟨RX11, TX11, 28, cf_X11, by decide, inT6 24 (by decide +kernel) rfl, rfl, trivial⟩
set_option maxRecDepth 100000 in
theorem fl_X11_19 : kFL RX11 19 11 4 true := ⟨RX11, TX11, 28, cf_X11, by decide, inT6 25 (by decide +kernel) rfl, rfl, trivial⟩
set_option maxRecDepth 100000 in
theorem fl_X11_55 : kFL RX11 55 11 5 false := ⟨RX11, TX11, 28, cf_X11, by decide, inT6 26 (by decide +kernel) rfl, rfl, trivial⟩
set_option maxRecDepth 100000 in
theorem fl_X11_316 : kFL RX11 316 11 6 false := ⟨RX11, TX11, 28, cf_X11, by decide, inT6 27 (by decide +kernel) rfl, rfl, trivial⟩
set_option maxRecDepth 100000 in
theorem fl_X11_22 : kFL RX11 22 11 7 true := ⟨RX11, TX11, 28, cf_X11, by decide, inT6 28 (by decide +kernel) rfl, rfl, trivial⟩
set_option maxRecDepth 100000 in
theorem fl_X11_228 : kFL RX11 228 11 8 false := ⟨RX11, TX11, 28, cf_X11, by decide, inT6 29 (by decide +kernel) rfl, rfl, trivial⟩
set_option maxRecDepth 100000 in
theorem fl_X11_25 : kFL RX11 25 11 9 false := ⟨RX11, TX11, 28, cf_X11, by decide, inT6 30 (by decide +kernel) rfl, rfl, trivial⟩
set_option maxRecDepth 100000 in
theorem fl_X11_29 : kFL RX11 29 11 10 true := ⟨RX11, TX11, 28, cf_X11, by decide, inT6 31 (by decide +kernel) rfl, rfl, trivial⟩
set_option maxRecDepth 100000 in
theorem fl_X11_174 : kFL RX11 174 11 11 false := ⟨RX11, TX11, 28, cf_X11, by decide, inT6 32 (by decide +kernel) rfl, rfl, trivial⟩
set_option maxRecDepth 100000 in
theorem fl_X11_32 : kFL RX11 32 11 12 true := ⟨RX11, TX11, 28, cf_X11, by decide, inT6 33 (by decide +kernel) rfl, rfl, trivial⟩
set_option maxRecDepth 100000 in
theorem fl_X11_95 : kFL RX11 95 11 13 false := ⟨RX11, TX11, 28, cf_X11, by decide, inT6 34 (by decide +kernel) rfl, rfl, trivial⟩
set_option maxRecDepth 100000 in
theorem fl_X11_35 : kFL RX11 35 11 14 true := ⟨RX11, TX11, 28, cf_X11, by decide, inT6 35 (by decide +kernel) rfl, rfl, trivial⟩
set_option maxRecDepth 100000 in
theorem fl_X11_136 : kFL RX11 136 11 15 false := ⟨RX11, TX11, 28, cf_X11, by decide, inT6 36 (by decide +kernel) rfl, rfl, trivial⟩
set_option maxRecDepth 100000 in
theorem fl_X11_140 : kFL RX11 140 11 16 false := ⟨RX11, TX11, 28, cf_X11, by decide, inT6 37 (by decide +kernel) rfl, rfl, trivial⟩
set_option maxRecDepth 100000 in
theorem fl_X11_156 : kFL RX11 156 11 17 false := ⟨RX11, TX11, 28, cf_X11, by decide, inT6 38 (by decide +kernel) rfl, rfl, trivial⟩
set_option maxRecDepth 100000 in
theorem fl_X11_159 : kFL RX11 159 11 18 false := ⟨RX11, TX11, 28, cf_X11, by decide, inT6 39 (by decide +kernel) rfl, rfl, trivial⟩
set_option maxRecDepth 100000 in
theorem fl_X11_165 : kFL RX11 165 11 19 false := ⟨RX11, TX11, 28, cf_X11, by decide, inT6 40 (by decide +kernel) rfl, rfl, trivial⟩
set_option maxRecDepth 100000 in
theorem fl_X11_205 : kFL RX11 205 11 20 false := ⟨RX11, TX11, 28, cf_X11, by decide, inT6 41 (by decide +kernel) rfl, rfl, trivial⟩
set_option maxRecDepth 100000 in
theorem fl_X11_231 : kFL RX11 231 11 21 false := ⟨RX11, TX11, 28, cf_X11, by decide, inT6 42 (by decide +kernel) rfl, rfl, trivial⟩
set_option maxRecDepth 100000 in
theorem fl_X11_234 : kFL RX11 234 11 22 false := ⟨RX11, TX11, 28, cf_X11, by decide, inT6 43 (by decide +kernel) rfl, rfl, trivial⟩
set_option maxRecDepth 100000 in
theorem fl_X11_245 : kFL RX11 245 11 23 false := ⟨RX11, TX11, 28, cf_X11, by decide, inT6 44 (by decide +kernel) rfl, rfl, trivial⟩
set_option maxRecDepth 100000 in
theorem fl_X11_251 : kFL RX11 251 11 24 false := ⟨RX11, TX11, 28, cf_X11, by decide, inT6 45 (by decide +kernel) rfl, rfl, trivial⟩
set_option maxRecDepth 100000 in
theorem fl_X11_38 : kFL RX11 38 11 25 true := ⟨RX11, TX11, 28, cf_X11, by decide, inT6 46 (by decide +kernel) rfl, rfl, trivial⟩
set_option maxRecDepth 100000 in
theorem fl_X11_41 : kFL RX11 41 11 26 true := ⟨RX11, TX11, 28, cf_X11, by decide, inT6 47 (by decide +kernel) rfl, rfl, trivial⟩
set_option maxRecDepth 100000 in
theorem fl_X11_45 : kFL RX11 45 11 27 true := ⟨RX11, TX11, 28, cf_X11, by decide, inT6 48 (by decide +kernel) rfl, rfl, trivial⟩
set_option maxRecDepth 100000 in
theorem mf_J7_fill_53178 : kMf mJ7_fill_53178 2 := ⟨inT1 54 (by decide +kernel) rfl, inT1 4 (by decide +kernel) rfl, by decide +kernel, by decide +kernel⟩
set_option maxRecDepth 100000 in
theorem ms_X7_21 : kMS RX7 21 mJ7_fill_53178 2 := ⟨inT1 52 (by decide +kernel) rfl, inT1 53 (by decide +kernel) rfl, mf_J7_fill_53178⟩
set_option maxRecDepth 100000 in
theorem ms_X1_61 : kMS RX1 61 mJ7_fill_53178 2 := ⟨inT1 141 (by decide +kernel) rfl, inT1 53 (by decide +kernel) rfl, mf_J7_fill_53178⟩
set_option maxRecDepth 100000 in
theorem mf_X10_errorPosition : kMf mX10_errorPosition 0 := ⟨inT2 119 (by decide +kernel) rfl, inT1 1 (by decide +kernel) rfl, by decide +kernel, by decide +kernel⟩
set_option maxRecDepth 100000 in
theorem mv_L_172 : kMV RL 172 mX10_errorPosition 0 10 := ⟨inT2 116 (by decide +kernel) rfl, inT2 117 (by decide +kernel) rfl, inT2 118 (by decide +kernel) rfl, mf_X10_errorPosition, TX10, 9, rfl⟩
set_option maxRecDepth 100000 in
theorem mf_X10_levels : kMf mX10_levels 0 := ⟨inT2 123 (by decide +kernel) rfl, inT1 1 (by decide +kernel) rfl, by decide +kernel, by decide +kernel⟩
set_option maxRecDepth 100000 in
theorem mv_L_241 : kMV RL 241 mX10_levels 0 10 := ⟨inT2 120 (by decide +kernel) rfl, inT2 121 (by decide +kernel) rfl, inT2 122 (by decide +kernel) rfl, mf_X10_levels, TX10, 9, rfl⟩
set_option maxRecDepth 100000 in
theorem mf_X10_save : kMf mX10_save 0 := ⟨inT2 127 (by decide +kernel) rfl, inT1 1 (by decide +kernel) rfl, by decide +kernel, by decide +kernel⟩
set_option maxRecDepth 100000 in
theorem mv_L_254 : kMV RL 254 mX10_save 0 10 := ⟨inT2 124 (by decide +kernel) rfl, inT2 125 (by decide +kernel) rfl, inT2 126 (by decide +kernel) rfl, mf_X10_save, TX10, 9, rfl⟩
set_option maxRecDepth 100000 in
theorem mf_X1_copyFrom : kMf mX1_copyFrom 1 := ⟨inT2 131 (by decide +kernel) rfl, inT1 2 (by decide +kernel) rfl, by decide +kernel, by decide +kernel⟩
set_option maxRecDepth 100000 in
theorem mv_X10_183 : kMV RX10 183 mX1_copyFrom 1 1 := ⟨inT2 128 (by decide +kernel) rfl, inT2 129 (by decide +kernel) rfl, inT2 130 (by decide +kernel) rfl, mf_X1_copyFrom, TX1, 12, rfl⟩
set_option maxRecDepth 100000 in
theorem mf_X10_copyRow : kMf mX10_copyRow 2 := ⟨inT2 134 (by decide +kernel) rfl, inT1 1 (by decide +kernel) rfl, by decide +kernel, by decide +kernel⟩
set_option maxRecDepth 100000 in
theorem mn_X1_67 : kMSN RX1 67 mX10_copyRow 2 "ExamMarker" := ⟨by decide +kernel, inT2 133 (by decide +kernel) rfl, mf_X10_copyRow⟩
set_option maxRecDepth 100000 in
theorem mf_X7_copyFrom : kMf mX7_copyFrom 1 := ⟨inT2 144 (by decide +kernel) rfl, inT1 3 (by decide +kernel) rfl, by decide +kernel, by decide +kernel⟩
set_option maxRecDepth 100000 in
theorem mv_X1_71 : kMV RX1 71 mX7_copyFrom 1 7 := ⟨inT2 141 (by decide +kernel) rfl, inT2 142 (by decide +kernel) rfl, inT2 143 (by decide +kernel) rfl, mf_X7_copyFrom, TX7, 3, rfl⟩
set_option maxRecDepth 100000 in
theorem mn_X7_27 : kMSN RX7 27 mX10_copyRow 2 "ExamMarker" := ⟨by decide +kernel, inT2 133 (by decide +kernel) rfl, mf_X10_copyRow⟩
set_option maxRecDepth 100000 in
theorem mf_X3_copyFrom : kMf mX3_copyFrom 1 := ⟨inT2 149 (by decide +kernel) rfl, inT1 5 (by decide +kernel) rfl, by decide +kernel, by decide +kernel⟩
set_option maxRecDepth 100000 in
theorem mv_X1_75 : kMV RX1 75 mX3_copyFrom 1 3 := ⟨inT2 146 (by decide +kernel) rfl, inT2 147 (by decide +kernel) rfl, inT2 148 (by decide +kernel) rfl, mf_X3_copyFrom, TX3, 5, rfl⟩
set_option maxRecDepth 100000 in
theorem mn_X3_24 : kMSN RX3 24 mX10_copyRow 2 "ExamMarker" := ⟨by decide +kernel, inT2 133 (by decide +kernel) rfl, mf_X10_copyRow⟩
set_option maxRecDepth 100000 in
theorem mf_X2_copyFrom : kMf mX2_copyFrom 1 := ⟨inT2 154 (by decide +kernel) rfl, inT1 6 (by decide +kernel) rfl, by decide +kernel, by decide +kernel⟩
set_option maxRecDepth 100000 in
theorem mv_X1_78 : kMV RX1 78 mX2_copyFrom 1 2 := ⟨inT2 151 (by decide +kernel) rfl, inT2 152 (by decide +kernel) rfl, inT2 153 (by decide +kernel) rfl, mf_X2_copyFrom, TX2, 3, rfl⟩
set_option maxRecDepth 100000 in
theorem mn_X2_18 : kMSN RX2 18 mX10_copyRow 2 "ExamMarker" := ⟨by decide +kernel, inT2 133 (by decide +kernel) rfl, mf_X10_copyRow⟩
set_option maxRecDepth 100000 in
theorem mf_X0_copyFrom : kMf mX0_copyFrom 1 := ⟨inT2 159 (by decide +kernel) rfl, inT1 7 (by decide +kernel) rfl, by decide +kernel, by decide +kernel⟩
set_option maxRecDepth 100000 in
theorem mv_X1_81 : kMV RX1 81 mX0_copyFrom 1 0 := ⟨inT2 156 (by decide +kernel) rfl, inT2 157 (by decide +kernel) rfl, inT2 158 (by decide +kernel) rfl, mf_X0_copyFrom, TX0, 4, rfl⟩
set_option maxRecDepth 100000 in
theorem mn_X0_21 : kMSN RX0 21 mX10_copyRow 2 "ExamMarker" := ⟨by decide +kernel, inT2 133 (by decide +kernel) rfl, mf_X10_copyRow⟩
set_option maxRecDepth 100000 in
theorem mf_X10_setMaximum : kMf mX10_setMaximum 2 := ⟨inT3 10 (by decide +kernel) rfl, inT1 1 (by decide +kernel) rfl, by decide +kernel, by decide +kernel⟩
set_option maxRecDepth 100000 in
theorem mv_L_7 : kMV RL 7 mX10_setMaximum 2 10 := ⟨inT3 7 (by decide +kernel) rfl, inT3 8 (by decide +kernel) rfl, inT3 9 (by decide +kernel) rfl, mf_X10_setMaximum, TX10, 9, rfl⟩
set_option maxRecDepth 100000 in
theorem mf_X10_requireQuestion : kMf mX10_requireQuestion 1 := ⟨inT3 13 (by decide +kernel) rfl, inT1 1 (by decide +kernel) rfl, by decide +kernel, by decide +kernel⟩
set_option maxRecDepth 100000 in
theorem ms_X10_57 : kMS RX10 57 mX10_requireQuestion 1 := ⟨inT3 11 (by decide +kernel) rfl, inT3 12 (by decide +kernel) rfl, mf_X10_requireQuestion⟩
set_option maxRecDepth 100000 in
theorem mf_X10_isBelow : kMf mX10_isBelow 2 := ⟨inT3 16 (by decide +kernel) rfl, inT1 1 (by decide +kernel) rfl, by decide +kernel, by decide +kernel⟩
set_option maxRecDepth 100000 in
theorem ms_X10_457 : kMS RX10 457 mX10_isBelow 2 := ⟨inT3 14 (by decide +kernel) rfl, inT3 15 (by decide +kernel) rfl, mf_X10_isBelow⟩
set_option maxRecDepth 100000 in
theorem mf_X10_requireRange : kMf mX10_requireRange 3 := ⟨inT3 32 (by decide +kernel) rfl, inT1 1 (by decide +kernel) rfl, by decide +kernel, by decide +kernel⟩
set_option maxRecDepth 100000 in
theorem ms_X10_61 : kMS RX10 61 mX10_requireRange 3 := ⟨inT3 30 (by decide +kernel) rfl, inT3 31 (by decide +kernel) rfl, mf_X10_requireRange⟩
set_option maxRecDepth 100000 in
theorem mf_X10_requireUnpublished : kMf mX10_requireUnpublished 0 := ⟨inT3 52 (by decide +kernel) rfl, inT1 1 (by decide +kernel) rfl, by decide +kernel, by decide +kernel⟩
set_option maxRecDepth 100000 in
theorem mv_X10_65 : kMV RX10 65 mX10_requireUnpublished 0 10 := ⟨inT3 49 (by decide +kernel) rfl, inT3 51 (by decide +kernel) rfl, inG 1 (by decide +kernel) rfl, mf_X10_requireUnpublished, TX10, 9, rfl⟩
set_option maxRecDepth 100000 in
theorem mf_X1_greatestMark : kMf mX1_greatestMark 1 := ⟨inT3 72 (by decide +kernel) rfl, inT1 2 (by decide +kernel) rfl, by decide +kernel, by decide +kernel⟩
set_option maxRecDepth 100000 in
theorem mv_X10_68 : kMV RX10 68 mX1_greatestMark 1 1 := ⟨inT3 69 (by decide +kernel) rfl, inT3 70 (by decide +kernel) rfl, inT3 71 (by decide +kernel) rfl, mf_X1_greatestMark, TX1, 12, rfl⟩
set_option maxRecDepth 100000 in
theorem mf_X3_greatestMark : kMf mX3_greatestMark 1 := ⟨inT3 76 (by decide +kernel) rfl, inT1 5 (by decide +kernel) rfl, by decide +kernel, by decide +kernel⟩
set_option maxRecDepth 100000 in
theorem mv_X1_92 : kMV RX1 92 mX3_greatestMark 1 3 := ⟨inT3 73 (by decide +kernel) rfl, inT3 74 (by decide +kernel) rfl, inT3 75 (by decide +kernel) rfl, mf_X3_greatestMark, TX3, 5, rfl⟩
set_option maxRecDepth 100000 in
theorem mf_X10_questionOf : kMf mX10_questionOf 1 := ⟨inT3 79 (by decide +kernel) rfl, inT1 1 (by decide +kernel) rfl, by decide +kernel, by decide +kernel⟩
set_option maxRecDepth 100000 in
theorem mn_X3_36 : kMSN RX3 36 mX10_questionOf 1 "ExamMarker" := ⟨by decide +kernel, inT3 78 (by decide +kernel) rfl, mf_X10_questionOf⟩
set_option maxRecDepth 100000 in
theorem mf_X7_greatestMark : kMf mX7_greatestMark 1 := ⟨inT3 86 (by decide +kernel) rfl, inT1 3 (by decide +kernel) rfl, by decide +kernel, by decide +kernel⟩
set_option maxRecDepth 100000 in
theorem mv_X1_96 : kMV RX1 96 mX7_greatestMark 1 7 := ⟨inT3 83 (by decide +kernel) rfl, inT3 84 (by decide +kernel) rfl, inT3 85 (by decide +kernel) rfl, mf_X7_greatestMark, TX7, 3, rfl⟩
set_option maxRecDepth 100000 in
theorem mf_X7_placeOf : kMf mX7_placeOf 3 := ⟨inT3 91 (by decide +kernel) rfl, inT1 3 (by decide +kernel) rfl, by decide +kernel, by decide +kernel⟩
set_option maxRecDepth 100000 in
theorem mv_X7_31 : kMV RX7 31 mX7_placeOf 3 7 := ⟨inT3 88 (by decide +kernel) rfl, inT3 90 (by decide +kernel) rfl, inG 2 (by decide +kernel) rfl, mf_X7_placeOf, TX7, 3, rfl⟩
set_option maxRecDepth 100000 in
theorem mf_X4_keep : kMf mX4_keep 1 := ⟨inT3 112 (by decide +kernel) rfl, inT1 8 (by decide +kernel) rfl, by decide +kernel, by decide +kernel⟩
set_option maxRecDepth 100000 in
theorem mv_X10_83 : kMV RX10 83 mX4_keep 1 4 := ⟨inT3 109 (by decide +kernel) rfl, inT3 110 (by decide +kernel) rfl, inT3 111 (by decide +kernel) rfl, mf_X4_keep, TX4, 3, rfl⟩
set_option maxRecDepth 100000 in
theorem mv_X4_25 : kMV RX4 25 mX1_copyFrom 1 1 := ⟨inT3 113 (by decide +kernel) rfl, inT2 129 (by decide +kernel) rfl, inT2 130 (by decide +kernel) rfl, mf_X1_copyFrom, TX1, 12, rfl⟩
set_option maxRecDepth 100000 in
theorem mf_X10_set : kMf mX10_set 2 := ⟨inT3 120 (by decide +kernel) rfl, inT1 1 (by decide +kernel) rfl, by decide +kernel, by decide +kernel⟩
set_option maxRecDepth 100000 in
theorem mv_L_21 : kMV RL 21 mX10_set 2 10 := ⟨inT3 117 (by decide +kernel) rfl, inT3 118 (by decide +kernel) rfl, inT3 119 (by decide +kernel) rfl, mf_X10_set, TX10, 9, rfl⟩
set_option maxRecDepth 100000 in
theorem mf_X10_addSeed : kMf mX10_addSeed 2 := ⟨inT3 132 (by decide +kernel) rfl, inT1 1 (by decide +kernel) rfl, by decide +kernel, by decide +kernel⟩
set_option maxRecDepth 100000 in
theorem mv_L_24 : kMV RL 24 mX10_addSeed 2 10 := ⟨inT3 129 (by decide +kernel) rfl, inT3 130 (by decide +kernel) rfl, inT3 131 (by decide +kernel) rfl, mf_X10_addSeed, TX10, 9, rfl⟩
set_option maxRecDepth 100000 in
theorem mf_X7_define : kMf mX7_define 2 := ⟨inT3 137 (by decide +kernel) rfl, inT1 3 (by decide +kernel) rfl, by decide +kernel, by decide +kernel⟩
set_option maxRecDepth 100000 in
theorem mv_X10_112 : kMV RX10 112 mX7_define 2 7 := ⟨inT3 134 (by decide +kernel) rfl, inT3 135 (by decide +kernel) rfl, inT3 136 (by decide +kernel) rfl, mf_X7_define, TX7, 3, rfl⟩
set_option maxRecDepth 100000 in
theorem mf_X10_markSeed : kMf mX10_markSeed 4 := ⟨inT3 144 (by decide +kernel) rfl, inT1 1 (by decide +kernel) rfl, by decide +kernel, by decide +kernel⟩
set_option maxRecDepth 100000 in
theorem mv_L_27 : kMV RL 27 mX10_markSeed 4 10 := ⟨inT3 141 (by decide +kernel) rfl, inT3 142 (by decide +kernel) rfl, inT3 143 (by decide +kernel) rfl, mf_X10_markSeed, TX10, 9, rfl⟩
set_option maxRecDepth 100000 in
theorem mf_X10_requireMarker : kMf mX10_requireMarker 1 := ⟨inT3 147 (by decide +kernel) rfl, inT1 1 (by decide +kernel) rfl, by decide +kernel, by decide +kernel⟩
set_option maxRecDepth 100000 in
theorem ms_X10_116 : kMS RX10 116 mX10_requireMarker 1 := ⟨inT3 145 (by decide +kernel) rfl, inT3 146 (by decide +kernel) rfl, mf_X10_requireMarker⟩
set_option maxRecDepth 100000 in
theorem mf_X7_isMarked : kMf mX7_isMarked 3 := ⟨inT3 153 (by decide +kernel) rfl, inT1 3 (by decide +kernel) rfl, by decide +kernel, by decide +kernel⟩
set_option maxRecDepth 100000 in
theorem mv_X10_121 : kMV RX10 121 mX7_isMarked 3 7 := ⟨inT3 150 (by decide +kernel) rfl, inT3 151 (by decide +kernel) rfl, inT3 152 (by decide +kernel) rfl, mf_X7_isMarked, TX7, 3, rfl⟩
set_option maxRecDepth 100000 in
theorem mf_X1_earn : kMf mX1_earn 2 := ⟨inT3 158 (by decide +kernel) rfl, inT1 2 (by decide +kernel) rfl, by decide +kernel, by decide +kernel⟩
set_option maxRecDepth 100000 in
theorem mv_X10_127 : kMV RX10 127 mX1_earn 2 1 := ⟨inT3 155 (by decide +kernel) rfl, inT3 156 (by decide +kernel) rfl, inT3 157 (by decide +kernel) rfl, mf_X1_earn, TX1, 12, rfl⟩
set_option maxRecDepth 100000 in
theorem mf_X7_give : kMf mX7_give 4 := ⟨inT3 162 (by decide +kernel) rfl, inT1 3 (by decide +kernel) rfl, by decide +kernel, by decide +kernel⟩
set_option maxRecDepth 100000 in
theorem mv_X10_131 : kMV RX10 131 mX7_give 4 7 := ⟨inT3 159 (by decide +kernel) rfl, inT3 160 (by decide +kernel) rfl, inT3 161 (by decide +kernel) rfl, mf_X7_give, TX7, 3, rfl⟩
set_option maxRecDepth 100000 in
theorem mf_X10_correction : kMf mX10_correction 2 := ⟨inT3 169 (by decide +kernel) rfl, inT1 1 (by decide +kernel) rfl, by decide +kernel, by decide +kernel⟩
set_option maxRecDepth 100000 in
theorem mv_L_31 : kMV RL 31 mX10_correction 2 10 := ⟨inT3 166 (by decide +kernel) rfl, inT3 167 (by decide +kernel) rfl, inT3 168 (by decide +kernel) rfl, mf_X10_correction, TX10, 9, rfl⟩
set_option maxRecDepth 100000 in
theorem mf_X7_correctionOf : kMf mX7_correctionOf 3 := ⟨inT3 173 (by decide +kernel) rfl, inT1 3 (by decide +kernel) rfl, by decide +kernel, by decide +kernel⟩
set_option maxRecDepth 100000 in
theorem mv_X10_135 : kMV RX10 135 mX7_correctionOf 3 7 := ⟨inT3 170 (by decide +kernel) rfl, inT3 171 (by decide +kernel) rfl, inT3 172 (by decide +kernel) rfl, mf_X7_correctionOf, TX7, 3, rfl⟩
set_option maxRecDepth 100000 in
theorem mf_X10_isSuspended : kMf mX10_isSuspended 2 := ⟨inT3 183 (by decide +kernel) rfl, inT1 1 (by decide +kernel) rfl, by decide +kernel, by decide +kernel⟩
set_option maxRecDepth 100000 in
theorem mv_L_34 : kMV RL 34 mX10_isSuspended 2 10 := ⟨inT3 180 (by decide +kernel) rfl, inT3 181 (by decide +kernel) rfl, inT3 182 (by decide +kernel) rfl, mf_X10_isSuspended, TX10, 9, rfl⟩
set_option maxRecDepth 100000 in
theorem mf_X7_strays : kMf mX7_strays 3 := ⟨inT3 187 (by decide +kernel) rfl, inT1 3 (by decide +kernel) rfl, by decide +kernel, by decide +kernel⟩
set_option maxRecDepth 100000 in
theorem mv_X10_139 : kMV RX10 139 mX7_strays 3 7 := ⟨inT3 184 (by decide +kernel) rfl, inT3 185 (by decide +kernel) rfl, inT3 186 (by decide +kernel) rfl, mf_X7_strays, TX7, 3, rfl⟩
set_option maxRecDepth 100000 in
theorem mf_X10_distanceOf : kMf mX10_distanceOf 2 := ⟨inT3 190 (by decide +kernel) rfl, inT1 1 (by decide +kernel) rfl, by decide +kernel, by decide +kernel⟩
set_option maxRecDepth 100000 in
theorem mn_X7_45 : kMSN RX7 45 mX10_distanceOf 2 "ExamMarker" := ⟨by decide +kernel, inT3 189 (by decide +kernel) rfl, mf_X10_distanceOf⟩
set_option maxRecDepth 100000 in
theorem mf_X10_enter : kMf mX10_enter 4 := ⟨inT3 197 (by decide +kernel) rfl, inT1 1 (by decide +kernel) rfl, by decide +kernel, by decide +kernel⟩
set_option maxRecDepth 100000 in
theorem mv_L_38 : kMV RL 38 mX10_enter 4 10 := ⟨inT3 194 (by decide +kernel) rfl, inT3 195 (by decide +kernel) rfl, inT3 196 (by decide +kernel) rfl, mf_X10_enter, TX10, 9, rfl⟩
set_option maxRecDepth 100000 in
theorem mf_X10_requireScript : kMf mX10_requireScript 2 := ⟨inT3 200 (by decide +kernel) rfl, inT1 1 (by decide +kernel) rfl, by decide +kernel, by decide +kernel⟩
set_option maxRecDepth 100000 in
theorem ms_X10_142 : kMS RX10 142 mX10_requireScript 2 := ⟨inT3 198 (by decide +kernel) rfl, inT3 199 (by decide +kernel) rfl, mf_X10_requireScript⟩
set_option maxRecDepth 100000 in
theorem mf_X10_requireCandidate : kMf mX10_requireCandidate 1 := ⟨inT3 203 (by decide +kernel) rfl, inT1 1 (by decide +kernel) rfl, by decide +kernel, by decide +kernel⟩
set_option maxRecDepth 100000 in
theorem ms_X10_257 : kMS RX10 257 mX10_requireCandidate 1 := ⟨inT3 201 (by decide +kernel) rfl, inT3 202 (by decide +kernel) rfl, mf_X10_requireCandidate⟩
set_option maxRecDepth 100000 in
theorem mf_X10_requireNotNegative : kMf mX10_requireNotNegative 1 := ⟨inT3 207 (by decide +kernel) rfl, inT1 1 (by decide +kernel) rfl, by decide +kernel, by decide +kernel⟩
set_option maxRecDepth 100000 in
theorem ms_X10_145 : kMS RX10 145 mX10_requireNotNegative 1 := ⟨inT3 205 (by decide +kernel) rfl, inT3 206 (by decide +kernel) rfl, mf_X10_requireNotNegative⟩
set_option maxRecDepth 100000 in
theorem mf_X10_scriptOf : kMf mX10_scriptOf 2 := ⟨inT3 211 (by decide +kernel) rfl, inT1 1 (by decide +kernel) rfl, by decide +kernel, by decide +kernel⟩
set_option maxRecDepth 100000 in
theorem ms_X10_148 : kMS RX10 148 mX10_scriptOf 2 := ⟨inT3 209 (by decide +kernel) rfl, inT3 210 (by decide +kernel) rfl, mf_X10_scriptOf⟩
set_option maxRecDepth 100000 in
theorem mf_X10_refusesEntry : kMf mX10_refusesEntry 5 := ⟨inT3 215 (by decide +kernel) rfl, inT1 1 (by decide +kernel) rfl, by decide +kernel, by decide +kernel⟩
set_option maxRecDepth 100000 in
theorem mv_X10_151 : kMV RX10 151 mX10_refusesEntry 5 10 := ⟨inT3 212 (by decide +kernel) rfl, inT3 214 (by decide +kernel) rfl, inG 3 (by decide +kernel) rfl, mf_X10_refusesEntry, TX10, 9, rfl⟩
set_option maxRecDepth 100000 in
theorem mf_X6_tell : kMf mX6_tell 4 := ⟨inT3 219 (by decide +kernel) rfl, inT1 10 (by decide +kernel) rfl, by decide +kernel, by decide +kernel⟩
set_option maxRecDepth 100000 in
theorem mv_X10_474 : kMV RX10 474 mX6_tell 4 6 := ⟨inT3 216 (by decide +kernel) rfl, inT3 217 (by decide +kernel) rfl, inT3 218 (by decide +kernel) rfl, mf_X6_tell, TX6, 3, rfl⟩
set_option maxRecDepth 100000 in
theorem mf_X3_hasEntryBy : kMf mX3_hasEntryBy 2 := ⟨inT3 223 (by decide +kernel) rfl, inT1 5 (by decide +kernel) rfl, by decide +kernel, by decide +kernel⟩
set_option maxRecDepth 100000 in
theorem mv_X10_477 : kMV RX10 477 mX3_hasEntryBy 2 3 := ⟨inT3 220 (by decide +kernel) rfl, inT3 221 (by decide +kernel) rfl, inT3 222 (by decide +kernel) rfl, mf_X3_hasEntryBy, TX3, 5, rfl⟩
set_option maxRecDepth 100000 in
theorem mf_X3_isBy : kMf mX3_isBy 2 := ⟨inT3 227 (by decide +kernel) rfl, inT1 5 (by decide +kernel) rfl, by decide +kernel, by decide +kernel⟩
set_option maxRecDepth 100000 in
theorem mv_X3_32 : kMV RX3 32 mX3_isBy 2 3 := ⟨inT3 224 (by decide +kernel) rfl, inT3 225 (by decide +kernel) rfl, inT3 226 (by decide +kernel) rfl, mf_X3_isBy, TX3, 5, rfl⟩
set_option maxRecDepth 100000 in
theorem mf_X1_hasAgreement : kMf mX1_hasAgreement 1 := ⟨inT3 231 (by decide +kernel) rfl, inT1 2 (by decide +kernel) rfl, by decide +kernel, by decide +kernel⟩
set_option maxRecDepth 100000 in
theorem mv_X10_480 : kMV RX10 480 mX1_hasAgreement 1 1 := ⟨inT3 228 (by decide +kernel) rfl, inT3 229 (by decide +kernel) rfl, inT3 230 (by decide +kernel) rfl, mf_X1_hasAgreement, TX1, 12, rfl⟩
set_option maxRecDepth 100000 in
theorem mf_X1_readValidValues : kMf mX1_readValidValues 1 := ⟨inT3 235 (by decide +kernel) rfl, inT1 2 (by decide +kernel) rfl, by decide +kernel, by decide +kernel⟩
set_option maxRecDepth 100000 in
theorem mv_X1_147 : kMV RX1 147 mX1_readValidValues 1 1 := ⟨inT3 232 (by decide +kernel) rfl, inT3 233 (by decide +kernel) rfl, inT3 234 (by decide +kernel) rfl, mf_X1_readValidValues, TX1, 12, rfl⟩
set_option maxRecDepth 100000 in
theorem mf_X1_isValid : kMf mX1_isValid 1 := ⟨inT3 239 (by decide +kernel) rfl, inT1 2 (by decide +kernel) rfl, by decide +kernel, by decide +kernel⟩
set_option maxRecDepth 100000 in
theorem mv_X1_137 : kMV RX1 137 mX1_isValid 1 1 := ⟨inT3 236 (by decide +kernel) rfl, inT3 237 (by decide +kernel) rfl, inT3 238 (by decide +kernel) rfl, mf_X1_isValid, TX1, 12, rfl⟩
set_option maxRecDepth 100000 in
theorem mn_X1_114 : kMSN RX1 114 mX10_isBelow 2 "ExamMarker" := ⟨by decide +kernel, inT3 15 (by decide +kernel) rfl, mf_X10_isBelow⟩
set_option maxRecDepth 100000 in
theorem mn_X1_118 : kMSN RX1 118 mX10_questionOf 1 "ExamMarker" := ⟨by decide +kernel, inT3 78 (by decide +kernel) rfl, mf_X10_questionOf⟩
set_option maxRecDepth 100000 in
theorem mv_X1_121 : kMV RX1 121 mX7_strays 3 7 := ⟨inT4 2 (by decide +kernel) rfl, inT3 185 (by decide +kernel) rfl, inT3 186 (by decide +kernel) rfl, mf_X7_strays, TX7, 3, rfl⟩
set_option maxRecDepth 100000 in
theorem mf_X1_valueOf : kMf mX1_valueOf 1 := ⟨inT4 6 (by decide +kernel) rfl, inT1 2 (by decide +kernel) rfl, by decide +kernel, by decide +kernel⟩
set_option maxRecDepth 100000 in
theorem mv_X1_141 : kMV RX1 141 mX1_valueOf 1 1 := ⟨inT4 3 (by decide +kernel) rfl, inT4 4 (by decide +kernel) rfl, inT4 5 (by decide +kernel) rfl, mf_X1_valueOf, TX1, 12, rfl⟩
set_option maxRecDepth 100000 in
theorem mv_X1_128 : kMV RX1 128 mX7_correctionOf 3 7 := ⟨inT4 7 (by decide +kernel) rfl, inT3 171 (by decide +kernel) rfl, inT3 172 (by decide +kernel) rfl, mf_X7_correctionOf, TX7, 3, rfl⟩
set_option maxRecDepth 100000 in
theorem mf_X1_agree : kMf mX1_agree 2 := ⟨inT4 12 (by decide +kernel) rfl, inT1 2 (by decide +kernel) rfl, by decide +kernel, by decide +kernel⟩
set_option maxRecDepth 100000 in
theorem mv_X1_150 : kMV RX1 150 mX1_agree 2 1 := ⟨inT4 9 (by decide +kernel) rfl, inT4 10 (by decide +kernel) rfl, inT4 11 (by decide +kernel) rfl, mf_X1_agree, TX1, 12, rfl⟩
set_option maxRecDepth 100000 in
theorem mn_X1_144 : kMSN RX1 144 mX10_distanceOf 2 "ExamMarker" := ⟨by decide +kernel, inT3 189 (by decide +kernel) rfl, mf_X10_distanceOf⟩
set_option maxRecDepth 100000 in
theorem mf_X1_makeEntry : kMf mX1_makeEntry 3 := ⟨inT4 18 (by decide +kernel) rfl, inT1 2 (by decide +kernel) rfl, by decide +kernel, by decide +kernel⟩
set_option maxRecDepth 100000 in
theorem mv_X10_160 : kMV RX10 160 mX1_makeEntry 3 1 := ⟨inT4 15 (by decide +kernel) rfl, inT4 16 (by decide +kernel) rfl, inT4 17 (by decide +kernel) rfl, mf_X1_makeEntry, TX1, 12, rfl⟩
set_option maxRecDepth 100000 in
theorem mv_X1_103 : kMV RX1 103 mX1_earn 2 1 := ⟨inT4 19 (by decide +kernel) rfl, inT3 156 (by decide +kernel) rfl, inT3 157 (by decide +kernel) rfl, mf_X1_earn, TX1, 12, rfl⟩
set_option maxRecDepth 100000 in
theorem mf_X3_put : kMf mX3_put 3 := ⟨inT4 23 (by decide +kernel) rfl, inT1 5 (by decide +kernel) rfl, by decide +kernel, by decide +kernel⟩
set_option maxRecDepth 100000 in
theorem mv_X1_107 : kMV RX1 107 mX3_put 3 3 := ⟨inT4 20 (by decide +kernel) rfl, inT4 21 (by decide +kernel) rfl, inT4 22 (by decide +kernel) rfl, mf_X3_put, TX3, 5, rfl⟩
set_option maxRecDepth 100000 in
theorem mf_X10_append : kMf mX10_append 1 := ⟨inT4 30 (by decide +kernel) rfl, inT1 1 (by decide +kernel) rfl, by decide +kernel, by decide +kernel⟩
set_option maxRecDepth 100000 in
theorem mv_L_41 : kMV RL 41 mX10_append 1 10 := ⟨inT4 27 (by decide +kernel) rfl, inT4 28 (by decide +kernel) rfl, inT4 29 (by decide +kernel) rfl, mf_X10_append, TX10, 9, rfl⟩
set_option maxRecDepth 100000 in
theorem mf_X8_store : kMf mX8_store 1 := ⟨inT4 35 (by decide +kernel) rfl, inT1 9 (by decide +kernel) rfl, by decide +kernel, by decide +kernel⟩
set_option maxRecDepth 100000 in
theorem mv_X10_169 : kMV RX10 169 mX8_store 1 8 := ⟨inT4 32 (by decide +kernel) rfl, inT4 33 (by decide +kernel) rfl, inT4 34 (by decide +kernel) rfl, mf_X8_store, TX8, 9, rfl⟩
set_option maxRecDepth 100000 in
theorem mf_X10_sheet : kMf mX10_sheet 0 := ⟨inT4 42 (by decide +kernel) rfl, inT1 1 (by decide +kernel) rfl, by decide +kernel, by decide +kernel⟩
set_option maxRecDepth 100000 in
theorem mv_L_45 : kMV RL 45 mX10_sheet 0 10 := ⟨inT4 39 (by decide +kernel) rfl, inT4 40 (by decide +kernel) rfl, inT4 41 (by decide +kernel) rfl, mf_X10_sheet, TX10, 9, rfl⟩
set_option maxRecDepth 100000 in
theorem mf_X8_readAndClear : kMf mX8_readAndClear 0 := ⟨inT4 46 (by decide +kernel) rfl, inT1 9 (by decide +kernel) rfl, by decide +kernel, by decide +kernel⟩
set_option maxRecDepth 100000 in
theorem mv_X10_172 : kMV RX10 172 mX8_readAndClear 0 8 := ⟨inT4 43 (by decide +kernel) rfl, inT4 44 (by decide +kernel) rfl, inT4 45 (by decide +kernel) rfl, mf_X8_readAndClear, TX8, 9, rfl⟩
set_option maxRecDepth 100000 in
theorem mf_X8_positionOfError : kMf mX8_positionOfError 0 := ⟨inT4 50 (by decide +kernel) rfl, inT1 9 (by decide +kernel) rfl, by decide +kernel, by decide +kernel⟩
set_option maxRecDepth 100000 in
theorem mv_X8_35 : kMV RX8 35 mX8_positionOfError 0 8 := ⟨inT4 47 (by decide +kernel) rfl, inT4 49 (by decide +kernel) rfl, inG 4 (by decide +kernel) rfl, mf_X8_positionOfError, TX8, 9, rfl⟩
set_option maxRecDepth 100000 in
theorem mf_X8_accepts : kMf mX8_accepts 1 := ⟨inT4 54 (by decide +kernel) rfl, inT1 9 (by decide +kernel) rfl, by decide +kernel, by decide +kernel⟩
set_option maxRecDepth 100000 in
theorem mv_X8_39 : kMV RX8 39 mX8_accepts 1 8 := ⟨inT4 51 (by decide +kernel) rfl, inT4 53 (by decide +kernel) rfl, inG 5 (by decide +kernel) rfl, mf_X8_accepts, TX8, 9, rfl⟩
set_option maxRecDepth 100000 in
theorem mn_X8_46 : kMSN RX8 46 mX10_isBelow 2 "ExamMarker" := ⟨by decide +kernel, inT3 15 (by decide +kernel) rfl, mf_X10_isBelow⟩
set_option maxRecDepth 100000 in
theorem mf_X8_goesOn : kMf mX8_goesOn 2 := ⟨inT4 59 (by decide +kernel) rfl, inT1 9 (by decide +kernel) rfl, by decide +kernel, by decide +kernel⟩
set_option maxRecDepth 100000 in
theorem mv_X8_50 : kMV RX8 50 mX8_goesOn 2 8 := ⟨inT4 56 (by decide +kernel) rfl, inT4 58 (by decide +kernel) rfl, inG 6 (by decide +kernel) rfl, mf_X8_goesOn, TX8, 9, rfl⟩
set_option maxRecDepth 100000 in
theorem mf_X8_startsEntry : kMf mX8_startsEntry 1 := ⟨inT4 63 (by decide +kernel) rfl, inT1 9 (by decide +kernel) rfl, by decide +kernel, by decide +kernel⟩
set_option maxRecDepth 100000 in
theorem mv_X8_57 : kMV RX8 57 mX8_startsEntry 1 8 := ⟨inT4 60 (by decide +kernel) rfl, inT4 62 (by decide +kernel) rfl, inG 7 (by decide +kernel) rfl, mf_X8_startsEntry, TX8, 9, rfl⟩
set_option maxRecDepth 100000 in
theorem mf_X8_takesDigit : kMf mX8_takesDigit 2 := ⟨inT4 67 (by decide +kernel) rfl, inT1 9 (by decide +kernel) rfl, by decide +kernel, by decide +kernel⟩
set_option maxRecDepth 100000 in
theorem mv_X8_61 : kMV RX8 61 mX8_takesDigit 2 8 := ⟨inT4 64 (by decide +kernel) rfl, inT4 66 (by decide +kernel) rfl, inG 8 (by decide +kernel) rfl, mf_X8_takesDigit, TX8, 9, rfl⟩
set_option maxRecDepth 100000 in
theorem mf_X10_entry : kMf mX10_entry 4 := ⟨inT4 77 (by decide +kernel) rfl, inT1 1 (by decide +kernel) rfl, by decide +kernel, by decide +kernel⟩
set_option maxRecDepth 100000 in
theorem mv_L_49 : kMV RL 49 mX10_entry 4 10 := ⟨inT4 74 (by decide +kernel) rfl, inT4 75 (by decide +kernel) rfl, inT4 76 (by decide +kernel) rfl, mf_X10_entry, TX10, 9, rfl⟩
set_option maxRecDepth 100000 in
theorem mv_X10_218 : kMV RX10 218 mX1_valueOf 1 1 := ⟨inT4 94 (by decide +kernel) rfl, inT4 4 (by decide +kernel) rfl, inT4 5 (by decide +kernel) rfl, mf_X1_valueOf, TX1, 12, rfl⟩
set_option maxRecDepth 100000 in
theorem mv_X10_221 : kMV RX10 221 mX1_isValid 1 1 := ⟨inT4 95 (by decide +kernel) rfl, inT3 237 (by decide +kernel) rfl, inT3 238 (by decide +kernel) rfl, mf_X1_isValid, TX1, 12, rfl⟩
set_option maxRecDepth 100000 in
theorem mf_X10_script : kMf mX10_script 3 := ⟨inT4 102 (by decide +kernel) rfl, inT1 1 (by decide +kernel) rfl, by decide +kernel, by decide +kernel⟩
set_option maxRecDepth 100000 in
theorem mv_L_54 : kMV RL 54 mX10_script 3 10 := ⟨inT4 99 (by decide +kernel) rfl, inT4 100 (by decide +kernel) rfl, inT4 101 (by decide +kernel) rfl, mf_X10_script, TX10, 9, rfl⟩
set_option maxRecDepth 100000 in
theorem mf_X1_settledOf : kMf mX1_settledOf 1 := ⟨inT4 106 (by decide +kernel) rfl, inT1 2 (by decide +kernel) rfl, by decide +kernel, by decide +kernel⟩
set_option maxRecDepth 100000 in
theorem mv_X10_225 : kMV RX10 225 mX1_settledOf 1 1 := ⟨inT4 103 (by decide +kernel) rfl, inT4 104 (by decide +kernel) rfl, inT4 105 (by decide +kernel) rfl, mf_X1_settledOf, TX1, 12, rfl⟩
set_option maxRecDepth 100000 in
theorem mf_X10_halfWithNearer : kMf mX10_halfWithNearer 3 := ⟨inT4 109 (by decide +kernel) rfl, inT1 1 (by decide +kernel) rfl, by decide +kernel, by decide +kernel⟩
set_option maxRecDepth 100000 in
theorem mn_X1_157 : kMSN RX1 157 mX10_halfWithNearer 3 "ExamMarker" := ⟨by decide +kernel, inT4 108 (by decide +kernel) rfl, mf_X10_halfWithNearer⟩
set_option maxRecDepth 100000 in
theorem ms_X10_493 : kMS RX10 493 mX10_distanceOf 2 := ⟨inT4 110 (by decide +kernel) rfl, inT3 189 (by decide +kernel) rfl, mf_X10_distanceOf⟩
set_option maxRecDepth 100000 in
theorem mv_X10_228 : kMV RX10 228 mX1_readValidValues 1 1 := ⟨inT4 112 (by decide +kernel) rfl, inT3 233 (by decide +kernel) rfl, inT3 234 (by decide +kernel) rfl, mf_X1_readValidValues, TX1, 12, rfl⟩
set_option maxRecDepth 100000 in
theorem mf_X1_standingOf : kMf mX1_standingOf 1 := ⟨inT4 116 (by decide +kernel) rfl, inT1 2 (by decide +kernel) rfl, by decide +kernel, by decide +kernel⟩
set_option maxRecDepth 100000 in
theorem mv_X10_231 : kMV RX10 231 mX1_standingOf 1 1 := ⟨inT4 113 (by decide +kernel) rfl, inT4 114 (by decide +kernel) rfl, inT4 115 (by decide +kernel) rfl, mf_X1_standingOf, TX1, 12, rfl⟩
set_option maxRecDepth 100000 in
theorem mf_X10_excuse : kMf mX10_excuse 3 := ⟨inT4 123 (by decide +kernel) rfl, inT1 1 (by decide +kernel) rfl, by decide +kernel, by decide +kernel⟩
set_option maxRecDepth 100000 in
theorem mv_L_58 : kMV RL 58 mX10_excuse 3 10 := ⟨inT4 120 (by decide +kernel) rfl, inT4 121 (by decide +kernel) rfl, inT4 122 (by decide +kernel) rfl, mf_X10_excuse, TX10, 9, rfl⟩
set_option maxRecDepth 100000 in
theorem mf_X1_isExcused : kMf mX1_isExcused 2 := ⟨inT4 127 (by decide +kernel) rfl, inT1 2 (by decide +kernel) rfl, by decide +kernel, by decide +kernel⟩
set_option maxRecDepth 100000 in
theorem mv_X10_243 : kMV RX10 243 mX1_isExcused 2 1 := ⟨inT4 124 (by decide +kernel) rfl, inT4 125 (by decide +kernel) rfl, inT4 126 (by decide +kernel) rfl, mf_X1_isExcused, TX1, 12, rfl⟩
set_option maxRecDepth 100000 in
theorem mf_J6_bitCount_0f7a4 : kMf mJ6_bitCount_0f7a4 1 := ⟨inT4 130 (by decide +kernel) rfl, inT1 27 (by decide +kernel) rfl, by decide +kernel, by decide +kernel⟩
set_option maxRecDepth 100000 in
theorem ms_X10_250 : kMS RX10 250 mJ6_bitCount_0f7a4 1 := ⟨inT4 128 (by decide +kernel) rfl, inT4 129 (by decide +kernel) rfl, mf_J6_bitCount_0f7a4⟩
set_option maxRecDepth 100000 in
theorem mf_X10_raise : kMf mX10_raise 2 := ⟨inT4 141 (by decide +kernel) rfl, inT1 1 (by decide +kernel) rfl, by decide +kernel, by decide +kernel⟩
set_option maxRecDepth 100000 in
theorem mv_L_62 : kMV RL 62 mX10_raise 2 10 := ⟨inT4 138 (by decide +kernel) rfl, inT4 139 (by decide +kernel) rfl, inT4 140 (by decide +kernel) rfl, mf_X10_raise, TX10, 9, rfl⟩
set_option maxRecDepth 100000 in
theorem mf_X10_setPoint : kMf mX10_setPoint 2 := ⟨inT4 148 (by decide +kernel) rfl, inT1 1 (by decide +kernel) rfl, by decide +kernel, by decide +kernel⟩
set_option maxRecDepth 100000 in
theorem mv_L_65 : kMV RL 65 mX10_setPoint 2 10 := ⟨inT4 145 (by decide +kernel) rfl, inT4 146 (by decide +kernel) rfl, inT4 147 (by decide +kernel) rfl, mf_X10_setPoint, TX10, 9, rfl⟩
set_option maxRecDepth 100000 in
theorem mf_X2_indexOf : kMf mX2_indexOf 1 := ⟨inT4 152 (by decide +kernel) rfl, inT1 6 (by decide +kernel) rfl, by decide +kernel, by decide +kernel⟩
set_option maxRecDepth 100000 in
theorem mv_X10_272 : kMV RX10 272 mX2_indexOf 1 2 := ⟨inT4 149 (by decide +kernel) rfl, inT4 150 (by decide +kernel) rfl, inT4 151 (by decide +kernel) rfl, mf_X2_indexOf, TX2, 3, rfl⟩
set_option maxRecDepth 100000 in
theorem mf_X2_put : kMf mX2_put 2 := ⟨inT4 157 (by decide +kernel) rfl, inT1 6 (by decide +kernel) rfl, by decide +kernel, by decide +kernel⟩
set_option maxRecDepth 100000 in
theorem mv_X10_277 : kMV RX10 277 mX2_put 2 2 := ⟨inT4 154 (by decide +kernel) rfl, inT4 155 (by decide +kernel) rfl, inT4 156 (by decide +kernel) rfl, mf_X2_put, TX2, 3, rfl⟩
set_option maxRecDepth 100000 in
theorem mv_X2_26 : kMV RX2 26 mX2_indexOf 1 2 := ⟨inT4 158 (by decide +kernel) rfl, inT4 150 (by decide +kernel) rfl, inT4 151 (by decide +kernel) rfl, mf_X2_indexOf, TX2, 3, rfl⟩
set_option maxRecDepth 100000 in
theorem mf_X10_removePoint : kMf mX10_removePoint 1 := ⟨inT4 165 (by decide +kernel) rfl, inT1 1 (by decide +kernel) rfl, by decide +kernel, by decide +kernel⟩
set_option maxRecDepth 100000 in
theorem mv_L_68 : kMV RL 68 mX10_removePoint 1 10 := ⟨inT4 162 (by decide +kernel) rfl, inT4 163 (by decide +kernel) rfl, inT4 164 (by decide +kernel) rfl, mf_X10_removePoint, TX10, 9, rfl⟩
set_option maxRecDepth 100000 in
theorem mf_X2_takeAway : kMf mX2_takeAway 1 := ⟨inT4 170 (by decide +kernel) rfl, inT1 6 (by decide +kernel) rfl, by decide +kernel, by decide +kernel⟩
set_option maxRecDepth 100000 in
theorem mv_X10_282 : kMV RX10 282 mX2_takeAway 1 2 := ⟨inT4 167 (by decide +kernel) rfl, inT4 168 (by decide +kernel) rfl, inT4 169 (by decide +kernel) rfl, mf_X2_takeAway, TX2, 3, rfl⟩
set_option maxRecDepth 100000 in
theorem mf_X10_curve : kMf mX10_curve 1 := ⟨inT4 177 (by decide +kernel) rfl, inT1 1 (by decide +kernel) rfl, by decide +kernel, by decide +kernel⟩
set_option maxRecDepth 100000 in
theorem mv_L_71 : kMV RL 71 mX10_curve 1 10 := ⟨inT4 174 (by decide +kernel) rfl, inT4 175 (by decide +kernel) rfl, inT4 176 (by decide +kernel) rfl, mf_X10_curve, TX10, 9, rfl⟩
set_option maxRecDepth 100000 in
theorem mf_X1_fullMaximum : kMf mX1_fullMaximum 0 := ⟨inT4 181 (by decide +kernel) rfl, inT1 2 (by decide +kernel) rfl, by decide +kernel, by decide +kernel⟩
set_option maxRecDepth 100000 in
theorem mv_X10_285 : kMV RX10 285 mX1_fullMaximum 0 1 := ⟨inT4 178 (by decide +kernel) rfl, inT4 179 (by decide +kernel) rfl, inT4 180 (by decide +kernel) rfl, mf_X1_fullMaximum, TX1, 12, rfl⟩
set_option maxRecDepth 100000 in
theorem mf_X10_sumOf : kMf mX10_sumOf 1 := ⟨inT4 184 (by decide +kernel) rfl, inT1 1 (by decide +kernel) rfl, by decide +kernel, by decide +kernel⟩
set_option maxRecDepth 100000 in
theorem mn_X1_88 : kMSN RX1 88 mX10_sumOf 1 "ExamMarker" := ⟨by decide +kernel, inT4 183 (by decide +kernel) rfl, mf_X10_sumOf⟩
set_option maxRecDepth 100000 in
theorem mf_X2_scale : kMf mX2_scale 3 := ⟨inT4 188 (by decide +kernel) rfl, inT1 6 (by decide +kernel) rfl, by decide +kernel, by decide +kernel⟩
set_option maxRecDepth 100000 in
theorem mv_X10_294 : kMV RX10 294 mX2_scale 3 2 := ⟨inT4 185 (by decide +kernel) rfl, inT4 186 (by decide +kernel) rfl, inT4 187 (by decide +kernel) rfl, mf_X2_scale, TX2, 3, rfl⟩
set_option maxRecDepth 100000 in
theorem mf_X2_round : kMf mX2_round 2 := ⟨inT4 192 (by decide +kernel) rfl, inT1 6 (by decide +kernel) rfl, by decide +kernel, by decide +kernel⟩
set_option maxRecDepth 100000 in
theorem ms_X2_32 : kMS RX2 32 mX2_round 2 := ⟨inT4 190 (by decide +kernel) rfl, inT4 191 (by decide +kernel) rfl, mf_X2_round⟩
set_option maxRecDepth 100000 in
theorem mf_J9_floorDiv_f86c9 : kMf mJ9_floorDiv_f86c9 2 := ⟨inT4 196 (by decide +kernel) rfl, inT1 22 (by decide +kernel) rfl, by decide +kernel, by decide +kernel⟩
set_option maxRecDepth 100000 in
theorem ms_X2_38 : kMS RX2 38 mJ9_floorDiv_f86c9 2 := ⟨inT4 194 (by decide +kernel) rfl, inT4 195 (by decide +kernel) rfl, mf_J9_floorDiv_f86c9⟩
set_option maxRecDepth 100000 in
theorem mf_X10_setBoundary : kMf mX10_setBoundary 2 := ⟨inT4 203 (by decide +kernel) rfl, inT1 1 (by decide +kernel) rfl, by decide +kernel, by decide +kernel⟩
set_option maxRecDepth 100000 in
theorem mv_L_74 : kMV RL 74 mX10_setBoundary 2 10 := ⟨inT4 200 (by decide +kernel) rfl, inT4 201 (by decide +kernel) rfl, inT4 202 (by decide +kernel) rfl, mf_X10_setBoundary, TX10, 9, rfl⟩
set_option maxRecDepth 100000 in
theorem mf_X10_result : kMf mX10_result 2 := ⟨inT4 211 (by decide +kernel) rfl, inT1 1 (by decide +kernel) rfl, by decide +kernel, by decide +kernel⟩
set_option maxRecDepth 100000 in
theorem mv_L_77 : kMV RL 77 mX10_result 2 10 := ⟨inT4 208 (by decide +kernel) rfl, inT4 209 (by decide +kernel) rfl, inT4 210 (by decide +kernel) rfl, mf_X10_result, TX10, 9, rfl⟩
set_option maxRecDepth 100000 in
theorem mf_X10_requireGrade : kMf mX10_requireGrade 1 := ⟨inT4 215 (by decide +kernel) rfl, inT1 1 (by decide +kernel) rfl, by decide +kernel, by decide +kernel⟩
set_option maxRecDepth 100000 in
theorem mv_X10_303 : kMV RX10 303 mX10_requireGrade 1 10 := ⟨inT4 212 (by decide +kernel) rfl, inT4 214 (by decide +kernel) rfl, inG 9 (by decide +kernel) rfl, mf_X10_requireGrade, TX10, 9, rfl⟩
set_option maxRecDepth 100000 in
theorem mf_X1_hasGrade : kMf mX1_hasGrade 1 := ⟨inT4 219 (by decide +kernel) rfl, inT1 2 (by decide +kernel) rfl, by decide +kernel, by decide +kernel⟩
set_option maxRecDepth 100000 in
theorem mv_X10_330 : kMV RX10 330 mX1_hasGrade 1 1 := ⟨inT4 216 (by decide +kernel) rfl, inT4 217 (by decide +kernel) rfl, inT4 218 (by decide +kernel) rfl, mf_X1_hasGrade, TX1, 12, rfl⟩
set_option maxRecDepth 100000 in
theorem mn_X1_160 : kMSN RX1 160 mX10_scriptOf 2 "ExamMarker" := ⟨by decide +kernel, inT3 210 (by decide +kernel) rfl, mf_X10_scriptOf⟩
set_option maxRecDepth 100000 in
theorem mf_X5_find : kMf mX5_find 2 := ⟨inT4 225 (by decide +kernel) rfl, inT1 12 (by decide +kernel) rfl, by decide +kernel, by decide +kernel⟩
set_option maxRecDepth 100000 in
theorem mv_X10_306 : kMV RX10 306 mX5_find 2 5 := ⟨inT4 222 (by decide +kernel) rfl, inT4 223 (by decide +kernel) rfl, inT4 224 (by decide +kernel) rfl, mf_X5_find, TX5, 6, rfl⟩
set_option maxRecDepth 100000 in
theorem mn_X5_19 : kMSN RX5 19 mX10_scriptOf 2 "ExamMarker" := ⟨by decide +kernel, inT3 210 (by decide +kernel) rfl, mf_X10_scriptOf⟩
set_option maxRecDepth 100000 in
theorem mv_X5_23 : kMV RX5 23 mX1_settledOf 1 1 := ⟨inT4 227 (by decide +kernel) rfl, inT4 104 (by decide +kernel) rfl, inT4 105 (by decide +kernel) rfl, mf_X1_settledOf, TX1, 12, rfl⟩
set_option maxRecDepth 100000 in
theorem mf_X5_assess : kMf mX5_assess 2 := ⟨inT4 231 (by decide +kernel) rfl, inT1 12 (by decide +kernel) rfl, by decide +kernel, by decide +kernel⟩
set_option maxRecDepth 100000 in
theorem mv_X5_29 : kMV RX5 29 mX5_assess 2 5 := ⟨inT4 228 (by decide +kernel) rfl, inT4 230 (by decide +kernel) rfl, inG 10 (by decide +kernel) rfl, mf_X5_assess, TX5, 6, rfl⟩
set_option maxRecDepth 100000 in
theorem mv_X5_33 : kMV RX5 33 mX1_fullMaximum 0 1 := ⟨inT4 232 (by decide +kernel) rfl, inT4 179 (by decide +kernel) rfl, inT4 180 (by decide +kernel) rfl, mf_X1_fullMaximum, TX1, 12, rfl⟩
set_option maxRecDepth 100000 in
theorem mf_X5_findRawResult : kMf mX5_findRawResult 3 := ⟨inT4 236 (by decide +kernel) rfl, inT1 12 (by decide +kernel) rfl, by decide +kernel, by decide +kernel⟩
set_option maxRecDepth 100000 in
theorem mv_X5_37 : kMV RX5 37 mX5_findRawResult 3 5 := ⟨inT4 233 (by decide +kernel) rfl, inT4 235 (by decide +kernel) rfl, inG 11 (by decide +kernel) rfl, mf_X5_findRawResult, TX5, 6, rfl⟩
set_option maxRecDepth 100000 in
theorem mv_X5_73 : kMV RX5 73 mX1_isExcused 2 1 := ⟨inT4 237 (by decide +kernel) rfl, inT4 125 (by decide +kernel) rfl, inT4 126 (by decide +kernel) rfl, mf_X1_isExcused, TX1, 12, rfl⟩
set_option maxRecDepth 100000 in
theorem mf_X10_greatestCommonDivisor : kMf mX10_greatestCommonDivisor 2 := ⟨inT5 2 (by decide +kernel) rfl, inT1 1 (by decide +kernel) rfl, by decide +kernel, by decide +kernel⟩
set_option maxRecDepth 100000 in
theorem mn_X5_85 : kMSN RX5 85 mX10_greatestCommonDivisor 2 "ExamMarker" := ⟨by decide +kernel, inT5 1 (by decide +kernel) rfl, mf_X10_greatestCommonDivisor⟩
set_option maxRecDepth 100000 in
theorem mv_X5_50 : kMV RX5 50 mX2_scale 3 2 := ⟨inT5 3 (by decide +kernel) rfl, inT4 186 (by decide +kernel) rfl, inT4 187 (by decide +kernel) rfl, mf_X2_scale, TX2, 3, rfl⟩
set_option maxRecDepth 100000 in
theorem mf_X1_plainGradeOf : kMf mX1_plainGradeOf 1 := ⟨inT5 7 (by decide +kernel) rfl, inT1 2 (by decide +kernel) rfl, by decide +kernel, by decide +kernel⟩
set_option maxRecDepth 100000 in
theorem mv_X5_60 : kMV RX5 60 mX1_plainGradeOf 1 1 := ⟨inT5 4 (by decide +kernel) rfl, inT5 5 (by decide +kernel) rfl, inT5 6 (by decide +kernel) rfl, mf_X1_plainGradeOf, TX1, 12, rfl⟩
set_option maxRecDepth 100000 in
theorem mf_X5_isLifted : kMf mX5_isLifted 2 := ⟨inT5 11 (by decide +kernel) rfl, inT1 12 (by decide +kernel) rfl, by decide +kernel, by decide +kernel⟩
set_option maxRecDepth 100000 in
theorem mv_X5_66 : kMV RX5 66 mX5_isLifted 2 5 := ⟨inT5 8 (by decide +kernel) rfl, inT5 10 (by decide +kernel) rfl, inG 12 (by decide +kernel) rfl, mf_X5_isLifted, TX5, 6, rfl⟩
set_option maxRecDepth 100000 in
theorem mf_X10_recount : kMf mX10_recount 1 := ⟨inT5 18 (by decide +kernel) rfl, inT1 1 (by decide +kernel) rfl, by decide +kernel, by decide +kernel⟩
set_option maxRecDepth 100000 in
theorem mv_L_81 : kMV RL 81 mX10_recount 1 10 := ⟨inT5 15 (by decide +kernel) rfl, inT5 16 (by decide +kernel) rfl, inT5 17 (by decide +kernel) rfl, mf_X10_recount, TX10, 9, rfl⟩
set_option maxRecDepth 100000 in
theorem mf_X9_sumOf : kMf mX9_sumOf 2 := ⟨inT5 22 (by decide +kernel) rfl, inT1 11 (by decide +kernel) rfl, by decide +kernel, by decide +kernel⟩
set_option maxRecDepth 100000 in
theorem mv_X10_326 : kMV RX10 326 mX9_sumOf 2 9 := ⟨inT5 19 (by decide +kernel) rfl, inT5 20 (by decide +kernel) rfl, inT5 21 (by decide +kernel) rfl, mf_X9_sumOf, TX9, 4, rfl⟩
set_option maxRecDepth 100000 in
theorem ms_X9_24 : kMS RX9 24 mJ7_fill_53178 2 := ⟨inT5 23 (by decide +kernel) rfl, inT1 53 (by decide +kernel) rfl, mf_J7_fill_53178⟩
set_option maxRecDepth 100000 in
theorem mn_X9_45 : kMSN RX9 45 mX10_questionOf 1 "ExamMarker" := ⟨by decide +kernel, inT3 78 (by decide +kernel) rfl, mf_X10_questionOf⟩
set_option maxRecDepth 100000 in
theorem mv_X9_49 : kMV RX9 49 mX1_isExcused 2 1 := ⟨inT5 25 (by decide +kernel) rfl, inT4 125 (by decide +kernel) rfl, inT4 126 (by decide +kernel) rfl, mf_X1_isExcused, TX1, 12, rfl⟩
set_option maxRecDepth 100000 in
theorem mv_X9_53 : kMV RX9 53 mX1_isValid 1 1 := ⟨inT5 26 (by decide +kernel) rfl, inT3 237 (by decide +kernel) rfl, inT3 238 (by decide +kernel) rfl, mf_X1_isValid, TX1, 12, rfl⟩
set_option maxRecDepth 100000 in
theorem mv_X9_57 : kMV RX9 57 mX1_valueOf 1 1 := ⟨inT5 27 (by decide +kernel) rfl, inT4 4 (by decide +kernel) rfl, inT4 5 (by decide +kernel) rfl, mf_X1_valueOf, TX1, 12, rfl⟩
set_option maxRecDepth 100000 in
theorem mf_X9_correct : kMf mX9_correct 3 := ⟨inT5 31 (by decide +kernel) rfl, inT1 11 (by decide +kernel) rfl, by decide +kernel, by decide +kernel⟩
set_option maxRecDepth 100000 in
theorem mv_X9_60 : kMV RX9 60 mX9_correct 3 9 := ⟨inT5 28 (by decide +kernel) rfl, inT5 30 (by decide +kernel) rfl, inG 13 (by decide +kernel) rfl, mf_X9_correct, TX9, 4, rfl⟩
set_option maxRecDepth 100000 in
theorem mv_X9_80 : kMV RX9 80 mX1_agree 2 1 := ⟨inT5 32 (by decide +kernel) rfl, inT4 10 (by decide +kernel) rfl, inT4 11 (by decide +kernel) rfl, mf_X1_agree, TX1, 12, rfl⟩
set_option maxRecDepth 100000 in
theorem mn_X9_88 : kMSN RX9 88 mX10_halfWithNearer 3 "ExamMarker" := ⟨by decide +kernel, inT4 108 (by decide +kernel) rfl, mf_X10_halfWithNearer⟩
set_option maxRecDepth 100000 in
theorem mn_X9_64 : kMSN RX9 64 mX10_scriptOf 2 "ExamMarker" := ⟨by decide +kernel, inT3 210 (by decide +kernel) rfl, mf_X10_scriptOf⟩
set_option maxRecDepth 100000 in
theorem mf_X10_ranked : kMf mX10_ranked 1 := ⟨inT5 42 (by decide +kernel) rfl, inT1 1 (by decide +kernel) rfl, by decide +kernel, by decide +kernel⟩
set_option maxRecDepth 100000 in
theorem mv_L_84 : kMV RL 84 mX10_ranked 1 10 := ⟨inT5 39 (by decide +kernel) rfl, inT5 40 (by decide +kernel) rfl, inT5 41 (by decide +kernel) rfl, mf_X10_ranked, TX10, 9, rfl⟩
set_option maxRecDepth 100000 in
theorem mf_X10_rankOf : kMf mX10_rankOf 1 := ⟨inT5 46 (by decide +kernel) rfl, inT1 1 (by decide +kernel) rfl, by decide +kernel, by decide +kernel⟩
set_option maxRecDepth 100000 in
theorem mv_X10_333 : kMV RX10 333 mX10_rankOf 1 10 := ⟨inT5 43 (by decide +kernel) rfl, inT5 45 (by decide +kernel) rfl, inG 14 (by decide +kernel) rfl, mf_X10_rankOf, TX10, 9, rfl⟩
set_option maxRecDepth 100000 in
theorem mf_X5_compareWith : kMf mX5_compareWith 1 := ⟨inT5 50 (by decide +kernel) rfl, inT1 12 (by decide +kernel) rfl, by decide +kernel, by decide +kernel⟩
set_option maxRecDepth 100000 in
theorem mv_X10_483 : kMV RX10 483 mX5_compareWith 1 5 := ⟨inT5 47 (by decide +kernel) rfl, inT5 48 (by decide +kernel) rfl, inT5 49 (by decide +kernel) rfl, mf_X5_compareWith, TX5, 6, rfl⟩
set_option maxRecDepth 100000 in
theorem mf_J13_compare_74951 : kMf mJ13_compare_74951 2 := ⟨inT5 53 (by decide +kernel) rfl, inT1 28 (by decide +kernel) rfl, by decide +kernel, by decide +kernel⟩
set_option maxRecDepth 100000 in
theorem ms_X5_95 : kMS RX5 95 mJ13_compare_74951 2 := ⟨inT5 51 (by decide +kernel) rfl, inT5 52 (by decide +kernel) rfl, mf_J13_compare_74951⟩
set_option maxRecDepth 100000 in
theorem mf_X10_graded : kMf mX10_graded 1 := ⟨inT5 61 (by decide +kernel) rfl, inT1 1 (by decide +kernel) rfl, by decide +kernel, by decide +kernel⟩
set_option maxRecDepth 100000 in
theorem mv_L_87 : kMV RL 87 mX10_graded 1 10 := ⟨inT5 58 (by decide +kernel) rfl, inT5 59 (by decide +kernel) rfl, inT5 60 (by decide +kernel) rfl, mf_X10_graded, TX10, 9, rfl⟩
set_option maxRecDepth 100000 in
theorem mf_X10_requireGradeNumber : kMf mX10_requireGradeNumber 1 := ⟨inT5 64 (by decide +kernel) rfl, inT1 1 (by decide +kernel) rfl, by decide +kernel, by decide +kernel⟩
set_option maxRecDepth 100000 in
theorem ms_X10_338 : kMS RX10 338 mX10_requireGradeNumber 1 := ⟨inT5 62 (by decide +kernel) rfl, inT5 63 (by decide +kernel) rfl, mf_X10_requireGradeNumber⟩
set_option maxRecDepth 100000 in
theorem mf_X10_gradeIf : kMf mX10_gradeIf 3 := ⟨inT5 72 (by decide +kernel) rfl, inT1 1 (by decide +kernel) rfl, by decide +kernel, by decide +kernel⟩
set_option maxRecDepth 100000 in
theorem mv_L_90 : kMV RL 90 mX10_gradeIf 3 10 := ⟨inT5 69 (by decide +kernel) rfl, inT5 70 (by decide +kernel) rfl, inT5 71 (by decide +kernel) rfl, mf_X10_gradeIf, TX10, 9, rfl⟩
set_option maxRecDepth 100000 in
theorem mf_X5_suppose : kMf mX5_suppose 4 := ⟨inT5 76 (by decide +kernel) rfl, inT1 12 (by decide +kernel) rfl, by decide +kernel, by decide +kernel⟩
set_option maxRecDepth 100000 in
theorem mv_X10_341 : kMV RX10 341 mX5_suppose 4 5 := ⟨inT5 73 (by decide +kernel) rfl, inT5 74 (by decide +kernel) rfl, inT5 75 (by decide +kernel) rfl, mf_X5_suppose, TX5, 6, rfl⟩
set_option maxRecDepth 100000 in
theorem mf_X10_needed : kMf mX10_needed 3 := ⟨inT5 83 (by decide +kernel) rfl, inT1 1 (by decide +kernel) rfl, by decide +kernel, by decide +kernel⟩
set_option maxRecDepth 100000 in
theorem mv_L_93 : kMV RL 93 mX10_needed 3 10 := ⟨inT5 80 (by decide +kernel) rfl, inT5 81 (by decide +kernel) rfl, inT5 82 (by decide +kernel) rfl, mf_X10_needed, TX10, 9, rfl⟩
set_option maxRecDepth 100000 in
theorem mf_X10_meanBits : kMf mX10_meanBits 1 := ⟨inT5 105 (by decide +kernel) rfl, inT1 1 (by decide +kernel) rfl, by decide +kernel, by decide +kernel⟩
set_option maxRecDepth 100000 in
theorem mv_L_96 : kMV RL 96 mX10_meanBits 1 10 := ⟨inT5 102 (by decide +kernel) rfl, inT5 103 (by decide +kernel) rfl, inT5 104 (by decide +kernel) rfl, mf_X10_meanBits, TX10, 9, rfl⟩
set_option maxRecDepth 100000 in
theorem mf_X10_doubleBits : kMf mX10_doubleBits 1 := ⟨inT5 112 (by decide +kernel) rfl, inT1 1 (by decide +kernel) rfl, by decide +kernel, by decide +kernel⟩
set_option maxRecDepth 100000 in
theorem ms_X10_354 : kMS RX10 354 mX10_doubleBits 1 := ⟨inT5 110 (by decide +kernel) rfl, inT5 111 (by decide +kernel) rfl, mf_X10_doubleBits⟩
set_option maxRecDepth 100000 in
theorem mf_X10_validBits : kMf mX10_validBits 1 := ⟨inT5 122 (by decide +kernel) rfl, inT1 1 (by decide +kernel) rfl, by decide +kernel, by decide +kernel⟩
set_option maxRecDepth 100000 in
theorem mv_L_102 : kMV RL 102 mX10_validBits 1 10 := ⟨inT5 119 (by decide +kernel) rfl, inT5 120 (by decide +kernel) rfl, inT5 121 (by decide +kernel) rfl, mf_X10_validBits, TX10, 9, rfl⟩
set_option maxRecDepth 100000 in
theorem mv_X10_358 : kMV RX10 358 mX3_isBy 2 3 := ⟨inT5 123 (by decide +kernel) rfl, inT3 225 (by decide +kernel) rfl, inT3 226 (by decide +kernel) rfl, mf_X3_isBy, TX3, 5, rfl⟩
set_option maxRecDepth 100000 in
theorem mf_X10_floatBits : kMf mX10_floatBits 1 := ⟨inT5 127 (by decide +kernel) rfl, inT1 1 (by decide +kernel) rfl, by decide +kernel, by decide +kernel⟩
set_option maxRecDepth 100000 in
theorem ms_X10_363 : kMS RX10 363 mX10_floatBits 1 := ⟨inT5 125 (by decide +kernel) rfl, inT5 126 (by decide +kernel) rfl, mf_X10_floatBits⟩
set_option maxRecDepth 100000 in
theorem mf_X10_publish : kMf mX10_publish 0 := ⟨inT5 135 (by decide +kernel) rfl, inT1 1 (by decide +kernel) rfl, by decide +kernel, by decide +kernel⟩
set_option maxRecDepth 100000 in
theorem mv_L_105 : kMV RL 105 mX10_publish 0 10 := ⟨inT5 132 (by decide +kernel) rfl, inT5 133 (by decide +kernel) rfl, inT5 134 (by decide +kernel) rfl, mf_X10_publish, TX10, 9, rfl⟩
set_option maxRecDepth 100000 in
theorem mf_X10_refusesPublication : kMf mX10_refusesPublication 0 := ⟨inT5 139 (by decide +kernel) rfl, inT1 1 (by decide +kernel) rfl, by decide +kernel, by decide +kernel⟩
set_option maxRecDepth 100000 in
theorem mv_X10_373 : kMV RX10 373 mX10_refusesPublication 0 10 := ⟨inT5 136 (by decide +kernel) rfl, inT5 138 (by decide +kernel) rfl, inG 15 (by decide +kernel) rfl, mf_X10_refusesPublication, TX10, 9, rfl⟩
set_option maxRecDepth 100000 in
theorem mf_X1_gradedCandidates : kMf mX1_gradedCandidates 0 := ⟨inT5 144 (by decide +kernel) rfl, inT1 2 (by decide +kernel) rfl, by decide +kernel, by decide +kernel⟩
set_option maxRecDepth 100000 in
theorem mv_X10_379 : kMV RX10 379 mX1_gradedCandidates 0 1 := ⟨inT5 141 (by decide +kernel) rfl, inT5 142 (by decide +kernel) rfl, inT5 143 (by decide +kernel) rfl, mf_X1_gradedCandidates, TX1, 12, rfl⟩
set_option maxRecDepth 100000 in
theorem mv_X1_163 : kMV RX1 163 mX1_hasGrade 1 1 := ⟨inT5 145 (by decide +kernel) rfl, inT4 217 (by decide +kernel) rfl, inT4 218 (by decide +kernel) rfl, mf_X1_hasGrade, TX1, 12, rfl⟩
set_option maxRecDepth 100000 in
theorem mf_X10_withdraw : kMf mX10_withdraw 0 := ⟨inT5 152 (by decide +kernel) rfl, inT1 1 (by decide +kernel) rfl, by decide +kernel, by decide +kernel⟩
set_option maxRecDepth 100000 in
theorem mv_L_108 : kMV RL 108 mX10_withdraw 0 10 := ⟨inT5 149 (by decide +kernel) rfl, inT5 150 (by decide +kernel) rfl, inT5 151 (by decide +kernel) rfl, mf_X10_withdraw, TX10, 9, rfl⟩
set_option maxRecDepth 100000 in
theorem mf_X0_made : kMf mX0_made 0 := ⟨inT5 157 (by decide +kernel) rfl, inT1 7 (by decide +kernel) rfl, by decide +kernel, by decide +kernel⟩
set_option maxRecDepth 100000 in
theorem mv_X10_384 : kMV RX10 384 mX0_made 0 0 := ⟨inT5 154 (by decide +kernel) rfl, inT5 155 (by decide +kernel) rfl, inT5 156 (by decide +kernel) rfl, mf_X0_made, TX0, 4, rfl⟩
set_option maxRecDepth 100000 in
theorem mf_X0_inState : kMf mX0_inState 3 := ⟨inT5 161 (by decide +kernel) rfl, inT1 7 (by decide +kernel) rfl, by decide +kernel, by decide +kernel⟩
set_option maxRecDepth 100000 in
theorem mv_X0_35 : kMV RX0 35 mX0_inState 3 0 := ⟨inT5 158 (by decide +kernel) rfl, inT5 159 (by decide +kernel) rfl, inT5 160 (by decide +kernel) rfl, mf_X0_inState, TX0, 4, rfl⟩
set_option maxRecDepth 100000 in
theorem mf_X10_appeal : kMf mX10_appeal 2 := ⟨inT5 170 (by decide +kernel) rfl, inT1 1 (by decide +kernel) rfl, by decide +kernel, by decide +kernel⟩
set_option maxRecDepth 100000 in
theorem mv_L_111 : kMV RL 111 mX10_appeal 2 10 := ⟨inT5 167 (by decide +kernel) rfl, inT5 168 (by decide +kernel) rfl, inT5 169 (by decide +kernel) rfl, mf_X10_appeal, TX10, 9, rfl⟩
set_option maxRecDepth 100000 in
theorem mf_X10_refusesAppeal : kMf mX10_refusesAppeal 2 := ⟨inT5 174 (by decide +kernel) rfl, inT1 1 (by decide +kernel) rfl, by decide +kernel, by decide +kernel⟩
set_option maxRecDepth 100000 in
theorem mv_X10_389 : kMV RX10 389 mX10_refusesAppeal 2 10 := ⟨inT5 171 (by decide +kernel) rfl, inT5 173 (by decide +kernel) rfl, inG 16 (by decide +kernel) rfl, mf_X10_refusesAppeal, TX10, 9, rfl⟩
set_option maxRecDepth 100000 in
theorem mv_X10_425 : kMV RX10 425 mX0_inState 3 0 := ⟨inT5 175 (by decide +kernel) rfl, inT5 159 (by decide +kernel) rfl, inT5 160 (by decide +kernel) rfl, mf_X0_inState, TX0, 4, rfl⟩
set_option maxRecDepth 100000 in
theorem mf_X0_open : kMf mX0_open 2 := ⟨inT5 180 (by decide +kernel) rfl, inT1 7 (by decide +kernel) rfl, by decide +kernel, by decide +kernel⟩
set_option maxRecDepth 100000 in
theorem mv_X10_394 : kMV RX10 394 mX0_open 2 0 := ⟨inT5 177 (by decide +kernel) rfl, inT5 178 (by decide +kernel) rfl, inT5 179 (by decide +kernel) rfl, mf_X0_open, TX0, 4, rfl⟩
set_option maxRecDepth 100000 in
theorem mf_X10_remark : kMf mX10_remark 4 := ⟨inT5 187 (by decide +kernel) rfl, inT1 1 (by decide +kernel) rfl, by decide +kernel, by decide +kernel⟩
set_option maxRecDepth 100000 in
theorem mv_L_114 : kMV RL 114 mX10_remark 4 10 := ⟨inT5 184 (by decide +kernel) rfl, inT5 185 (by decide +kernel) rfl, inT5 186 (by decide +kernel) rfl, mf_X10_remark, TX10, 9, rfl⟩
set_option maxRecDepth 100000 in
theorem mf_X10_refusesRemark : kMf mX10_refusesRemark 4 := ⟨inT5 191 (by decide +kernel) rfl, inT1 1 (by decide +kernel) rfl, by decide +kernel, by decide +kernel⟩
set_option maxRecDepth 100000 in
theorem mv_X10_397 : kMV RX10 397 mX10_refusesRemark 4 10 := ⟨inT5 188 (by decide +kernel) rfl, inT5 190 (by decide +kernel) rfl, inG 17 (by decide +kernel) rfl, mf_X10_refusesRemark, TX10, 9, rfl⟩
set_option maxRecDepth 100000 in
theorem mv_X10_403 : kMV RX10 403 mX1_agree 2 1 := ⟨inT5 193 (by decide +kernel) rfl, inT4 10 (by decide +kernel) rfl, inT4 11 (by decide +kernel) rfl, mf_X1_agree, TX1, 12, rfl⟩
set_option maxRecDepth 100000 in
theorem mf_X0_close : kMf mX0_close 3 := ⟨inT5 197 (by decide +kernel) rfl, inT1 7 (by decide +kernel) rfl, by decide +kernel, by decide +kernel⟩
set_option maxRecDepth 100000 in
theorem mv_X10_406 : kMV RX10 406 mX0_close 3 0 := ⟨inT5 194 (by decide +kernel) rfl, inT5 195 (by decide +kernel) rfl, inT5 196 (by decide +kernel) rfl, mf_X0_close, TX0, 4, rfl⟩
set_option maxRecDepth 100000 in
theorem mf_X0_refund : kMf mX0_refund 1 := ⟨inT5 201 (by decide +kernel) rfl, inT1 7 (by decide +kernel) rfl, by decide +kernel, by decide +kernel⟩
set_option maxRecDepth 100000 in
theorem mv_X10_410 : kMV RX10 410 mX0_refund 1 0 := ⟨inT5 198 (by decide +kernel) rfl, inT5 199 (by decide +kernel) rfl, inT5 200 (by decide +kernel) rfl, mf_X0_refund, TX0, 4, rfl⟩
set_option maxRecDepth 100000 in
theorem mf_X10_account : kMf mX10_account 1 := ⟨inT5 208 (by decide +kernel) rfl, inT1 1 (by decide +kernel) rfl, by decide +kernel, by decide +kernel⟩
set_option maxRecDepth 100000 in
theorem mv_L_117 : kMV RL 117 mX10_account 1 10 := ⟨inT5 205 (by decide +kernel) rfl, inT5 206 (by decide +kernel) rfl, inT5 207 (by decide +kernel) rfl, mf_X10_account, TX10, 9, rfl⟩
set_option maxRecDepth 100000 in
theorem ms_X10_416 : kMS RX10 416 mX10_sumOf 1 := ⟨inT5 209 (by decide +kernel) rfl, inT4 183 (by decide +kernel) rfl, mf_X10_sumOf⟩
set_option maxRecDepth 100000 in
theorem mf_X10_report : kMf mX10_report 2 := ⟨inT5 216 (by decide +kernel) rfl, inT1 1 (by decide +kernel) rfl, by decide +kernel, by decide +kernel⟩
set_option maxRecDepth 100000 in
theorem mv_L_120 : kMV RL 120 mX10_report 2 10 := ⟨inT5 213 (by decide +kernel) rfl, inT5 214 (by decide +kernel) rfl, inT5 215 (by decide +kernel) rfl, mf_X10_report, TX10, 9, rfl⟩
set_option maxRecDepth 100000 in
theorem mf_X10_count : kMf mX10_count 1 := ⟨inT5 224 (by decide +kernel) rfl, inT1 1 (by decide +kernel) rfl, by decide +kernel, by decide +kernel⟩
set_option maxRecDepth 100000 in
theorem mv_L_123 : kMV RL 123 mX10_count 1 10 := ⟨inT5 221 (by decide +kernel) rfl, inT5 222 (by decide +kernel) rfl, inT5 223 (by decide +kernel) rfl, mf_X10_count, TX10, 9, rfl⟩
set_option maxRecDepth 100000 in
theorem mf_X7_markedSeeds : kMf mX7_markedSeeds 0 := ⟨inT5 228 (by decide +kernel) rfl, inT1 3 (by decide +kernel) rfl, by decide +kernel, by decide +kernel⟩
set_option maxRecDepth 100000 in
theorem mv_X10_440 : kMV RX10 440 mX7_markedSeeds 0 7 := ⟨inT5 225 (by decide +kernel) rfl, inT5 226 (by decide +kernel) rfl, inT5 227 (by decide +kernel) rfl, mf_X7_markedSeeds, TX7, 3, rfl⟩
set_option maxRecDepth 100000 in
theorem mf_X1_disputedScripts : kMf mX1_disputedScripts 0 := ⟨inT5 232 (by decide +kernel) rfl, inT1 2 (by decide +kernel) rfl, by decide +kernel, by decide +kernel⟩
set_option maxRecDepth 100000 in
theorem mv_X10_444 : kMV RX10 444 mX1_disputedScripts 0 1 := ⟨inT5 229 (by decide +kernel) rfl, inT5 230 (by decide +kernel) rfl, inT5 231 (by decide +kernel) rfl, mf_X1_disputedScripts, TX1, 12, rfl⟩
set_option maxRecDepth 100000 in
theorem mv_X1_166 : kMV RX1 166 mX1_standingOf 1 1 := ⟨inT5 233 (by decide +kernel) rfl, inT4 114 (by decide +kernel) rfl, inT4 115 (by decide +kernel) rfl, mf_X1_standingOf, TX1, 12, rfl⟩
set_option maxRecDepth 100000 in
theorem mv_X1_169 : kMV RX1 169 mX1_isExcused 2 1 := ⟨inT5 234 (by decide +kernel) rfl, inT4 125 (by decide +kernel) rfl, inT4 126 (by decide +kernel) rfl, mf_X1_isExcused, TX1, 12, rfl⟩
set_option maxRecDepth 100000 in
theorem mf_X10_undo : kMf mX10_undo 0 := ⟨inT6 1 (by decide +kernel) rfl, inT1 1 (by decide +kernel) rfl, by decide +kernel, by decide +kernel⟩
set_option maxRecDepth 100000 in
theorem mv_L_126 : kMV RL 126 mX10_undo 0 10 := ⟨inT5 238 (by decide +kernel) rfl, inT5 239 (by decide +kernel) rfl, inT6 0 (by decide +kernel) rfl, mf_X10_undo, TX10, 9, rfl⟩
set_option maxRecDepth 100000 in
theorem mf_X4_takeBack : kMf mX4_takeBack 1 := ⟨inT6 6 (by decide +kernel) rfl, inT1 8 (by decide +kernel) rfl, by decide +kernel, by decide +kernel⟩
set_option maxRecDepth 100000 in
theorem mv_X10_449 : kMV RX10 449 mX4_takeBack 1 4 := ⟨inT6 3 (by decide +kernel) rfl, inT6 4 (by decide +kernel) rfl, inT6 5 (by decide +kernel) rfl, mf_X4_takeBack, TX4, 3, rfl⟩
set_option maxRecDepth 100000 in
theorem mf_X10_restore : kMf mX10_restore 0 := ⟨inT6 13 (by decide +kernel) rfl, inT1 1 (by decide +kernel) rfl, by decide +kernel, by decide +kernel⟩
set_option maxRecDepth 100000 in
theorem mv_L_129 : kMV RL 129 mX10_restore 0 10 := ⟨inT6 10 (by decide +kernel) rfl, inT6 11 (by decide +kernel) rfl, inT6 12 (by decide +kernel) rfl, mf_X10_restore, TX10, 9, rfl⟩
set_option maxRecDepth 100000 in
theorem mf_X11_thrown : kMf mX11_thrown 0 := ⟨inT6 110 (by decide +kernel) rfl, inT1 13 (by decide +kernel) rfl, by decide +kernel, by decide +kernel⟩
set_option maxRecDepth 100000 in
theorem mv_L_142 : kMV RL 142 mX11_thrown 0 11 := ⟨inT6 107 (by decide +kernel) rfl, inT6 108 (by decide +kernel) rfl, inT6 109 (by decide +kernel) rfl, mf_X11_thrown, TX11, 28, rfl⟩
set_option maxRecDepth 100000 in
theorem mf_X11_setMaximum : kMf mX11_setMaximum 2 := ⟨inT6 114 (by decide +kernel) rfl, inT1 13 (by decide +kernel) rfl, by decide +kernel, by decide +kernel⟩
set_option maxRecDepth 100000 in
theorem mv_L_141 : kMV RL 141 mX11_setMaximum 2 11 := ⟨inT6 111 (by decide +kernel) rfl, inT6 112 (by decide +kernel) rfl, inT6 113 (by decide +kernel) rfl, mf_X11_setMaximum, TX11, 28, rfl⟩
set_option maxRecDepth 100000 in
theorem mf_X11_isQuestion : kMf mX11_isQuestion 1 := ⟨inT6 117 (by decide +kernel) rfl, inT1 13 (by decide +kernel) rfl, by decide +kernel, by decide +kernel⟩
set_option maxRecDepth 100000 in
theorem ms_X11_180 : kMS RX11 180 mX11_isQuestion 1 := ⟨inT6 115 (by decide +kernel) rfl, inT6 116 (by decide +kernel) rfl, mf_X11_isQuestion⟩
set_option maxRecDepth 100000 in
theorem mf_X11_in : kMf mX11_in 3 := ⟨inT6 120 (by decide +kernel) rfl, inT1 13 (by decide +kernel) rfl, by decide +kernel, by decide +kernel⟩
set_option maxRecDepth 100000 in
theorem ms_X11_51 : kMS RX11 51 mX11_in 3 := ⟨inT6 118 (by decide +kernel) rfl, inT6 119 (by decide +kernel) rfl, mf_X11_in⟩
set_option maxRecDepth 100000 in
theorem mf_X11_fails : kMf mX11_fails 1 := ⟨inT6 124 (by decide +kernel) rfl, inT1 13 (by decide +kernel) rfl, by decide +kernel, by decide +kernel⟩
set_option maxRecDepth 100000 in
theorem mv_X11_177 : kMV RX11 177 mX11_fails 1 11 := ⟨inT6 121 (by decide +kernel) rfl, inT6 123 (by decide +kernel) rfl, inG 18 (by decide +kernel) rfl, mf_X11_fails, TX11, 28, rfl⟩
set_option maxRecDepth 100000 in
theorem mf_X11_isPublished : kMf mX11_isPublished 0 := ⟨inT6 128 (by decide +kernel) rfl, inT1 13 (by decide +kernel) rfl, by decide +kernel, by decide +kernel⟩
set_option maxRecDepth 100000 in
theorem mv_X11_183 : kMV RX11 183 mX11_isPublished 0 11 := ⟨inT6 125 (by decide +kernel) rfl, inT6 127 (by decide +kernel) rfl, inG 19 (by decide +kernel) rfl, mf_X11_isPublished, TX11, 28, rfl⟩
set_option maxRecDepth 100000 in
theorem mf_X11_isAbove : kMf mX11_isAbove 2 := ⟨inT6 132 (by decide +kernel) rfl, inT1 13 (by decide +kernel) rfl, by decide +kernel, by decide +kernel⟩
set_option maxRecDepth 100000 in
theorem mv_X11_187 : kMV RX11 187 mX11_isAbove 2 11 := ⟨inT6 129 (by decide +kernel) rfl, inT6 131 (by decide +kernel) rfl, inG 20 (by decide +kernel) rfl, mf_X11_isAbove, TX11, 28, rfl⟩
set_option maxRecDepth 100000 in
theorem mf_X11_part : kMf mX11_part 2 := ⟨inT6 136 (by decide +kernel) rfl, inT1 13 (by decide +kernel) rfl, by decide +kernel, by decide +kernel⟩
set_option maxRecDepth 100000 in
theorem mv_X11_81 : kMV RX11 81 mX11_part 2 11 := ⟨inT6 133 (by decide +kernel) rfl, inT6 135 (by decide +kernel) rfl, inG 21 (by decide +kernel) rfl, mf_X11_part, TX11, 28, rfl⟩
set_option maxRecDepth 100000 in
theorem mf_X11_markedAt : kMf mX11_markedAt 3 := ⟨inT6 139 (by decide +kernel) rfl, inT1 13 (by decide +kernel) rfl, by decide +kernel, by decide +kernel⟩
set_option maxRecDepth 100000 in
theorem ms_X11_64 : kMS RX11 64 mX11_markedAt 3 := ⟨inT6 137 (by decide +kernel) rfl, inT6 138 (by decide +kernel) rfl, mf_X11_markedAt⟩
set_option maxRecDepth 100000 in
theorem mf_X11_changes : kMf mX11_changes 0 := ⟨inT6 143 (by decide +kernel) rfl, inT1 13 (by decide +kernel) rfl, by decide +kernel, by decide +kernel⟩
set_option maxRecDepth 100000 in
theorem mv_X11_190 : kMV RX11 190 mX11_changes 0 11 := ⟨inT6 140 (by decide +kernel) rfl, inT6 142 (by decide +kernel) rfl, inG 22 (by decide +kernel) rfl, mf_X11_changes, TX11, 28, rfl⟩
set_option maxRecDepth 100000 in
theorem mf_X11_frames : kMf mX11_frames 0 := ⟨inT6 147 (by decide +kernel) rfl, inT1 13 (by decide +kernel) rfl, by decide +kernel, by decide +kernel⟩
set_option maxRecDepth 100000 in
theorem mv_X11_58 : kMV RX11 58 mX11_frames 0 11 := ⟨inT6 144 (by decide +kernel) rfl, inT6 146 (by decide +kernel) rfl, inG 23 (by decide +kernel) rfl, mf_X11_frames, TX11, 28, rfl⟩
set_option maxRecDepth 100000 in
theorem mf_X11_keeps : kMf mX11_keeps 0 := ⟨inT6 151 (by decide +kernel) rfl, inT1 13 (by decide +kernel) rfl, by decide +kernel, by decide +kernel⟩
set_option maxRecDepth 100000 in
theorem mv_X11_61 : kMV RX11 61 mX11_keeps 0 11 := ⟨inT6 148 (by decide +kernel) rfl, inT6 150 (by decide +kernel) rfl, inG 24 (by decide +kernel) rfl, mf_X11_keeps, TX11, 28, rfl⟩
set_option maxRecDepth 100000 in
theorem mf_X11_set : kMf mX11_set 2 := ⟨inT6 155 (by decide +kernel) rfl, inT1 13 (by decide +kernel) rfl, by decide +kernel, by decide +kernel⟩
set_option maxRecDepth 100000 in
theorem mv_L_147 : kMV RL 147 mX11_set 2 11 := ⟨inT6 152 (by decide +kernel) rfl, inT6 153 (by decide +kernel) rfl, inT6 154 (by decide +kernel) rfl, mf_X11_set, TX11, 28, rfl⟩
set_option maxRecDepth 100000 in
theorem mf_X11_isValue : kMf mX11_isValue 2 := ⟨inT6 158 (by decide +kernel) rfl, inT1 13 (by decide +kernel) rfl, by decide +kernel, by decide +kernel⟩
set_option maxRecDepth 100000 in
theorem ms_X11_193 : kMS RX11 193 mX11_isValue 2 := ⟨inT6 156 (by decide +kernel) rfl, inT6 157 (by decide +kernel) rfl, mf_X11_isValue⟩
set_option maxRecDepth 100000 in
theorem mf_X11_addSeed : kMf mX11_addSeed 2 := ⟨inT6 162 (by decide +kernel) rfl, inT1 13 (by decide +kernel) rfl, by decide +kernel, by decide +kernel⟩
set_option maxRecDepth 100000 in
theorem mv_L_150 : kMV RL 150 mX11_addSeed 2 11 := ⟨inT6 159 (by decide +kernel) rfl, inT6 160 (by decide +kernel) rfl, inT6 161 (by decide +kernel) rfl, mf_X11_addSeed, TX11, 28, rfl⟩
set_option maxRecDepth 100000 in
theorem mf_X11_markSeed : kMf mX11_markSeed 4 := ⟨inT6 166 (by decide +kernel) rfl, inT1 13 (by decide +kernel) rfl, by decide +kernel, by decide +kernel⟩
set_option maxRecDepth 100000 in
theorem mv_L_154 : kMV RL 154 mX11_markSeed 4 11 := ⟨inT6 163 (by decide +kernel) rfl, inT6 164 (by decide +kernel) rfl, inT6 165 (by decide +kernel) rfl, mf_X11_markSeed, TX11, 28, rfl⟩
set_option maxRecDepth 100000 in
theorem mf_X11_isMarker : kMf mX11_isMarker 1 := ⟨inT6 169 (by decide +kernel) rfl, inT1 13 (by decide +kernel) rfl, by decide +kernel, by decide +kernel⟩
set_option maxRecDepth 100000 in
theorem ms_X11_196 : kMS RX11 196 mX11_isMarker 1 := ⟨inT6 167 (by decide +kernel) rfl, inT6 168 (by decide +kernel) rfl, mf_X11_isMarker⟩
set_option maxRecDepth 100000 in
theorem mf_X11_hasMarked : kMf mX11_hasMarked 3 := ⟨inT6 173 (by decide +kernel) rfl, inT1 13 (by decide +kernel) rfl, by decide +kernel, by decide +kernel⟩
set_option maxRecDepth 100000 in
theorem mv_X11_68 : kMV RX11 68 mX11_hasMarked 3 11 := ⟨inT6 170 (by decide +kernel) rfl, inT6 172 (by decide +kernel) rfl, inG 25 (by decide +kernel) rfl, mf_X11_hasMarked, TX11, 28, rfl⟩
set_option maxRecDepth 100000 in
theorem mf_X11_pays : kMf mX11_pays 2 := ⟨inT6 177 (by decide +kernel) rfl, inT1 13 (by decide +kernel) rfl, by decide +kernel, by decide +kernel⟩
set_option maxRecDepth 100000 in
theorem mv_X11_199 : kMV RX11 199 mX11_pays 2 11 := ⟨inT6 174 (by decide +kernel) rfl, inT6 176 (by decide +kernel) rfl, inG 26 (by decide +kernel) rfl, mf_X11_pays, TX11, 28, rfl⟩
set_option maxRecDepth 100000 in
theorem mf_X11_deviation : kMf mX11_deviation 3 := ⟨inT6 181 (by decide +kernel) rfl, inT1 13 (by decide +kernel) rfl, by decide +kernel, by decide +kernel⟩
set_option maxRecDepth 100000 in
theorem mv_X11_71 : kMV RX11 71 mX11_deviation 3 11 := ⟨inT6 178 (by decide +kernel) rfl, inT6 180 (by decide +kernel) rfl, inG 27 (by decide +kernel) rfl, mf_X11_deviation, TX11, 28, rfl⟩
set_option maxRecDepth 100000 in
theorem mf_X11_correction : kMf mX11_correction 2 := ⟨inT6 185 (by decide +kernel) rfl, inT1 13 (by decide +kernel) rfl, by decide +kernel, by decide +kernel⟩
set_option maxRecDepth 100000 in
theorem mv_L_157 : kMV RL 157 mX11_correction 2 11 := ⟨inT6 182 (by decide +kernel) rfl, inT6 183 (by decide +kernel) rfl, inT6 184 (by decide +kernel) rfl, mf_X11_correction, TX11, 28, rfl⟩
set_option maxRecDepth 100000 in
theorem mf_X11_markerRefusal : kMf mX11_markerRefusal 2 := ⟨inT6 189 (by decide +kernel) rfl, inT1 13 (by decide +kernel) rfl, by decide +kernel, by decide +kernel⟩
set_option maxRecDepth 100000 in
theorem mv_X11_202 : kMV RX11 202 mX11_markerRefusal 2 11 := ⟨inT6 186 (by decide +kernel) rfl, inT6 188 (by decide +kernel) rfl, inG 28 (by decide +kernel) rfl, mf_X11_markerRefusal, TX11, 28, rfl⟩
set_option maxRecDepth 100000 in
theorem mf_X11_corrects : kMf mX11_corrects 2 := ⟨inT6 193 (by decide +kernel) rfl, inT1 13 (by decide +kernel) rfl, by decide +kernel, by decide +kernel⟩
set_option maxRecDepth 100000 in
theorem mv_X11_92 : kMV RX11 92 mX11_corrects 2 11 := ⟨inT6 190 (by decide +kernel) rfl, inT6 192 (by decide +kernel) rfl, inG 29 (by decide +kernel) rfl, mf_X11_corrects, TX11, 28, rfl⟩
set_option maxRecDepth 100000 in
theorem mf_X11_amount : kMf mX11_amount 1 := ⟨inT6 196 (by decide +kernel) rfl, inT1 13 (by decide +kernel) rfl, by decide +kernel, by decide +kernel⟩
set_option maxRecDepth 100000 in
theorem ms_X11_74 : kMS RX11 74 mX11_amount 1 := ⟨inT6 194 (by decide +kernel) rfl, inT6 195 (by decide +kernel) rfl, mf_X11_amount⟩
set_option maxRecDepth 100000 in
theorem mf_X11_setting : kMf mX11_setting 1 := ⟨inT6 200 (by decide +kernel) rfl, inT1 13 (by decide +kernel) rfl, by decide +kernel, by decide +kernel⟩
set_option maxRecDepth 100000 in
theorem mv_X11_78 : kMV RX11 78 mX11_setting 1 11 := ⟨inT6 197 (by decide +kernel) rfl, inT6 199 (by decide +kernel) rfl, inG 30 (by decide +kernel) rfl, mf_X11_setting, TX11, 28, rfl⟩
set_option maxRecDepth 100000 in
theorem mf_X11_isSuspended : kMf mX11_isSuspended 2 := ⟨inT6 204 (by decide +kernel) rfl, inT1 13 (by decide +kernel) rfl, by decide +kernel, by decide +kernel⟩
set_option maxRecDepth 100000 in
theorem mv_L_160 : kMV RL 160 mX11_isSuspended 2 11 := ⟨inT6 201 (by decide +kernel) rfl, inT6 202 (by decide +kernel) rfl, inT6 203 (by decide +kernel) rfl, mf_X11_isSuspended, TX11, 28, rfl⟩
set_option maxRecDepth 100000 in
theorem mf_X11_suspended : kMf mX11_suspended 2 := ⟨inT6 208 (by decide +kernel) rfl, inT1 13 (by decide +kernel) rfl, by decide +kernel, by decide +kernel⟩
set_option maxRecDepth 100000 in
theorem mv_X11_88 : kMV RX11 88 mX11_suspended 2 11 := ⟨inT6 205 (by decide +kernel) rfl, inT6 207 (by decide +kernel) rfl, inG 31 (by decide +kernel) rfl, mf_X11_suspended, TX11, 28, rfl⟩
set_option maxRecDepth 100000 in
theorem mf_X11_enter : kMf mX11_enter 4 := ⟨inT6 212 (by decide +kernel) rfl, inT1 13 (by decide +kernel) rfl, by decide +kernel, by decide +kernel⟩
set_option maxRecDepth 100000 in
theorem mv_L_163 : kMV RL 163 mX11_enter 4 11 := ⟨inT6 209 (by decide +kernel) rfl, inT6 210 (by decide +kernel) rfl, inT6 211 (by decide +kernel) rfl, mf_X11_enter, TX11, 28, rfl⟩
set_option maxRecDepth 100000 in
theorem mf_X11_isCandidate : kMf mX11_isCandidate 1 := ⟨inT6 215 (by decide +kernel) rfl, inT1 13 (by decide +kernel) rfl, by decide +kernel, by decide +kernel⟩
set_option maxRecDepth 100000 in
theorem ms_X11_214 : kMS RX11 214 mX11_isCandidate 1 := ⟨inT6 213 (by decide +kernel) rfl, inT6 214 (by decide +kernel) rfl, mf_X11_isCandidate⟩
set_option maxRecDepth 100000 in
theorem mf_X11_refusal : kMf mX11_refusal 4 := ⟨inT6 219 (by decide +kernel) rfl, inT1 13 (by decide +kernel) rfl, by decide +kernel, by decide +kernel⟩
set_option maxRecDepth 100000 in
theorem mv_X11_217 : kMV RX11 217 mX11_refusal 4 11 := ⟨inT6 216 (by decide +kernel) rfl, inT6 218 (by decide +kernel) rfl, inG 32 (by decide +kernel) rfl, mf_X11_refusal, TX11, 28, rfl⟩
set_option maxRecDepth 100000 in
theorem mf_X11_hasEntered : kMf mX11_hasEntered 3 := ⟨inT6 223 (by decide +kernel) rfl, inT1 13 (by decide +kernel) rfl, by decide +kernel, by decide +kernel⟩
set_option maxRecDepth 100000 in
theorem mv_X11_208 : kMV RX11 208 mX11_hasEntered 3 11 := ⟨inT6 220 (by decide +kernel) rfl, inT6 222 (by decide +kernel) rfl, inG 33 (by decide +kernel) rfl, mf_X11_hasEntered, TX11, 28, rfl⟩
set_option maxRecDepth 100000 in
theorem mf_X11_isOf : kMf mX11_isOf 3 := ⟨inT6 227 (by decide +kernel) rfl, inT1 13 (by decide +kernel) rfl, by decide +kernel, by decide +kernel⟩
set_option maxRecDepth 100000 in
theorem mv_X11_85 : kMV RX11 85 mX11_isOf 3 11 := ⟨inT6 224 (by decide +kernel) rfl, inT6 226 (by decide +kernel) rfl, inG 34 (by decide +kernel) rfl, mf_X11_isOf, TX11, 28, rfl⟩
set_option maxRecDepth 100000 in
theorem mf_X11_entries : kMf mX11_entries 2 := ⟨inT6 231 (by decide +kernel) rfl, inT1 13 (by decide +kernel) rfl, by decide +kernel, by decide +kernel⟩
set_option maxRecDepth 100000 in
theorem mv_X11_211 : kMV RX11 211 mX11_entries 2 11 := ⟨inT6 228 (by decide +kernel) rfl, inT6 230 (by decide +kernel) rfl, inG 35 (by decide +kernel) rfl, mf_X11_entries, TX11, 28, rfl⟩
set_option maxRecDepth 100000 in
theorem mf_X11_finds : kMf mX11_finds 2 := ⟨inT6 235 (by decide +kernel) rfl, inT1 13 (by decide +kernel) rfl, by decide +kernel, by decide +kernel⟩
set_option maxRecDepth 100000 in
theorem mv_X11_108 : kMV RX11 108 mX11_finds 2 11 := ⟨inT6 232 (by decide +kernel) rfl, inT6 234 (by decide +kernel) rfl, inG 36 (by decide +kernel) rfl, mf_X11_finds, TX11, 28, rfl⟩
set_option maxRecDepth 100000 in
theorem mf_X11_isValid : kMf mX11_isValid 1 := ⟨inT6 239 (by decide +kernel) rfl, inT1 13 (by decide +kernel) rfl, by decide +kernel, by decide +kernel⟩
set_option maxRecDepth 100000 in
theorem mv_X11_98 : kMV RX11 98 mX11_isValid 1 11 := ⟨inT6 236 (by decide +kernel) rfl, inT6 238 (by decide +kernel) rfl, inG 37 (by decide +kernel) rfl, mf_X11_isValid, TX11, 28, rfl⟩
set_option maxRecDepth 100000 in
theorem mf_X11_value : kMf mX11_value 1 := ⟨inT7 3 (by decide +kernel) rfl, inT1 13 (by decide +kernel) rfl, by decide +kernel, by decide +kernel⟩
set_option maxRecDepth 100000 in
theorem mv_X11_102 : kMV RX11 102 mX11_value 1 11 := ⟨inT7 0 (by decide +kernel) rfl, inT7 2 (by decide +kernel) rfl, inG 38 (by decide +kernel) rfl, mf_X11_value, TX11, 28, rfl⟩
set_option maxRecDepth 100000 in
theorem mf_X11_agree : kMf mX11_agree 2 := ⟨inT7 7 (by decide +kernel) rfl, inT1 13 (by decide +kernel) rfl, by decide +kernel, by decide +kernel⟩
set_option maxRecDepth 100000 in
theorem mv_X11_112 : kMV RX11 112 mX11_agree 2 11 := ⟨inT7 4 (by decide +kernel) rfl, inT7 6 (by decide +kernel) rfl, inG 39 (by decide +kernel) rfl, mf_X11_agree, TX11, 28, rfl⟩
set_option maxRecDepth 100000 in
theorem mf_X11_reports : kMf mX11_reports 5 := ⟨inT7 11 (by decide +kernel) rfl, inT1 13 (by decide +kernel) rfl, by decide +kernel, by decide +kernel⟩
set_option maxRecDepth 100000 in
theorem mv_X11_221 : kMV RX11 221 mX11_reports 5 11 := ⟨inT7 8 (by decide +kernel) rfl, inT7 10 (by decide +kernel) rfl, inG 40 (by decide +kernel) rfl, mf_X11_reports, TX11, 28, rfl⟩
set_option maxRecDepth 100000 in
theorem mf_X11_enters : kMf mX11_enters 4 := ⟨inT7 15 (by decide +kernel) rfl, inT1 13 (by decide +kernel) rfl, by decide +kernel, by decide +kernel⟩
set_option maxRecDepth 100000 in
theorem mv_X11_224 : kMV RX11 224 mX11_enters 4 11 := ⟨inT7 12 (by decide +kernel) rfl, inT7 14 (by decide +kernel) rfl, inG 41 (by decide +kernel) rfl, mf_X11_enters, TX11, 28, rfl⟩
set_option maxRecDepth 100000 in
theorem mf_X11_append : kMf mX11_append 1 := ⟨inT7 19 (by decide +kernel) rfl, inT1 13 (by decide +kernel) rfl, by decide +kernel, by decide +kernel⟩
set_option maxRecDepth 100000 in
theorem mv_L_167 : kMV RL 167 mX11_append 1 11 := ⟨inT7 16 (by decide +kernel) rfl, inT7 17 (by decide +kernel) rfl, inT7 18 (by decide +kernel) rfl, mf_X11_append, TX11, 28, rfl⟩
set_option maxRecDepth 100000 in
theorem mf_X11_sheet : kMf mX11_sheet 0 := ⟨inT7 23 (by decide +kernel) rfl, inT1 13 (by decide +kernel) rfl, by decide +kernel, by decide +kernel⟩
set_option maxRecDepth 100000 in
theorem mv_L_171 : kMV RL 171 mX11_sheet 0 11 := ⟨inT7 20 (by decide +kernel) rfl, inT7 21 (by decide +kernel) rfl, inT7 22 (by decide +kernel) rfl, mf_X11_sheet, TX11, 28, rfl⟩
set_option maxRecDepth 100000 in
theorem mf_X11_isSheet : kMf mX11_isSheet 0 := ⟨inT7 27 (by decide +kernel) rfl, inT1 13 (by decide +kernel) rfl, by decide +kernel, by decide +kernel⟩
set_option maxRecDepth 100000 in
theorem mv_X11_257 : kMV RX11 257 mX11_isSheet 0 11 := ⟨inT7 24 (by decide +kernel) rfl, inT7 26 (by decide +kernel) rfl, inG 42 (by decide +kernel) rfl, mf_X11_isSheet, TX11, 28, rfl⟩
set_option maxRecDepth 100000 in
theorem mf_X11_digit : kMf mX11_digit 1 := ⟨inT7 31 (by decide +kernel) rfl, inT1 13 (by decide +kernel) rfl, by decide +kernel, by decide +kernel⟩
set_option maxRecDepth 100000 in
theorem mv_X11_241 : kMV RX11 241 mX11_digit 1 11 := ⟨inT7 28 (by decide +kernel) rfl, inT7 30 (by decide +kernel) rfl, inG 43 (by decide +kernel) rfl, mf_X11_digit, TX11, 28, rfl⟩
set_option maxRecDepth 100000 in
theorem mf_X11_here : kMf mX11_here 0 := ⟨inT7 35 (by decide +kernel) rfl, inT1 13 (by decide +kernel) rfl, by decide +kernel, by decide +kernel⟩
set_option maxRecDepth 100000 in
theorem mv_X11_238 : kMV RX11 238 mX11_here 0 11 := ⟨inT7 32 (by decide +kernel) rfl, inT7 34 (by decide +kernel) rfl, inG 44 (by decide +kernel) rfl, mf_X11_here, TX11, 28, rfl⟩
set_option maxRecDepth 100000 in
theorem mf_X11_must : kMf mX11_must 1 := ⟨inT7 39 (by decide +kernel) rfl, inT1 13 (by decide +kernel) rfl, by decide +kernel, by decide +kernel⟩
set_option maxRecDepth 100000 in
theorem mv_X11_248 : kMV RX11 248 mX11_must 1 11 := ⟨inT7 36 (by decide +kernel) rfl, inT7 38 (by decide +kernel) rfl, inG 45 (by decide +kernel) rfl, mf_X11_must, TX11, 28, rfl⟩
set_option maxRecDepth 100000 in
theorem mf_X11_readsEntry : kMf mX11_readsEntry 0 := ⟨inT7 43 (by decide +kernel) rfl, inT1 13 (by decide +kernel) rfl, by decide +kernel, by decide +kernel⟩
set_option maxRecDepth 100000 in
theorem mv_X11_254 : kMV RX11 254 mX11_readsEntry 0 11 := ⟨inT7 40 (by decide +kernel) rfl, inT7 42 (by decide +kernel) rfl, inG 46 (by decide +kernel) rfl, mf_X11_readsEntry, TX11, 28, rfl⟩
set_option maxRecDepth 100000 in
theorem mf_X11_errorPosition : kMf mX11_errorPosition 0 := ⟨inT7 47 (by decide +kernel) rfl, inT1 13 (by decide +kernel) rfl, by decide +kernel, by decide +kernel⟩
set_option maxRecDepth 100000 in
theorem mv_L_175 : kMV RL 175 mX11_errorPosition 0 11 := ⟨inT7 44 (by decide +kernel) rfl, inT7 45 (by decide +kernel) rfl, inT7 46 (by decide +kernel) rfl, mf_X11_errorPosition, TX11, 28, rfl⟩
set_option maxRecDepth 100000 in
theorem mf_X11_entry : kMf mX11_entry 4 := ⟨inT7 51 (by decide +kernel) rfl, inT1 13 (by decide +kernel) rfl, by decide +kernel, by decide +kernel⟩
set_option maxRecDepth 100000 in
theorem mv_L_178 : kMV RL 178 mX11_entry 4 11 := ⟨inT7 48 (by decide +kernel) rfl, inT7 49 (by decide +kernel) rfl, inT7 50 (by decide +kernel) rfl, mf_X11_entry, TX11, 28, rfl⟩
set_option maxRecDepth 100000 in
theorem mf_X11_scriptRefusal : kMf mX11_scriptRefusal 2 := ⟨inT7 55 (by decide +kernel) rfl, inT1 13 (by decide +kernel) rfl, by decide +kernel, by decide +kernel⟩
set_option maxRecDepth 100000 in
theorem mv_X11_260 : kMV RX11 260 mX11_scriptRefusal 2 11 := ⟨inT7 52 (by decide +kernel) rfl, inT7 54 (by decide +kernel) rfl, inG 47 (by decide +kernel) rfl, mf_X11_scriptRefusal, TX11, 28, rfl⟩
set_option maxRecDepth 100000 in
theorem mf_X11_entryOf : kMf mX11_entryOf 3 := ⟨inT7 59 (by decide +kernel) rfl, inT1 13 (by decide +kernel) rfl, by decide +kernel, by decide +kernel⟩
set_option maxRecDepth 100000 in
theorem mv_X11_263 : kMV RX11 263 mX11_entryOf 3 11 := ⟨inT7 56 (by decide +kernel) rfl, inT7 58 (by decide +kernel) rfl, inG 48 (by decide +kernel) rfl, mf_X11_entryOf, TX11, 28, rfl⟩
set_option maxRecDepth 100000 in
theorem mf_X11_script : kMf mX11_script 3 := ⟨inT7 63 (by decide +kernel) rfl, inT1 13 (by decide +kernel) rfl, by decide +kernel, by decide +kernel⟩
set_option maxRecDepth 100000 in
theorem mv_L_182 : kMV RL 182 mX11_script 3 11 := ⟨inT7 60 (by decide +kernel) rfl, inT7 61 (by decide +kernel) rfl, inT7 62 (by decide +kernel) rfl, mf_X11_script, TX11, 28, rfl⟩
set_option maxRecDepth 100000 in
theorem mf_X11_settled : kMf mX11_settled 2 := ⟨inT7 67 (by decide +kernel) rfl, inT1 13 (by decide +kernel) rfl, by decide +kernel, by decide +kernel⟩
set_option maxRecDepth 100000 in
theorem mv_X11_118 : kMV RX11 118 mX11_settled 2 11 := ⟨inT7 64 (by decide +kernel) rfl, inT7 66 (by decide +kernel) rfl, inG 49 (by decide +kernel) rfl, mf_X11_settled, TX11, 28, rfl⟩
set_option maxRecDepth 100000 in
theorem mf_X11_appealPart : kMf mX11_appealPart 3 := ⟨inT7 71 (by decide +kernel) rfl, inT1 13 (by decide +kernel) rfl, by decide +kernel, by decide +kernel⟩
set_option maxRecDepth 100000 in
theorem mv_X11_105 : kMV RX11 105 mX11_appealPart 3 11 := ⟨inT7 68 (by decide +kernel) rfl, inT7 70 (by decide +kernel) rfl, inG 50 (by decide +kernel) rfl, mf_X11_appealPart, TX11, 28, rfl⟩
set_option maxRecDepth 100000 in
theorem mf_X11_state : kMf mX11_state 2 := ⟨inT7 75 (by decide +kernel) rfl, inT1 13 (by decide +kernel) rfl, by decide +kernel, by decide +kernel⟩
set_option maxRecDepth 100000 in
theorem mv_X11_266 : kMV RX11 266 mX11_state 2 11 := ⟨inT7 72 (by decide +kernel) rfl, inT7 74 (by decide +kernel) rfl, inG 51 (by decide +kernel) rfl, mf_X11_state, TX11, 28, rfl⟩
set_option maxRecDepth 100000 in
theorem mf_X11_excuse : kMf mX11_excuse 3 := ⟨inT7 79 (by decide +kernel) rfl, inT1 13 (by decide +kernel) rfl, by decide +kernel, by decide +kernel⟩
set_option maxRecDepth 100000 in
theorem mv_L_186 : kMV RL 186 mX11_excuse 3 11 := ⟨inT7 76 (by decide +kernel) rfl, inT7 77 (by decide +kernel) rfl, inT7 78 (by decide +kernel) rfl, mf_X11_excuse, TX11, 28, rfl⟩
set_option maxRecDepth 100000 in
theorem mf_X11_isExcused : kMf mX11_isExcused 2 := ⟨inT7 83 (by decide +kernel) rfl, inT1 13 (by decide +kernel) rfl, by decide +kernel, by decide +kernel⟩
set_option maxRecDepth 100000 in
theorem mv_X11_121 : kMV RX11 121 mX11_isExcused 2 11 := ⟨inT7 80 (by decide +kernel) rfl, inT7 82 (by decide +kernel) rfl, inG 52 (by decide +kernel) rfl, mf_X11_isExcused, TX11, 28, rfl⟩
set_option maxRecDepth 100000 in
theorem mf_X11_bits : kMf mX11_bits 1 := ⟨inT7 86 (by decide +kernel) rfl, inT1 13 (by decide +kernel) rfl, by decide +kernel, by decide +kernel⟩
set_option maxRecDepth 100000 in
theorem ms_X11_269 : kMS RX11 269 mX11_bits 1 := ⟨inT7 84 (by decide +kernel) rfl, inT7 85 (by decide +kernel) rfl, mf_X11_bits⟩
set_option maxRecDepth 100000 in
theorem mf_X11_raise : kMf mX11_raise 2 := ⟨inT7 90 (by decide +kernel) rfl, inT1 13 (by decide +kernel) rfl, by decide +kernel, by decide +kernel⟩
set_option maxRecDepth 100000 in
theorem mv_L_189 : kMV RL 189 mX11_raise 2 11 := ⟨inT7 87 (by decide +kernel) rfl, inT7 88 (by decide +kernel) rfl, inT7 89 (by decide +kernel) rfl, mf_X11_raise, TX11, 28, rfl⟩
set_option maxRecDepth 100000 in
theorem mf_X11_setPoint : kMf mX11_setPoint 2 := ⟨inT7 94 (by decide +kernel) rfl, inT1 13 (by decide +kernel) rfl, by decide +kernel, by decide +kernel⟩
set_option maxRecDepth 100000 in
theorem mv_L_192 : kMV RL 192 mX11_setPoint 2 11 := ⟨inT7 91 (by decide +kernel) rfl, inT7 92 (by decide +kernel) rfl, inT7 93 (by decide +kernel) rfl, mf_X11_setPoint, TX11, 28, rfl⟩
set_option maxRecDepth 100000 in
theorem mf_X11_pointAt : kMf mX11_pointAt 1 := ⟨inT7 98 (by decide +kernel) rfl, inT1 13 (by decide +kernel) rfl, by decide +kernel, by decide +kernel⟩
set_option maxRecDepth 100000 in
theorem mv_X11_272 : kMV RX11 272 mX11_pointAt 1 11 := ⟨inT7 95 (by decide +kernel) rfl, inT7 97 (by decide +kernel) rfl, inG 53 (by decide +kernel) rfl, mf_X11_pointAt, TX11, 28, rfl⟩
set_option maxRecDepth 100000 in
theorem mf_X11_removePoint : kMf mX11_removePoint 1 := ⟨inT7 102 (by decide +kernel) rfl, inT1 13 (by decide +kernel) rfl, by decide +kernel, by decide +kernel⟩
set_option maxRecDepth 100000 in
theorem mv_L_195 : kMV RL 195 mX11_removePoint 1 11 := ⟨inT7 99 (by decide +kernel) rfl, inT7 100 (by decide +kernel) rfl, inT7 101 (by decide +kernel) rfl, mf_X11_removePoint, TX11, 28, rfl⟩
set_option maxRecDepth 100000 in
theorem mf_X11_curve : kMf mX11_curve 1 := ⟨inT7 106 (by decide +kernel) rfl, inT1 13 (by decide +kernel) rfl, by decide +kernel, by decide +kernel⟩
set_option maxRecDepth 100000 in
theorem mv_L_198 : kMV RL 198 mX11_curve 1 11 := ⟨inT7 103 (by decide +kernel) rfl, inT7 104 (by decide +kernel) rfl, inT7 105 (by decide +kernel) rfl, mf_X11_curve, TX11, 28, rfl⟩
set_option maxRecDepth 100000 in
theorem mf_X11_full : kMf mX11_full 0 := ⟨inT7 110 (by decide +kernel) rfl, inT1 13 (by decide +kernel) rfl, by decide +kernel, by decide +kernel⟩
set_option maxRecDepth 100000 in
theorem mv_X11_124 : kMV RX11 124 mX11_full 0 11 := ⟨inT7 107 (by decide +kernel) rfl, inT7 109 (by decide +kernel) rfl, inG 54 (by decide +kernel) rfl, mf_X11_full, TX11, 28, rfl⟩
set_option maxRecDepth 100000 in
theorem mf_X11_scaled : kMf mX11_scaled 2 := ⟨inT7 114 (by decide +kernel) rfl, inT1 13 (by decide +kernel) rfl, by decide +kernel, by decide +kernel⟩
set_option maxRecDepth 100000 in
theorem mv_X11_153 : kMV RX11 153 mX11_scaled 2 11 := ⟨inT7 111 (by decide +kernel) rfl, inT7 113 (by decide +kernel) rfl, inG 55 (by decide +kernel) rfl, mf_X11_scaled, TX11, 28, rfl⟩
set_option maxRecDepth 100000 in
theorem mf_X11_rounded : kMf mX11_rounded 2 := ⟨inT7 118 (by decide +kernel) rfl, inT1 13 (by decide +kernel) rfl, by decide +kernel, by decide +kernel⟩
set_option maxRecDepth 100000 in
theorem ms_X11_145 : kMS RX11 145 mX11_rounded 2 := ⟨inT7 116 (by decide +kernel) rfl, inT7 117 (by decide +kernel) rfl, mf_X11_rounded⟩
set_option maxRecDepth 100000 in
theorem mf_X11_setBoundary : kMf mX11_setBoundary 2 := ⟨inT7 123 (by decide +kernel) rfl, inT1 13 (by decide +kernel) rfl, by decide +kernel, by decide +kernel⟩
set_option maxRecDepth 100000 in
theorem mv_L_201 : kMV RL 201 mX11_setBoundary 2 11 := ⟨inT7 120 (by decide +kernel) rfl, inT7 121 (by decide +kernel) rfl, inT7 122 (by decide +kernel) rfl, mf_X11_setBoundary, TX11, 28, rfl⟩
set_option maxRecDepth 100000 in
theorem mf_X11_result : kMf mX11_result 2 := ⟨inT7 127 (by decide +kernel) rfl, inT1 13 (by decide +kernel) rfl, by decide +kernel, by decide +kernel⟩
set_option maxRecDepth 100000 in
theorem mv_L_204 : kMV RL 204 mX11_result 2 11 := ⟨inT7 124 (by decide +kernel) rfl, inT7 125 (by decide +kernel) rfl, inT7 126 (by decide +kernel) rfl, mf_X11_result, TX11, 28, rfl⟩
set_option maxRecDepth 100000 in
theorem mf_X11_hasGrade : kMf mX11_hasGrade 1 := ⟨inT7 131 (by decide +kernel) rfl, inT1 13 (by decide +kernel) rfl, by decide +kernel, by decide +kernel⟩
set_option maxRecDepth 100000 in
theorem mv_X11_115 : kMV RX11 115 mX11_hasGrade 1 11 := ⟨inT7 128 (by decide +kernel) rfl, inT7 130 (by decide +kernel) rfl, inG 56 (by decide +kernel) rfl, mf_X11_hasGrade, TX11, 28, rfl⟩
set_option maxRecDepth 100000 in
theorem mf_X11_marksOf : kMf mX11_marksOf 1 := ⟨inT7 135 (by decide +kernel) rfl, inT1 13 (by decide +kernel) rfl, by decide +kernel, by decide +kernel⟩
set_option maxRecDepth 100000 in
theorem mv_X11_168 : kMV RX11 168 mX11_marksOf 1 11 := ⟨inT7 132 (by decide +kernel) rfl, inT7 134 (by decide +kernel) rfl, inG 57 (by decide +kernel) rfl, mf_X11_marksOf, TX11, 28, rfl⟩
set_option maxRecDepth 100000 in
theorem mf_X11_grades : kMf mX11_grades 1 := ⟨inT7 139 (by decide +kernel) rfl, inT1 13 (by decide +kernel) rfl, by decide +kernel, by decide +kernel⟩
set_option maxRecDepth 100000 in
theorem mv_X11_171 : kMV RX11 171 mX11_grades 1 11 := ⟨inT7 136 (by decide +kernel) rfl, inT7 138 (by decide +kernel) rfl, inG 58 (by decide +kernel) rfl, mf_X11_grades, TX11, 28, rfl⟩
set_option maxRecDepth 100000 in
theorem mf_X11_raws : kMf mX11_raws 1 := ⟨inT7 143 (by decide +kernel) rfl, inT1 13 (by decide +kernel) rfl, by decide +kernel, by decide +kernel⟩
set_option maxRecDepth 100000 in
theorem mv_X11_149 : kMV RX11 149 mX11_raws 1 11 := ⟨inT7 140 (by decide +kernel) rfl, inT7 142 (by decide +kernel) rfl, inG 59 (by decide +kernel) rfl, mf_X11_raws, TX11, 28, rfl⟩
set_option maxRecDepth 100000 in
theorem mf_X11_divisor : kMf mX11_divisor 2 := ⟨inT7 147 (by decide +kernel) rfl, inT1 13 (by decide +kernel) rfl, by decide +kernel, by decide +kernel⟩
set_option maxRecDepth 100000 in
theorem ms_X11_132 : kMS RX11 132 mX11_divisor 2 := ⟨inT7 145 (by decide +kernel) rfl, inT7 146 (by decide +kernel) rfl, mf_X11_divisor⟩
set_option maxRecDepth 100000 in
theorem mf_X11_isLifted : kMf mX11_isLifted 1 := ⟨inT7 151 (by decide +kernel) rfl, inT1 13 (by decide +kernel) rfl, by decide +kernel, by decide +kernel⟩
set_option maxRecDepth 100000 in
theorem mv_X11_162 : kMV RX11 162 mX11_isLifted 1 11 := ⟨inT7 148 (by decide +kernel) rfl, inT7 150 (by decide +kernel) rfl, inG 60 (by decide +kernel) rfl, mf_X11_isLifted, TX11, 28, rfl⟩
set_option maxRecDepth 100000 in
theorem mf_X11_recount : kMf mX11_recount 1 := ⟨inT7 155 (by decide +kernel) rfl, inT1 13 (by decide +kernel) rfl, by decide +kernel, by decide +kernel⟩
set_option maxRecDepth 100000 in
theorem mv_L_207 : kMV RL 207 mX11_recount 1 11 := ⟨inT7 152 (by decide +kernel) rfl, inT7 153 (by decide +kernel) rfl, inT7 154 (by decide +kernel) rfl, mf_X11_recount, TX11, 28, rfl⟩
set_option maxRecDepth 100000 in
theorem mf_X11_ranked : kMf mX11_ranked 1 := ⟨inT7 159 (by decide +kernel) rfl, inT1 13 (by decide +kernel) rfl, by decide +kernel, by decide +kernel⟩
set_option maxRecDepth 100000 in
theorem mv_L_210 : kMV RL 210 mX11_ranked 1 11 := ⟨inT7 156 (by decide +kernel) rfl, inT7 157 (by decide +kernel) rfl, inT7 158 (by decide +kernel) rfl, mf_X11_ranked, TX11, 28, rfl⟩
set_option maxRecDepth 100000 in
theorem mf_X11_isAhead : kMf mX11_isAhead 2 := ⟨inT7 163 (by decide +kernel) rfl, inT1 13 (by decide +kernel) rfl, by decide +kernel, by decide +kernel⟩
set_option maxRecDepth 100000 in
theorem mv_X11_275 : kMV RX11 275 mX11_isAhead 2 11 := ⟨inT7 160 (by decide +kernel) rfl, inT7 162 (by decide +kernel) rfl, inG 61 (by decide +kernel) rfl, mf_X11_isAhead, TX11, 28, rfl⟩
set_option maxRecDepth 100000 in
theorem mf_X11_graded : kMf mX11_graded 1 := ⟨inT7 167 (by decide +kernel) rfl, inT1 13 (by decide +kernel) rfl, by decide +kernel, by decide +kernel⟩
set_option maxRecDepth 100000 in
theorem mv_L_213 : kMV RL 213 mX11_graded 1 11 := ⟨inT7 164 (by decide +kernel) rfl, inT7 165 (by decide +kernel) rfl, inT7 166 (by decide +kernel) rfl, mf_X11_graded, TX11, 28, rfl⟩
set_option maxRecDepth 100000 in
theorem mf_X11_gradeOf : kMf mX11_gradeOf 1 := ⟨inT7 171 (by decide +kernel) rfl, inT1 13 (by decide +kernel) rfl, by decide +kernel, by decide +kernel⟩
set_option maxRecDepth 100000 in
theorem mv_X11_278 : kMV RX11 278 mX11_gradeOf 1 11 := ⟨inT7 168 (by decide +kernel) rfl, inT7 170 (by decide +kernel) rfl, inG 62 (by decide +kernel) rfl, mf_X11_gradeOf, TX11, 28, rfl⟩
set_option maxRecDepth 100000 in
theorem mf_X11_gradeIf : kMf mX11_gradeIf 3 := ⟨inT7 175 (by decide +kernel) rfl, inT1 13 (by decide +kernel) rfl, by decide +kernel, by decide +kernel⟩
set_option maxRecDepth 100000 in
theorem mv_L_216 : kMV RL 216 mX11_gradeIf 3 11 := ⟨inT7 172 (by decide +kernel) rfl, inT7 173 (by decide +kernel) rfl, inT7 174 (by decide +kernel) rfl, mf_X11_gradeIf, TX11, 28, rfl⟩
set_option maxRecDepth 100000 in
theorem mf_X11_gradeWith : kMf mX11_gradeWith 3 := ⟨inT7 179 (by decide +kernel) rfl, inT1 13 (by decide +kernel) rfl, by decide +kernel, by decide +kernel⟩
set_option maxRecDepth 100000 in
theorem mv_X11_281 : kMV RX11 281 mX11_gradeWith 3 11 := ⟨inT7 176 (by decide +kernel) rfl, inT7 178 (by decide +kernel) rfl, inG 63 (by decide +kernel) rfl, mf_X11_gradeWith, TX11, 28, rfl⟩
set_option maxRecDepth 100000 in
theorem mf_X11_needed : kMf mX11_needed 3 := ⟨inT7 183 (by decide +kernel) rfl, inT1 13 (by decide +kernel) rfl, by decide +kernel, by decide +kernel⟩
set_option maxRecDepth 100000 in
theorem mv_L_219 : kMV RL 219 mX11_needed 3 11 := ⟨inT7 180 (by decide +kernel) rfl, inT7 181 (by decide +kernel) rfl, inT7 182 (by decide +kernel) rfl, mf_X11_needed, TX11, 28, rfl⟩
set_option maxRecDepth 100000 in
theorem mf_X11_meanBits : kMf mX11_meanBits 1 := ⟨inT7 187 (by decide +kernel) rfl, inT1 13 (by decide +kernel) rfl, by decide +kernel, by decide +kernel⟩
set_option maxRecDepth 100000 in
theorem mv_L_222 : kMV RL 222 mX11_meanBits 1 11 := ⟨inT7 184 (by decide +kernel) rfl, inT7 185 (by decide +kernel) rfl, inT7 186 (by decide +kernel) rfl, mf_X11_meanBits, TX11, 28, rfl⟩
set_option maxRecDepth 100000 in
theorem mf_Jxe99ae_doubleToLongBits_ccdee : kMf mJxe99ae_doubleToLongBits_ccdee 1 := ⟨inT7 191 (by decide +kernel) rfl, inT1 30 (by decide +kernel) rfl, by decide +kernel, by decide +kernel⟩
set_option maxRecDepth 100000 in
theorem ms_X11_286 : kMS RX11 286 mJxe99ae_doubleToLongBits_ccdee 1 := ⟨inT7 189 (by decide +kernel) rfl, inT7 190 (by decide +kernel) rfl, mf_Jxe99ae_doubleToLongBits_ccdee⟩
set_option maxRecDepth 100000 in
theorem mf_Jxe99ae_isNaN_b9ae7 : kMf mJxe99ae_isNaN_b9ae7 1 := ⟨inT7 194 (by decide +kernel) rfl, inT1 30 (by decide +kernel) rfl, by decide +kernel, by decide +kernel⟩
set_option maxRecDepth 100000 in
theorem ms_Jxe99ae_122 : kMS RJxe99ae 122 mJxe99ae_isNaN_b9ae7 1 := ⟨inT7 192 (by decide +kernel) rfl, inT7 193 (by decide +kernel) rfl, mf_Jxe99ae_isNaN_b9ae7⟩
set_option maxRecDepth 100000 in
theorem mf_X11_validBits : kMf mX11_validBits 1 := ⟨inT7 202 (by decide +kernel) rfl, inT1 13 (by decide +kernel) rfl, by decide +kernel, by decide +kernel⟩
set_option maxRecDepth 100000 in
theorem mv_L_225 : kMV RL 225 mX11_validBits 1 11 := ⟨inT7 199 (by decide +kernel) rfl, inT7 200 (by decide +kernel) rfl, inT7 201 (by decide +kernel) rfl, mf_X11_validBits, TX11, 28, rfl⟩
set_option maxRecDepth 100000 in
theorem mf_Jxf58ca_floatToIntBits_5c35a : kMf mJxf58ca_floatToIntBits_5c35a 1 := ⟨inT7 205 (by decide +kernel) rfl, inT1 31 (by decide +kernel) rfl, by decide +kernel, by decide +kernel⟩
set_option maxRecDepth 100000 in
theorem ms_X11_292 : kMS RX11 292 mJxf58ca_floatToIntBits_5c35a 1 := ⟨inT7 203 (by decide +kernel) rfl, inT7 204 (by decide +kernel) rfl, mf_Jxf58ca_floatToIntBits_5c35a⟩
set_option maxRecDepth 100000 in
theorem mf_Jxf58ca_isNaN_12338 : kMf mJxf58ca_isNaN_12338 1 := ⟨inT7 208 (by decide +kernel) rfl, inT1 31 (by decide +kernel) rfl, by decide +kernel, by decide +kernel⟩
set_option maxRecDepth 100000 in
theorem ms_Jxf58ca_59 : kMS RJxf58ca 59 mJxf58ca_isNaN_12338 1 := ⟨inT7 206 (by decide +kernel) rfl, inT7 207 (by decide +kernel) rfl, mf_Jxf58ca_isNaN_12338⟩
set_option maxRecDepth 100000 in
theorem mf_X11_publish : kMf mX11_publish 0 := ⟨inT7 216 (by decide +kernel) rfl, inT1 13 (by decide +kernel) rfl, by decide +kernel, by decide +kernel⟩
set_option maxRecDepth 100000 in
theorem mv_L_228 : kMV RL 228 mX11_publish 0 11 := ⟨inT7 213 (by decide +kernel) rfl, inT7 214 (by decide +kernel) rfl, inT7 215 (by decide +kernel) rfl, mf_X11_publish, TX11, 28, rfl⟩
set_option maxRecDepth 100000 in
theorem mf_X11_withGrades : kMf mX11_withGrades 0 := ⟨inT7 220 (by decide +kernel) rfl, inT1 13 (by decide +kernel) rfl, by decide +kernel, by decide +kernel⟩
set_option maxRecDepth 100000 in
theorem mv_X11_298 : kMV RX11 298 mX11_withGrades 0 11 := ⟨inT7 217 (by decide +kernel) rfl, inT7 219 (by decide +kernel) rfl, inG 64 (by decide +kernel) rfl, mf_X11_withGrades, TX11, 28, rfl⟩
set_option maxRecDepth 100000 in
theorem mf_X11_withdraw : kMf mX11_withdraw 0 := ⟨inT7 224 (by decide +kernel) rfl, inT1 13 (by decide +kernel) rfl, by decide +kernel, by decide +kernel⟩
set_option maxRecDepth 100000 in
theorem mv_L_231 : kMV RL 231 mX11_withdraw 0 11 := ⟨inT7 221 (by decide +kernel) rfl, inT7 222 (by decide +kernel) rfl, inT7 223 (by decide +kernel) rfl, mf_X11_withdraw, TX11, 28, rfl⟩
set_option maxRecDepth 100000 in
theorem mf_X11_allAppeals : kMf mX11_allAppeals 2 := ⟨inT7 228 (by decide +kernel) rfl, inT1 13 (by decide +kernel) rfl, by decide +kernel, by decide +kernel⟩
set_option maxRecDepth 100000 in
theorem mv_X11_304 : kMV RX11 304 mX11_allAppeals 2 11 := ⟨inT7 225 (by decide +kernel) rfl, inT7 227 (by decide +kernel) rfl, inG 65 (by decide +kernel) rfl, mf_X11_allAppeals, TX11, 28, rfl⟩
set_option maxRecDepth 100000 in
theorem mf_X11_appeals : kMf mX11_appeals 3 := ⟨inT7 232 (by decide +kernel) rfl, inT1 13 (by decide +kernel) rfl, by decide +kernel, by decide +kernel⟩
set_option maxRecDepth 100000 in
theorem mv_X11_301 : kMV RX11 301 mX11_appeals 3 11 := ⟨inT7 229 (by decide +kernel) rfl, inT7 231 (by decide +kernel) rfl, inG 66 (by decide +kernel) rfl, mf_X11_appeals, TX11, 28, rfl⟩
set_option maxRecDepth 100000 in
theorem mf_X11_appeal : kMf mX11_appeal 2 := ⟨inT7 236 (by decide +kernel) rfl, inT1 13 (by decide +kernel) rfl, by decide +kernel, by decide +kernel⟩
set_option maxRecDepth 100000 in
theorem mv_L_234 : kMV RL 234 mX11_appeal 2 11 := ⟨inT7 233 (by decide +kernel) rfl, inT7 234 (by decide +kernel) rfl, inT7 235 (by decide +kernel) rfl, mf_X11_appeal, TX11, 28, rfl⟩
set_option maxRecDepth 100000 in
theorem mf_X11_remark : kMf mX11_remark 4 := ⟨inT8 0 (by decide +kernel) rfl, inT1 13 (by decide +kernel) rfl, by decide +kernel, by decide +kernel⟩
set_option maxRecDepth 100000 in
theorem mv_L_237 : kMV RL 237 mX11_remark 4 11 := ⟨inT7 237 (by decide +kernel) rfl, inT7 238 (by decide +kernel) rfl, inT7 239 (by decide +kernel) rfl, mf_X11_remark, TX11, 28, rfl⟩
set_option maxRecDepth 100000 in
theorem mf_X11_account : kMf mX11_account 1 := ⟨inT8 4 (by decide +kernel) rfl, inT1 13 (by decide +kernel) rfl, by decide +kernel, by decide +kernel⟩
set_option maxRecDepth 100000 in
theorem mv_L_240 : kMV RL 240 mX11_account 1 11 := ⟨inT8 1 (by decide +kernel) rfl, inT8 2 (by decide +kernel) rfl, inT8 3 (by decide +kernel) rfl, mf_X11_account, TX11, 28, rfl⟩
set_option maxRecDepth 100000 in
theorem mf_X11_levels : kMf mX11_levels 0 := ⟨inT8 8 (by decide +kernel) rfl, inT1 13 (by decide +kernel) rfl, by decide +kernel, by decide +kernel⟩
set_option maxRecDepth 100000 in
theorem mv_L_244 : kMV RL 244 mX11_levels 0 11 := ⟨inT8 5 (by decide +kernel) rfl, inT8 6 (by decide +kernel) rfl, inT8 7 (by decide +kernel) rfl, mf_X11_levels, TX11, 28, rfl⟩
set_option maxRecDepth 100000 in
theorem mf_X11_report : kMf mX11_report 2 := ⟨inT8 12 (by decide +kernel) rfl, inT1 13 (by decide +kernel) rfl, by decide +kernel, by decide +kernel⟩
set_option maxRecDepth 100000 in
theorem mv_L_247 : kMV RL 247 mX11_report 2 11 := ⟨inT8 9 (by decide +kernel) rfl, inT8 10 (by decide +kernel) rfl, inT8 11 (by decide +kernel) rfl, mf_X11_report, TX11, 28, rfl⟩
set_option maxRecDepth 100000 in
theorem mf_X11_count : kMf mX11_count 1 := ⟨inT8 16 (by decide +kernel) rfl, inT1 13 (by decide +kernel) rfl, by decide +kernel, by decide +kernel⟩
set_option maxRecDepth 100000 in
theorem mv_L_250 : kMV RL 250 mX11_count 1 11 := ⟨inT8 13 (by decide +kernel) rfl, inT8 14 (by decide +kernel) rfl, inT8 15 (by decide +kernel) rfl, mf_X11_count, TX11, 28, rfl⟩
set_option maxRecDepth 100000 in
theorem mf_X11_seeds : kMf mX11_seeds 0 := ⟨inT8 20 (by decide +kernel) rfl, inT1 13 (by decide +kernel) rfl, by decide +kernel, by decide +kernel⟩
set_option maxRecDepth 100000 in
theorem mv_X11_307 : kMV RX11 307 mX11_seeds 0 11 := ⟨inT8 17 (by decide +kernel) rfl, inT8 19 (by decide +kernel) rfl, inG 67 (by decide +kernel) rfl, mf_X11_seeds, TX11, 28, rfl⟩
set_option maxRecDepth 100000 in
theorem mf_X11_seedMarks : kMf mX11_seedMarks 0 := ⟨inT8 24 (by decide +kernel) rfl, inT1 13 (by decide +kernel) rfl, by decide +kernel, by decide +kernel⟩
set_option maxRecDepth 100000 in
theorem mv_X11_310 : kMV RX11 310 mX11_seedMarks 0 11 := ⟨inT8 21 (by decide +kernel) rfl, inT8 23 (by decide +kernel) rfl, inG 68 (by decide +kernel) rfl, mf_X11_seedMarks, TX11, 28, rfl⟩
set_option maxRecDepth 100000 in
theorem mf_X11_disputed : kMf mX11_disputed 0 := ⟨inT8 28 (by decide +kernel) rfl, inT1 13 (by decide +kernel) rfl, by decide +kernel, by decide +kernel⟩
set_option maxRecDepth 100000 in
theorem mv_X11_313 : kMV RX11 313 mX11_disputed 0 11 := ⟨inT8 25 (by decide +kernel) rfl, inT8 27 (by decide +kernel) rfl, inG 69 (by decide +kernel) rfl, mf_X11_disputed, TX11, 28, rfl⟩
set_option maxRecDepth 100000 in
theorem mf_X11_undo : kMf mX11_undo 0 := ⟨inT8 32 (by decide +kernel) rfl, inT1 13 (by decide +kernel) rfl, by decide +kernel, by decide +kernel⟩
set_option maxRecDepth 100000 in
theorem mv_L_253 : kMV RL 253 mX11_undo 0 11 := ⟨inT8 29 (by decide +kernel) rfl, inT8 30 (by decide +kernel) rfl, inT8 31 (by decide +kernel) rfl, mf_X11_undo, TX11, 28, rfl⟩
set_option maxRecDepth 100000 in
theorem mf_X11_save : kMf mX11_save 0 := ⟨inT8 36 (by decide +kernel) rfl, inT1 13 (by decide +kernel) rfl, by decide +kernel, by decide +kernel⟩
set_option maxRecDepth 100000 in
theorem mv_L_257 : kMV RL 257 mX11_save 0 11 := ⟨inT8 33 (by decide +kernel) rfl, inT8 34 (by decide +kernel) rfl, inT8 35 (by decide +kernel) rfl, mf_X11_save, TX11, 28, rfl⟩
set_option maxRecDepth 100000 in
theorem mf_X11_restore : kMf mX11_restore 0 := ⟨inT8 40 (by decide +kernel) rfl, inT1 13 (by decide +kernel) rfl, by decide +kernel, by decide +kernel⟩
set_option maxRecDepth 100000 in
theorem mv_L_260 : kMV RL 260 mX11_restore 0 11 := ⟨inT8 37 (by decide +kernel) rfl, inT8 38 (by decide +kernel) rfl, inT8 39 (by decide +kernel) rfl, mf_X11_restore, TX11, 28, rfl⟩
def kATb (w : Cond) : Bool := (goodWord w && decide (w ∈ lw_tbl)) || (match w with | .castable a b => decide ((a, b) ∈ kNC) | .declares y => decide (y ∈ kND) | _ => false)
theorem kAT_of {ws : List Cond} (h : ws.all kATb = true) : ∀ w ∈ ws, w ∈ kG ∨ (∃ q ∈ kNC, w = .castable q.1 q.2) ∨ (∃ q ∈ kND, w = .declares q) := by
  intro w hw
  have h1 := List.all_eq_true.mp h w hw
  unfold kATb at h1
  rw [Bool.or_eq_true, Bool.and_eq_true] at h1
  rcases h1 with ⟨g1, g2⟩ | g
  · exact Or.inl (List.mem_filter.mpr ⟨of_decide_eq_true g2, g1⟩)
  · cases w <;> first | (cases g; done) | exact Or.inr (Or.inl ⟨_, of_decide_eq_true g, rfl⟩) | exact Or.inr (Or.inr ⟨_, of_decide_eq_true g, rfl⟩)
set_option maxRecDepth 100000 in
theorem th_0 : kTH RX10 76 0 := ⟨by decide +kernel, inT1 23 (by decide +kernel) rfl, kAT_of (by decide +kernel), by decide +kernel⟩
set_option maxRecDepth 100000 in
theorem th_1 : kTH RX10 182 1 := ⟨by decide +kernel, inT1 20 (by decide +kernel) rfl, kAT_of (by decide +kernel), by decide +kernel⟩
set_option maxRecDepth 100000 in
theorem th_2 : kTH RX10 91 2 := ⟨by decide +kernel, inT1 17 (by decide +kernel) rfl, kAT_of (by decide +kernel), by decide +kernel⟩
set_option maxRecDepth 100000 in
theorem th_3 : kTH RX10 351 3 := ⟨by decide +kernel, inT1 29 (by decide +kernel) rfl, kAT_of (by decide +kernel), by decide +kernel⟩
set_option maxRecDepth 100000 in
theorem th_4 : kTH RX10 159 4 := ⟨by decide +kernel, inT1 21 (by decide +kernel) rfl, kAT_of (by decide +kernel), by decide +kernel⟩
set_option maxRecDepth 100000 in
theorem ck_0 : Cond.classLink RX10 72 (exName 0) ∈ kG := inT3 93 (by decide +kernel) rfl
set_option maxRecDepth 100000 in
theorem ck_1 : Cond.classLink RX10 178 (exName 1) ∈ kG := inT3 33 (by decide +kernel) rfl
set_option maxRecDepth 100000 in
theorem ck_2 : Cond.classLink RX10 87 (exName 2) ∈ kG := inT3 17 (by decide +kernel) rfl
set_option maxRecDepth 100000 in
theorem ck_3 : Cond.classLink RX10 347 (exName 3) ∈ kG := inT5 106 (by decide +kernel) rfl
set_option maxRecDepth 100000 in
theorem ck_4 : Cond.classLink RX10 155 (exName 4) ∈ kG := inT3 53 (by decide +kernel) rfl
set_option maxRecDepth 100000 in
theorem ck_5 : Cond.classLink RX10 209 (exName 5) ∈ kG := inT4 78 (by decide +kernel) rfl

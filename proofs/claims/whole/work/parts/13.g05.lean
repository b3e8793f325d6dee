def f_X8_accepts_251 (p1 : Int)  (s1 : Int) (μ : Mu) : Option Res := rb (f_X8_goesOn s1 4 μ) fun μ x1 => retZ μ x1
set_option maxRecDepth 100000 in
theorem c_X8_accepts_251 (X : kX) (p1 : Int)  {res : Res}  (s1 : Int) (μ : Mu) (h : f_X8_accepts_251 p1 s1 μ = some res) : KK X mX8_accepts 2 1 res 251 [] [.int (iI s1), .ref (X.1 + 219)] μ := by
  unfold f_X8_accepts_251 at h
  refine K_iconst (md := mX8_accepts) (pc := 251) (x := 4) (kTab_at (pc := 251) tX8_accepts_ok 116 rfl) rfl ?_
  refine Z_callV (md := mX8_accepts) (pc := 252) (st := []) (sv := (fun x1 => [.int (iI x1)])) (kTab_at (pc := 252) tX8_accepts_ok 117 rfl) mv_X8_50 sk_219 rfl (Nat.le_of_ble_eq_true rfl) (by decide) rfl (c_X8_goesOn X s1 4 μ) (fun _ => rfl) h (fun μ x1 h => ?_) rfl
  exact Z_zret (md := mX8_accepts) (pc := 255) (kTab_at (pc := 255) tX8_accepts_ok 118 rfl) rfl rfl h
def f_X8_accepts_238 (p1 : Int)  (s0 : Int) (μ : Mu) : Option Res := retZ μ s0
set_option maxRecDepth 100000 in
theorem c_X8_accepts_238 (X : kX) (p1 : Int)  {res : Res}  (s0 : Int) (μ : Mu) (h : f_X8_accepts_238 p1 s0 μ = some res) : KK X mX8_accepts 2 1 res 238 [] [.int (iI s0)] μ := by
  unfold f_X8_accepts_238 at h
  exact Z_zret (md := mX8_accepts) (pc := 238) (kTab_at (pc := 238) tX8_accepts_ok 108 rfl) rfl rfl h
def f_X8_accepts_234 (p1 : Int)  (s1 : Int) (μ : Mu) : Option Res := rb (f_X8_goesOn s1 4 μ) fun μ x1 => f_X8_accepts_238 p1 x1 μ
set_option maxRecDepth 100000 in
theorem c_X8_accepts_234 (X : kX) (p1 : Int)  {res : Res}  (s1 : Int) (μ : Mu) (h : f_X8_accepts_234 p1 s1 μ = some res) : KK X mX8_accepts 2 1 res 234 [] [.int (iI s1), .ref (X.1 + 219)] μ := by
  unfold f_X8_accepts_234 at h
  refine K_iconst (md := mX8_accepts) (pc := 234) (x := 4) (kTab_at (pc := 234) tX8_accepts_ok 106 rfl) rfl ?_
  refine Z_callV (md := mX8_accepts) (pc := 235) (st := []) (sv := (fun x1 => [.int (iI x1)])) (kTab_at (pc := 235) tX8_accepts_ok 107 rfl) mv_X8_50 sk_219 rfl (Nat.le_of_ble_eq_true rfl) (by decide) rfl (c_X8_goesOn X s1 4 μ) (fun _ => rfl) h (fun μ x1 h => ?_) rfl
  refine c_X8_accepts_238 X p1  x1 μ h
def f_X8_accepts_207 (p1 : Int)  (s0 : Int) (μ : Mu) : Option Res := retZ μ s0
set_option maxRecDepth 100000 in
theorem c_X8_accepts_207 (X : kX) (p1 : Int)  {res : Res}  (s0 : Int) (μ : Mu) (h : f_X8_accepts_207 p1 s0 μ = some res) : KK X mX8_accepts 2 1 res 207 [] [.int (iI s0)] μ := by
  unfold f_X8_accepts_207 at h
  exact Z_zret (md := mX8_accepts) (pc := 207) (kTab_at (pc := 207) tX8_accepts_ok 91 rfl) rfl rfl h
def f_X8_accepts_206 (p1 : Int)   (μ : Mu) : Option Res := f_X8_accepts_207 p1 0 μ
set_option maxRecDepth 100000 in
theorem c_X8_accepts_206 (X : kX) (p1 : Int)  {res : Res}  (μ : Mu) (h : f_X8_accepts_206 p1 μ = some res) : KK X mX8_accepts 2 1 res 206 [] [] μ := by
  unfold f_X8_accepts_206 at h
  refine K_iconst (md := mX8_accepts) (pc := 206) (x := 0) (kTab_at (pc := 206) tX8_accepts_ok 90 rfl) rfl ?_
  refine c_X8_accepts_207 X p1  0 μ h
def f_X8_accepts_196 (p1 : Int)  (s1 : Int) (s2 : Int) (μ : Mu) : Option Res := rb (f_X8_takesDigit s1 s2 μ) fun μ x1 => i_eq x1 0 (f_X8_accepts_206 p1 μ) (f_X8_accepts_207 p1 1 μ)
set_option maxRecDepth 100000 in
theorem c_X8_accepts_196 (X : kX) (p1 : Int)  {res : Res}  (s1 : Int) (s2 : Int) (μ : Mu) (h : f_X8_accepts_196 p1 s1 s2 μ = some res) : KK X mX8_accepts 2 1 res 196 [] [.int (iI s2), .int (iI s1), .ref (X.1 + 219)] μ := by
  unfold f_X8_accepts_196 at h
  refine Z_callV (md := mX8_accepts) (pc := 196) (st := []) (sv := (fun x1 => [.int (iI x1)])) (kTab_at (pc := 196) tX8_accepts_ok 86 rfl) mv_X8_61 sk_219 rfl (Nat.le_of_ble_eq_true rfl) (by decide) rfl (c_X8_takesDigit X s1 s2 μ) (fun _ => rfl) h (fun μ x1 h => ?_) rfl
  refine K_if_eq (md := mX8_accepts) (pc := 199) (kTab_at (pc := 199) tX8_accepts_ok 87 rfl) (tgt := 206) rfl h (fun h => ?_) (fun h => ?_)
  · refine c_X8_accepts_206 X p1  μ h
  · refine K_iconst (md := mX8_accepts) (pc := 202) (x := 1) (kTab_at (pc := 202) tX8_accepts_ok 88 rfl) rfl ?_
    refine K_goto (md := mX8_accepts) (pc := 203) (tgt := 207) (kTab_at (pc := 203) tX8_accepts_ok 89 rfl) rfl ?_
    refine c_X8_accepts_207 X p1  1 μ h
def f_X8_accepts_173 (p1 : Int)  (s1 : Int) (μ : Mu) : Option Res := rb (f_X8_goesOn s1 6 μ) fun μ x1 => retZ μ x1
set_option maxRecDepth 100000 in
theorem c_X8_accepts_173 (X : kX) (p1 : Int)  {res : Res}  (s1 : Int) (μ : Mu) (h : f_X8_accepts_173 p1 s1 μ = some res) : KK X mX8_accepts 2 1 res 173 [] [.int (iI s1), .ref (X.1 + 219)] μ := by
  unfold f_X8_accepts_173 at h
  refine K_bipush (md := mX8_accepts) (pc := 173) (x := 6) (kTab_at (pc := 173) tX8_accepts_ok 74 rfl) (by decide) ?_
  refine Z_callV (md := mX8_accepts) (pc := 175) (st := []) (sv := (fun x1 => [.int (iI x1)])) (kTab_at (pc := 175) tX8_accepts_ok 75 rfl) mv_X8_50 sk_219 rfl (Nat.le_of_ble_eq_true rfl) (by decide) rfl (c_X8_goesOn X s1 6 μ) (fun _ => rfl) h (fun μ x1 h => ?_) rfl
  exact Z_zret (md := mX8_accepts) (pc := 178) (kTab_at (pc := 178) tX8_accepts_ok 76 rfl) rfl rfl h
def f_X8_accepts_160 (p1 : Int)  (s0 : Int) (μ : Mu) : Option Res := retZ μ s0
set_option maxRecDepth 100000 in
theorem c_X8_accepts_160 (X : kX) (p1 : Int)  {res : Res}  (s0 : Int) (μ : Mu) (h : f_X8_accepts_160 p1 s0 μ = some res) : KK X mX8_accepts 2 1 res 160 [] [.int (iI s0)] μ := by
  unfold f_X8_accepts_160 at h
  exact Z_zret (md := mX8_accepts) (pc := 160) (kTab_at (pc := 160) tX8_accepts_ok 66 rfl) rfl rfl h
def f_X8_accepts_159 (p1 : Int)   (μ : Mu) : Option Res := f_X8_accepts_160 p1 0 μ
set_option maxRecDepth 100000 in
theorem c_X8_accepts_159 (X : kX) (p1 : Int)  {res : Res}  (μ : Mu) (h : f_X8_accepts_159 p1 μ = some res) : KK X mX8_accepts 2 1 res 159 [] [] μ := by
  unfold f_X8_accepts_159 at h
  refine K_iconst (md := mX8_accepts) (pc := 159) (x := 0) (kTab_at (pc := 159) tX8_accepts_ok 65 rfl) rfl ?_
  refine c_X8_accepts_160 X p1  0 μ h
def f_X8_accepts_133 (p1 : Int)  (s1 : Int) (μ : Mu) : Option Res := rb (f_X8_goesOn s1 4 μ) fun μ x1 => retZ μ x1
set_option maxRecDepth 100000 in
theorem c_X8_accepts_133 (X : kX) (p1 : Int)  {res : Res}  (s1 : Int) (μ : Mu) (h : f_X8_accepts_133 p1 s1 μ = some res) : KK X mX8_accepts 2 1 res 133 [] [.int (iI s1), .ref (X.1 + 219)] μ := by
  unfold f_X8_accepts_133 at h
  refine K_iconst (md := mX8_accepts) (pc := 133) (x := 4) (kTab_at (pc := 133) tX8_accepts_ok 52 rfl) rfl ?_
  refine Z_callV (md := mX8_accepts) (pc := 134) (st := []) (sv := (fun x1 => [.int (iI x1)])) (kTab_at (pc := 134) tX8_accepts_ok 53 rfl) mv_X8_50 sk_219 rfl (Nat.le_of_ble_eq_true rfl) (by decide) rfl (c_X8_goesOn X s1 4 μ) (fun _ => rfl) h (fun μ x1 h => ?_) rfl
  exact Z_zret (md := mX8_accepts) (pc := 137) (kTab_at (pc := 137) tX8_accepts_ok 54 rfl) rfl rfl h
def f_X8_accepts_100 (p1 : Int)  (s1 : Int) (μ : Mu) : Option Res := rb (f_X8_goesOn s1 2 μ) fun μ x1 => retZ μ x1
set_option maxRecDepth 100000 in
theorem c_X8_accepts_100 (X : kX) (p1 : Int)  {res : Res}  (s1 : Int) (μ : Mu) (h : f_X8_accepts_100 p1 s1 μ = some res) : KK X mX8_accepts 2 1 res 100 [] [.int (iI s1), .ref (X.1 + 219)] μ := by
  unfold f_X8_accepts_100 at h
  refine K_iconst (md := mX8_accepts) (pc := 100) (x := 2) (kTab_at (pc := 100) tX8_accepts_ok 32 rfl) rfl ?_
  refine Z_callV (md := mX8_accepts) (pc := 101) (st := []) (sv := (fun x1 => [.int (iI x1)])) (kTab_at (pc := 101) tX8_accepts_ok 33 rfl) mv_X8_50 sk_219 rfl (Nat.le_of_ble_eq_true rfl) (by decide) rfl (c_X8_goesOn X s1 2 μ) (fun _ => rfl) h (fun μ x1 h => ?_) rfl
  exact Z_zret (md := mX8_accepts) (pc := 104) (kTab_at (pc := 104) tX8_accepts_ok 34 rfl) rfl rfl h
def f_X8_accepts_20 (p1 : Int)  (s0 : Int) (μ : Mu) : Option Res := rdF μ 219 1 fun x1 => i_sw x1 0 [wrF μ 219 4 s0 fun μ => rb (f_X10_isBelow s0 4 μ) fun μ x2 => rb (f_X8_goesOn x2 1 μ) fun μ x3 => retZ μ x3, i_eq p1 47 (f_X8_accepts_100 p1 1 μ) (f_X8_accepts_100 p1 0 μ), wrF μ 219 5 s0 fun μ => rb (f_X10_isBelow s0 5 μ) fun μ x4 => rb (f_X8_goesOn x4 3 μ) fun μ x5 => retZ μ x5, i_eq p1 58 (f_X8_accepts_133 p1 1 μ) (f_X8_accepts_133 p1 0 μ), rb (f_X10_isBelow s0 8 μ) fun μ x6 => i_eq x6 0 (f_X8_accepts_159 p1 μ) (rb (f_X8_startsEntry s0 μ) fun μ x7 => i_eq x7 0 (f_X8_accepts_159 p1 μ) (f_X8_accepts_160 p1 1 μ)), i_eq p1 61 (f_X8_accepts_173 p1 1 μ) (f_X8_accepts_173 p1 0 μ), i_lt s0 0 (f_X8_accepts_206 p1 μ) (i_eq s0 0 (f_X8_accepts_196 p1 s0 8 μ) (f_X8_accepts_196 p1 s0 7 μ)), i_lt s0 0 (i_eq p1 44 (f_X8_accepts_234 p1 1 μ) (f_X8_accepts_234 p1 0 μ)) (rb (f_X8_takesDigit s0 8 μ) fun μ x8 => f_X8_accepts_238 p1 x8 μ)] (i_eq p1 44 (f_X8_accepts_251 p1 1 μ) (f_X8_accepts_251 p1 0 μ))
set_option maxRecDepth 100000 in
theorem c_X8_accepts_20 (X : kX) (p1 : Int)  {res : Res}  (s0 : Int) (μ : Mu) (h : f_X8_accepts_20 p1 s0 μ = some res) : KK X mX8_accepts 2 1 res 20 [(0, .ref (X.1 + 219)), (1, .int (iI p1))] [.int (iI s0)] μ := by
  unfold f_X8_accepts_20 at h
  refine K_istore_n (md := mX8_accepts) (pc := 20) (l' := [(2, .int (iI s0)), (0, .ref (X.1 + 219)), (1, .int (iI p1))]) (kTab_at (pc := 20) tX8_accepts_ok 11 rfl) (Nat.le_of_ble_eq_true rfl) rfl ?_
  refine K_aload_n (md := mX8_accepts) (pc := 21) 1 (kTab_at (pc := 21) tX8_accepts_ok 12 rfl) rfl ?_
  refine Z_getI (md := mX8_accepts) (pc := 22) (kTab_at (pc := 22) tX8_accepts_ok 13 rfl) fl_X8_29 sk_219 (Or.inl rfl) h (fun x1 h => ?_)
  refine K_tsw (md := mX8_accepts) (pc := 25) (dt := 239) (kTab_at (pc := 25) tX8_accepts_ok 14 rfl) rfl rfl h (And.intro (fun h => ⟨72, rfl, ?_⟩) (And.intro (fun h => ⟨88, rfl, ?_⟩) (And.intro (fun h => ⟨105, rfl, ?_⟩) (And.intro (fun h => ⟨121, rfl, ?_⟩) (And.intro (fun h => ⟨138, rfl, ?_⟩) (And.intro (fun h => ⟨161, rfl, ?_⟩) (And.intro (fun h => ⟨179, rfl, ?_⟩) (And.intro (fun h => ⟨208, rfl, ?_⟩) (True.intro))))))))) (fun h => ?_)
  · refine K_aload_n (md := mX8_accepts) (pc := 72) 1 (kTab_at (pc := 72) tX8_accepts_ok 15 rfl) rfl ?_
    refine K_iload_n (md := mX8_accepts) (pc := 73) 0 (kTab_at (pc := 73) tX8_accepts_ok 16 rfl) rfl ?_
    refine Z_putI (md := mX8_accepts) (pc := 74) (kTab_at (pc := 74) tX8_accepts_ok 17 rfl) fl_X8_43 sk_219 rfl h (fun μ h => ?_)
    refine K_aload_n (md := mX8_accepts) (pc := 77) 1 (kTab_at (pc := 77) tX8_accepts_ok 18 rfl) rfl ?_
    refine K_iload_n (md := mX8_accepts) (pc := 78) 0 (kTab_at (pc := 78) tX8_accepts_ok 19 rfl) rfl ?_
    refine K_iconst (md := mX8_accepts) (pc := 79) (x := 4) (kTab_at (pc := 79) tX8_accepts_ok 20 rfl) rfl ?_
    refine Z_callSN (md := mX8_accepts) (pc := 80) (st := [.ref (X.1 + 219)]) (sv := (fun x2 => [.int (iI x2), .ref (X.1 + 219)])) (kTab_at (pc := 80) tX8_accepts_ok 21 rfl) mn_X8_46 rfl (Nat.le_of_ble_eq_true rfl) (by decide) (c_X10_isBelow X s0 4 μ) (n_X10_isBelow s0 4 μ) (fun _ => rfl) h (fun μ x2 h => ?_) rfl
    refine K_iconst (md := mX8_accepts) (pc := 83) (x := 1) (kTab_at (pc := 83) tX8_accepts_ok 22 rfl) rfl ?_
    refine Z_callV (md := mX8_accepts) (pc := 84) (st := []) (sv := (fun x3 => [.int (iI x3)])) (kTab_at (pc := 84) tX8_accepts_ok 23 rfl) mv_X8_50 sk_219 rfl (Nat.le_of_ble_eq_true rfl) (by decide) rfl (c_X8_goesOn X x2 1 μ) (fun _ => rfl) h (fun μ x3 h => ?_) rfl
    exact Z_zret (md := mX8_accepts) (pc := 87) (kTab_at (pc := 87) tX8_accepts_ok 24 rfl) rfl rfl h
  · refine K_aload_n (md := mX8_accepts) (pc := 88) 1 (kTab_at (pc := 88) tX8_accepts_ok 25 rfl) rfl ?_
    refine K_iload_n (md := mX8_accepts) (pc := 89) 2 (kTab_at (pc := 89) tX8_accepts_ok 26 rfl) rfl ?_
    refine K_bipush (md := mX8_accepts) (pc := 90) (x := 47) (kTab_at (pc := 90) tX8_accepts_ok 27 rfl) (by decide) ?_
    refine K_icmp_ne (md := mX8_accepts) (pc := 92) (kTab_at (pc := 92) tX8_accepts_ok 28 rfl) (tgt := 99) rfl h (fun h => ?_) (fun h => ?_)
    · refine K_iconst (md := mX8_accepts) (pc := 99) (x := 0) (kTab_at (pc := 99) tX8_accepts_ok 31 rfl) rfl ?_
      refine K_sub [] rfl ?_
      refine c_X8_accepts_100 X p1  0 μ h
    · refine K_iconst (md := mX8_accepts) (pc := 95) (x := 1) (kTab_at (pc := 95) tX8_accepts_ok 29 rfl) rfl ?_
      refine K_goto (md := mX8_accepts) (pc := 96) (tgt := 100) (kTab_at (pc := 96) tX8_accepts_ok 30 rfl) rfl ?_
      refine K_sub [] rfl ?_
      refine c_X8_accepts_100 X p1  1 μ h
  · refine K_aload_n (md := mX8_accepts) (pc := 105) 1 (kTab_at (pc := 105) tX8_accepts_ok 35 rfl) rfl ?_
    refine K_iload_n (md := mX8_accepts) (pc := 106) 0 (kTab_at (pc := 106) tX8_accepts_ok 36 rfl) rfl ?_
    refine Z_putI (md := mX8_accepts) (pc := 107) (kTab_at (pc := 107) tX8_accepts_ok 37 rfl) fl_X8_54 sk_219 rfl h (fun μ h => ?_)
    refine K_aload_n (md := mX8_accepts) (pc := 110) 1 (kTab_at (pc := 110) tX8_accepts_ok 38 rfl) rfl ?_
    refine K_iload_n (md := mX8_accepts) (pc := 111) 0 (kTab_at (pc := 111) tX8_accepts_ok 39 rfl) rfl ?_
    refine K_iconst (md := mX8_accepts) (pc := 112) (x := 5) (kTab_at (pc := 112) tX8_accepts_ok 40 rfl) rfl ?_
    refine Z_callSN (md := mX8_accepts) (pc := 113) (st := [.ref (X.1 + 219)]) (sv := (fun x4 => [.int (iI x4), .ref (X.1 + 219)])) (kTab_at (pc := 113) tX8_accepts_ok 41 rfl) mn_X8_46 rfl (Nat.le_of_ble_eq_true rfl) (by decide) (c_X10_isBelow X s0 5 μ) (n_X10_isBelow s0 5 μ) (fun _ => rfl) h (fun μ x4 h => ?_) rfl
    refine K_iconst (md := mX8_accepts) (pc := 116) (x := 3) (kTab_at (pc := 116) tX8_accepts_ok 42 rfl) rfl ?_
    refine Z_callV (md := mX8_accepts) (pc := 117) (st := []) (sv := (fun x5 => [.int (iI x5)])) (kTab_at (pc := 117) tX8_accepts_ok 43 rfl) mv_X8_50 sk_219 rfl (Nat.le_of_ble_eq_true rfl) (by decide) rfl (c_X8_goesOn X x4 3 μ) (fun _ => rfl) h (fun μ x5 h => ?_) rfl
    exact Z_zret (md := mX8_accepts) (pc := 120) (kTab_at (pc := 120) tX8_accepts_ok 44 rfl) rfl rfl h
  · refine K_aload_n (md := mX8_accepts) (pc := 121) 1 (kTab_at (pc := 121) tX8_accepts_ok 45 rfl) rfl ?_
    refine K_iload_n (md := mX8_accepts) (pc := 122) 2 (kTab_at (pc := 122) tX8_accepts_ok 46 rfl) rfl ?_
    refine K_bipush (md := mX8_accepts) (pc := 123) (x := 58) (kTab_at (pc := 123) tX8_accepts_ok 47 rfl) (by decide) ?_
    refine K_icmp_ne (md := mX8_accepts) (pc := 125) (kTab_at (pc := 125) tX8_accepts_ok 48 rfl) (tgt := 132) rfl h (fun h => ?_) (fun h => ?_)
    · refine K_iconst (md := mX8_accepts) (pc := 132) (x := 0) (kTab_at (pc := 132) tX8_accepts_ok 51 rfl) rfl ?_
      refine K_sub [] rfl ?_
      refine c_X8_accepts_133 X p1  0 μ h
    · refine K_iconst (md := mX8_accepts) (pc := 128) (x := 1) (kTab_at (pc := 128) tX8_accepts_ok 49 rfl) rfl ?_
      refine K_goto (md := mX8_accepts) (pc := 129) (tgt := 133) (kTab_at (pc := 129) tX8_accepts_ok 50 rfl) rfl ?_
      refine K_sub [] rfl ?_
      refine c_X8_accepts_133 X p1  1 μ h
  · refine K_iload_n (md := mX8_accepts) (pc := 138) 0 (kTab_at (pc := 138) tX8_accepts_ok 55 rfl) rfl ?_
    refine K_bipush (md := mX8_accepts) (pc := 139) (x := 8) (kTab_at (pc := 139) tX8_accepts_ok 56 rfl) (by decide) ?_
    refine Z_callSN (md := mX8_accepts) (pc := 141) (st := []) (sv := (fun x6 => [.int (iI x6)])) (kTab_at (pc := 141) tX8_accepts_ok 57 rfl) mn_X8_46 rfl (Nat.le_of_ble_eq_true rfl) (by decide) (c_X10_isBelow X s0 8 μ) (n_X10_isBelow s0 8 μ) (fun _ => rfl) h (fun μ x6 h => ?_) rfl
    refine K_if_eq (md := mX8_accepts) (pc := 144) (kTab_at (pc := 144) tX8_accepts_ok 58 rfl) (tgt := 159) rfl h (fun h => ?_) (fun h => ?_)
    · refine K_sub [] rfl ?_
      refine c_X8_accepts_159 X p1  μ h
    · refine K_aload_n (md := mX8_accepts) (pc := 147) 1 (kTab_at (pc := 147) tX8_accepts_ok 59 rfl) rfl ?_
      refine K_iload_n (md := mX8_accepts) (pc := 148) 0 (kTab_at (pc := 148) tX8_accepts_ok 60 rfl) rfl ?_
      refine Z_callV (md := mX8_accepts) (pc := 149) (st := []) (sv := (fun x7 => [.int (iI x7)])) (kTab_at (pc := 149) tX8_accepts_ok 61 rfl) mv_X8_57 sk_219 rfl (Nat.le_of_ble_eq_true rfl) (by decide) rfl (c_X8_startsEntry X s0 μ) (fun _ => rfl) h (fun μ x7 h => ?_) rfl
      refine K_if_eq (md := mX8_accepts) (pc := 152) (kTab_at (pc := 152) tX8_accepts_ok 62 rfl) (tgt := 159) rfl h (fun h => ?_) (fun h => ?_)
      · refine K_sub [] rfl ?_
        refine c_X8_accepts_159 X p1  μ h
      · refine K_iconst (md := mX8_accepts) (pc := 155) (x := 1) (kTab_at (pc := 155) tX8_accepts_ok 63 rfl) rfl ?_
        refine K_goto (md := mX8_accepts) (pc := 156) (tgt := 160) (kTab_at (pc := 156) tX8_accepts_ok 64 rfl) rfl ?_
        refine K_sub [] rfl ?_
        refine c_X8_accepts_160 X p1  1 μ h
  · refine K_aload_n (md := mX8_accepts) (pc := 161) 1 (kTab_at (pc := 161) tX8_accepts_ok 67 rfl) rfl ?_
    refine K_iload_n (md := mX8_accepts) (pc := 162) 2 (kTab_at (pc := 162) tX8_accepts_ok 68 rfl) rfl ?_
    refine K_bipush (md := mX8_accepts) (pc := 163) (x := 61) (kTab_at (pc := 163) tX8_accepts_ok 69 rfl) (by decide) ?_
    refine K_icmp_ne (md := mX8_accepts) (pc := 165) (kTab_at (pc := 165) tX8_accepts_ok 70 rfl) (tgt := 172) rfl h (fun h => ?_) (fun h => ?_)
    · refine K_iconst (md := mX8_accepts) (pc := 172) (x := 0) (kTab_at (pc := 172) tX8_accepts_ok 73 rfl) rfl ?_
      refine K_sub [] rfl ?_
      refine c_X8_accepts_173 X p1  0 μ h
    · refine K_iconst (md := mX8_accepts) (pc := 168) (x := 1) (kTab_at (pc := 168) tX8_accepts_ok 71 rfl) rfl ?_
      refine K_goto (md := mX8_accepts) (pc := 169) (tgt := 173) (kTab_at (pc := 169) tX8_accepts_ok 72 rfl) rfl ?_
      refine K_sub [] rfl ?_
      refine c_X8_accepts_173 X p1  1 μ h
  · refine K_iload_n (md := mX8_accepts) (pc := 179) 0 (kTab_at (pc := 179) tX8_accepts_ok 77 rfl) rfl ?_
    refine K_if_lt (md := mX8_accepts) (pc := 180) (kTab_at (pc := 180) tX8_accepts_ok 78 rfl) (tgt := 206) rfl h (fun h => ?_) (fun h => ?_)
    · refine K_sub [] rfl ?_
      refine c_X8_accepts_206 X p1  μ h
    · refine K_aload_n (md := mX8_accepts) (pc := 183) 1 (kTab_at (pc := 183) tX8_accepts_ok 79 rfl) rfl ?_
      refine K_iload_n (md := mX8_accepts) (pc := 184) 0 (kTab_at (pc := 184) tX8_accepts_ok 80 rfl) rfl ?_
      refine K_iload_n (md := mX8_accepts) (pc := 185) 0 (kTab_at (pc := 185) tX8_accepts_ok 81 rfl) rfl ?_
      refine K_if_ne (md := mX8_accepts) (pc := 186) (kTab_at (pc := 186) tX8_accepts_ok 82 rfl) (tgt := 194) rfl h (fun h => ?_) (fun h => ?_)
      · refine K_bipush (md := mX8_accepts) (pc := 194) (x := 7) (kTab_at (pc := 194) tX8_accepts_ok 85 rfl) (by decide) ?_
        refine K_sub [] rfl ?_
        refine c_X8_accepts_196 X p1  s0 7 μ h
      · refine K_bipush (md := mX8_accepts) (pc := 189) (x := 8) (kTab_at (pc := 189) tX8_accepts_ok 83 rfl) (by decide) ?_
        refine K_goto (md := mX8_accepts) (pc := 191) (tgt := 196) (kTab_at (pc := 191) tX8_accepts_ok 84 rfl) rfl ?_
        refine K_sub [] rfl ?_
        refine c_X8_accepts_196 X p1  s0 8 μ h
  · refine K_iload_n (md := mX8_accepts) (pc := 208) 0 (kTab_at (pc := 208) tX8_accepts_ok 92 rfl) rfl ?_
    refine K_if_lt (md := mX8_accepts) (pc := 209) (kTab_at (pc := 209) tX8_accepts_ok 93 rfl) (tgt := 222) rfl h (fun h => ?_) (fun h => ?_)
    · refine K_aload_n (md := mX8_accepts) (pc := 222) 1 (kTab_at (pc := 222) tX8_accepts_ok 99 rfl) rfl ?_
      refine K_iload_n (md := mX8_accepts) (pc := 223) 2 (kTab_at (pc := 223) tX8_accepts_ok 100 rfl) rfl ?_
      refine K_bipush (md := mX8_accepts) (pc := 224) (x := 44) (kTab_at (pc := 224) tX8_accepts_ok 101 rfl) (by decide) ?_
      refine K_icmp_ne (md := mX8_accepts) (pc := 226) (kTab_at (pc := 226) tX8_accepts_ok 102 rfl) (tgt := 233) rfl h (fun h => ?_) (fun h => ?_)
      · refine K_iconst (md := mX8_accepts) (pc := 233) (x := 0) (kTab_at (pc := 233) tX8_accepts_ok 105 rfl) rfl ?_
        refine K_sub [] rfl ?_
        refine c_X8_accepts_234 X p1  0 μ h
      · refine K_iconst (md := mX8_accepts) (pc := 229) (x := 1) (kTab_at (pc := 229) tX8_accepts_ok 103 rfl) rfl ?_
        refine K_goto (md := mX8_accepts) (pc := 230) (tgt := 234) (kTab_at (pc := 230) tX8_accepts_ok 104 rfl) rfl ?_
        refine K_sub [] rfl ?_
        refine c_X8_accepts_234 X p1  1 μ h
    · refine K_aload_n (md := mX8_accepts) (pc := 212) 1 (kTab_at (pc := 212) tX8_accepts_ok 94 rfl) rfl ?_
      refine K_iload_n (md := mX8_accepts) (pc := 213) 0 (kTab_at (pc := 213) tX8_accepts_ok 95 rfl) rfl ?_
      refine K_bipush (md := mX8_accepts) (pc := 214) (x := 8) (kTab_at (pc := 214) tX8_accepts_ok 96 rfl) (by decide) ?_
      refine Z_callV (md := mX8_accepts) (pc := 216) (st := []) (sv := (fun x8 => [.int (iI x8)])) (kTab_at (pc := 216) tX8_accepts_ok 97 rfl) mv_X8_61 sk_219 rfl (Nat.le_of_ble_eq_true rfl) (by decide) rfl (c_X8_takesDigit X s0 8 μ) (fun _ => rfl) h (fun μ x8 h => ?_) rfl
      refine K_goto (md := mX8_accepts) (pc := 219) (tgt := 238) (kTab_at (pc := 219) tX8_accepts_ok 98 rfl) rfl ?_
      refine K_sub [] rfl ?_
      refine c_X8_accepts_238 X p1  x8 μ h
  · refine K_aload_n (md := mX8_accepts) (pc := 239) 1 (kTab_at (pc := 239) tX8_accepts_ok 109 rfl) rfl ?_
    refine K_iload_n (md := mX8_accepts) (pc := 240) 2 (kTab_at (pc := 240) tX8_accepts_ok 110 rfl) rfl ?_
    refine K_bipush (md := mX8_accepts) (pc := 241) (x := 44) (kTab_at (pc := 241) tX8_accepts_ok 111 rfl) (by decide) ?_
    refine K_icmp_ne (md := mX8_accepts) (pc := 243) (kTab_at (pc := 243) tX8_accepts_ok 112 rfl) (tgt := 250) rfl h (fun h => ?_) (fun h => ?_)
    · refine K_iconst (md := mX8_accepts) (pc := 250) (x := 0) (kTab_at (pc := 250) tX8_accepts_ok 115 rfl) rfl ?_
      refine K_sub [] rfl ?_
      refine c_X8_accepts_251 X p1  0 μ h
    · refine K_iconst (md := mX8_accepts) (pc := 246) (x := 1) (kTab_at (pc := 246) tX8_accepts_ok 113 rfl) rfl ?_
      refine K_goto (md := mX8_accepts) (pc := 247) (tgt := 251) (kTab_at (pc := 247) tX8_accepts_ok 114 rfl) rfl ?_
      refine K_sub [] rfl ?_
      refine c_X8_accepts_251 X p1  1 μ h
def f_X8_accepts_19 (p1 : Int)   (μ : Mu) : Option Res := f_X8_accepts_20 p1 (-1) μ
set_option maxRecDepth 100000 in
theorem c_X8_accepts_19 (X : kX) (p1 : Int)  {res : Res}  (μ : Mu) (h : f_X8_accepts_19 p1 μ = some res) : KK X mX8_accepts 2 1 res 19 [(0, .ref (X.1 + 219)), (1, .int (iI p1))] [] μ := by
  unfold f_X8_accepts_19 at h
  refine K_iconst (md := mX8_accepts) (pc := 19) (x := -1) (kTab_at (pc := 19) tX8_accepts_ok 10 rfl) rfl ?_
  refine c_X8_accepts_20 X p1  (-1) μ h
def f_X8_accepts (p1 : Int) (μ : Mu) : Option Res := i_lt p1 48 (f_X8_accepts_19 p1 μ) (i_lt 57 p1 (f_X8_accepts_19 p1 μ) (f_X8_accepts_20 p1 (p1 - 48) μ))
set_option maxRecDepth 100000 in
theorem c_X8_accepts (X : kX) (p1 : Int)  (μ : Mu) : Cq X mX8_accepts 2 1 μ [.ref (X.1 + 219), .int (iI p1)] (f_X8_accepts p1 μ) := by
  intro res h
  refine ct_of (by decide +kernel) rfl (Nat.le_of_ble_eq_true rfl) ?_
  show KK X mX8_accepts 2 1 res 0 [(0, .ref (X.1 + 219)), (1, .int (iI p1))] [] μ
  unfold f_X8_accepts at h
  refine K_iload_n (md := mX8_accepts) (pc := 0) 1 (kTab_at (pc := 0) tX8_accepts_ok 0 rfl) rfl ?_
  refine K_bipush (md := mX8_accepts) (pc := 1) (x := 48) (kTab_at (pc := 1) tX8_accepts_ok 1 rfl) (by decide) ?_
  refine K_icmp_lt (md := mX8_accepts) (pc := 3) (kTab_at (pc := 3) tX8_accepts_ok 2 rfl) (tgt := 19) rfl h (fun h => ?_) (fun h => ?_)
  · refine c_X8_accepts_19 X p1  μ h
  · refine K_iload_n (md := mX8_accepts) (pc := 6) 1 (kTab_at (pc := 6) tX8_accepts_ok 3 rfl) rfl ?_
    refine K_bipush (md := mX8_accepts) (pc := 7) (x := 57) (kTab_at (pc := 7) tX8_accepts_ok 4 rfl) (by decide) ?_
    refine K_icmp_gt (md := mX8_accepts) (pc := 9) (kTab_at (pc := 9) tX8_accepts_ok 5 rfl) (tgt := 19) rfl h (fun h => ?_) (fun h => ?_)
    · refine c_X8_accepts_19 X p1  μ h
    · refine K_iload_n (md := mX8_accepts) (pc := 12) 1 (kTab_at (pc := 12) tX8_accepts_ok 6 rfl) rfl ?_
      refine K_bipush (md := mX8_accepts) (pc := 13) (x := 48) (kTab_at (pc := 13) tX8_accepts_ok 7 rfl) (by decide) ?_
      refine K_isub (md := mX8_accepts) (pc := 15) (kTab_at (pc := 15) tX8_accepts_ok 8 rfl) ?_
      refine K_goto (md := mX8_accepts) (pc := 16) (tgt := 20) (kTab_at (pc := 16) tX8_accepts_ok 9 rfl) rfl ?_
      refine c_X8_accepts_20 X p1  (p1 - 48) μ h
def f_X8_positionOfError_63   (s0 : Int) (μ : Mu) : Option Res := some (μ, 0, s0)
set_option maxRecDepth 100000 in
theorem c_X8_positionOfError_63 (X : kX)   {res : Res}  (s0 : Int) (μ : Mu) (h : f_X8_positionOfError_63 s0 μ = some res) : KK X mX8_positionOfError 3 1 res 63 [] [.int (iI s0)] μ := by
  unfold f_X8_positionOfError_63 at h
  exact Z_iret (md := mX8_positionOfError) (pc := 63) (kTab_at (pc := 63) tX8_positionOfError_ok 32 rfl) rfl rfl rfl h
def f_X8_positionOfError_55    (μ : Mu) : Option Res := f_X8_positionOfError_63 (-1) μ
set_option maxRecDepth 100000 in
theorem c_X8_positionOfError_55 (X : kX)   {res : Res}  (μ : Mu) (h : f_X8_positionOfError_55 μ = some res) : KK X mX8_positionOfError 3 1 res 55 [] [] μ := by
  unfold f_X8_positionOfError_55 at h
  refine K_iconst (md := mX8_positionOfError) (pc := 55) (x := -1) (kTab_at (pc := 55) tX8_positionOfError_ok 28 rfl) rfl ?_
  refine K_goto (md := mX8_positionOfError) (pc := 56) (tgt := 63) (kTab_at (pc := 56) tX8_positionOfError_ok 29 rfl) rfl ?_
  refine c_X8_positionOfError_63 X   (-1) μ h
def f_X8_positionOfError_37    (μ : Mu) : Option Res := rdF μ 219 1 fun x1 => i_eq x1 7 (f_X8_positionOfError_55 μ) (rdF μ 219 1 fun x2 => i_eq x2 8 (f_X8_positionOfError_55 μ) (rdF μ 219 2 fun x3 => f_X8_positionOfError_63 x3 μ))
set_option maxRecDepth 100000 in
theorem c_X8_positionOfError_37 (X : kX)   {res : Res}  (μ : Mu) (h : f_X8_positionOfError_37 μ = some res) : KK X mX8_positionOfError 3 1 res 37 [(0, .ref (X.1 + 219))] [] μ := by
  unfold f_X8_positionOfError_37 at h
  refine K_aload_n (md := mX8_positionOfError) (pc := 37) 0 (kTab_at (pc := 37) tX8_positionOfError_ok 20 rfl) rfl ?_
  refine Z_getI (md := mX8_positionOfError) (pc := 38) (kTab_at (pc := 38) tX8_positionOfError_ok 21 rfl) fl_X8_29 sk_219 (Or.inl rfl) h (fun x1 h => ?_)
  refine K_bipush (md := mX8_positionOfError) (pc := 41) (x := 7) (kTab_at (pc := 41) tX8_positionOfError_ok 22 rfl) (by decide) ?_
  refine K_icmp_eq (md := mX8_positionOfError) (pc := 43) (kTab_at (pc := 43) tX8_positionOfError_ok 23 rfl) (tgt := 55) rfl h (fun h => ?_) (fun h => ?_)
  · refine K_sub [] rfl ?_
    refine c_X8_positionOfError_55 X   μ h
  · refine K_aload_n (md := mX8_positionOfError) (pc := 46) 0 (kTab_at (pc := 46) tX8_positionOfError_ok 24 rfl) rfl ?_
    refine Z_getI (md := mX8_positionOfError) (pc := 47) (kTab_at (pc := 47) tX8_positionOfError_ok 25 rfl) fl_X8_29 sk_219 (Or.inl rfl) h (fun x2 h => ?_)
    refine K_bipush (md := mX8_positionOfError) (pc := 50) (x := 8) (kTab_at (pc := 50) tX8_positionOfError_ok 26 rfl) (by decide) ?_
    refine K_icmp_ne (md := mX8_positionOfError) (pc := 52) (kTab_at (pc := 52) tX8_positionOfError_ok 27 rfl) (tgt := 59) rfl h (fun h => ?_) (fun h => ?_)
    · refine K_aload_n (md := mX8_positionOfError) (pc := 59) 0 (kTab_at (pc := 59) tX8_positionOfError_ok 30 rfl) rfl ?_
      refine Z_getI (md := mX8_positionOfError) (pc := 60) (kTab_at (pc := 60) tX8_positionOfError_ok 31 rfl) fl_X8_26 sk_219 (Or.inl rfl) h (fun x3 h => ?_)
      refine K_sub [] rfl ?_
      refine c_X8_positionOfError_63 X   x3 μ h
    · refine K_sub [] rfl ?_
      refine c_X8_positionOfError_55 X   μ h
def f_X8_positionOfError_2  (k29 : Int → Mu → Option Res) (k37 : Mu → Option Res) : Nat → Int → Mu → Option Res
  | 0, _, _ => none
  | fu + 1, v1, μ => rdF μ 219 2 fun x1 => i_lt v1 x1 (i_lt v1 60 (rdI μ 220 60 v1 fun x2 => rb (f_X8_accepts x2 μ) fun μ x3 => i_eq x3 0 (k29 v1 μ) ((f_X8_positionOfError_2 k29 k37 fu) (v1 + 1) μ)) (k37 μ)) (k37 μ)
set_option maxRecDepth 100000 in
theorem c_X8_positionOfError_2 (X : kX)   {res : Res} (k29 : Int → Mu → Option Res) (hk29 : ∀ (v1 : Int), ∀ (μ : Mu), k29 v1 μ = some res → KK X mX8_positionOfError 3 1 res 29 [(1, .int (iI v1))] [] μ) (k37 : Mu → Option Res) (hk37 : ∀ (μ : Mu), k37 μ = some res → KK X mX8_positionOfError 3 1 res 37 [(0, .ref (X.1 + 219))] [] μ) : ∀ (fu : Nat)  (v1 : Int) (μ : Mu), f_X8_positionOfError_2 k29 k37 fu v1 μ = some res → KK X mX8_positionOfError 3 1 res 2 [(0, .ref (X.1 + 219)), (1, .int (iI v1))] [] μ := by
  intro fu
  induction fu with
  | zero => intro v1 μ h; exact nomatch h
  | succ fu ih =>
    intro v1 μ h
    refine K_iload_n (md := mX8_positionOfError) (pc := 2) 1 (kTab_at (pc := 2) tX8_positionOfError_ok 2 rfl) rfl ?_
    refine K_aload_n (md := mX8_positionOfError) (pc := 3) 0 (kTab_at (pc := 3) tX8_positionOfError_ok 3 rfl) rfl ?_
    refine Z_getI (md := mX8_positionOfError) (pc := 4) (kTab_at (pc := 4) tX8_positionOfError_ok 4 rfl) fl_X8_26 sk_219 (Or.inl rfl) h (fun x1 h => ?_)
    refine K_icmp_ge (md := mX8_positionOfError) (pc := 7) (kTab_at (pc := 7) tX8_positionOfError_ok 5 rfl) (tgt := 37) rfl h (fun h => ?_) (fun h => ?_)
    · refine K_sub [0] rfl ?_
      exact hk37 μ h
    · refine K_iload_n (md := mX8_positionOfError) (pc := 10) 1 (kTab_at (pc := 10) tX8_positionOfError_ok 6 rfl) rfl ?_
      refine K_bipush (md := mX8_positionOfError) (pc := 11) (x := 60) (kTab_at (pc := 11) tX8_positionOfError_ok 7 rfl) (by decide) ?_
      refine K_icmp_ge (md := mX8_positionOfError) (pc := 13) (kTab_at (pc := 13) tX8_positionOfError_ok 8 rfl) (tgt := 37) rfl h (fun h => ?_) (fun h => ?_)
      · refine K_sub [0] rfl ?_
        exact hk37 μ h
      · refine K_aload_n (md := mX8_positionOfError) (pc := 16) 0 (kTab_at (pc := 16) tX8_positionOfError_ok 9 rfl) rfl ?_
        refine K_aload_n (md := mX8_positionOfError) (pc := 17) 0 (kTab_at (pc := 17) tX8_positionOfError_ok 10 rfl) rfl ?_
        refine K_getR (md := mX8_positionOfError) (pc := 18) (b := 220) (kTab_at (pc := 18) tX8_positionOfError_ok 11 rfl) fl_X8_11 sk_219 rfl rfl ?_
        refine K_iload_n (md := mX8_positionOfError) (pc := 21) 1 (kTab_at (pc := 21) tX8_positionOfError_ok 12 rfl) rfl ?_
        refine Z_cald (md := mX8_positionOfError) (pc := 22) (kTab_at (pc := 22) tX8_positionOfError_ok 13 rfl) sk_220 (by decide) h (fun x2 h => ?_)
        refine Z_callV (md := mX8_positionOfError) (pc := 23) (st := []) (sv := (fun x3 => [.int (iI x3)])) (kTab_at (pc := 23) tX8_positionOfError_ok 14 rfl) mv_X8_39 sk_219 rfl (Nat.le_of_ble_eq_true rfl) (by decide) rfl (c_X8_accepts X x2 μ) (fun _ => rfl) h (fun μ x3 h => ?_) rfl
        refine K_if_ne (md := mX8_positionOfError) (pc := 26) (kTab_at (pc := 26) tX8_positionOfError_ok 15 rfl) (tgt := 31) rfl h (fun h => ?_) (fun h => ?_)
        · refine K_iinc (md := mX8_positionOfError) (pc := 31) (l' := [(1, .int (iI (v1 + 1))), (0, .ref (X.1 + 219))]) 1 (kTab_at (pc := 31) tX8_positionOfError_ok 18 rfl) rfl (Nat.le_of_ble_eq_true rfl) rfl ?_
          refine K_goto (md := mX8_positionOfError) (pc := 34) (tgt := 2) (kTab_at (pc := 34) tX8_positionOfError_ok 19 rfl) rfl ?_
          refine K_sub [1, 0] rfl ?_
          exact ih (v1 + 1) μ h
        · refine K_sub [1] rfl ?_
          exact hk29 v1 μ h
def f_X8_positionOfError  (μ : Mu) : Option Res := f_X8_positionOfError_2 (fun v1 μ => some (μ, 0, v1)) (fun μ => f_X8_positionOfError_37 μ) FU 0 μ
set_option maxRecDepth 100000 in
theorem c_X8_positionOfError (X : kX)   (μ : Mu) : Cq X mX8_positionOfError 3 1 μ [.ref (X.1 + 219)] (f_X8_positionOfError  μ) := by
  intro res h
  refine ct_of (by decide +kernel) rfl (Nat.le_of_ble_eq_true rfl) ?_
  show KK X mX8_positionOfError 3 1 res 0 [(0, .ref (X.1 + 219))] [] μ
  unfold f_X8_positionOfError at h
  refine K_iconst (md := mX8_positionOfError) (pc := 0) (x := 0) (kTab_at (pc := 0) tX8_positionOfError_ok 0 rfl) rfl ?_
  refine K_istore_n (md := mX8_positionOfError) (pc := 1) (l' := [(1, .int (iI 0)), (0, .ref (X.1 + 219))]) (kTab_at (pc := 1) tX8_positionOfError_ok 1 rfl) (Nat.le_of_ble_eq_true rfl) rfl ?_
  refine K_sub [1, 0] rfl ?_
  refine c_X8_positionOfError_2 X  _ ?_ _ ?_ _ 0 μ h
  · intro v1 μ h
    refine K_iload_n (md := mX8_positionOfError) (pc := 29) 0 (kTab_at (pc := 29) tX8_positionOfError_ok 16 rfl) rfl ?_
    exact Z_iret (md := mX8_positionOfError) (pc := 30) (kTab_at (pc := 30) tX8_positionOfError_ok 17 rfl) rfl rfl rfl h
  · intro  μ h
    refine c_X8_positionOfError_37 X   μ h
def f_X8_readAndClear  (μ : Mu) : Option Res := wrF μ 219 1 0 fun μ => wrF μ 219 6 0 fun μ => rb (f_X8_positionOfError μ) fun μ x1 => wrF μ 219 3 x1 fun μ => wrF μ 219 2 0 fun μ => some (μ, 0, 0)
set_option maxRecDepth 100000 in
theorem c_X8_readAndClear (X : kX)   (μ : Mu) : Cq X mX8_readAndClear 4 0 μ [.ref (X.1 + 219)] (f_X8_readAndClear  μ) := by
  intro res h
  refine ct_of (by decide +kernel) rfl (Nat.le_of_ble_eq_true rfl) ?_
  show KK X mX8_readAndClear 4 0 res 0 [(0, .ref (X.1 + 219))] [] μ
  unfold f_X8_readAndClear at h
  refine K_aload_n (md := mX8_readAndClear) (pc := 0) 0 (kTab_at (pc := 0) tX8_readAndClear_ok 0 rfl) rfl ?_
  refine K_iconst (md := mX8_readAndClear) (pc := 1) (x := 0) (kTab_at (pc := 1) tX8_readAndClear_ok 1 rfl) rfl ?_
  refine Z_putI (md := mX8_readAndClear) (pc := 2) (kTab_at (pc := 2) tX8_readAndClear_ok 2 rfl) fl_X8_29 sk_219 rfl h (fun μ h => ?_)
  refine K_aload_n (md := mX8_readAndClear) (pc := 5) 0 (kTab_at (pc := 5) tX8_readAndClear_ok 3 rfl) rfl ?_
  refine K_iconst (md := mX8_readAndClear) (pc := 6) (x := 0) (kTab_at (pc := 6) tX8_readAndClear_ok 4 rfl) rfl ?_
  refine Z_putI (md := mX8_readAndClear) (pc := 7) (kTab_at (pc := 7) tX8_readAndClear_ok 5 rfl) fl_X8_32 sk_219 rfl h (fun μ h => ?_)
  refine K_aload_n (md := mX8_readAndClear) (pc := 10) 0 (kTab_at (pc := 10) tX8_readAndClear_ok 6 rfl) rfl ?_
  refine K_aload_n (md := mX8_readAndClear) (pc := 11) 0 (kTab_at (pc := 11) tX8_readAndClear_ok 7 rfl) rfl ?_
  refine Z_callV (md := mX8_readAndClear) (pc := 12) (st := [.ref (X.1 + 219)]) (sv := (fun x1 => [.int (iI x1), .ref (X.1 + 219)])) (kTab_at (pc := 12) tX8_readAndClear_ok 8 rfl) mv_X8_35 sk_219 rfl (Nat.le_of_ble_eq_true rfl) (by decide) rfl (c_X8_positionOfError X μ) (fun _ => rfl) h (fun μ x1 h => ?_) rfl
  refine Z_putI (md := mX8_readAndClear) (pc := 15) (kTab_at (pc := 15) tX8_readAndClear_ok 9 rfl) fl_X8_15 sk_219 rfl h (fun μ h => ?_)
  refine K_aload_n (md := mX8_readAndClear) (pc := 18) 0 (kTab_at (pc := 18) tX8_readAndClear_ok 10 rfl) rfl ?_
  refine K_iconst (md := mX8_readAndClear) (pc := 19) (x := 0) (kTab_at (pc := 19) tX8_readAndClear_ok 11 rfl) rfl ?_
  refine Z_putI (md := mX8_readAndClear) (pc := 20) (kTab_at (pc := 20) tX8_readAndClear_ok 12 rfl) fl_X8_26 sk_219 rfl h (fun μ h => ?_)
  exact Z_vret (md := mX8_readAndClear) (pc := 23) (kTab_at (pc := 23) tX8_readAndClear_ok 13 rfl) rfl rfl h
def f_J7_fill_53178_5 (p0 n0 : Nat) (p1 : Int) (k20 : Mu → Option Res) : Nat → Int → Int → Mu → Option Res
  | 0, _, _, _ => none
  | fu + 1, v2, v3, μ => i_lt v2 v3 (wrI μ p0 n0 v2 p1 fun μ => (f_J7_fill_53178_5 p0 n0 p1 k20 fu) (v2 + 1) v3 μ) (k20 μ)
set_option maxRecDepth 100000 in
theorem c_J7_fill_53178_5 (X : kX) (p0 n0 : Nat) (p1 : Int) {r0 : Nat → Option Nat} (h0 : SK[p0]? = some (.inl (0, n0, r0))) (b0 : n0 < 2 ^ 31) {res : Res} (k20 : Mu → Option Res) (hk20 : ∀ (μ : Mu), k20 μ = some res → KK X mJ7_fill_53178 0 0 res 20 [] [] μ) : ∀ (fu : Nat)  (v2 : Int) (v3 : Int) (μ : Mu), f_J7_fill_53178_5 p0 n0 p1 k20 fu v2 v3 μ = some res → KK X mJ7_fill_53178 0 0 res 5 [(0, .ref (X.1 + p0)), (1, .int (iI p1)), (2, .int (iI v2)), (3, .int (iI v3))] [] μ := by
  intro fu
  induction fu with
  | zero => intro v2 v3 μ h; exact nomatch h
  | succ fu ih =>
    intro v2 v3 μ h
    refine K_iload_n (md := mJ7_fill_53178) (pc := 5) 2 (kTab_at (pc := 5) tJ7_fill_53178_ok 5 rfl) rfl ?_
    refine K_iload_n (md := mJ7_fill_53178) (pc := 6) 3 (kTab_at (pc := 6) tJ7_fill_53178_ok 6 rfl) rfl ?_
    refine K_icmp_ge (md := mJ7_fill_53178) (pc := 7) (kTab_at (pc := 7) tJ7_fill_53178_ok 7 rfl) (tgt := 20) rfl h (fun h => ?_) (fun h => ?_)
    · refine K_sub [] rfl ?_
      exact hk20 μ h
    · refine K_aload_n (md := mJ7_fill_53178) (pc := 10) 0 (kTab_at (pc := 10) tJ7_fill_53178_ok 8 rfl) rfl ?_
      refine K_iload_n (md := mJ7_fill_53178) (pc := 11) 2 (kTab_at (pc := 11) tJ7_fill_53178_ok 9 rfl) rfl ?_
      refine K_iload_n (md := mJ7_fill_53178) (pc := 12) 1 (kTab_at (pc := 12) tJ7_fill_53178_ok 10 rfl) rfl ?_
      refine Z_iast (md := mJ7_fill_53178) (pc := 13) (kTab_at (pc := 13) tJ7_fill_53178_ok 11 rfl) h0 b0 h (fun μ h => ?_)
      refine K_iinc (md := mJ7_fill_53178) (pc := 14) (l' := [(2, .int (iI (v2 + 1))), (0, .ref (X.1 + p0)), (1, .int (iI p1)), (3, .int (iI v3))]) 2 (kTab_at (pc := 14) tJ7_fill_53178_ok 12 rfl) rfl (Nat.le_of_ble_eq_true rfl) rfl ?_
      refine K_goto (md := mJ7_fill_53178) (pc := 17) (tgt := 5) (kTab_at (pc := 17) tJ7_fill_53178_ok 13 rfl) rfl ?_
      refine K_sub [1, 2, 0, 3] rfl ?_
      exact ih (v2 + 1) v3 μ h
def f_J7_fill_53178 (p0 n0 : Nat) (p1 : Int) (μ : Mu) : Option Res := bnd ((n0 : Nat) : Int) fun x1 => f_J7_fill_53178_5 p0 n0 p1 (fun μ => some (μ, 0, 0)) FU 0 x1 μ
set_option maxRecDepth 100000 in
theorem c_J7_fill_53178 (X : kX) (p0 n0 : Nat) (p1 : Int) {r0 : Nat → Option Nat} (h0 : SK[p0]? = some (.inl (0, n0, r0))) (b0 : n0 < 2 ^ 31) (μ : Mu) : Cq X mJ7_fill_53178 0 0 μ [.ref (X.1 + p0), .int (iI p1)] (f_J7_fill_53178 p0 n0 p1 μ) := by
  intro res h
  refine ct_ofF (by decide +kernel) rfl (Nat.le_of_ble_eq_true rfl) ?_
  show KK X mJ7_fill_53178 0 0 res 0 [(0, .ref (X.1 + p0)), (1, .int (iI p1))] [] μ
  unfold f_J7_fill_53178 at h
  refine K_iconst (md := mJ7_fill_53178) (pc := 0) (x := 0) (kTab_at (pc := 0) tJ7_fill_53178_ok 0 rfl) rfl ?_
  refine K_istore_n (md := mJ7_fill_53178) (pc := 1) (l' := [(2, .int (iI 0)), (0, .ref (X.1 + p0)), (1, .int (iI p1))]) (kTab_at (pc := 1) tJ7_fill_53178_ok 1 rfl) (Nat.le_of_ble_eq_true rfl) rfl ?_
  refine K_aload_n (md := mJ7_fill_53178) (pc := 2) 1 (kTab_at (pc := 2) tJ7_fill_53178_ok 2 rfl) rfl ?_
  refine K_alen (md := mJ7_fill_53178) (pc := 3) (kTab_at (pc := 3) tJ7_fill_53178_ok 3 rfl) h0 (by decide) ?_
  refine Z_bnd (md := mJ7_fill_53178) (pc := 4) h (fun x1 h => ?_)
  refine K_istore_n (md := mJ7_fill_53178) (pc := 4) (l' := [(3, .int (iI x1)), (2, .int (iI 0)), (0, .ref (X.1 + p0)), (1, .int (iI p1))]) (kTab_at (pc := 4) tJ7_fill_53178_ok 4 rfl) (Nat.le_of_ble_eq_true rfl) rfl ?_
  refine K_sub [2, 3, 1, 0] rfl ?_
  refine c_J7_fill_53178_5 X p0 n0 p1 h0 b0 _ ?_ _ 0 x1 μ h
  · intro  μ h
    exact Z_vret (md := mJ7_fill_53178) (pc := 20) (kTab_at (pc := 20) tJ7_fill_53178_ok 14 rfl) rfl rfl h
def f_X9_correct_142 (p1 : Nat) (p2 : Int) (p3 : Int)  (v4 : Int) (μ : Mu) : Option Res := rdI μ 228 5 p2 fun x1 => wrI μ 228 5 p2 (x1 + 1) fun μ => rdI μ 231 5 p2 fun x2 => some (μ, 0, (x2 - v4))
set_option maxRecDepth 100000 in
theorem c_X9_correct_142 (X : kX) (p1 : Nat) (p2 : Int) (p3 : Int) (h1 : Lay p1 (ksX1 p1)) {res : Res}  (v4 : Int) (μ : Mu) (h : f_X9_correct_142 p1 p2 p3 v4 μ = some res) : KK X mX9_correct 2 1 res 142 [(0, .ref (X.1 + 227)), (2, .int (iI p2)), (4, .int (iI v4))] [] μ := by
  unfold f_X9_correct_142 at h
  refine K_aload_n (md := mX9_correct) (pc := 142) 0 (kTab_at (pc := 142) tX9_correct_ok 87 rfl) rfl ?_
  refine K_getR (md := mX9_correct) (pc := 143) (b := 228) (kTab_at (pc := 143) tX9_correct_ok 88 rfl) fl_X9_9 sk_227 rfl rfl ?_
  refine K_iload_n (md := mX9_correct) (pc := 146) 1 (kTab_at (pc := 146) tX9_correct_ok 89 rfl) rfl ?_
  refine K_dup2 (md := mX9_correct) (pc := 147) (kTab_at (pc := 147) tX9_correct_ok 90 rfl) rfl rfl ?_
  refine Z_iald (md := mX9_correct) (pc := 148) (kTab_at (pc := 148) tX9_correct_ok 91 rfl) sk_228 (by decide) h (fun x1 h => ?_)
  refine K_iconst (md := mX9_correct) (pc := 149) (x := 1) (kTab_at (pc := 149) tX9_correct_ok 92 rfl) rfl ?_
  refine K_iadd (md := mX9_correct) (pc := 150) (kTab_at (pc := 150) tX9_correct_ok 93 rfl) ?_
  refine Z_iast (md := mX9_correct) (pc := 151) (kTab_at (pc := 151) tX9_correct_ok 94 rfl) sk_228 (by decide) h (fun μ h => ?_)
  refine K_aload_n (md := mX9_correct) (pc := 152) 0 (kTab_at (pc := 152) tX9_correct_ok 95 rfl) rfl ?_
  refine K_getR (md := mX9_correct) (pc := 153) (b := 231) (kTab_at (pc := 153) tX9_correct_ok 96 rfl) fl_X9_21 sk_227 rfl rfl ?_
  refine K_iload_n (md := mX9_correct) (pc := 156) 1 (kTab_at (pc := 156) tX9_correct_ok 97 rfl) rfl ?_
  refine Z_iald (md := mX9_correct) (pc := 157) (kTab_at (pc := 157) tX9_correct_ok 98 rfl) sk_231 (by decide) h (fun x2 h => ?_)
  refine K_iload (md := mX9_correct) (pc := 158) 2 (kTab_at (pc := 158) tX9_correct_ok 99 rfl) rfl ?_
  refine K_isub (md := mX9_correct) (pc := 160) (kTab_at (pc := 160) tX9_correct_ok 100 rfl) ?_
  exact Z_iret (md := mX9_correct) (pc := 161) (kTab_at (pc := 161) tX9_correct_ok 101 rfl) rfl rfl rfl h
def f_X9_correct_97 (p1 : Nat) (p2 : Int) (p3 : Int)  (v4 : Int) (s1 : Int) (s2 : Int) (μ : Mu) : Option Res := wrI μ 231 5 s1 s2 fun μ => f_X9_correct_142 p1 p2 p3 v4 μ
set_option maxRecDepth 100000 in
theorem c_X9_correct_97 (X : kX) (p1 : Nat) (p2 : Int) (p3 : Int) (h1 : Lay p1 (ksX1 p1)) {res : Res}  (v4 : Int) (s1 : Int) (s2 : Int) (μ : Mu) (h : f_X9_correct_97 p1 p2 p3 v4 s1 s2 μ = some res) : KK X mX9_correct 2 1 res 97 [(0, .ref (X.1 + 227)), (2, .int (iI p2)), (4, .int (iI v4))] [.int (iI s2), .int (iI s1), .ref (X.1 + 231)] μ := by
  unfold f_X9_correct_97 at h
  refine Z_iast (md := mX9_correct) (pc := 97) (kTab_at (pc := 97) tX9_correct_ok 60 rfl) sk_231 (by decide) h (fun μ h => ?_)
  refine K_goto (md := mX9_correct) (pc := 98) (tgt := 142) (kTab_at (pc := 98) tX9_correct_ok 61 rfl) rfl ?_
  refine c_X9_correct_142 X p1 p2 p3 h1  v4 μ h
def f_X9_correct (p1 : Nat) (p2 : Int) (p3 : Int) (μ : Mu) : Option Res := rdI μ 231 5 p2 fun x1 => rdI μ 228 5 p2 fun x2 => i_eq x2 0 (wrI μ 229 5 p2 p3 fun μ => wrI μ 231 5 p2 p3 fun μ => f_X9_correct_142 p1 p2 p3 x1 μ) (rdI μ 228 5 p2 fun x3 => i_eq x3 1 (wrI μ 230 5 p2 p3 fun μ => rdI μ 229 5 p2 fun x10 => rb (f_X1_agree p1 x10 p3 μ) fun μ x11 => i_eq x11 0 (rdI μ 229 5 p2 fun x12 => i_min x12 p3 fun x13 => f_X9_correct_97 p1 p2 p3 x1 p2 x13 μ) (rdI μ 229 5 p2 fun x14 => i_div (x14 + p3) 2 fun x15 => f_X9_correct_97 p1 p2 p3 x1 p2 x15 μ)) (rdI μ 229 5 p2 fun x4 => rdI μ 230 5 p2 fun x5 => rb (f_X1_agree p1 x4 x5 μ) fun μ x6 => i_eq x6 0 (rdI μ 229 5 p2 fun x7 => rdI μ 230 5 p2 fun x8 => rb (f_X10_halfWithNearer p3 x7 x8 μ) fun μ x9 => wrI μ 231 5 p2 x9 fun μ => f_X9_correct_142 p1 p2 p3 x1 μ) (f_X9_correct_142 p1 p2 p3 x1 μ)))
set_option maxRecDepth 100000 in
theorem c_X9_correct (X : kX) (p1 : Nat) (p2 : Int) (p3 : Int) (h1 : Lay p1 (ksX1 p1)) (μ : Mu) : Cq X mX9_correct 2 1 μ [.ref (X.1 + 227), .ref (X.1 + p1), .int (iI p2), .int (iI p3)] (f_X9_correct p1 p2 p3 μ) := by
  intro res h
  refine ct_of (by decide +kernel) rfl (Nat.le_of_ble_eq_true rfl) ?_
  show KK X mX9_correct 2 1 res 0 [(0, .ref (X.1 + 227)), (1, .ref (X.1 + p1)), (2, .int (iI p2)), (3, .int (iI p3))] [] μ
  unfold f_X9_correct at h
  refine K_aload_n (md := mX9_correct) (pc := 0) 0 (kTab_at (pc := 0) tX9_correct_ok 0 rfl) rfl ?_
  refine K_getR (md := mX9_correct) (pc := 1) (b := 231) (kTab_at (pc := 1) tX9_correct_ok 1 rfl) fl_X9_21 sk_227 rfl rfl ?_
  refine K_iload_n (md := mX9_correct) (pc := 4) 2 (kTab_at (pc := 4) tX9_correct_ok 2 rfl) rfl ?_
  refine Z_iald (md := mX9_correct) (pc := 5) (kTab_at (pc := 5) tX9_correct_ok 3 rfl) sk_231 (by decide) h (fun x1 h => ?_)
  refine K_istore (md := mX9_correct) (pc := 6) (l' := [(4, .int (iI x1)), (0, .ref (X.1 + 227)), (1, .ref (X.1 + p1)), (2, .int (iI p2)), (3, .int (iI p3))]) (kTab_at (pc := 6) tX9_correct_ok 4 rfl) (Nat.le_of_ble_eq_true rfl) rfl ?_
  refine K_aload_n (md := mX9_correct) (pc := 8) 1 (kTab_at (pc := 8) tX9_correct_ok 5 rfl) rfl ?_
  refine K_getR (md := mX9_correct) (pc := 9) (b := 228) (kTab_at (pc := 9) tX9_correct_ok 6 rfl) fl_X9_9 sk_227 rfl rfl ?_
  refine K_iload_n (md := mX9_correct) (pc := 12) 3 (kTab_at (pc := 12) tX9_correct_ok 7 rfl) rfl ?_
  refine Z_iald (md := mX9_correct) (pc := 13) (kTab_at (pc := 13) tX9_correct_ok 8 rfl) sk_228 (by decide) h (fun x2 h => ?_)
  refine K_if_ne (md := mX9_correct) (pc := 14) (kTab_at (pc := 14) tX9_correct_ok 9 rfl) (tgt := 34) rfl h (fun h => ?_) (fun h => ?_)
  · refine K_aload_n (md := mX9_correct) (pc := 34) 1 (kTab_at (pc := 34) tX9_correct_ok 21 rfl) rfl ?_
    refine K_getR (md := mX9_correct) (pc := 35) (b := 228) (kTab_at (pc := 35) tX9_correct_ok 22 rfl) fl_X9_9 sk_227 rfl rfl ?_
    refine K_iload_n (md := mX9_correct) (pc := 38) 3 (kTab_at (pc := 38) tX9_correct_ok 23 rfl) rfl ?_
    refine Z_iald (md := mX9_correct) (pc := 39) (kTab_at (pc := 39) tX9_correct_ok 24 rfl) sk_228 (by decide) h (fun x3 h => ?_)
    refine K_iconst (md := mX9_correct) (pc := 40) (x := 1) (kTab_at (pc := 40) tX9_correct_ok 25 rfl) rfl ?_
    refine K_icmp_ne (md := mX9_correct) (pc := 41) (kTab_at (pc := 41) tX9_correct_ok 26 rfl) (tgt := 101) rfl h (fun h => ?_) (fun h => ?_)
    · refine K_aload_n (md := mX9_correct) (pc := 101) 2 (kTab_at (pc := 101) tX9_correct_ok 62 rfl) rfl ?_
      refine K_aload_n (md := mX9_correct) (pc := 102) 1 (kTab_at (pc := 102) tX9_correct_ok 63 rfl) rfl ?_
      refine K_getR (md := mX9_correct) (pc := 103) (b := 229) (kTab_at (pc := 103) tX9_correct_ok 64 rfl) fl_X9_15 sk_227 rfl rfl ?_
      refine K_iload_n (md := mX9_correct) (pc := 106) 3 (kTab_at (pc := 106) tX9_correct_ok 65 rfl) rfl ?_
      refine Z_iald (md := mX9_correct) (pc := 107) (kTab_at (pc := 107) tX9_correct_ok 66 rfl) sk_229 (by decide) h (fun x4 h => ?_)
      refine K_aload_n (md := mX9_correct) (pc := 108) 1 (kTab_at (pc := 108) tX9_correct_ok 67 rfl) rfl ?_
      refine K_getR (md := mX9_correct) (pc := 109) (b := 230) (kTab_at (pc := 109) tX9_correct_ok 68 rfl) fl_X9_18 sk_227 rfl rfl ?_
      refine K_iload_n (md := mX9_correct) (pc := 112) 3 (kTab_at (pc := 112) tX9_correct_ok 69 rfl) rfl ?_
      refine Z_iald (md := mX9_correct) (pc := 113) (kTab_at (pc := 113) tX9_correct_ok 70 rfl) sk_230 (by decide) h (fun x5 h => ?_)
      refine Z_callV (md := mX9_correct) (pc := 114) (st := []) (sv := (fun x6 => [.int (iI x6)])) (kTab_at (pc := 114) tX9_correct_ok 71 rfl) mv_X9_80 (lay_0 h1 rfl) rfl (Nat.le_of_ble_eq_true rfl) (by decide) rfl (c_X1_agree X p1 x4 x5 h1 μ) (fun _ => rfl) h (fun μ x6 h => ?_) rfl
      refine K_if_ne (md := mX9_correct) (pc := 117) (kTab_at (pc := 117) tX9_correct_ok 72 rfl) (tgt := 142) rfl h (fun h => ?_) (fun h => ?_)
      · refine K_sub [1, 3, 0] rfl ?_
        refine c_X9_correct_142 X p1 p2 p3 h1  x1 μ h
      · refine K_aload_n (md := mX9_correct) (pc := 120) 1 (kTab_at (pc := 120) tX9_correct_ok 73 rfl) rfl ?_
        refine K_getR (md := mX9_correct) (pc := 121) (b := 231) (kTab_at (pc := 121) tX9_correct_ok 74 rfl) fl_X9_21 sk_227 rfl rfl ?_
        refine K_iload_n (md := mX9_correct) (pc := 124) 3 (kTab_at (pc := 124) tX9_correct_ok 75 rfl) rfl ?_
        refine K_iload_n (md := mX9_correct) (pc := 125) 4 (kTab_at (pc := 125) tX9_correct_ok 76 rfl) rfl ?_
        refine K_aload_n (md := mX9_correct) (pc := 126) 1 (kTab_at (pc := 126) tX9_correct_ok 77 rfl) rfl ?_
        refine K_getR (md := mX9_correct) (pc := 127) (b := 229) (kTab_at (pc := 127) tX9_correct_ok 78 rfl) fl_X9_15 sk_227 rfl rfl ?_
        refine K_iload_n (md := mX9_correct) (pc := 130) 3 (kTab_at (pc := 130) tX9_correct_ok 79 rfl) rfl ?_
        refine Z_iald (md := mX9_correct) (pc := 131) (kTab_at (pc := 131) tX9_correct_ok 80 rfl) sk_229 (by decide) h (fun x7 h => ?_)
        refine K_aload_n (md := mX9_correct) (pc := 132) 1 (kTab_at (pc := 132) tX9_correct_ok 81 rfl) rfl ?_
        refine K_getR (md := mX9_correct) (pc := 133) (b := 230) (kTab_at (pc := 133) tX9_correct_ok 82 rfl) fl_X9_18 sk_227 rfl rfl ?_
        refine K_iload_n (md := mX9_correct) (pc := 136) 3 (kTab_at (pc := 136) tX9_correct_ok 83 rfl) rfl ?_
        refine Z_iald (md := mX9_correct) (pc := 137) (kTab_at (pc := 137) tX9_correct_ok 84 rfl) sk_230 (by decide) h (fun x8 h => ?_)
        refine Z_callSN (md := mX9_correct) (pc := 138) (st := [.int (iI p2), .ref (X.1 + 231)]) (sv := (fun x9 => [.int (iI x9), .int (iI p2), .ref (X.1 + 231)])) (kTab_at (pc := 138) tX9_correct_ok 85 rfl) mn_X9_88 rfl (Nat.le_of_ble_eq_true rfl) (by decide) (c_X10_halfWithNearer X p3 x7 x8 μ) (n_X10_halfWithNearer p3 x7 x8 μ) (fun _ => rfl) h (fun μ x9 h => ?_) rfl
        refine Z_iast (md := mX9_correct) (pc := 141) (kTab_at (pc := 141) tX9_correct_ok 86 rfl) sk_231 (by decide) h (fun μ h => ?_)
        refine K_sub [1, 3, 0] rfl ?_
        refine c_X9_correct_142 X p1 p2 p3 h1  x1 μ h
    · refine K_aload_n (md := mX9_correct) (pc := 44) 1 (kTab_at (pc := 44) tX9_correct_ok 27 rfl) rfl ?_
      refine K_getR (md := mX9_correct) (pc := 45) (b := 230) (kTab_at (pc := 45) tX9_correct_ok 28 rfl) fl_X9_18 sk_227 rfl rfl ?_
      refine K_iload_n (md := mX9_correct) (pc := 48) 3 (kTab_at (pc := 48) tX9_correct_ok 29 rfl) rfl ?_
      refine K_iload_n (md := mX9_correct) (pc := 49) 4 (kTab_at (pc := 49) tX9_correct_ok 30 rfl) rfl ?_
      refine Z_iast (md := mX9_correct) (pc := 50) (kTab_at (pc := 50) tX9_correct_ok 31 rfl) sk_230 (by decide) h (fun μ h => ?_)
      refine K_aload_n (md := mX9_correct) (pc := 51) 2 (kTab_at (pc := 51) tX9_correct_ok 32 rfl) rfl ?_
      refine K_aload_n (md := mX9_correct) (pc := 52) 1 (kTab_at (pc := 52) tX9_correct_ok 33 rfl) rfl ?_
      refine K_getR (md := mX9_correct) (pc := 53) (b := 229) (kTab_at (pc := 53) tX9_correct_ok 34 rfl) fl_X9_15 sk_227 rfl rfl ?_
      refine K_iload_n (md := mX9_correct) (pc := 56) 3 (kTab_at (pc := 56) tX9_correct_ok 35 rfl) rfl ?_
      refine Z_iald (md := mX9_correct) (pc := 57) (kTab_at (pc := 57) tX9_correct_ok 36 rfl) sk_229 (by decide) h (fun x10 h => ?_)
      refine K_iload_n (md := mX9_correct) (pc := 58) 4 (kTab_at (pc := 58) tX9_correct_ok 37 rfl) rfl ?_
      refine Z_callV (md := mX9_correct) (pc := 59) (st := []) (sv := (fun x11 => [.int (iI x11)])) (kTab_at (pc := 59) tX9_correct_ok 38 rfl) mv_X9_80 (lay_0 h1 rfl) rfl (Nat.le_of_ble_eq_true rfl) (by decide) rfl (c_X1_agree X p1 x10 p3 h1 μ) (fun _ => rfl) h (fun μ x11 h => ?_) rfl
      refine K_istore (md := mX9_correct) (pc := 62) (l' := [(5, .int (iI x11)), (4, .int (iI x1)), (0, .ref (X.1 + 227)), (1, .ref (X.1 + p1)), (2, .int (iI p2)), (3, .int (iI p3))]) (kTab_at (pc := 62) tX9_correct_ok 39 rfl) (Nat.le_of_ble_eq_true rfl) rfl ?_
      refine K_aload_n (md := mX9_correct) (pc := 64) 2 (kTab_at (pc := 64) tX9_correct_ok 40 rfl) rfl ?_
      refine K_getR (md := mX9_correct) (pc := 65) (b := 231) (kTab_at (pc := 65) tX9_correct_ok 41 rfl) fl_X9_21 sk_227 rfl rfl ?_
      refine K_iload_n (md := mX9_correct) (pc := 68) 4 (kTab_at (pc := 68) tX9_correct_ok 42 rfl) rfl ?_
      refine K_iload (md := mX9_correct) (pc := 69) 0 (kTab_at (pc := 69) tX9_correct_ok 43 rfl) rfl ?_
      refine K_if_eq (md := mX9_correct) (pc := 71) (kTab_at (pc := 71) tX9_correct_ok 44 rfl) (tgt := 87) rfl h (fun h => ?_) (fun h => ?_)
      · refine K_aload_n (md := mX9_correct) (pc := 87) 2 (kTab_at (pc := 87) tX9_correct_ok 54 rfl) rfl ?_
        refine K_getR (md := mX9_correct) (pc := 88) (b := 229) (kTab_at (pc := 88) tX9_correct_ok 55 rfl) fl_X9_15 sk_227 rfl rfl ?_
        refine K_iload_n (md := mX9_correct) (pc := 91) 4 (kTab_at (pc := 91) tX9_correct_ok 56 rfl) rfl ?_
        refine Z_iald (md := mX9_correct) (pc := 92) (kTab_at (pc := 92) tX9_correct_ok 57 rfl) sk_229 (by decide) h (fun x12 h => ?_)
        refine K_iload_n (md := mX9_correct) (pc := 93) 5 (kTab_at (pc := 93) tX9_correct_ok 58 rfl) rfl ?_
        refine Z_mmin (md := mX9_correct) (pc := 94) (kTab_at (pc := 94) tX9_correct_ok 59 rfl) (inT5 33 (by decide +kernel) rfl) (inT2 136 (by decide +kernel) rfl) (inT1 22 (by decide +kernel) rfl) (inT2 137 (by decide +kernel) rfl) (Nat.le_of_ble_eq_true rfl) h (fun x13 h => ?_)
        refine K_sub [2, 4, 1] rfl ?_
        refine c_X9_correct_97 X p1 p2 p3 h1  x1 p2 x13 μ h
      · refine K_aload_n (md := mX9_correct) (pc := 74) 2 (kTab_at (pc := 74) tX9_correct_ok 45 rfl) rfl ?_
        refine K_getR (md := mX9_correct) (pc := 75) (b := 229) (kTab_at (pc := 75) tX9_correct_ok 46 rfl) fl_X9_15 sk_227 rfl rfl ?_
        refine K_iload_n (md := mX9_correct) (pc := 78) 4 (kTab_at (pc := 78) tX9_correct_ok 47 rfl) rfl ?_
        refine Z_iald (md := mX9_correct) (pc := 79) (kTab_at (pc := 79) tX9_correct_ok 48 rfl) sk_229 (by decide) h (fun x14 h => ?_)
        refine K_iload_n (md := mX9_correct) (pc := 80) 5 (kTab_at (pc := 80) tX9_correct_ok 49 rfl) rfl ?_
        refine K_iadd (md := mX9_correct) (pc := 81) (kTab_at (pc := 81) tX9_correct_ok 50 rfl) ?_
        refine K_iconst (md := mX9_correct) (pc := 82) (x := 2) (kTab_at (pc := 82) tX9_correct_ok 51 rfl) rfl ?_
        refine Z_idiv (md := mX9_correct) (pc := 83) (kTab_at (pc := 83) tX9_correct_ok 52 rfl) h (fun x15 h => ?_)
        refine K_goto (md := mX9_correct) (pc := 84) (tgt := 97) (kTab_at (pc := 84) tX9_correct_ok 53 rfl) rfl ?_
        refine K_sub [2, 4, 1] rfl ?_
        refine c_X9_correct_97 X p1 p2 p3 h1  x1 p2 x15 μ h
  · refine K_aload_n (md := mX9_correct) (pc := 17) 1 (kTab_at (pc := 17) tX9_correct_ok 10 rfl) rfl ?_
    refine K_getR (md := mX9_correct) (pc := 18) (b := 229) (kTab_at (pc := 18) tX9_correct_ok 11 rfl) fl_X9_15 sk_227 rfl rfl ?_
    refine K_iload_n (md := mX9_correct) (pc := 21) 3 (kTab_at (pc := 21) tX9_correct_ok 12 rfl) rfl ?_
    refine K_iload_n (md := mX9_correct) (pc := 22) 4 (kTab_at (pc := 22) tX9_correct_ok 13 rfl) rfl ?_
    refine Z_iast (md := mX9_correct) (pc := 23) (kTab_at (pc := 23) tX9_correct_ok 14 rfl) sk_229 (by decide) h (fun μ h => ?_)
    refine K_aload_n (md := mX9_correct) (pc := 24) 1 (kTab_at (pc := 24) tX9_correct_ok 15 rfl) rfl ?_
    refine K_getR (md := mX9_correct) (pc := 25) (b := 231) (kTab_at (pc := 25) tX9_correct_ok 16 rfl) fl_X9_21 sk_227 rfl rfl ?_
    refine K_iload_n (md := mX9_correct) (pc := 28) 3 (kTab_at (pc := 28) tX9_correct_ok 17 rfl) rfl ?_
    refine K_iload_n (md := mX9_correct) (pc := 29) 4 (kTab_at (pc := 29) tX9_correct_ok 18 rfl) rfl ?_
    refine Z_iast (md := mX9_correct) (pc := 30) (kTab_at (pc := 30) tX9_correct_ok 19 rfl) sk_231 (by decide) h (fun μ h => ?_)
    refine K_goto (md := mX9_correct) (pc := 31) (tgt := 142) (kTab_at (pc := 31) tX9_correct_ok 20 rfl) rfl ?_
    refine K_sub [1, 3, 0] rfl ?_
    refine c_X9_correct_142 X p1 p2 p3 h1  x1 μ h
def f_X9_sumOf_191 (p1 : Nat) (p2 : Int) (k129 : Int → Int → Mu → Option Res) (v3 : Int) (v4 : Int) (μ : Mu) : Option Res := k129 v3 (v4 + 1) μ
set_option maxRecDepth 100000 in
theorem c_X9_sumOf_191 (X : kX) (p1 : Nat) (p2 : Int) (h1 : Lay p1 (ksX1 p1)) {res : Res} (k129 : Int → Int → Mu → Option Res) (hk129 : ∀ (v3 : Int), ∀ (v4 : Int), ∀ (μ : Mu), k129 v3 v4 μ = some res → KK X mX9_sumOf 3 1 res 129 [(0, .ref (X.1 + 227)), (1, .ref (X.1 + p1)), (2, .int (iI p2)), (3, .int (iI v3)), (4, .int (iI v4))] [] μ) (v3 : Int) (v4 : Int) (μ : Mu) (h : f_X9_sumOf_191 p1 p2 k129 v3 v4 μ = some res) : KK X mX9_sumOf 3 1 res 191 [(0, .ref (X.1 + 227)), (1, .ref (X.1 + p1)), (2, .int (iI p2)), (3, .int (iI v3)), (4, .int (iI v4))] [] μ := by
  unfold f_X9_sumOf_191 at h
  refine K_iinc (md := mX9_sumOf) (pc := 191) (l' := [(4, .int (iI (v4 + 1))), (0, .ref (X.1 + 227)), (1, .ref (X.1 + p1)), (2, .int (iI p2)), (3, .int (iI v3))]) 4 (kTab_at (pc := 191) tX9_sumOf_ok 100 rfl) rfl (Nat.le_of_ble_eq_true rfl) rfl ?_
  refine K_goto (md := mX9_sumOf) (pc := 194) (tgt := 129) (kTab_at (pc := 194) tX9_sumOf_ok 101 rfl) rfl ?_
  refine K_sub [1, 2, 3, 4, 0] rfl ?_
  exact hk129 v3 (v4 + 1) μ h
def f_X9_sumOf_129 (p1 : Nat) (p2 : Int) (k197 : Int → Mu → Option Res) : Nat → Int → Int → Mu → Option Res
  | 0, _, _, _ => none
  | fu + 1, v3, v4, μ => i_lt v4 5 (rb (f_X10_scriptOf p2 v4 μ) fun μ x1 => rdI μ ((p1 + 19) + 1) 40 x1 fun x2 => i_eq x2 3 (rb (f_X1_isExcused p1 p2 v4 μ) fun μ x3 => i_eq x3 0 (rdI μ ((p1 + 19) + 3) 40 x1 fun x4 => rdI μ 231 5 v4 fun x5 => bnd (v3 + ((x4 * 120) - x5)) fun x6 => f_X9_sumOf_191 p1 p2 (f_X9_sumOf_129 p1 p2 k197 fu) x6 v4 μ) (f_X9_sumOf_191 p1 p2 (f_X9_sumOf_129 p1 p2 k197 fu) v3 v4 μ)) (f_X9_sumOf_191 p1 p2 (f_X9_sumOf_129 p1 p2 k197 fu) v3 v4 μ)) (k197 v3 μ)
set_option maxRecDepth 100000 in
theorem c_X9_sumOf_129 (X : kX) (p1 : Nat) (p2 : Int) (h1 : Lay p1 (ksX1 p1)) {res : Res} (k197 : Int → Mu → Option Res) (hk197 : ∀ (v3 : Int), ∀ (μ : Mu), k197 v3 μ = some res → KK X mX9_sumOf 3 1 res 197 [(3, .int (iI v3))] [] μ) : ∀ (fu : Nat)  (v3 : Int) (v4 : Int) (μ : Mu), f_X9_sumOf_129 p1 p2 k197 fu v3 v4 μ = some res → KK X mX9_sumOf 3 1 res 129 [(0, .ref (X.1 + 227)), (1, .ref (X.1 + p1)), (2, .int (iI p2)), (3, .int (iI v3)), (4, .int (iI v4))] [] μ := by
  intro fu
  induction fu with
  | zero => intro v3 v4 μ h; exact nomatch h
  | succ fu ih =>
    intro v3 v4 μ h
    refine K_iload (md := mX9_sumOf) (pc := 129) 4 (kTab_at (pc := 129) tX9_sumOf_ok 66 rfl) rfl ?_
    refine K_iconst (md := mX9_sumOf) (pc := 131) (x := 5) (kTab_at (pc := 131) tX9_sumOf_ok 67 rfl) rfl ?_
    refine K_icmp_ge (md := mX9_sumOf) (pc := 132) (kTab_at (pc := 132) tX9_sumOf_ok 68 rfl) (tgt := 197) rfl h (fun h => ?_) (fun h => ?_)
    · refine K_sub [3] rfl ?_
      exact hk197 v3 μ h
    · refine K_iload_n (md := mX9_sumOf) (pc := 135) 2 (kTab_at (pc := 135) tX9_sumOf_ok 69 rfl) rfl ?_
      refine K_iload (md := mX9_sumOf) (pc := 136) 4 (kTab_at (pc := 136) tX9_sumOf_ok 70 rfl) rfl ?_
      refine Z_callSN (md := mX9_sumOf) (pc := 138) (st := []) (sv := (fun x1 => [.int (iI x1)])) (kTab_at (pc := 138) tX9_sumOf_ok 71 rfl) mn_X9_64 rfl (Nat.le_of_ble_eq_true rfl) (by decide) (c_X10_scriptOf X p2 v4 μ) (n_X10_scriptOf p2 v4 μ) (fun _ => rfl) h (fun μ x1 h => ?_) rfl
      refine K_istore (md := mX9_sumOf) (pc := 141) (l' := [(5, .int (iI x1)), (0, .ref (X.1 + 227)), (1, .ref (X.1 + p1)), (2, .int (iI p2)), (3, .int (iI v3)), (4, .int (iI v4))]) (kTab_at (pc := 141) tX9_sumOf_ok 72 rfl) (Nat.le_of_ble_eq_true rfl) rfl ?_
      refine K_aload_n (md := mX9_sumOf) (pc := 143) 2 (kTab_at (pc := 143) tX9_sumOf_ok 73 rfl) rfl ?_
      refine K_getR (md := mX9_sumOf) (pc := 144) (b := (p1 + 19)) (kTab_at (pc := 144) tX9_sumOf_ok 74 rfl) fl_X9_68 (lay_0 h1 rfl) rfl rfl ?_
      refine K_getR (md := mX9_sumOf) (pc := 147) (b := ((p1 + 19) + 1)) (kTab_at (pc := 147) tX9_sumOf_ok 75 rfl) fl_X9_72 (lay_0 (lay_appeals h1) rfl) rfl rfl ?_
      refine K_iload (md := mX9_sumOf) (pc := 150) 0 (kTab_at (pc := 150) tX9_sumOf_ok 76 rfl) rfl ?_
      refine Z_iald (md := mX9_sumOf) (pc := 152) (kTab_at (pc := 152) tX9_sumOf_ok 77 rfl) (lay_at (lay_appeals h1) 1 rfl) (by decide) h (fun x2 h => ?_)
      refine K_iconst (md := mX9_sumOf) (pc := 153) (x := 3) (kTab_at (pc := 153) tX9_sumOf_ok 78 rfl) rfl ?_
      refine K_icmp_ne (md := mX9_sumOf) (pc := 154) (kTab_at (pc := 154) tX9_sumOf_ok 79 rfl) (tgt := 191) rfl h (fun h => ?_) (fun h => ?_)
      · refine K_sub [1, 2, 3, 4, 5] rfl ?_
        refine c_X9_sumOf_191 X p1 p2 h1 _ ih v3 v4 μ h
      · refine K_aload_n (md := mX9_sumOf) (pc := 157) 2 (kTab_at (pc := 157) tX9_sumOf_ok 80 rfl) rfl ?_
        refine K_iload_n (md := mX9_sumOf) (pc := 158) 3 (kTab_at (pc := 158) tX9_sumOf_ok 81 rfl) rfl ?_
        refine K_iload (md := mX9_sumOf) (pc := 159) 5 (kTab_at (pc := 159) tX9_sumOf_ok 82 rfl) rfl ?_
        refine Z_callV (md := mX9_sumOf) (pc := 161) (st := []) (sv := (fun x3 => [.int (iI x3)])) (kTab_at (pc := 161) tX9_sumOf_ok 83 rfl) mv_X9_49 (lay_0 h1 rfl) rfl (Nat.le_of_ble_eq_true rfl) (by decide) rfl (c_X1_isExcused X p1 p2 v4 h1 μ) (fun _ => rfl) h (fun μ x3 h => ?_) rfl
        refine K_if_ne (md := mX9_sumOf) (pc := 164) (kTab_at (pc := 164) tX9_sumOf_ok 84 rfl) (tgt := 191) rfl h (fun h => ?_) (fun h => ?_)
        · refine K_sub [1, 2, 3, 4, 5] rfl ?_
          refine c_X9_sumOf_191 X p1 p2 h1 _ ih v3 v4 μ h
        · refine K_iload_n (md := mX9_sumOf) (pc := 167) 4 (kTab_at (pc := 167) tX9_sumOf_ok 85 rfl) rfl ?_
          refine K_aload_n (md := mX9_sumOf) (pc := 168) 2 (kTab_at (pc := 168) tX9_sumOf_ok 86 rfl) rfl ?_
          refine K_getR (md := mX9_sumOf) (pc := 169) (b := (p1 + 19)) (kTab_at (pc := 169) tX9_sumOf_ok 87 rfl) fl_X9_68 (lay_0 h1 rfl) rfl rfl ?_
          refine K_getR (md := mX9_sumOf) (pc := 172) (b := ((p1 + 19) + 3)) (kTab_at (pc := 172) tX9_sumOf_ok 88 rfl) fl_X9_77 (lay_0 (lay_appeals h1) rfl) rfl rfl ?_
          refine K_iload (md := mX9_sumOf) (pc := 175) 0 (kTab_at (pc := 175) tX9_sumOf_ok 89 rfl) rfl ?_
          refine Z_iald (md := mX9_sumOf) (pc := 177) (kTab_at (pc := 177) tX9_sumOf_ok 90 rfl) (lay_at (lay_appeals h1) 3 rfl) (by decide) h (fun x4 h => ?_)
          refine K_bipush (md := mX9_sumOf) (pc := 178) (x := 120) (kTab_at (pc := 178) tX9_sumOf_ok 91 rfl) (by decide) ?_
          refine K_imul (md := mX9_sumOf) (pc := 180) (kTab_at (pc := 180) tX9_sumOf_ok 92 rfl) ?_
          refine K_aload_n (md := mX9_sumOf) (pc := 181) 1 (kTab_at (pc := 181) tX9_sumOf_ok 93 rfl) rfl ?_
          refine K_getR (md := mX9_sumOf) (pc := 182) (b := 231) (kTab_at (pc := 182) tX9_sumOf_ok 94 rfl) fl_X9_21 sk_227 rfl rfl ?_
          refine K_iload (md := mX9_sumOf) (pc := 185) 5 (kTab_at (pc := 185) tX9_sumOf_ok 95 rfl) rfl ?_
          refine Z_iald (md := mX9_sumOf) (pc := 187) (kTab_at (pc := 187) tX9_sumOf_ok 96 rfl) sk_231 (by decide) h (fun x5 h => ?_)
          refine K_isub (md := mX9_sumOf) (pc := 188) (kTab_at (pc := 188) tX9_sumOf_ok 97 rfl) ?_
          refine K_iadd (md := mX9_sumOf) (pc := 189) (kTab_at (pc := 189) tX9_sumOf_ok 98 rfl) ?_
          refine Z_bnd (md := mX9_sumOf) (pc := 190) h (fun x6 h => ?_)
          refine K_istore_n (md := mX9_sumOf) (pc := 190) (l' := [(3, .int (iI x6)), (5, .int (iI x1)), (0, .ref (X.1 + 227)), (1, .ref (X.1 + p1)), (2, .int (iI p2)), (4, .int (iI v4))]) (kTab_at (pc := 190) tX9_sumOf_ok 99 rfl) (Nat.le_of_ble_eq_true rfl) rfl ?_
          refine K_sub [2, 3, 4, 0, 5] rfl ?_
          refine c_X9_sumOf_191 X p1 p2 h1 _ ih x6 v4 μ h
def f_X9_sumOf_126 (p1 : Nat) (p2 : Int)  (v3 : Int) (μ : Mu) : Option Res := f_X9_sumOf_129 p1 p2 (fun v3 μ => some (μ, 0, v3)) FU v3 0 μ
set_option maxRecDepth 100000 in
theorem c_X9_sumOf_126 (X : kX) (p1 : Nat) (p2 : Int) (h1 : Lay p1 (ksX1 p1)) {res : Res}  (v3 : Int) (μ : Mu) (h : f_X9_sumOf_126 p1 p2 v3 μ = some res) : KK X mX9_sumOf 3 1 res 126 [(0, .ref (X.1 + 227)), (1, .ref (X.1 + p1)), (2, .int (iI p2)), (3, .int (iI v3))] [] μ := by
  unfold f_X9_sumOf_126 at h
  refine K_iconst (md := mX9_sumOf) (pc := 126) (x := 0) (kTab_at (pc := 126) tX9_sumOf_ok 64 rfl) rfl ?_
  refine K_istore (md := mX9_sumOf) (pc := 127) (l' := [(4, .int (iI 0)), (0, .ref (X.1 + 227)), (1, .ref (X.1 + p1)), (2, .int (iI p2)), (3, .int (iI v3))]) (kTab_at (pc := 127) tX9_sumOf_ok 65 rfl) (Nat.le_of_ble_eq_true rfl) rfl ?_
  refine K_sub [1, 2, 3, 4, 0] rfl ?_
  refine c_X9_sumOf_129 X p1 p2 h1 _ ?_ _ v3 0 μ h
  · intro v3 μ h
    refine K_iload_n (md := mX9_sumOf) (pc := 197) 0 (kTab_at (pc := 197) tX9_sumOf_ok 102 rfl) rfl ?_
    exact Z_iret (md := mX9_sumOf) (pc := 198) (kTab_at (pc := 198) tX9_sumOf_ok 103 rfl) rfl rfl rfl h
def f_X9_sumOf_120 (p1 : Nat) (p2 : Int) (k21 : Int → Int → Mu → Option Res) (v3 : Int) (v4 : Int) (μ : Mu) : Option Res := k21 v3 (v4 + 1) μ
set_option maxRecDepth 100000 in
theorem c_X9_sumOf_120 (X : kX) (p1 : Nat) (p2 : Int) (h1 : Lay p1 (ksX1 p1)) {res : Res} (k21 : Int → Int → Mu → Option Res) (hk21 : ∀ (v3 : Int), ∀ (v4 : Int), ∀ (μ : Mu), k21 v3 v4 μ = some res → KK X mX9_sumOf 3 1 res 21 [(0, .ref (X.1 + 227)), (1, .ref (X.1 + p1)), (2, .int (iI p2)), (3, .int (iI v3)), (4, .int (iI v4))] [] μ) (v3 : Int) (v4 : Int) (μ : Mu) (h : f_X9_sumOf_120 p1 p2 k21 v3 v4 μ = some res) : KK X mX9_sumOf 3 1 res 120 [(0, .ref (X.1 + 227)), (1, .ref (X.1 + p1)), (2, .int (iI p2)), (3, .int (iI v3)), (4, .int (iI v4))] [] μ := by
  unfold f_X9_sumOf_120 at h
  refine K_iinc (md := mX9_sumOf) (pc := 120) (l' := [(4, .int (iI (v4 + 1))), (0, .ref (X.1 + 227)), (1, .ref (X.1 + p1)), (2, .int (iI p2)), (3, .int (iI v3))]) 4 (kTab_at (pc := 120) tX9_sumOf_ok 62 rfl) rfl (Nat.le_of_ble_eq_true rfl) rfl ?_
  refine K_goto (md := mX9_sumOf) (pc := 123) (tgt := 21) (kTab_at (pc := 123) tX9_sumOf_ok 63 rfl) rfl ?_
  refine K_sub [1, 2, 3, 4, 0] rfl ?_
  exact hk21 v3 (v4 + 1) μ h
def f_X9_sumOf_72 (p1 : Nat) (p2 : Int) (k21 : Int → Int → Mu → Option Res) (v3 : Int) (v4 : Int) (v5 : Int) (s0 : Int) (μ : Mu) : Option Res := i_eq s0 0 (f_X9_sumOf_120 p1 p2 k21 v3 v4 μ) (rb (f_X10_questionOf v5 μ) fun μ x1 => rb (f_X1_isExcused p1 p2 x1 μ) fun μ x2 => i_eq x2 0 (rb (f_X1_isValid p1 v5 μ) fun μ x3 => i_eq x3 0 (f_X9_sumOf_120 p1 p2 k21 v3 v4 μ) (rb (f_X10_questionOf v5 μ) fun μ x4 => rb (f_X1_valueOf p1 v5 μ) fun μ x5 => rb (f_X9_correct p1 x4 x5 μ) fun μ x6 => bnd (v3 + x6) fun x7 => f_X9_sumOf_120 p1 p2 k21 x7 v4 μ)) (f_X9_sumOf_120 p1 p2 k21 v3 v4 μ))
set_option maxRecDepth 100000 in
theorem c_X9_sumOf_72 (X : kX) (p1 : Nat) (p2 : Int) (h1 : Lay p1 (ksX1 p1)) {res : Res} (k21 : Int → Int → Mu → Option Res) (hk21 : ∀ (v3 : Int), ∀ (v4 : Int), ∀ (μ : Mu), k21 v3 v4 μ = some res → KK X mX9_sumOf 3 1 res 21 [(0, .ref (X.1 + 227)), (1, .ref (X.1 + p1)), (2, .int (iI p2)), (3, .int (iI v3)), (4, .int (iI v4))] [] μ) (v3 : Int) (v4 : Int) (v5 : Int) (s0 : Int) (μ : Mu) (h : f_X9_sumOf_72 p1 p2 k21 v3 v4 v5 s0 μ = some res) : KK X mX9_sumOf 3 1 res 72 [(0, .ref (X.1 + 227)), (1, .ref (X.1 + p1)), (2, .int (iI p2)), (3, .int (iI v3)), (4, .int (iI v4)), (5, .int (iI v5))] [.int (iI s0)] μ := by
  unfold f_X9_sumOf_72 at h
  refine K_istore (md := mX9_sumOf) (pc := 72) (l' := [(6, .int (iI s0)), (0, .ref (X.1 + 227)), (1, .ref (X.1 + p1)), (2, .int (iI p2)), (3, .int (iI v3)), (4, .int (iI v4)), (5, .int (iI v5))]) (kTab_at (pc := 72) tX9_sumOf_ok 38 rfl) (Nat.le_of_ble_eq_true rfl) rfl ?_
  refine K_iload (md := mX9_sumOf) (pc := 74) 0 (kTab_at (pc := 74) tX9_sumOf_ok 39 rfl) rfl ?_
  refine K_if_eq (md := mX9_sumOf) (pc := 76) (kTab_at (pc := 76) tX9_sumOf_ok 40 rfl) (tgt := 120) rfl h (fun h => ?_) (fun h => ?_)
  · refine K_sub [1, 2, 3, 4, 5] rfl ?_
    refine c_X9_sumOf_120 X p1 p2 h1 _ hk21 v3 v4 μ h
  · refine K_aload_n (md := mX9_sumOf) (pc := 79) 2 (kTab_at (pc := 79) tX9_sumOf_ok 41 rfl) rfl ?_
    refine K_iload_n (md := mX9_sumOf) (pc := 80) 3 (kTab_at (pc := 80) tX9_sumOf_ok 42 rfl) rfl ?_
    refine K_iload (md := mX9_sumOf) (pc := 81) 6 (kTab_at (pc := 81) tX9_sumOf_ok 43 rfl) rfl ?_
    refine Z_callSN (md := mX9_sumOf) (pc := 83) (st := [.int (iI p2), .ref (X.1 + p1)]) (sv := (fun x1 => [.int (iI x1), .int (iI p2), .ref (X.1 + p1)])) (kTab_at (pc := 83) tX9_sumOf_ok 44 rfl) mn_X9_45 rfl (Nat.le_of_ble_eq_true rfl) (by decide) (c_X10_questionOf X v5 μ) (n_X10_questionOf v5 μ) (fun _ => rfl) h (fun μ x1 h => ?_) rfl
    refine Z_callV (md := mX9_sumOf) (pc := 86) (st := []) (sv := (fun x2 => [.int (iI x2)])) (kTab_at (pc := 86) tX9_sumOf_ok 45 rfl) mv_X9_49 (lay_0 h1 rfl) rfl (Nat.le_of_ble_eq_true rfl) (by decide) rfl (c_X1_isExcused X p1 p2 x1 h1 μ) (fun _ => rfl) h (fun μ x2 h => ?_) rfl
    refine K_if_ne (md := mX9_sumOf) (pc := 89) (kTab_at (pc := 89) tX9_sumOf_ok 46 rfl) (tgt := 120) rfl h (fun h => ?_) (fun h => ?_)
    · refine K_sub [1, 2, 3, 4, 5] rfl ?_
      refine c_X9_sumOf_120 X p1 p2 h1 _ hk21 v3 v4 μ h
    · refine K_aload_n (md := mX9_sumOf) (pc := 92) 2 (kTab_at (pc := 92) tX9_sumOf_ok 47 rfl) rfl ?_
      refine K_iload (md := mX9_sumOf) (pc := 93) 6 (kTab_at (pc := 93) tX9_sumOf_ok 48 rfl) rfl ?_
      refine Z_callV (md := mX9_sumOf) (pc := 95) (st := []) (sv := (fun x3 => [.int (iI x3)])) (kTab_at (pc := 95) tX9_sumOf_ok 49 rfl) mv_X9_53 (lay_0 h1 rfl) rfl (Nat.le_of_ble_eq_true rfl) (by decide) rfl (c_X1_isValid X p1 v5 h1 μ) (fun _ => rfl) h (fun μ x3 h => ?_) rfl
      refine K_if_eq (md := mX9_sumOf) (pc := 98) (kTab_at (pc := 98) tX9_sumOf_ok 50 rfl) (tgt := 120) rfl h (fun h => ?_) (fun h => ?_)
      · refine K_sub [1, 2, 3, 4, 5] rfl ?_
        refine c_X9_sumOf_120 X p1 p2 h1 _ hk21 v3 v4 μ h
      · refine K_iload_n (md := mX9_sumOf) (pc := 101) 4 (kTab_at (pc := 101) tX9_sumOf_ok 51 rfl) rfl ?_
        refine K_aload_n (md := mX9_sumOf) (pc := 102) 1 (kTab_at (pc := 102) tX9_sumOf_ok 52 rfl) rfl ?_
        refine K_aload_n (md := mX9_sumOf) (pc := 103) 2 (kTab_at (pc := 103) tX9_sumOf_ok 53 rfl) rfl ?_
        refine K_iload (md := mX9_sumOf) (pc := 104) 6 (kTab_at (pc := 104) tX9_sumOf_ok 54 rfl) rfl ?_
        refine Z_callSN (md := mX9_sumOf) (pc := 106) (st := [.ref (X.1 + p1), .ref (X.1 + 227), .int (iI v3)]) (sv := (fun x4 => [.int (iI x4), .ref (X.1 + p1), .ref (X.1 + 227), .int (iI v3)])) (kTab_at (pc := 106) tX9_sumOf_ok 55 rfl) mn_X9_45 rfl (Nat.le_of_ble_eq_true rfl) (by decide) (c_X10_questionOf X v5 μ) (n_X10_questionOf v5 μ) (fun _ => rfl) h (fun μ x4 h => ?_) rfl
        refine K_aload_n (md := mX9_sumOf) (pc := 109) 2 (kTab_at (pc := 109) tX9_sumOf_ok 56 rfl) rfl ?_
        refine K_iload (md := mX9_sumOf) (pc := 110) 6 (kTab_at (pc := 110) tX9_sumOf_ok 57 rfl) rfl ?_
        refine Z_callV (md := mX9_sumOf) (pc := 112) (st := [.int (iI x4), .ref (X.1 + p1), .ref (X.1 + 227), .int (iI v3)]) (sv := (fun x5 => [.int (iI x5), .int (iI x4), .ref (X.1 + p1), .ref (X.1 + 227), .int (iI v3)])) (kTab_at (pc := 112) tX9_sumOf_ok 58 rfl) mv_X9_57 (lay_0 h1 rfl) rfl (Nat.le_of_ble_eq_true rfl) (by decide) rfl (c_X1_valueOf X p1 v5 h1 μ) (fun _ => rfl) h (fun μ x5 h => ?_) rfl
        refine Z_callV (md := mX9_sumOf) (pc := 115) (st := [.int (iI v3)]) (sv := (fun x6 => [.int (iI x6), .int (iI v3)])) (kTab_at (pc := 115) tX9_sumOf_ok 59 rfl) mv_X9_60 sk_227 rfl (Nat.le_of_ble_eq_true rfl) (by decide) rfl (c_X9_correct X p1 x4 x5 h1 μ) (fun _ => rfl) h (fun μ x6 h => ?_) rfl
        refine K_iadd (md := mX9_sumOf) (pc := 118) (kTab_at (pc := 118) tX9_sumOf_ok 60 rfl) ?_
        refine Z_bnd (md := mX9_sumOf) (pc := 119) h (fun x7 h => ?_)
        refine K_istore_n (md := mX9_sumOf) (pc := 119) (l' := [(3, .int (iI x7)), (6, .int (iI s0)), (0, .ref (X.1 + 227)), (1, .ref (X.1 + p1)), (2, .int (iI p2)), (4, .int (iI v4)), (5, .int (iI v5))]) (kTab_at (pc := 119) tX9_sumOf_ok 61 rfl) (Nat.le_of_ble_eq_true rfl) rfl ?_
        refine K_sub [2, 3, 4, 0, 5] rfl ?_
        refine c_X9_sumOf_120 X p1 p2 h1 _ hk21 x7 v4 μ h
def f_X9_sumOf_71 (p1 : Nat) (p2 : Int) (k21 : Int → Int → Mu → Option Res) (v3 : Int) (v4 : Int) (v5 : Int) (μ : Mu) : Option Res := f_X9_sumOf_72 p1 p2 k21 v3 v4 v5 0 μ
set_option maxRecDepth 100000 in
theorem c_X9_sumOf_71 (X : kX) (p1 : Nat) (p2 : Int) (h1 : Lay p1 (ksX1 p1)) {res : Res} (k21 : Int → Int → Mu → Option Res) (hk21 : ∀ (v3 : Int), ∀ (v4 : Int), ∀ (μ : Mu), k21 v3 v4 μ = some res → KK X mX9_sumOf 3 1 res 21 [(0, .ref (X.1 + 227)), (1, .ref (X.1 + p1)), (2, .int (iI p2)), (3, .int (iI v3)), (4, .int (iI v4))] [] μ) (v3 : Int) (v4 : Int) (v5 : Int) (μ : Mu) (h : f_X9_sumOf_71 p1 p2 k21 v3 v4 v5 μ = some res) : KK X mX9_sumOf 3 1 res 71 [(0, .ref (X.1 + 227)), (1, .ref (X.1 + p1)), (2, .int (iI p2)), (3, .int (iI v3)), (4, .int (iI v4)), (5, .int (iI v5))] [] μ := by
  unfold f_X9_sumOf_71 at h
  refine K_iconst (md := mX9_sumOf) (pc := 71) (x := 0) (kTab_at (pc := 71) tX9_sumOf_ok 37 rfl) rfl ?_
  refine c_X9_sumOf_72 X p1 p2 h1 _ hk21 v3 v4 v5 0 μ h
def f_X9_sumOf_21 (p1 : Nat) (p2 : Int) (k126 : Int → Mu → Option Res) : Nat → Int → Int → Mu → Option Res
  | 0, _, _, _ => none
  | fu + 1, v3, v4, μ => rdF μ (p1 + 11) 4 fun x1 => i_lt v4 x1 (i_lt v4 120 (rdI μ ((p1 + 11) + 4) 120 v4 fun x2 => i_lt x2 0 (f_X9_sumOf_71 p1 p2 (f_X9_sumOf_21 p1 p2 k126 fu) v3 v4 x2 μ) (i_div x2 3 fun x3 => i_div x3 5 fun x4 => i_eq x4 p2 (f_X9_sumOf_72 p1 p2 (f_X9_sumOf_21 p1 p2 k126 fu) v3 v4 x2 1 μ) (f_X9_sumOf_71 p1 p2 (f_X9_sumOf_21 p1 p2 k126 fu) v3 v4 x2 μ))) (k126 v3 μ)) (k126 v3 μ)
set_option maxRecDepth 100000 in
theorem c_X9_sumOf_21 (X : kX) (p1 : Nat) (p2 : Int) (h1 : Lay p1 (ksX1 p1)) {res : Res} (k126 : Int → Mu → Option Res) (hk126 : ∀ (v3 : Int), ∀ (μ : Mu), k126 v3 μ = some res → KK X mX9_sumOf 3 1 res 126 [(0, .ref (X.1 + 227)), (1, .ref (X.1 + p1)), (2, .int (iI p2)), (3, .int (iI v3))] [] μ) : ∀ (fu : Nat)  (v3 : Int) (v4 : Int) (μ : Mu), f_X9_sumOf_21 p1 p2 k126 fu v3 v4 μ = some res → KK X mX9_sumOf 3 1 res 21 [(0, .ref (X.1 + 227)), (1, .ref (X.1 + p1)), (2, .int (iI p2)), (3, .int (iI v3)), (4, .int (iI v4))] [] μ := by
  intro fu
  induction fu with
  | zero => intro v3 v4 μ h; exact nomatch h
  | succ fu ih =>
    intro v3 v4 μ h
    refine K_iload (md := mX9_sumOf) (pc := 21) 4 (kTab_at (pc := 21) tX9_sumOf_ok 12 rfl) rfl ?_
    refine K_aload_n (md := mX9_sumOf) (pc := 23) 1 (kTab_at (pc := 23) tX9_sumOf_ok 13 rfl) rfl ?_
    refine K_getR (md := mX9_sumOf) (pc := 24) (b := (p1 + 11)) (kTab_at (pc := 24) tX9_sumOf_ok 14 rfl) fl_X9_30 (lay_0 h1 rfl) rfl rfl ?_
    refine Z_getI (md := mX9_sumOf) (pc := 27) (kTab_at (pc := 27) tX9_sumOf_ok 15 rfl) fl_X9_36 (lay_0 (lay_entries h1) rfl) (Or.inl rfl) h (fun x1 h => ?_)
    refine K_icmp_ge (md := mX9_sumOf) (pc := 30) (kTab_at (pc := 30) tX9_sumOf_ok 16 rfl) (tgt := 126) rfl h (fun h => ?_) (fun h => ?_)
    · refine K_sub [0, 1, 2, 3] rfl ?_
      exact hk126 v3 μ h
    · refine K_iload (md := mX9_sumOf) (pc := 33) 4 (kTab_at (pc := 33) tX9_sumOf_ok 17 rfl) rfl ?_
      refine K_bipush (md := mX9_sumOf) (pc := 35) (x := 120) (kTab_at (pc := 35) tX9_sumOf_ok 18 rfl) (by decide) ?_
      refine K_icmp_ge (md := mX9_sumOf) (pc := 37) (kTab_at (pc := 37) tX9_sumOf_ok 19 rfl) (tgt := 126) rfl h (fun h => ?_) (fun h => ?_)
      · refine K_sub [0, 1, 2, 3] rfl ?_
        exact hk126 v3 μ h
      · refine K_aload_n (md := mX9_sumOf) (pc := 40) 1 (kTab_at (pc := 40) tX9_sumOf_ok 20 rfl) rfl ?_
        refine K_getR (md := mX9_sumOf) (pc := 41) (b := (p1 + 11)) (kTab_at (pc := 41) tX9_sumOf_ok 21 rfl) fl_X9_30 (lay_0 h1 rfl) rfl rfl ?_
        refine K_getR (md := mX9_sumOf) (pc := 44) (b := ((p1 + 11) + 4)) (kTab_at (pc := 44) tX9_sumOf_ok 22 rfl) fl_X9_42 (lay_0 (lay_entries h1) rfl) rfl rfl ?_
        refine K_iload (md := mX9_sumOf) (pc := 47) 4 (kTab_at (pc := 47) tX9_sumOf_ok 23 rfl) rfl ?_
        refine Z_iald (md := mX9_sumOf) (pc := 49) (kTab_at (pc := 49) tX9_sumOf_ok 24 rfl) (lay_at (lay_entries h1) 4 rfl) (by decide) h (fun x2 h => ?_)
        refine K_istore (md := mX9_sumOf) (pc := 50) (l' := [(5, .int (iI x2)), (0, .ref (X.1 + 227)), (1, .ref (X.1 + p1)), (2, .int (iI p2)), (3, .int (iI v3)), (4, .int (iI v4))]) (kTab_at (pc := 50) tX9_sumOf_ok 25 rfl) (Nat.le_of_ble_eq_true rfl) rfl ?_
        refine K_iload (md := mX9_sumOf) (pc := 52) 0 (kTab_at (pc := 52) tX9_sumOf_ok 26 rfl) rfl ?_
        refine K_if_lt (md := mX9_sumOf) (pc := 54) (kTab_at (pc := 54) tX9_sumOf_ok 27 rfl) (tgt := 71) rfl h (fun h => ?_) (fun h => ?_)
        · refine K_sub [1, 2, 3, 4, 5, 0] rfl ?_
          refine c_X9_sumOf_71 X p1 p2 h1 _ ih v3 v4 x2 μ h
        · refine K_iload (md := mX9_sumOf) (pc := 57) 0 (kTab_at (pc := 57) tX9_sumOf_ok 28 rfl) rfl ?_
          refine K_iconst (md := mX9_sumOf) (pc := 59) (x := 3) (kTab_at (pc := 59) tX9_sumOf_ok 29 rfl) rfl ?_
          refine Z_idiv (md := mX9_sumOf) (pc := 60) (kTab_at (pc := 60) tX9_sumOf_ok 30 rfl) h (fun x3 h => ?_)
          refine K_iconst (md := mX9_sumOf) (pc := 61) (x := 5) (kTab_at (pc := 61) tX9_sumOf_ok 31 rfl) rfl ?_
          refine Z_idiv (md := mX9_sumOf) (pc := 62) (kTab_at (pc := 62) tX9_sumOf_ok 32 rfl) h (fun x4 h => ?_)
          refine K_iload_n (md := mX9_sumOf) (pc := 63) 3 (kTab_at (pc := 63) tX9_sumOf_ok 33 rfl) rfl ?_
          refine K_icmp_ne (md := mX9_sumOf) (pc := 64) (kTab_at (pc := 64) tX9_sumOf_ok 34 rfl) (tgt := 71) rfl h (fun h => ?_) (fun h => ?_)
          · refine K_sub [1, 2, 3, 4, 5, 0] rfl ?_
            refine c_X9_sumOf_71 X p1 p2 h1 _ ih v3 v4 x2 μ h
          · refine K_iconst (md := mX9_sumOf) (pc := 67) (x := 1) (kTab_at (pc := 67) tX9_sumOf_ok 35 rfl) rfl ?_
            refine K_goto (md := mX9_sumOf) (pc := 68) (tgt := 72) (kTab_at (pc := 68) tX9_sumOf_ok 36 rfl) rfl ?_
            refine K_sub [1, 2, 3, 4, 5, 0] rfl ?_
            refine c_X9_sumOf_72 X p1 p2 h1 _ ih v3 v4 x2 1 μ h
def f_X9_sumOf (p1 : Nat) (p2 : Int) (μ : Mu) : Option Res := rb (f_J7_fill_53178 228 5 0 μ) fun μ _ => rb (f_J7_fill_53178 231 5 0 μ) fun μ _ => f_X9_sumOf_21 p1 p2 (fun v3 μ => f_X9_sumOf_126 p1 p2 v3 μ) FU 0 0 μ
set_option maxRecDepth 100000 in
theorem c_X9_sumOf (X : kX) (p1 : Nat) (p2 : Int) (h1 : Lay p1 (ksX1 p1)) (μ : Mu) : Cq X mX9_sumOf 3 1 μ [.ref (X.1 + 227), .ref (X.1 + p1), .int (iI p2)] (f_X9_sumOf p1 p2 μ) := by
  intro res h
  refine ct_of (by decide +kernel) rfl (Nat.le_of_ble_eq_true rfl) ?_
  show KK X mX9_sumOf 3 1 res 0 [(0, .ref (X.1 + 227)), (1, .ref (X.1 + p1)), (2, .int (iI p2))] [] μ
  unfold f_X9_sumOf at h
  refine K_aload_n (md := mX9_sumOf) (pc := 0) 0 (kTab_at (pc := 0) tX9_sumOf_ok 0 rfl) rfl ?_
  refine K_getR (md := mX9_sumOf) (pc := 1) (b := 228) (kTab_at (pc := 1) tX9_sumOf_ok 1 rfl) fl_X9_9 sk_227 rfl rfl ?_
  refine K_iconst (md := mX9_sumOf) (pc := 4) (x := 0) (kTab_at (pc := 4) tX9_sumOf_ok 2 rfl) rfl ?_
  refine Z_callS (md := mX9_sumOf) (pc := 5) (st := []) (sv := (fun _ => [])) (kTab_at (pc := 5) tX9_sumOf_ok 3 rfl) ms_X9_24 rfl (Nat.le_of_ble_eq_true rfl) (by decide) rfl (c_J7_fill_53178 X 228 5 0 sk_228 (by decide) μ) (fun _ => rfl) h (fun μ _ h => ?_) rfl
  refine K_aload_n (md := mX9_sumOf) (pc := 8) 0 (kTab_at (pc := 8) tX9_sumOf_ok 4 rfl) rfl ?_
  refine K_getR (md := mX9_sumOf) (pc := 9) (b := 231) (kTab_at (pc := 9) tX9_sumOf_ok 5 rfl) fl_X9_21 sk_227 rfl rfl ?_
  refine K_iconst (md := mX9_sumOf) (pc := 12) (x := 0) (kTab_at (pc := 12) tX9_sumOf_ok 6 rfl) rfl ?_
  refine Z_callS (md := mX9_sumOf) (pc := 13) (st := []) (sv := (fun _ => [])) (kTab_at (pc := 13) tX9_sumOf_ok 7 rfl) ms_X9_24 rfl (Nat.le_of_ble_eq_true rfl) (by decide) rfl (c_J7_fill_53178 X 231 5 0 sk_231 (by decide) μ) (fun _ => rfl) h (fun μ _ h => ?_) rfl
  refine K_iconst (md := mX9_sumOf) (pc := 16) (x := 0) (kTab_at (pc := 16) tX9_sumOf_ok 8 rfl) rfl ?_
  refine K_istore_n (md := mX9_sumOf) (pc := 17) (l' := [(3, .int (iI 0)), (0, .ref (X.1 + 227)), (1, .ref (X.1 + p1)), (2, .int (iI p2))]) (kTab_at (pc := 17) tX9_sumOf_ok 9 rfl) (Nat.le_of_ble_eq_true rfl) rfl ?_
  refine K_iconst (md := mX9_sumOf) (pc := 18) (x := 0) (kTab_at (pc := 18) tX9_sumOf_ok 10 rfl) rfl ?_
  refine K_istore (md := mX9_sumOf) (pc := 19) (l' := [(4, .int (iI 0)), (3, .int (iI 0)), (0, .ref (X.1 + 227)), (1, .ref (X.1 + p1)), (2, .int (iI p2))]) (kTab_at (pc := 19) tX9_sumOf_ok 11 rfl) (Nat.le_of_ble_eq_true rfl) rfl ?_
  refine K_sub [2, 3, 4, 1, 0] rfl ?_
  refine c_X9_sumOf_21 X p1 p2 h1 _ ?_ _ 0 0 μ h
  · intro v3 μ h
    refine c_X9_sumOf_126 X p1 p2 h1  v3 μ h
def f_X10_requireQuestion (p0 : Int) (μ : Mu) : Option Res := rb (f_X10_isBelow p0 5 μ) fun μ x1 => i_eq x1 0 (some (μ, 3, 0)) (some (μ, 0, 0))
set_option maxRecDepth 100000 in
theorem c_X10_requireQuestion (X : kX) (p0 : Int)  (μ : Mu) : Cq X mX10_requireQuestion 1 0 μ [.int (iI p0)] (f_X10_requireQuestion p0 μ) := by
  intro res h
  refine ct_of (by decide +kernel) rfl (Nat.le_of_ble_eq_true rfl) ?_
  show KK X mX10_requireQuestion 1 0 res 0 [(0, .int (iI p0))] [] μ
  unfold f_X10_requireQuestion at h
  refine K_iload_n (md := mX10_requireQuestion) (pc := 0) 0 (kTab_at (pc := 0) tX10_requireQuestion_ok 0 rfl) rfl ?_
  refine K_iconst (md := mX10_requireQuestion) (pc := 1) (x := 5) (kTab_at (pc := 1) tX10_requireQuestion_ok 1 rfl) rfl ?_
  refine Z_callS (md := mX10_requireQuestion) (pc := 2) (st := []) (sv := (fun x1 => [.int (iI x1)])) (kTab_at (pc := 2) tX10_requireQuestion_ok 2 rfl) ms_X10_457 rfl (Nat.le_of_ble_eq_true rfl) (by decide) rfl (c_X10_isBelow X p0 5 μ) (fun _ => rfl) h (fun μ x1 h => ?_) rfl
  refine K_if_ne (md := mX10_requireQuestion) (pc := 5) (kTab_at (pc := 5) tX10_requireQuestion_ok 3 rfl) (tgt := 19) rfl h (fun h => ?_) (fun h => ?_)
  · exact Z_vret (md := mX10_requireQuestion) (pc := 19) (kTab_at (pc := 19) tX10_requireQuestion_ok 9 rfl) rfl rfl h
  · exact Z_thW (md := mX10_requireQuestion) (pc := 8) (text := "no such question") th_2 ck_2 (by decide +kernel) rfl (kTab_at (pc := 8) tX10_requireQuestion_ok 4 rfl) (kTab_at (pc := 11) tX10_requireQuestion_ok 5 rfl) (kTab_at (pc := 12) tX10_requireQuestion_ok 6 rfl) (kTab_at (pc := 15) tX10_requireQuestion_ok 7 rfl) (kTab_at (pc := 18) tX10_requireQuestion_ok 8 rfl) h
def f_X10_requireRange_10 (p0 : Int) (p1 : Int) (p2 : Int)   (μ : Mu) : Option Res := some (μ, 2, 0)
set_option maxRecDepth 100000 in
theorem c_X10_requireRange_10 (X : kX) (p0 : Int) (p1 : Int) (p2 : Int)  {res : Res}  (μ : Mu) (h : f_X10_requireRange_10 p0 p1 p2 μ = some res) : KK X mX10_requireRange 0 0 res 10 [] [] μ := by
  unfold f_X10_requireRange_10 at h
  exact Z_thW (md := mX10_requireRange) (pc := 10) (text := "out of range") th_1 ck_1 (by decide +kernel) rfl (kTab_at (pc := 10) tX10_requireRange_ok 6 rfl) (kTab_at (pc := 13) tX10_requireRange_ok 7 rfl) (kTab_at (pc := 14) tX10_requireRange_ok 8 rfl) (kTab_at (pc := 17) tX10_requireRange_ok 9 rfl) (kTab_at (pc := 20) tX10_requireRange_ok 10 rfl) h
def f_X10_requireRange (p0 : Int) (p1 : Int) (p2 : Int) (μ : Mu) : Option Res := i_lt p0 p1 (f_X10_requireRange_10 p0 p1 p2 μ) (i_lt p2 p0 (f_X10_requireRange_10 p0 p1 p2 μ) (some (μ, 0, 0)))
set_option maxRecDepth 100000 in
theorem c_X10_requireRange (X : kX) (p0 : Int) (p1 : Int) (p2 : Int)  (μ : Mu) : Cq X mX10_requireRange 0 0 μ [.int (iI p0), .int (iI p1), .int (iI p2)] (f_X10_requireRange p0 p1 p2 μ) := by
  intro res h
  refine ct_of (by decide +kernel) rfl (Nat.le_of_ble_eq_true rfl) ?_
  show KK X mX10_requireRange 0 0 res 0 [(0, .int (iI p0)), (1, .int (iI p1)), (2, .int (iI p2))] [] μ
  unfold f_X10_requireRange at h
  refine K_iload_n (md := mX10_requireRange) (pc := 0) 0 (kTab_at (pc := 0) tX10_requireRange_ok 0 rfl) rfl ?_
  refine K_iload_n (md := mX10_requireRange) (pc := 1) 1 (kTab_at (pc := 1) tX10_requireRange_ok 1 rfl) rfl ?_
  refine K_icmp_lt (md := mX10_requireRange) (pc := 2) (kTab_at (pc := 2) tX10_requireRange_ok 2 rfl) (tgt := 10) rfl h (fun h => ?_) (fun h => ?_)
  · refine K_sub [] rfl ?_
    refine c_X10_requireRange_10 X p0 p1 p2  μ h
  · refine K_iload_n (md := mX10_requireRange) (pc := 5) 0 (kTab_at (pc := 5) tX10_requireRange_ok 3 rfl) rfl ?_
    refine K_iload_n (md := mX10_requireRange) (pc := 6) 2 (kTab_at (pc := 6) tX10_requireRange_ok 4 rfl) rfl ?_
    refine K_icmp_le (md := mX10_requireRange) (pc := 7) (kTab_at (pc := 7) tX10_requireRange_ok 5 rfl) (tgt := 21) rfl h (fun h => ?_) (fun h => ?_)
    · exact Z_vret (md := mX10_requireRange) (pc := 21) (kTab_at (pc := 21) tX10_requireRange_ok 11 rfl) rfl rfl h
    · refine K_sub [] rfl ?_
      refine c_X10_requireRange_10 X p0 p1 p2  μ h
def f_X10_requireUnpublished  (μ : Mu) : Option Res := rdF μ 1 10 fun x1 => i_eq x1 0 (some (μ, 0, 0)) (some (μ, 5, 0))
set_option maxRecDepth 100000 in
theorem c_X10_requireUnpublished (X : kX)   (μ : Mu) : Cq X mX10_requireUnpublished 0 0 μ [.ref (X.1 + 0)] (f_X10_requireUnpublished  μ) := by
  intro res h
  refine ct_of (by decide +kernel) rfl (Nat.le_of_ble_eq_true rfl) ?_
  show KK X mX10_requireUnpublished 0 0 res 0 [(0, .ref (X.1 + 0))] [] μ
  unfold f_X10_requireUnpublished at h
  refine K_aload_n (md := mX10_requireUnpublished) (pc := 0) 0 (kTab_at (pc := 0) tX10_requireUnpublished_ok 0 rfl) rfl ?_
  refine K_getR (md := mX10_requireUnpublished) (pc := 1) (b := 1) (kTab_at (pc := 1) tX10_requireUnpublished_ok 1 rfl) fl_X10_12 sk_0 rfl rfl ?_
  refine Z_getI (md := mX10_requireUnpublished) (pc := 4) (kTab_at (pc := 4) tX10_requireUnpublished_ok 2 rfl) fl_X10_367 (lay_0 lay_now rfl) (Or.inr rfl) h (fun x1 h => ?_)
  refine K_if_eq (md := mX10_requireUnpublished) (pc := 7) (kTab_at (pc := 7) tX10_requireUnpublished_ok 3 rfl) (tgt := 21) rfl h (fun h => ?_) (fun h => ?_)
  · exact Z_vret (md := mX10_requireUnpublished) (pc := 21) (kTab_at (pc := 21) tX10_requireUnpublished_ok 9 rfl) rfl rfl h
  · exact Z_thW (md := mX10_requireUnpublished) (pc := 10) (text := "the results are published") th_4 ck_4 (by decide +kernel) rfl (kTab_at (pc := 10) tX10_requireUnpublished_ok 4 rfl) (kTab_at (pc := 13) tX10_requireUnpublished_ok 5 rfl) (kTab_at (pc := 14) tX10_requireUnpublished_ok 6 rfl) (kTab_at (pc := 17) tX10_requireUnpublished_ok 7 rfl) (kTab_at (pc := 20) tX10_requireUnpublished_ok 8 rfl) h
def f_X10_setMaximum (p1 : Int) (p2 : Int) (μ : Mu) : Option Res := rb (f_X10_requireQuestion p1 μ) fun μ _ => rb (f_X10_requireRange p2 1 40 μ) fun μ _ => rb (f_X10_requireUnpublished μ) fun μ _ => rb (f_X1_greatestMark 1 p1 μ) fun μ x1 => i_lt p2 x1 (some (μ, 1, 0)) (rdI μ (1 + 1) 5 p1 fun x2 => rb (f_X4_keep 1 μ) fun μ _ => wrI μ (1 + 1) 5 p1 p2 fun μ => some (μ, 0, x2))
set_option maxRecDepth 100000 in
theorem c_X10_setMaximum (X : kX) (p1 : Int) (p2 : Int)  (μ : Mu) : Cq X mX10_setMaximum 4 1 μ [.ref (X.1 + 0), .int (iI p1), .int (iI p2)] (f_X10_setMaximum p1 p2 μ) := by
  intro res h
  refine ct_of (by decide +kernel) rfl (Nat.le_of_ble_eq_true rfl) ?_
  show KK X mX10_setMaximum 4 1 res 0 [(0, .ref (X.1 + 0)), (1, .int (iI p1)), (2, .int (iI p2))] [] μ
  unfold f_X10_setMaximum at h
  refine K_iload_n (md := mX10_setMaximum) (pc := 0) 1 (kTab_at (pc := 0) tX10_setMaximum_ok 0 rfl) rfl ?_
  refine Z_callS (md := mX10_setMaximum) (pc := 1) (st := []) (sv := (fun _ => [])) (kTab_at (pc := 1) tX10_setMaximum_ok 1 rfl) ms_X10_57 rfl (Nat.le_of_ble_eq_true rfl) (by decide) rfl (c_X10_requireQuestion X p1 μ) (fun _ => rfl) h (fun μ _ h => ?_) rfl
  refine K_iload_n (md := mX10_setMaximum) (pc := 4) 2 (kTab_at (pc := 4) tX10_setMaximum_ok 2 rfl) rfl ?_
  refine K_iconst (md := mX10_setMaximum) (pc := 5) (x := 1) (kTab_at (pc := 5) tX10_setMaximum_ok 3 rfl) rfl ?_
  refine K_bipush (md := mX10_setMaximum) (pc := 6) (x := 40) (kTab_at (pc := 6) tX10_setMaximum_ok 4 rfl) (by decide) ?_
  refine Z_callS (md := mX10_setMaximum) (pc := 8) (st := []) (sv := (fun _ => [])) (kTab_at (pc := 8) tX10_setMaximum_ok 5 rfl) ms_X10_61 rfl (Nat.le_of_ble_eq_true rfl) (by decide) rfl (c_X10_requireRange X p2 1 40 μ) (fun _ => rfl) h (fun μ _ h => ?_) rfl
  refine K_aload_n (md := mX10_setMaximum) (pc := 11) 0 (kTab_at (pc := 11) tX10_setMaximum_ok 6 rfl) rfl ?_
  refine Z_callV (md := mX10_setMaximum) (pc := 12) (st := []) (sv := (fun _ => [])) (kTab_at (pc := 12) tX10_setMaximum_ok 7 rfl) mv_X10_65 sk_0 rfl (Nat.le_of_ble_eq_true rfl) (by decide) rfl (c_X10_requireUnpublished X μ) (fun _ => rfl) h (fun μ _ h => ?_) rfl
  refine K_aload_n (md := mX10_setMaximum) (pc := 15) 0 (kTab_at (pc := 15) tX10_setMaximum_ok 8 rfl) rfl ?_
  refine K_getR (md := mX10_setMaximum) (pc := 16) (b := 1) (kTab_at (pc := 16) tX10_setMaximum_ok 9 rfl) fl_X10_12 sk_0 rfl rfl ?_
  refine K_iload_n (md := mX10_setMaximum) (pc := 19) 1 (kTab_at (pc := 19) tX10_setMaximum_ok 10 rfl) rfl ?_
  refine Z_callV (md := mX10_setMaximum) (pc := 20) (st := []) (sv := (fun x1 => [.int (iI x1)])) (kTab_at (pc := 20) tX10_setMaximum_ok 11 rfl) mv_X10_68 (lay_0 lay_now rfl) rfl (Nat.le_of_ble_eq_true rfl) (by decide) rfl (c_X1_greatestMark X 1 p1 lay_now μ) (fun _ => rfl) h (fun μ x1 h => ?_) rfl
  refine K_iload_n (md := mX10_setMaximum) (pc := 23) 2 (kTab_at (pc := 23) tX10_setMaximum_ok 12 rfl) rfl ?_
  refine K_icmp_le (md := mX10_setMaximum) (pc := 24) (kTab_at (pc := 24) tX10_setMaximum_ok 13 rfl) (tgt := 37) rfl h (fun h => ?_) (fun h => ?_)
  · refine K_aload_n (md := mX10_setMaximum) (pc := 37) 0 (kTab_at (pc := 37) tX10_setMaximum_ok 19 rfl) rfl ?_
    refine K_getR (md := mX10_setMaximum) (pc := 38) (b := 1) (kTab_at (pc := 38) tX10_setMaximum_ok 20 rfl) fl_X10_12 sk_0 rfl rfl ?_
    refine K_getR (md := mX10_setMaximum) (pc := 41) (b := (1 + 1)) (kTab_at (pc := 41) tX10_setMaximum_ok 21 rfl) fl_X10_79 (lay_0 lay_now rfl) rfl rfl ?_
    refine K_iload_n (md := mX10_setMaximum) (pc := 44) 1 (kTab_at (pc := 44) tX10_setMaximum_ok 22 rfl) rfl ?_
    refine Z_iald (md := mX10_setMaximum) (pc := 45) (kTab_at (pc := 45) tX10_setMaximum_ok 23 rfl) (lay_at lay_now 1 rfl) (by decide) h (fun x2 h => ?_)
    refine K_istore_n (md := mX10_setMaximum) (pc := 46) (l' := [(3, .int (iI x2)), (0, .ref (X.1 + 0)), (1, .int (iI p1)), (2, .int (iI p2))]) (kTab_at (pc := 46) tX10_setMaximum_ok 24 rfl) (Nat.le_of_ble_eq_true rfl) rfl ?_
    refine K_aload_n (md := mX10_setMaximum) (pc := 47) 1 (kTab_at (pc := 47) tX10_setMaximum_ok 25 rfl) rfl ?_
    refine K_getR (md := mX10_setMaximum) (pc := 48) (b := 73) (kTab_at (pc := 48) tX10_setMaximum_ok 26 rfl) fl_X10_25 sk_0 rfl rfl ?_
    refine K_aload_n (md := mX10_setMaximum) (pc := 51) 1 (kTab_at (pc := 51) tX10_setMaximum_ok 27 rfl) rfl ?_
    refine K_getR (md := mX10_setMaximum) (pc := 52) (b := 1) (kTab_at (pc := 52) tX10_setMaximum_ok 28 rfl) fl_X10_12 sk_0 rfl rfl ?_
    refine Z_callV (md := mX10_setMaximum) (pc := 55) (st := []) (sv := (fun _ => [])) (kTab_at (pc := 55) tX10_setMaximum_ok 29 rfl) mv_X10_83 sk_73 rfl (Nat.le_of_ble_eq_true rfl) (by decide) rfl (c_X4_keep X 1 lay_now μ) (fun _ => rfl) h (fun μ _ h => ?_) rfl
    refine K_aload_n (md := mX10_setMaximum) (pc := 58) 1 (kTab_at (pc := 58) tX10_setMaximum_ok 30 rfl) rfl ?_
    refine K_getR (md := mX10_setMaximum) (pc := 59) (b := 1) (kTab_at (pc := 59) tX10_setMaximum_ok 31 rfl) fl_X10_12 sk_0 rfl rfl ?_
    refine K_getR (md := mX10_setMaximum) (pc := 62) (b := (1 + 1)) (kTab_at (pc := 62) tX10_setMaximum_ok 32 rfl) fl_X10_79 (lay_0 lay_now rfl) rfl rfl ?_
    refine K_iload_n (md := mX10_setMaximum) (pc := 65) 2 (kTab_at (pc := 65) tX10_setMaximum_ok 33 rfl) rfl ?_
    refine K_iload_n (md := mX10_setMaximum) (pc := 66) 3 (kTab_at (pc := 66) tX10_setMaximum_ok 34 rfl) rfl ?_
    refine Z_iast (md := mX10_setMaximum) (pc := 67) (kTab_at (pc := 67) tX10_setMaximum_ok 35 rfl) (lay_at lay_now 1 rfl) (by decide) h (fun μ h => ?_)
    refine K_iload_n (md := mX10_setMaximum) (pc := 68) 0 (kTab_at (pc := 68) tX10_setMaximum_ok 36 rfl) rfl ?_
    exact Z_iret (md := mX10_setMaximum) (pc := 69) (kTab_at (pc := 69) tX10_setMaximum_ok 37 rfl) rfl rfl rfl h
  · exact Z_th (md := mX10_setMaximum) (pc := 27) (text := "a mark would be greater than the maximum") th_0 ck_0 (by decide +kernel) rfl (kTab_at (pc := 27) tX10_setMaximum_ok 14 rfl) (kTab_at (pc := 30) tX10_setMaximum_ok 15 rfl) (kTab_at (pc := 31) tX10_setMaximum_ok 16 rfl) (kTab_at (pc := 33) tX10_setMaximum_ok 17 rfl) (kTab_at (pc := 36) tX10_setMaximum_ok 18 rfl) h

def f_X11_setMaximum (p1 : Int) (p2 : Int) (μ : Mu) : Option Res := wrF μ 248 0 0 fun μ => rb (f_X11_isQuestion p1 μ) fun μ x1 => i_eq x1 0 (rb (f_X11_fails 1 μ) fun μ x9 => some (μ, 0, x9)) (rb (f_X11_in p2 1 40 μ) fun μ x2 => i_eq x2 0 (rb (f_X11_fails 2 μ) fun μ x8 => some (μ, 0, x8)) (rb (f_X11_isPublished μ) fun μ x3 => i_eq x3 0 (rb (f_X11_isAbove p1 p2 μ) fun μ x4 => i_eq x4 0 (rb (f_X11_changes μ) fun μ _ => rdI μ 249 779 (0 + p1) fun x5 => wrI μ 249 779 (0 + p1) p2 fun μ => some (μ, 0, x5)) (rb (f_X11_fails 4 μ) fun μ x6 => some (μ, 0, x6))) (rb (f_X11_fails 3 μ) fun μ x7 => some (μ, 0, x7))))
set_option maxRecDepth 100000 in
theorem c_X11_setMaximum (X : kX) (p1 : Int) (p2 : Int)  (μ : Mu) : Cq X mX11_setMaximum 2 1 μ [.ref (X.1 + 248), .int (iI p1), .int (iI p2)] (f_X11_setMaximum p1 p2 μ) := by
  intro res h
  refine ct_of (by decide +kernel) rfl (Nat.le_of_ble_eq_true rfl) ?_
  show KK X mX11_setMaximum 2 1 res 0 [(0, .ref (X.1 + 248)), (1, .int (iI p1)), (2, .int (iI p2))] [] μ
  unfold f_X11_setMaximum at h
  refine K_aload_n (md := mX11_setMaximum) (pc := 0) 0 (kTab_at (pc := 0) tX11_setMaximum_ok 0 rfl) rfl ?_
  refine K_iconst (md := mX11_setMaximum) (pc := 1) (x := 0) (kTab_at (pc := 1) tX11_setMaximum_ok 1 rfl) rfl ?_
  refine Z_putI (md := mX11_setMaximum) (pc := 2) (kTab_at (pc := 2) tX11_setMaximum_ok 2 rfl) fl_X11_48 sk_248 rfl h (fun μ h => ?_)
  refine K_iload_n (md := mX11_setMaximum) (pc := 5) 1 (kTab_at (pc := 5) tX11_setMaximum_ok 3 rfl) rfl ?_
  refine Z_callS (md := mX11_setMaximum) (pc := 6) (st := []) (sv := (fun x1 => [.int (iI x1)])) (kTab_at (pc := 6) tX11_setMaximum_ok 4 rfl) ms_X11_180 rfl (Nat.le_of_ble_eq_true rfl) (by decide) rfl (c_X11_isQuestion X p1 μ) (fun _ => rfl) h (fun μ x1 h => ?_) rfl
  refine K_if_ne (md := mX11_setMaximum) (pc := 9) (kTab_at (pc := 9) tX11_setMaximum_ok 5 rfl) (tgt := 18) rfl h (fun h => ?_) (fun h => ?_)
  · refine K_iload_n (md := mX11_setMaximum) (pc := 18) 2 (kTab_at (pc := 18) tX11_setMaximum_ok 10 rfl) rfl ?_
    refine K_iconst (md := mX11_setMaximum) (pc := 19) (x := 1) (kTab_at (pc := 19) tX11_setMaximum_ok 11 rfl) rfl ?_
    refine K_bipush (md := mX11_setMaximum) (pc := 20) (x := 40) (kTab_at (pc := 20) tX11_setMaximum_ok 12 rfl) (by decide) ?_
    refine Z_callS (md := mX11_setMaximum) (pc := 22) (st := []) (sv := (fun x2 => [.int (iI x2)])) (kTab_at (pc := 22) tX11_setMaximum_ok 13 rfl) ms_X11_51 rfl (Nat.le_of_ble_eq_true rfl) (by decide) rfl (c_X11_in X p2 1 40 μ) (fun _ => rfl) h (fun μ x2 h => ?_) rfl
    refine K_if_ne (md := mX11_setMaximum) (pc := 25) (kTab_at (pc := 25) tX11_setMaximum_ok 14 rfl) (tgt := 34) rfl h (fun h => ?_) (fun h => ?_)
    · refine K_aload_n (md := mX11_setMaximum) (pc := 34) 0 (kTab_at (pc := 34) tX11_setMaximum_ok 19 rfl) rfl ?_
      refine Z_callV (md := mX11_setMaximum) (pc := 35) (st := []) (sv := (fun x3 => [.int (iI x3)])) (kTab_at (pc := 35) tX11_setMaximum_ok 20 rfl) mv_X11_183 sk_248 rfl (Nat.le_of_ble_eq_true rfl) (by decide) rfl (c_X11_isPublished X μ) (fun _ => rfl) h (fun μ x3 h => ?_) rfl
      refine K_if_eq (md := mX11_setMaximum) (pc := 38) (kTab_at (pc := 38) tX11_setMaximum_ok 21 rfl) (tgt := 47) rfl h (fun h => ?_) (fun h => ?_)
      · refine K_aload_n (md := mX11_setMaximum) (pc := 47) 0 (kTab_at (pc := 47) tX11_setMaximum_ok 26 rfl) rfl ?_
        refine K_iload_n (md := mX11_setMaximum) (pc := 48) 1 (kTab_at (pc := 48) tX11_setMaximum_ok 27 rfl) rfl ?_
        refine K_iload_n (md := mX11_setMaximum) (pc := 49) 2 (kTab_at (pc := 49) tX11_setMaximum_ok 28 rfl) rfl ?_
        refine Z_callV (md := mX11_setMaximum) (pc := 50) (st := []) (sv := (fun x4 => [.int (iI x4)])) (kTab_at (pc := 50) tX11_setMaximum_ok 29 rfl) mv_X11_187 sk_248 rfl (Nat.le_of_ble_eq_true rfl) (by decide) rfl (c_X11_isAbove X p1 p2 μ) (fun _ => rfl) h (fun μ x4 h => ?_) rfl
        refine K_if_eq (md := mX11_setMaximum) (pc := 53) (kTab_at (pc := 53) tX11_setMaximum_ok 30 rfl) (tgt := 62) rfl h (fun h => ?_) (fun h => ?_)
        · refine K_aload_n (md := mX11_setMaximum) (pc := 62) 0 (kTab_at (pc := 62) tX11_setMaximum_ok 35 rfl) rfl ?_
          refine Z_callV (md := mX11_setMaximum) (pc := 63) (st := []) (sv := (fun _ => [])) (kTab_at (pc := 63) tX11_setMaximum_ok 36 rfl) mv_X11_190 sk_248 rfl (Nat.le_of_ble_eq_true rfl) (by decide) rfl (c_X11_changes X μ) (fun _ => rfl) h (fun μ _ h => ?_) rfl
          refine K_aload_n (md := mX11_setMaximum) (pc := 66) 0 (kTab_at (pc := 66) tX11_setMaximum_ok 37 rfl) rfl ?_
          refine K_getR (md := mX11_setMaximum) (pc := 67) (b := 249) (kTab_at (pc := 67) tX11_setMaximum_ok 38 rfl) fl_X11_7 sk_248 rfl rfl ?_
          refine K_iconst (md := mX11_setMaximum) (pc := 70) (x := 0) (kTab_at (pc := 70) tX11_setMaximum_ok 39 rfl) rfl ?_
          refine K_iload_n (md := mX11_setMaximum) (pc := 71) 1 (kTab_at (pc := 71) tX11_setMaximum_ok 40 rfl) rfl ?_
          refine K_iadd (md := mX11_setMaximum) (pc := 72) (kTab_at (pc := 72) tX11_setMaximum_ok 41 rfl) ?_
          refine Z_iald (md := mX11_setMaximum) (pc := 73) (kTab_at (pc := 73) tX11_setMaximum_ok 42 rfl) sk_249 (by decide) h (fun x5 h => ?_)
          refine K_istore_n (md := mX11_setMaximum) (pc := 74) (l' := [(3, .int (iI x5)), (0, .ref (X.1 + 248)), (1, .int (iI p1)), (2, .int (iI p2))]) (kTab_at (pc := 74) tX11_setMaximum_ok 43 rfl) (Nat.le_of_ble_eq_true rfl) rfl ?_
          refine K_aload_n (md := mX11_setMaximum) (pc := 75) 1 (kTab_at (pc := 75) tX11_setMaximum_ok 44 rfl) rfl ?_
          refine K_getR (md := mX11_setMaximum) (pc := 76) (b := 249) (kTab_at (pc := 76) tX11_setMaximum_ok 45 rfl) fl_X11_7 sk_248 rfl rfl ?_
          refine K_iconst (md := mX11_setMaximum) (pc := 79) (x := 0) (kTab_at (pc := 79) tX11_setMaximum_ok 46 rfl) rfl ?_
          refine K_iload_n (md := mX11_setMaximum) (pc := 80) 2 (kTab_at (pc := 80) tX11_setMaximum_ok 47 rfl) rfl ?_
          refine K_iadd (md := mX11_setMaximum) (pc := 81) (kTab_at (pc := 81) tX11_setMaximum_ok 48 rfl) ?_
          refine K_iload_n (md := mX11_setMaximum) (pc := 82) 3 (kTab_at (pc := 82) tX11_setMaximum_ok 49 rfl) rfl ?_
          refine Z_iast (md := mX11_setMaximum) (pc := 83) (kTab_at (pc := 83) tX11_setMaximum_ok 50 rfl) sk_249 (by decide) h (fun μ h => ?_)
          refine K_iload_n (md := mX11_setMaximum) (pc := 84) 0 (kTab_at (pc := 84) tX11_setMaximum_ok 51 rfl) rfl ?_
          exact Z_iret (md := mX11_setMaximum) (pc := 85) (kTab_at (pc := 85) tX11_setMaximum_ok 52 rfl) rfl rfl rfl h
        · refine K_aload_n (md := mX11_setMaximum) (pc := 56) 0 (kTab_at (pc := 56) tX11_setMaximum_ok 31 rfl) rfl ?_
          refine K_iconst (md := mX11_setMaximum) (pc := 57) (x := 4) (kTab_at (pc := 57) tX11_setMaximum_ok 32 rfl) rfl ?_
          refine Z_callV (md := mX11_setMaximum) (pc := 58) (st := []) (sv := (fun x6 => [.int (iI x6)])) (kTab_at (pc := 58) tX11_setMaximum_ok 33 rfl) mv_X11_177 sk_248 rfl (Nat.le_of_ble_eq_true rfl) (by decide) rfl (c_X11_fails X 4 μ) (fun _ => rfl) h (fun μ x6 h => ?_) rfl
          exact Z_iret (md := mX11_setMaximum) (pc := 61) (kTab_at (pc := 61) tX11_setMaximum_ok 34 rfl) rfl rfl rfl h
      · refine K_aload_n (md := mX11_setMaximum) (pc := 41) 0 (kTab_at (pc := 41) tX11_setMaximum_ok 22 rfl) rfl ?_
        refine K_iconst (md := mX11_setMaximum) (pc := 42) (x := 3) (kTab_at (pc := 42) tX11_setMaximum_ok 23 rfl) rfl ?_
        refine Z_callV (md := mX11_setMaximum) (pc := 43) (st := []) (sv := (fun x7 => [.int (iI x7)])) (kTab_at (pc := 43) tX11_setMaximum_ok 24 rfl) mv_X11_177 sk_248 rfl (Nat.le_of_ble_eq_true rfl) (by decide) rfl (c_X11_fails X 3 μ) (fun _ => rfl) h (fun μ x7 h => ?_) rfl
        exact Z_iret (md := mX11_setMaximum) (pc := 46) (kTab_at (pc := 46) tX11_setMaximum_ok 25 rfl) rfl rfl rfl h
    · refine K_aload_n (md := mX11_setMaximum) (pc := 28) 0 (kTab_at (pc := 28) tX11_setMaximum_ok 15 rfl) rfl ?_
      refine K_iconst (md := mX11_setMaximum) (pc := 29) (x := 2) (kTab_at (pc := 29) tX11_setMaximum_ok 16 rfl) rfl ?_
      refine Z_callV (md := mX11_setMaximum) (pc := 30) (st := []) (sv := (fun x8 => [.int (iI x8)])) (kTab_at (pc := 30) tX11_setMaximum_ok 17 rfl) mv_X11_177 sk_248 rfl (Nat.le_of_ble_eq_true rfl) (by decide) rfl (c_X11_fails X 2 μ) (fun _ => rfl) h (fun μ x8 h => ?_) rfl
      exact Z_iret (md := mX11_setMaximum) (pc := 33) (kTab_at (pc := 33) tX11_setMaximum_ok 18 rfl) rfl rfl rfl h
  · refine K_aload_n (md := mX11_setMaximum) (pc := 12) 0 (kTab_at (pc := 12) tX11_setMaximum_ok 6 rfl) rfl ?_
    refine K_iconst (md := mX11_setMaximum) (pc := 13) (x := 1) (kTab_at (pc := 13) tX11_setMaximum_ok 7 rfl) rfl ?_
    refine Z_callV (md := mX11_setMaximum) (pc := 14) (st := []) (sv := (fun x9 => [.int (iI x9)])) (kTab_at (pc := 14) tX11_setMaximum_ok 8 rfl) mv_X11_177 sk_248 rfl (Nat.le_of_ble_eq_true rfl) (by decide) rfl (c_X11_fails X 1 μ) (fun _ => rfl) h (fun μ x9 h => ?_) rfl
    exact Z_iret (md := mX11_setMaximum) (pc := 17) (kTab_at (pc := 17) tX11_setMaximum_ok 9 rfl) rfl rfl rfl h
def f_X11_isValue_32 (p0 : Int) (p1 : Int)   (μ : Mu) : Option Res := rb (f_X11_in p1 0 5 μ) fun μ x1 => retZ μ x1
set_option maxRecDepth 100000 in
theorem c_X11_isValue_32 (X : kX) (p0 : Int) (p1 : Int)  {res : Res}  (μ : Mu) (h : f_X11_isValue_32 p0 p1 μ = some res) : KK X mX11_isValue 1 1 res 32 [(1, .int (iI p1))] [] μ := by
  unfold f_X11_isValue_32 at h
  refine K_iload_n (md := mX11_isValue) (pc := 32) 0 (kTab_at (pc := 32) tX11_isValue_ok 2 rfl) rfl ?_
  refine K_iconst (md := mX11_isValue) (pc := 33) (x := 0) (kTab_at (pc := 33) tX11_isValue_ok 3 rfl) rfl ?_
  refine K_iconst (md := mX11_isValue) (pc := 34) (x := 5) (kTab_at (pc := 34) tX11_isValue_ok 4 rfl) rfl ?_
  refine Z_callS (md := mX11_isValue) (pc := 35) (st := []) (sv := (fun x1 => [.int (iI x1)])) (kTab_at (pc := 35) tX11_isValue_ok 5 rfl) ms_X11_51 rfl (Nat.le_of_ble_eq_true rfl) (by decide) rfl (c_X11_in X p1 0 5 μ) (fun _ => rfl) h (fun μ x1 h => ?_) rfl
  exact Z_zret (md := mX11_isValue) (pc := 38) (kTab_at (pc := 38) tX11_isValue_ok 6 rfl) rfl rfl h
def f_X11_isValue (p0 : Int) (p1 : Int) (μ : Mu) : Option Res := i_sw p0 0 [f_X11_isValue_32 p0 p1 μ, rb (f_X11_in p1 1 40 μ) fun μ x1 => retZ μ x1, rb (f_X11_in p1 0 10 μ) fun μ x2 => retZ μ x2, f_X11_isValue_32 p0 p1 μ] (rb (f_X11_in p1 0 99 μ) fun μ x3 => retZ μ x3)
set_option maxRecDepth 100000 in
theorem c_X11_isValue (X : kX) (p0 : Int) (p1 : Int)  (μ : Mu) : Cq X mX11_isValue 1 1 μ [.int (iI p0), .int (iI p1)] (f_X11_isValue p0 p1 μ) := by
  intro res h
  refine ct_of (by decide +kernel) rfl (Nat.le_of_ble_eq_true rfl) ?_
  show KK X mX11_isValue 1 1 res 0 [(0, .int (iI p0)), (1, .int (iI p1))] [] μ
  unfold f_X11_isValue at h
  refine K_iload_n (md := mX11_isValue) (pc := 0) 0 (kTab_at (pc := 0) tX11_isValue_ok 0 rfl) rfl ?_
  refine K_tsw (md := mX11_isValue) (pc := 1) (dt := 55) (kTab_at (pc := 1) tX11_isValue_ok 1 rfl) rfl rfl h (And.intro (fun h => ⟨32, rfl, ?_⟩) (And.intro (fun h => ⟨39, rfl, ?_⟩) (And.intro (fun h => ⟨47, rfl, ?_⟩) (And.intro (fun h => ⟨32, rfl, ?_⟩) (True.intro))))) (fun h => ?_)
  · refine K_sub [1] rfl ?_
    refine c_X11_isValue_32 X p0 p1  μ h
  · refine K_iload_n (md := mX11_isValue) (pc := 39) 1 (kTab_at (pc := 39) tX11_isValue_ok 7 rfl) rfl ?_
    refine K_iconst (md := mX11_isValue) (pc := 40) (x := 1) (kTab_at (pc := 40) tX11_isValue_ok 8 rfl) rfl ?_
    refine K_bipush (md := mX11_isValue) (pc := 41) (x := 40) (kTab_at (pc := 41) tX11_isValue_ok 9 rfl) (by decide) ?_
    refine Z_callS (md := mX11_isValue) (pc := 43) (st := []) (sv := (fun x1 => [.int (iI x1)])) (kTab_at (pc := 43) tX11_isValue_ok 10 rfl) ms_X11_51 rfl (Nat.le_of_ble_eq_true rfl) (by decide) rfl (c_X11_in X p1 1 40 μ) (fun _ => rfl) h (fun μ x1 h => ?_) rfl
    exact Z_zret (md := mX11_isValue) (pc := 46) (kTab_at (pc := 46) tX11_isValue_ok 11 rfl) rfl rfl h
  · refine K_iload_n (md := mX11_isValue) (pc := 47) 1 (kTab_at (pc := 47) tX11_isValue_ok 12 rfl) rfl ?_
    refine K_iconst (md := mX11_isValue) (pc := 48) (x := 0) (kTab_at (pc := 48) tX11_isValue_ok 13 rfl) rfl ?_
    refine K_bipush (md := mX11_isValue) (pc := 49) (x := 10) (kTab_at (pc := 49) tX11_isValue_ok 14 rfl) (by decide) ?_
    refine Z_callS (md := mX11_isValue) (pc := 51) (st := []) (sv := (fun x2 => [.int (iI x2)])) (kTab_at (pc := 51) tX11_isValue_ok 15 rfl) ms_X11_51 rfl (Nat.le_of_ble_eq_true rfl) (by decide) rfl (c_X11_in X p1 0 10 μ) (fun _ => rfl) h (fun μ x2 h => ?_) rfl
    exact Z_zret (md := mX11_isValue) (pc := 54) (kTab_at (pc := 54) tX11_isValue_ok 16 rfl) rfl rfl h
  · refine K_sub [1] rfl ?_
    refine c_X11_isValue_32 X p0 p1  μ h
  · refine K_iload_n (md := mX11_isValue) (pc := 55) 1 (kTab_at (pc := 55) tX11_isValue_ok 17 rfl) rfl ?_
    refine K_iconst (md := mX11_isValue) (pc := 56) (x := 0) (kTab_at (pc := 56) tX11_isValue_ok 18 rfl) rfl ?_
    refine K_bipush (md := mX11_isValue) (pc := 57) (x := 99) (kTab_at (pc := 57) tX11_isValue_ok 19 rfl) (by decide) ?_
    refine Z_callS (md := mX11_isValue) (pc := 59) (st := []) (sv := (fun x3 => [.int (iI x3)])) (kTab_at (pc := 59) tX11_isValue_ok 20 rfl) ms_X11_51 rfl (Nat.le_of_ble_eq_true rfl) (by decide) rfl (c_X11_in X p1 0 99 μ) (fun _ => rfl) h (fun μ x3 h => ?_) rfl
    exact Z_zret (md := mX11_isValue) (pc := 62) (kTab_at (pc := 62) tX11_isValue_ok 21 rfl) rfl rfl h
def f_X11_set_52 (p1 : Int) (p2 : Int)   (μ : Mu) : Option Res := rb (f_X11_changes μ) fun μ _ => rdI μ 249 779 (5 + p1) fun x1 => wrI μ 249 779 (5 + p1) p2 fun μ => some (μ, 0, x1)
set_option maxRecDepth 100000 in
theorem c_X11_set_52 (X : kX) (p1 : Int) (p2 : Int)  {res : Res}  (μ : Mu) (h : f_X11_set_52 p1 p2 μ = some res) : KK X mX11_set 2 1 res 52 [(0, .ref (X.1 + 248)), (1, .int (iI p1)), (2, .int (iI p2))] [] μ := by
  unfold f_X11_set_52 at h
  refine K_aload_n (md := mX11_set) (pc := 52) 0 (kTab_at (pc := 52) tX11_set_ok 30 rfl) rfl ?_
  refine Z_callV (md := mX11_set) (pc := 53) (st := []) (sv := (fun _ => [])) (kTab_at (pc := 53) tX11_set_ok 31 rfl) mv_X11_190 sk_248 rfl (Nat.le_of_ble_eq_true rfl) (by decide) rfl (c_X11_changes X μ) (fun _ => rfl) h (fun μ _ h => ?_) rfl
  refine K_aload_n (md := mX11_set) (pc := 56) 0 (kTab_at (pc := 56) tX11_set_ok 32 rfl) rfl ?_
  refine K_getR (md := mX11_set) (pc := 57) (b := 249) (kTab_at (pc := 57) tX11_set_ok 33 rfl) fl_X11_7 sk_248 rfl rfl ?_
  refine K_iconst (md := mX11_set) (pc := 60) (x := 5) (kTab_at (pc := 60) tX11_set_ok 34 rfl) rfl ?_
  refine K_iload_n (md := mX11_set) (pc := 61) 1 (kTab_at (pc := 61) tX11_set_ok 35 rfl) rfl ?_
  refine K_iadd (md := mX11_set) (pc := 62) (kTab_at (pc := 62) tX11_set_ok 36 rfl) ?_
  refine Z_iald (md := mX11_set) (pc := 63) (kTab_at (pc := 63) tX11_set_ok 37 rfl) sk_249 (by decide) h (fun x1 h => ?_)
  refine K_istore_n (md := mX11_set) (pc := 64) (l' := [(3, .int (iI x1)), (0, .ref (X.1 + 248)), (1, .int (iI p1)), (2, .int (iI p2))]) (kTab_at (pc := 64) tX11_set_ok 38 rfl) (Nat.le_of_ble_eq_true rfl) rfl ?_
  refine K_aload_n (md := mX11_set) (pc := 65) 1 (kTab_at (pc := 65) tX11_set_ok 39 rfl) rfl ?_
  refine K_getR (md := mX11_set) (pc := 66) (b := 249) (kTab_at (pc := 66) tX11_set_ok 40 rfl) fl_X11_7 sk_248 rfl rfl ?_
  refine K_iconst (md := mX11_set) (pc := 69) (x := 5) (kTab_at (pc := 69) tX11_set_ok 41 rfl) rfl ?_
  refine K_iload_n (md := mX11_set) (pc := 70) 2 (kTab_at (pc := 70) tX11_set_ok 42 rfl) rfl ?_
  refine K_iadd (md := mX11_set) (pc := 71) (kTab_at (pc := 71) tX11_set_ok 43 rfl) ?_
  refine K_iload_n (md := mX11_set) (pc := 72) 3 (kTab_at (pc := 72) tX11_set_ok 44 rfl) rfl ?_
  refine Z_iast (md := mX11_set) (pc := 73) (kTab_at (pc := 73) tX11_set_ok 45 rfl) sk_249 (by decide) h (fun μ h => ?_)
  refine K_iload_n (md := mX11_set) (pc := 74) 0 (kTab_at (pc := 74) tX11_set_ok 46 rfl) rfl ?_
  exact Z_iret (md := mX11_set) (pc := 75) (kTab_at (pc := 75) tX11_set_ok 47 rfl) rfl rfl rfl h
def f_X11_set (p1 : Int) (p2 : Int) (μ : Mu) : Option Res := wrF μ 248 0 0 fun μ => rb (f_X11_in p1 0 4 μ) fun μ x1 => i_eq x1 0 (rb (f_X11_fails 1 μ) fun μ x6 => some (μ, 0, x6)) (rb (f_X11_isValue p1 p2 μ) fun μ x2 => i_eq x2 0 (rb (f_X11_fails 2 μ) fun μ x5 => some (μ, 0, x5)) (rb (f_X11_isPublished μ) fun μ x3 => i_eq x3 0 (f_X11_set_52 p1 p2 μ) (i_eq p1 4 (f_X11_set_52 p1 p2 μ) (rb (f_X11_fails 3 μ) fun μ x4 => some (μ, 0, x4)))))
set_option maxRecDepth 100000 in
theorem c_X11_set (X : kX) (p1 : Int) (p2 : Int)  (μ : Mu) : Cq X mX11_set 2 1 μ [.ref (X.1 + 248), .int (iI p1), .int (iI p2)] (f_X11_set p1 p2 μ) := by
  intro res h
  refine ct_of (by decide +kernel) rfl (Nat.le_of_ble_eq_true rfl) ?_
  show KK X mX11_set 2 1 res 0 [(0, .ref (X.1 + 248)), (1, .int (iI p1)), (2, .int (iI p2))] [] μ
  unfold f_X11_set at h
  refine K_aload_n (md := mX11_set) (pc := 0) 0 (kTab_at (pc := 0) tX11_set_ok 0 rfl) rfl ?_
  refine K_iconst (md := mX11_set) (pc := 1) (x := 0) (kTab_at (pc := 1) tX11_set_ok 1 rfl) rfl ?_
  refine Z_putI (md := mX11_set) (pc := 2) (kTab_at (pc := 2) tX11_set_ok 2 rfl) fl_X11_48 sk_248 rfl h (fun μ h => ?_)
  refine K_iload_n (md := mX11_set) (pc := 5) 1 (kTab_at (pc := 5) tX11_set_ok 3 rfl) rfl ?_
  refine K_iconst (md := mX11_set) (pc := 6) (x := 0) (kTab_at (pc := 6) tX11_set_ok 4 rfl) rfl ?_
  refine K_iconst (md := mX11_set) (pc := 7) (x := 4) (kTab_at (pc := 7) tX11_set_ok 5 rfl) rfl ?_
  refine Z_callS (md := mX11_set) (pc := 8) (st := []) (sv := (fun x1 => [.int (iI x1)])) (kTab_at (pc := 8) tX11_set_ok 6 rfl) ms_X11_51 rfl (Nat.le_of_ble_eq_true rfl) (by decide) rfl (c_X11_in X p1 0 4 μ) (fun _ => rfl) h (fun μ x1 h => ?_) rfl
  refine K_if_ne (md := mX11_set) (pc := 11) (kTab_at (pc := 11) tX11_set_ok 7 rfl) (tgt := 20) rfl h (fun h => ?_) (fun h => ?_)
  · refine K_iload_n (md := mX11_set) (pc := 20) 1 (kTab_at (pc := 20) tX11_set_ok 12 rfl) rfl ?_
    refine K_iload_n (md := mX11_set) (pc := 21) 2 (kTab_at (pc := 21) tX11_set_ok 13 rfl) rfl ?_
    refine Z_callS (md := mX11_set) (pc := 22) (st := []) (sv := (fun x2 => [.int (iI x2)])) (kTab_at (pc := 22) tX11_set_ok 14 rfl) ms_X11_193 rfl (Nat.le_of_ble_eq_true rfl) (by decide) rfl (c_X11_isValue X p1 p2 μ) (fun _ => rfl) h (fun μ x2 h => ?_) rfl
    refine K_if_ne (md := mX11_set) (pc := 25) (kTab_at (pc := 25) tX11_set_ok 15 rfl) (tgt := 34) rfl h (fun h => ?_) (fun h => ?_)
    · refine K_aload_n (md := mX11_set) (pc := 34) 0 (kTab_at (pc := 34) tX11_set_ok 20 rfl) rfl ?_
      refine Z_callV (md := mX11_set) (pc := 35) (st := []) (sv := (fun x3 => [.int (iI x3)])) (kTab_at (pc := 35) tX11_set_ok 21 rfl) mv_X11_183 sk_248 rfl (Nat.le_of_ble_eq_true rfl) (by decide) rfl (c_X11_isPublished X μ) (fun _ => rfl) h (fun μ x3 h => ?_) rfl
      refine K_if_eq (md := mX11_set) (pc := 38) (kTab_at (pc := 38) tX11_set_ok 22 rfl) (tgt := 52) rfl h (fun h => ?_) (fun h => ?_)
      · refine c_X11_set_52 X p1 p2  μ h
      · refine K_iload_n (md := mX11_set) (pc := 41) 1 (kTab_at (pc := 41) tX11_set_ok 23 rfl) rfl ?_
        refine K_iconst (md := mX11_set) (pc := 42) (x := 4) (kTab_at (pc := 42) tX11_set_ok 24 rfl) rfl ?_
        refine K_icmp_eq (md := mX11_set) (pc := 43) (kTab_at (pc := 43) tX11_set_ok 25 rfl) (tgt := 52) rfl h (fun h => ?_) (fun h => ?_)
        · refine c_X11_set_52 X p1 p2  μ h
        · refine K_aload_n (md := mX11_set) (pc := 46) 0 (kTab_at (pc := 46) tX11_set_ok 26 rfl) rfl ?_
          refine K_iconst (md := mX11_set) (pc := 47) (x := 3) (kTab_at (pc := 47) tX11_set_ok 27 rfl) rfl ?_
          refine Z_callV (md := mX11_set) (pc := 48) (st := []) (sv := (fun x4 => [.int (iI x4)])) (kTab_at (pc := 48) tX11_set_ok 28 rfl) mv_X11_177 sk_248 rfl (Nat.le_of_ble_eq_true rfl) (by decide) rfl (c_X11_fails X 3 μ) (fun _ => rfl) h (fun μ x4 h => ?_) rfl
          exact Z_iret (md := mX11_set) (pc := 51) (kTab_at (pc := 51) tX11_set_ok 29 rfl) rfl rfl rfl h
    · refine K_aload_n (md := mX11_set) (pc := 28) 0 (kTab_at (pc := 28) tX11_set_ok 16 rfl) rfl ?_
      refine K_iconst (md := mX11_set) (pc := 29) (x := 2) (kTab_at (pc := 29) tX11_set_ok 17 rfl) rfl ?_
      refine Z_callV (md := mX11_set) (pc := 30) (st := []) (sv := (fun x5 => [.int (iI x5)])) (kTab_at (pc := 30) tX11_set_ok 18 rfl) mv_X11_177 sk_248 rfl (Nat.le_of_ble_eq_true rfl) (by decide) rfl (c_X11_fails X 2 μ) (fun _ => rfl) h (fun μ x5 h => ?_) rfl
      exact Z_iret (md := mX11_set) (pc := 33) (kTab_at (pc := 33) tX11_set_ok 19 rfl) rfl rfl rfl h
  · refine K_aload_n (md := mX11_set) (pc := 14) 0 (kTab_at (pc := 14) tX11_set_ok 8 rfl) rfl ?_
    refine K_iconst (md := mX11_set) (pc := 15) (x := 1) (kTab_at (pc := 15) tX11_set_ok 9 rfl) rfl ?_
    refine Z_callV (md := mX11_set) (pc := 16) (st := []) (sv := (fun x6 => [.int (iI x6)])) (kTab_at (pc := 16) tX11_set_ok 10 rfl) mv_X11_177 sk_248 rfl (Nat.le_of_ble_eq_true rfl) (by decide) rfl (c_X11_fails X 1 μ) (fun _ => rfl) h (fun μ x6 h => ?_) rfl
    exact Z_iret (md := mX11_set) (pc := 19) (kTab_at (pc := 19) tX11_set_ok 11 rfl) rfl rfl rfl h
def f_X11_addSeed (p1 : Int) (p2 : Int) (μ : Mu) : Option Res := wrF μ 248 0 0 fun μ => rb (f_X11_isQuestion p1 μ) fun μ x1 => i_eq x1 0 (rb (f_X11_fails 1 μ) fun μ x11 => some (μ, 0, x11)) (rdI μ 249 779 (0 + p1) fun x2 => rb (f_X11_in p2 0 x2 μ) fun μ x3 => i_eq x3 0 (rb (f_X11_fails 2 μ) fun μ x10 => some (μ, 0, x10)) (rb (f_X11_isPublished μ) fun μ x4 => i_eq x4 0 (rdI μ 249 779 (14 + p1) fun x5 => i_eq x5 5 (rb (f_X11_fails 4 μ) fun μ x8 => some (μ, 0, x8)) (rb (f_X11_changes μ) fun μ _ => rdI μ 249 779 (14 + p1) fun x6 => wrI μ 249 779 ((19 + (5 * p1)) + x6) p2 fun μ => rdI μ 249 779 (14 + p1) fun x7 => wrI μ 249 779 (14 + p1) (x7 + 1) fun μ => some (μ, 0, x6))) (rb (f_X11_fails 3 μ) fun μ x9 => some (μ, 0, x9))))
set_option maxRecDepth 100000 in
theorem c_X11_addSeed (X : kX) (p1 : Int) (p2 : Int)  (μ : Mu) : Cq X mX11_addSeed 2 1 μ [.ref (X.1 + 248), .int (iI p1), .int (iI p2)] (f_X11_addSeed p1 p2 μ) := by
  intro res h
  refine ct_of (by decide +kernel) rfl (Nat.le_of_ble_eq_true rfl) ?_
  show KK X mX11_addSeed 2 1 res 0 [(0, .ref (X.1 + 248)), (1, .int (iI p1)), (2, .int (iI p2))] [] μ
  unfold f_X11_addSeed at h
  refine K_aload_n (md := mX11_addSeed) (pc := 0) 0 (kTab_at (pc := 0) tX11_addSeed_ok 0 rfl) rfl ?_
  refine K_iconst (md := mX11_addSeed) (pc := 1) (x := 0) (kTab_at (pc := 1) tX11_addSeed_ok 1 rfl) rfl ?_
  refine Z_putI (md := mX11_addSeed) (pc := 2) (kTab_at (pc := 2) tX11_addSeed_ok 2 rfl) fl_X11_48 sk_248 rfl h (fun μ h => ?_)
  refine K_iload_n (md := mX11_addSeed) (pc := 5) 1 (kTab_at (pc := 5) tX11_addSeed_ok 3 rfl) rfl ?_
  refine Z_callS (md := mX11_addSeed) (pc := 6) (st := []) (sv := (fun x1 => [.int (iI x1)])) (kTab_at (pc := 6) tX11_addSeed_ok 4 rfl) ms_X11_180 rfl (Nat.le_of_ble_eq_true rfl) (by decide) rfl (c_X11_isQuestion X p1 μ) (fun _ => rfl) h (fun μ x1 h => ?_) rfl
  refine K_if_ne (md := mX11_addSeed) (pc := 9) (kTab_at (pc := 9) tX11_addSeed_ok 5 rfl) (tgt := 18) rfl h (fun h => ?_) (fun h => ?_)
  · refine K_iload_n (md := mX11_addSeed) (pc := 18) 2 (kTab_at (pc := 18) tX11_addSeed_ok 10 rfl) rfl ?_
    refine K_iconst (md := mX11_addSeed) (pc := 19) (x := 0) (kTab_at (pc := 19) tX11_addSeed_ok 11 rfl) rfl ?_
    refine K_aload_n (md := mX11_addSeed) (pc := 20) 0 (kTab_at (pc := 20) tX11_addSeed_ok 12 rfl) rfl ?_
    refine K_getR (md := mX11_addSeed) (pc := 21) (b := 249) (kTab_at (pc := 21) tX11_addSeed_ok 13 rfl) fl_X11_7 sk_248 rfl rfl ?_
    refine K_iconst (md := mX11_addSeed) (pc := 24) (x := 0) (kTab_at (pc := 24) tX11_addSeed_ok 14 rfl) rfl ?_
    refine K_iload_n (md := mX11_addSeed) (pc := 25) 1 (kTab_at (pc := 25) tX11_addSeed_ok 15 rfl) rfl ?_
    refine K_iadd (md := mX11_addSeed) (pc := 26) (kTab_at (pc := 26) tX11_addSeed_ok 16 rfl) ?_
    refine Z_iald (md := mX11_addSeed) (pc := 27) (kTab_at (pc := 27) tX11_addSeed_ok 17 rfl) sk_249 (by decide) h (fun x2 h => ?_)
    refine Z_callS (md := mX11_addSeed) (pc := 28) (st := []) (sv := (fun x3 => [.int (iI x3)])) (kTab_at (pc := 28) tX11_addSeed_ok 18 rfl) ms_X11_51 rfl (Nat.le_of_ble_eq_true rfl) (by decide) rfl (c_X11_in X p2 0 x2 μ) (fun _ => rfl) h (fun μ x3 h => ?_) rfl
    refine K_if_ne (md := mX11_addSeed) (pc := 31) (kTab_at (pc := 31) tX11_addSeed_ok 19 rfl) (tgt := 40) rfl h (fun h => ?_) (fun h => ?_)
    · refine K_aload_n (md := mX11_addSeed) (pc := 40) 0 (kTab_at (pc := 40) tX11_addSeed_ok 24 rfl) rfl ?_
      refine Z_callV (md := mX11_addSeed) (pc := 41) (st := []) (sv := (fun x4 => [.int (iI x4)])) (kTab_at (pc := 41) tX11_addSeed_ok 25 rfl) mv_X11_183 sk_248 rfl (Nat.le_of_ble_eq_true rfl) (by decide) rfl (c_X11_isPublished X μ) (fun _ => rfl) h (fun μ x4 h => ?_) rfl
      refine K_if_eq (md := mX11_addSeed) (pc := 44) (kTab_at (pc := 44) tX11_addSeed_ok 26 rfl) (tgt := 53) rfl h (fun h => ?_) (fun h => ?_)
      · refine K_aload_n (md := mX11_addSeed) (pc := 53) 0 (kTab_at (pc := 53) tX11_addSeed_ok 31 rfl) rfl ?_
        refine K_getR (md := mX11_addSeed) (pc := 54) (b := 249) (kTab_at (pc := 54) tX11_addSeed_ok 32 rfl) fl_X11_7 sk_248 rfl rfl ?_
        refine K_bipush (md := mX11_addSeed) (pc := 57) (x := 14) (kTab_at (pc := 57) tX11_addSeed_ok 33 rfl) (by decide) ?_
        refine K_iload_n (md := mX11_addSeed) (pc := 59) 1 (kTab_at (pc := 59) tX11_addSeed_ok 34 rfl) rfl ?_
        refine K_iadd (md := mX11_addSeed) (pc := 60) (kTab_at (pc := 60) tX11_addSeed_ok 35 rfl) ?_
        refine Z_iald (md := mX11_addSeed) (pc := 61) (kTab_at (pc := 61) tX11_addSeed_ok 36 rfl) sk_249 (by decide) h (fun x5 h => ?_)
        refine K_iconst (md := mX11_addSeed) (pc := 62) (x := 5) (kTab_at (pc := 62) tX11_addSeed_ok 37 rfl) rfl ?_
        refine K_icmp_ne (md := mX11_addSeed) (pc := 63) (kTab_at (pc := 63) tX11_addSeed_ok 38 rfl) (tgt := 72) rfl h (fun h => ?_) (fun h => ?_)
        · refine K_aload_n (md := mX11_addSeed) (pc := 72) 0 (kTab_at (pc := 72) tX11_addSeed_ok 43 rfl) rfl ?_
          refine Z_callV (md := mX11_addSeed) (pc := 73) (st := []) (sv := (fun _ => [])) (kTab_at (pc := 73) tX11_addSeed_ok 44 rfl) mv_X11_190 sk_248 rfl (Nat.le_of_ble_eq_true rfl) (by decide) rfl (c_X11_changes X μ) (fun _ => rfl) h (fun μ _ h => ?_) rfl
          refine K_aload_n (md := mX11_addSeed) (pc := 76) 0 (kTab_at (pc := 76) tX11_addSeed_ok 45 rfl) rfl ?_
          refine K_getR (md := mX11_addSeed) (pc := 77) (b := 249) (kTab_at (pc := 77) tX11_addSeed_ok 46 rfl) fl_X11_7 sk_248 rfl rfl ?_
          refine K_bipush (md := mX11_addSeed) (pc := 80) (x := 14) (kTab_at (pc := 80) tX11_addSeed_ok 47 rfl) (by decide) ?_
          refine K_iload_n (md := mX11_addSeed) (pc := 82) 1 (kTab_at (pc := 82) tX11_addSeed_ok 48 rfl) rfl ?_
          refine K_iadd (md := mX11_addSeed) (pc := 83) (kTab_at (pc := 83) tX11_addSeed_ok 49 rfl) ?_
          refine Z_iald (md := mX11_addSeed) (pc := 84) (kTab_at (pc := 84) tX11_addSeed_ok 50 rfl) sk_249 (by decide) h (fun x6 h => ?_)
          refine K_istore_n (md := mX11_addSeed) (pc := 85) (l' := [(3, .int (iI x6)), (0, .ref (X.1 + 248)), (1, .int (iI p1)), (2, .int (iI p2))]) (kTab_at (pc := 85) tX11_addSeed_ok 51 rfl) (Nat.le_of_ble_eq_true rfl) rfl ?_
          refine K_aload_n (md := mX11_addSeed) (pc := 86) 1 (kTab_at (pc := 86) tX11_addSeed_ok 52 rfl) rfl ?_
          refine K_getR (md := mX11_addSeed) (pc := 87) (b := 249) (kTab_at (pc := 87) tX11_addSeed_ok 53 rfl) fl_X11_7 sk_248 rfl rfl ?_
          refine K_bipush (md := mX11_addSeed) (pc := 90) (x := 19) (kTab_at (pc := 90) tX11_addSeed_ok 54 rfl) (by decide) ?_
          refine K_iconst (md := mX11_addSeed) (pc := 92) (x := 5) (kTab_at (pc := 92) tX11_addSeed_ok 55 rfl) rfl ?_
          refine K_iload_n (md := mX11_addSeed) (pc := 93) 2 (kTab_at (pc := 93) tX11_addSeed_ok 56 rfl) rfl ?_
          refine K_imul (md := mX11_addSeed) (pc := 94) (kTab_at (pc := 94) tX11_addSeed_ok 57 rfl) ?_
          refine K_iadd (md := mX11_addSeed) (pc := 95) (kTab_at (pc := 95) tX11_addSeed_ok 58 rfl) ?_
          refine K_iload_n (md := mX11_addSeed) (pc := 96) 0 (kTab_at (pc := 96) tX11_addSeed_ok 59 rfl) rfl ?_
          refine K_iadd (md := mX11_addSeed) (pc := 97) (kTab_at (pc := 97) tX11_addSeed_ok 60 rfl) ?_
          refine K_iload_n (md := mX11_addSeed) (pc := 98) 3 (kTab_at (pc := 98) tX11_addSeed_ok 61 rfl) rfl ?_
          refine Z_iast (md := mX11_addSeed) (pc := 99) (kTab_at (pc := 99) tX11_addSeed_ok 62 rfl) sk_249 (by decide) h (fun μ h => ?_)
          refine K_aload_n (md := mX11_addSeed) (pc := 100) 1 (kTab_at (pc := 100) tX11_addSeed_ok 63 rfl) rfl ?_
          refine K_getR (md := mX11_addSeed) (pc := 101) (b := 249) (kTab_at (pc := 101) tX11_addSeed_ok 64 rfl) fl_X11_7 sk_248 rfl rfl ?_
          refine K_bipush (md := mX11_addSeed) (pc := 104) (x := 14) (kTab_at (pc := 104) tX11_addSeed_ok 65 rfl) (by decide) ?_
          refine K_iload_n (md := mX11_addSeed) (pc := 106) 2 (kTab_at (pc := 106) tX11_addSeed_ok 66 rfl) rfl ?_
          refine K_iadd (md := mX11_addSeed) (pc := 107) (kTab_at (pc := 107) tX11_addSeed_ok 67 rfl) ?_
          refine K_dup2 (md := mX11_addSeed) (pc := 108) (kTab_at (pc := 108) tX11_addSeed_ok 68 rfl) rfl rfl ?_
          refine Z_iald (md := mX11_addSeed) (pc := 109) (kTab_at (pc := 109) tX11_addSeed_ok 69 rfl) sk_249 (by decide) h (fun x7 h => ?_)
          refine K_iconst (md := mX11_addSeed) (pc := 110) (x := 1) (kTab_at (pc := 110) tX11_addSeed_ok 70 rfl) rfl ?_
          refine K_iadd (md := mX11_addSeed) (pc := 111) (kTab_at (pc := 111) tX11_addSeed_ok 71 rfl) ?_
          refine Z_iast (md := mX11_addSeed) (pc := 112) (kTab_at (pc := 112) tX11_addSeed_ok 72 rfl) sk_249 (by decide) h (fun μ h => ?_)
          refine K_iload_n (md := mX11_addSeed) (pc := 113) 0 (kTab_at (pc := 113) tX11_addSeed_ok 73 rfl) rfl ?_
          exact Z_iret (md := mX11_addSeed) (pc := 114) (kTab_at (pc := 114) tX11_addSeed_ok 74 rfl) rfl rfl rfl h
        · refine K_aload_n (md := mX11_addSeed) (pc := 66) 0 (kTab_at (pc := 66) tX11_addSeed_ok 39 rfl) rfl ?_
          refine K_iconst (md := mX11_addSeed) (pc := 67) (x := 4) (kTab_at (pc := 67) tX11_addSeed_ok 40 rfl) rfl ?_
          refine Z_callV (md := mX11_addSeed) (pc := 68) (st := []) (sv := (fun x8 => [.int (iI x8)])) (kTab_at (pc := 68) tX11_addSeed_ok 41 rfl) mv_X11_177 sk_248 rfl (Nat.le_of_ble_eq_true rfl) (by decide) rfl (c_X11_fails X 4 μ) (fun _ => rfl) h (fun μ x8 h => ?_) rfl
          exact Z_iret (md := mX11_addSeed) (pc := 71) (kTab_at (pc := 71) tX11_addSeed_ok 42 rfl) rfl rfl rfl h
      · refine K_aload_n (md := mX11_addSeed) (pc := 47) 0 (kTab_at (pc := 47) tX11_addSeed_ok 27 rfl) rfl ?_
        refine K_iconst (md := mX11_addSeed) (pc := 48) (x := 3) (kTab_at (pc := 48) tX11_addSeed_ok 28 rfl) rfl ?_
        refine Z_callV (md := mX11_addSeed) (pc := 49) (st := []) (sv := (fun x9 => [.int (iI x9)])) (kTab_at (pc := 49) tX11_addSeed_ok 29 rfl) mv_X11_177 sk_248 rfl (Nat.le_of_ble_eq_true rfl) (by decide) rfl (c_X11_fails X 3 μ) (fun _ => rfl) h (fun μ x9 h => ?_) rfl
        exact Z_iret (md := mX11_addSeed) (pc := 52) (kTab_at (pc := 52) tX11_addSeed_ok 30 rfl) rfl rfl rfl h
    · refine K_aload_n (md := mX11_addSeed) (pc := 34) 0 (kTab_at (pc := 34) tX11_addSeed_ok 20 rfl) rfl ?_
      refine K_iconst (md := mX11_addSeed) (pc := 35) (x := 2) (kTab_at (pc := 35) tX11_addSeed_ok 21 rfl) rfl ?_
      refine Z_callV (md := mX11_addSeed) (pc := 36) (st := []) (sv := (fun x10 => [.int (iI x10)])) (kTab_at (pc := 36) tX11_addSeed_ok 22 rfl) mv_X11_177 sk_248 rfl (Nat.le_of_ble_eq_true rfl) (by decide) rfl (c_X11_fails X 2 μ) (fun _ => rfl) h (fun μ x10 h => ?_) rfl
      exact Z_iret (md := mX11_addSeed) (pc := 39) (kTab_at (pc := 39) tX11_addSeed_ok 23 rfl) rfl rfl rfl h
  · refine K_aload_n (md := mX11_addSeed) (pc := 12) 0 (kTab_at (pc := 12) tX11_addSeed_ok 6 rfl) rfl ?_
    refine K_iconst (md := mX11_addSeed) (pc := 13) (x := 1) (kTab_at (pc := 13) tX11_addSeed_ok 7 rfl) rfl ?_
    refine Z_callV (md := mX11_addSeed) (pc := 14) (st := []) (sv := (fun x11 => [.int (iI x11)])) (kTab_at (pc := 14) tX11_addSeed_ok 8 rfl) mv_X11_177 sk_248 rfl (Nat.le_of_ble_eq_true rfl) (by decide) rfl (c_X11_fails X 1 μ) (fun _ => rfl) h (fun μ x11 h => ?_) rfl
    exact Z_iret (md := mX11_addSeed) (pc := 17) (kTab_at (pc := 17) tX11_addSeed_ok 9 rfl) rfl rfl rfl h
def f_X11_pays (p1 : Int) (p2 : Int) (μ : Mu) : Option Res := rdI μ 249 779 (775 + p1) fun x1 => rdI μ 249 779 (0 + p2) fun x2 => wrI μ 249 779 (775 + p1) (x1 + (10 + x2)) fun μ => some (μ, 0, 0)
set_option maxRecDepth 100000 in
theorem c_X11_pays (X : kX) (p1 : Int) (p2 : Int)  (μ : Mu) : Cq X mX11_pays 0 0 μ [.ref (X.1 + 248), .int (iI p1), .int (iI p2)] (f_X11_pays p1 p2 μ) := by
  intro res h
  refine ct_of (by decide +kernel) rfl (Nat.le_of_ble_eq_true rfl) ?_
  show KK X mX11_pays 0 0 res 0 [(0, .ref (X.1 + 248)), (1, .int (iI p1)), (2, .int (iI p2))] [] μ
  unfold f_X11_pays at h
  refine K_aload_n (md := mX11_pays) (pc := 0) 0 (kTab_at (pc := 0) tX11_pays_ok 0 rfl) rfl ?_
  refine K_getR (md := mX11_pays) (pc := 1) (b := 249) (kTab_at (pc := 1) tX11_pays_ok 1 rfl) fl_X11_7 sk_248 rfl rfl ?_
  refine K_sipush (md := mX11_pays) (pc := 4) (x := 775) (kTab_at (pc := 4) tX11_pays_ok 2 rfl) (by decide) ?_
  refine K_iload_n (md := mX11_pays) (pc := 7) 1 (kTab_at (pc := 7) tX11_pays_ok 3 rfl) rfl ?_
  refine K_iadd (md := mX11_pays) (pc := 8) (kTab_at (pc := 8) tX11_pays_ok 4 rfl) ?_
  refine K_dup2 (md := mX11_pays) (pc := 9) (kTab_at (pc := 9) tX11_pays_ok 5 rfl) rfl rfl ?_
  refine Z_iald (md := mX11_pays) (pc := 10) (kTab_at (pc := 10) tX11_pays_ok 6 rfl) sk_249 (by decide) h (fun x1 h => ?_)
  refine K_bipush (md := mX11_pays) (pc := 11) (x := 10) (kTab_at (pc := 11) tX11_pays_ok 7 rfl) (by decide) ?_
  refine K_aload_n (md := mX11_pays) (pc := 13) 0 (kTab_at (pc := 13) tX11_pays_ok 8 rfl) rfl ?_
  refine K_getR (md := mX11_pays) (pc := 14) (b := 249) (kTab_at (pc := 14) tX11_pays_ok 9 rfl) fl_X11_7 sk_248 rfl rfl ?_
  refine K_iconst (md := mX11_pays) (pc := 17) (x := 0) (kTab_at (pc := 17) tX11_pays_ok 10 rfl) rfl ?_
  refine K_iload_n (md := mX11_pays) (pc := 18) 2 (kTab_at (pc := 18) tX11_pays_ok 11 rfl) rfl ?_
  refine K_iadd (md := mX11_pays) (pc := 19) (kTab_at (pc := 19) tX11_pays_ok 12 rfl) ?_
  refine Z_iald (md := mX11_pays) (pc := 20) (kTab_at (pc := 20) tX11_pays_ok 13 rfl) sk_249 (by decide) h (fun x2 h => ?_)
  refine K_iadd (md := mX11_pays) (pc := 21) (kTab_at (pc := 21) tX11_pays_ok 14 rfl) ?_
  refine K_iadd (md := mX11_pays) (pc := 22) (kTab_at (pc := 22) tX11_pays_ok 15 rfl) ?_
  refine Z_iast (md := mX11_pays) (pc := 23) (kTab_at (pc := 23) tX11_pays_ok 16 rfl) sk_249 (by decide) h (fun μ h => ?_)
  exact Z_vret (md := mX11_pays) (pc := 24) (kTab_at (pc := 24) tX11_pays_ok 17 rfl) rfl rfl h
def f_X11_markSeed_38 (p1 : Int) (p2 : Int) (p3 : Int) (p4 : Int)   (μ : Mu) : Option Res := rb (f_X11_fails 1 μ) fun μ x1 => some (μ, 0, x1)
set_option maxRecDepth 100000 in
theorem c_X11_markSeed_38 (X : kX) (p1 : Int) (p2 : Int) (p3 : Int) (p4 : Int)  {res : Res}  (μ : Mu) (h : f_X11_markSeed_38 p1 p2 p3 p4 μ = some res) : KK X mX11_markSeed 2 1 res 38 [(0, .ref (X.1 + 248))] [] μ := by
  unfold f_X11_markSeed_38 at h
  refine K_aload_n (md := mX11_markSeed) (pc := 38) 0 (kTab_at (pc := 38) tX11_markSeed_ok 21 rfl) rfl ?_
  refine K_iconst (md := mX11_markSeed) (pc := 39) (x := 1) (kTab_at (pc := 39) tX11_markSeed_ok 22 rfl) rfl ?_
  refine Z_callV (md := mX11_markSeed) (pc := 40) (st := []) (sv := (fun x1 => [.int (iI x1)])) (kTab_at (pc := 40) tX11_markSeed_ok 23 rfl) mv_X11_177 sk_248 rfl (Nat.le_of_ble_eq_true rfl) (by decide) rfl (c_X11_fails X 1 μ) (fun _ => rfl) h (fun μ x1 h => ?_) rfl
  exact Z_iret (md := mX11_markSeed) (pc := 43) (kTab_at (pc := 43) tX11_markSeed_ok 24 rfl) rfl rfl rfl h
def f_X11_markSeed (p1 : Int) (p2 : Int) (p3 : Int) (p4 : Int) (μ : Mu) : Option Res := wrF μ 248 0 0 fun μ => rb (f_X11_isMarker p1 μ) fun μ x1 => i_eq x1 0 (f_X11_markSeed_38 p1 p2 p3 p4 μ) (rb (f_X11_isQuestion p2 μ) fun μ x2 => i_eq x2 0 (f_X11_markSeed_38 p1 p2 p3 p4 μ) (rdI μ 249 779 (14 + p2) fun x3 => rb (f_X11_in p3 0 (x3 - 1) μ) fun μ x4 => i_eq x4 0 (f_X11_markSeed_38 p1 p2 p3 p4 μ) (rdI μ 249 779 (0 + p2) fun x5 => rb (f_X11_in p4 0 x5 μ) fun μ x6 => i_eq x6 0 (rb (f_X11_fails 2 μ) fun μ x13 => some (μ, 0, x13)) (rb (f_X11_isPublished μ) fun μ x7 => i_eq x7 0 (rb (f_X11_hasMarked p1 p2 p3 μ) fun μ x8 => i_eq x8 0 (rb (f_X11_changes μ) fun μ _ => rb (f_X11_markedAt p1 p2 p3 μ) fun μ x9 => wrI μ 249 779 x9 (p4 + 1) fun μ => rb (f_X11_pays p1 p2 μ) fun μ _ => rb (f_X11_deviation p1 p2 p3 μ) fun μ x10 => some (μ, 0, x10)) (rb (f_X11_fails 4 μ) fun μ x11 => some (μ, 0, x11))) (rb (f_X11_fails 3 μ) fun μ x12 => some (μ, 0, x12))))))
set_option maxRecDepth 100000 in
theorem c_X11_markSeed (X : kX) (p1 : Int) (p2 : Int) (p3 : Int) (p4 : Int)  (μ : Mu) : Cq X mX11_markSeed 2 1 μ [.ref (X.1 + 248), .int (iI p1), .int (iI p2), .int (iI p3), .int (iI p4)] (f_X11_markSeed p1 p2 p3 p4 μ) := by
  intro res h
  refine ct_of (by decide +kernel) rfl (Nat.le_of_ble_eq_true rfl) ?_
  show KK X mX11_markSeed 2 1 res 0 [(0, .ref (X.1 + 248)), (1, .int (iI p1)), (2, .int (iI p2)), (3, .int (iI p3)), (4, .int (iI p4))] [] μ
  unfold f_X11_markSeed at h
  refine K_aload_n (md := mX11_markSeed) (pc := 0) 0 (kTab_at (pc := 0) tX11_markSeed_ok 0 rfl) rfl ?_
  refine K_iconst (md := mX11_markSeed) (pc := 1) (x := 0) (kTab_at (pc := 1) tX11_markSeed_ok 1 rfl) rfl ?_
  refine Z_putI (md := mX11_markSeed) (pc := 2) (kTab_at (pc := 2) tX11_markSeed_ok 2 rfl) fl_X11_48 sk_248 rfl h (fun μ h => ?_)
  refine K_iload_n (md := mX11_markSeed) (pc := 5) 1 (kTab_at (pc := 5) tX11_markSeed_ok 3 rfl) rfl ?_
  refine Z_callS (md := mX11_markSeed) (pc := 6) (st := []) (sv := (fun x1 => [.int (iI x1)])) (kTab_at (pc := 6) tX11_markSeed_ok 4 rfl) ms_X11_196 rfl (Nat.le_of_ble_eq_true rfl) (by decide) rfl (c_X11_isMarker X p1 μ) (fun _ => rfl) h (fun μ x1 h => ?_) rfl
  refine K_if_eq (md := mX11_markSeed) (pc := 9) (kTab_at (pc := 9) tX11_markSeed_ok 5 rfl) (tgt := 38) rfl h (fun h => ?_) (fun h => ?_)
  · refine K_sub [0] rfl ?_
    refine c_X11_markSeed_38 X p1 p2 p3 p4  μ h
  · refine K_iload_n (md := mX11_markSeed) (pc := 12) 2 (kTab_at (pc := 12) tX11_markSeed_ok 6 rfl) rfl ?_
    refine Z_callS (md := mX11_markSeed) (pc := 13) (st := []) (sv := (fun x2 => [.int (iI x2)])) (kTab_at (pc := 13) tX11_markSeed_ok 7 rfl) ms_X11_180 rfl (Nat.le_of_ble_eq_true rfl) (by decide) rfl (c_X11_isQuestion X p2 μ) (fun _ => rfl) h (fun μ x2 h => ?_) rfl
    refine K_if_eq (md := mX11_markSeed) (pc := 16) (kTab_at (pc := 16) tX11_markSeed_ok 8 rfl) (tgt := 38) rfl h (fun h => ?_) (fun h => ?_)
    · refine K_sub [0] rfl ?_
      refine c_X11_markSeed_38 X p1 p2 p3 p4  μ h
    · refine K_iload_n (md := mX11_markSeed) (pc := 19) 3 (kTab_at (pc := 19) tX11_markSeed_ok 9 rfl) rfl ?_
      refine K_iconst (md := mX11_markSeed) (pc := 20) (x := 0) (kTab_at (pc := 20) tX11_markSeed_ok 10 rfl) rfl ?_
      refine K_aload_n (md := mX11_markSeed) (pc := 21) 0 (kTab_at (pc := 21) tX11_markSeed_ok 11 rfl) rfl ?_
      refine K_getR (md := mX11_markSeed) (pc := 22) (b := 249) (kTab_at (pc := 22) tX11_markSeed_ok 12 rfl) fl_X11_7 sk_248 rfl rfl ?_
      refine K_bipush (md := mX11_markSeed) (pc := 25) (x := 14) (kTab_at (pc := 25) tX11_markSeed_ok 13 rfl) (by decide) ?_
      refine K_iload_n (md := mX11_markSeed) (pc := 27) 2 (kTab_at (pc := 27) tX11_markSeed_ok 14 rfl) rfl ?_
      refine K_iadd (md := mX11_markSeed) (pc := 28) (kTab_at (pc := 28) tX11_markSeed_ok 15 rfl) ?_
      refine Z_iald (md := mX11_markSeed) (pc := 29) (kTab_at (pc := 29) tX11_markSeed_ok 16 rfl) sk_249 (by decide) h (fun x3 h => ?_)
      refine K_iconst (md := mX11_markSeed) (pc := 30) (x := 1) (kTab_at (pc := 30) tX11_markSeed_ok 17 rfl) rfl ?_
      refine K_isub (md := mX11_markSeed) (pc := 31) (kTab_at (pc := 31) tX11_markSeed_ok 18 rfl) ?_
      refine Z_callS (md := mX11_markSeed) (pc := 32) (st := []) (sv := (fun x4 => [.int (iI x4)])) (kTab_at (pc := 32) tX11_markSeed_ok 19 rfl) ms_X11_51 rfl (Nat.le_of_ble_eq_true rfl) (by decide) rfl (c_X11_in X p3 0 (x3 - 1) μ) (fun _ => rfl) h (fun μ x4 h => ?_) rfl
      refine K_if_ne (md := mX11_markSeed) (pc := 35) (kTab_at (pc := 35) tX11_markSeed_ok 20 rfl) (tgt := 44) rfl h (fun h => ?_) (fun h => ?_)
      · refine K_iload (md := mX11_markSeed) (pc := 44) 4 (kTab_at (pc := 44) tX11_markSeed_ok 25 rfl) rfl ?_
        refine K_iconst (md := mX11_markSeed) (pc := 46) (x := 0) (kTab_at (pc := 46) tX11_markSeed_ok 26 rfl) rfl ?_
        refine K_aload_n (md := mX11_markSeed) (pc := 47) 0 (kTab_at (pc := 47) tX11_markSeed_ok 27 rfl) rfl ?_
        refine K_getR (md := mX11_markSeed) (pc := 48) (b := 249) (kTab_at (pc := 48) tX11_markSeed_ok 28 rfl) fl_X11_7 sk_248 rfl rfl ?_
        refine K_iconst (md := mX11_markSeed) (pc := 51) (x := 0) (kTab_at (pc := 51) tX11_markSeed_ok 29 rfl) rfl ?_
        refine K_iload_n (md := mX11_markSeed) (pc := 52) 2 (kTab_at (pc := 52) tX11_markSeed_ok 30 rfl) rfl ?_
        refine K_iadd (md := mX11_markSeed) (pc := 53) (kTab_at (pc := 53) tX11_markSeed_ok 31 rfl) ?_
        refine Z_iald (md := mX11_markSeed) (pc := 54) (kTab_at (pc := 54) tX11_markSeed_ok 32 rfl) sk_249 (by decide) h (fun x5 h => ?_)
        refine Z_callS (md := mX11_markSeed) (pc := 55) (st := []) (sv := (fun x6 => [.int (iI x6)])) (kTab_at (pc := 55) tX11_markSeed_ok 33 rfl) ms_X11_51 rfl (Nat.le_of_ble_eq_true rfl) (by decide) rfl (c_X11_in X p4 0 x5 μ) (fun _ => rfl) h (fun μ x6 h => ?_) rfl
        refine K_if_ne (md := mX11_markSeed) (pc := 58) (kTab_at (pc := 58) tX11_markSeed_ok 34 rfl) (tgt := 67) rfl h (fun h => ?_) (fun h => ?_)
        · refine K_aload_n (md := mX11_markSeed) (pc := 67) 0 (kTab_at (pc := 67) tX11_markSeed_ok 39 rfl) rfl ?_
          refine Z_callV (md := mX11_markSeed) (pc := 68) (st := []) (sv := (fun x7 => [.int (iI x7)])) (kTab_at (pc := 68) tX11_markSeed_ok 40 rfl) mv_X11_183 sk_248 rfl (Nat.le_of_ble_eq_true rfl) (by decide) rfl (c_X11_isPublished X μ) (fun _ => rfl) h (fun μ x7 h => ?_) rfl
          refine K_if_eq (md := mX11_markSeed) (pc := 71) (kTab_at (pc := 71) tX11_markSeed_ok 41 rfl) (tgt := 80) rfl h (fun h => ?_) (fun h => ?_)
          · refine K_aload_n (md := mX11_markSeed) (pc := 80) 0 (kTab_at (pc := 80) tX11_markSeed_ok 46 rfl) rfl ?_
            refine K_iload_n (md := mX11_markSeed) (pc := 81) 1 (kTab_at (pc := 81) tX11_markSeed_ok 47 rfl) rfl ?_
            refine K_iload_n (md := mX11_markSeed) (pc := 82) 2 (kTab_at (pc := 82) tX11_markSeed_ok 48 rfl) rfl ?_
            refine K_iload_n (md := mX11_markSeed) (pc := 83) 3 (kTab_at (pc := 83) tX11_markSeed_ok 49 rfl) rfl ?_
            refine Z_callV (md := mX11_markSeed) (pc := 84) (st := []) (sv := (fun x8 => [.int (iI x8)])) (kTab_at (pc := 84) tX11_markSeed_ok 50 rfl) mv_X11_68 sk_248 rfl (Nat.le_of_ble_eq_true rfl) (by decide) rfl (c_X11_hasMarked X p1 p2 p3 μ) (fun _ => rfl) h (fun μ x8 h => ?_) rfl
            refine K_if_eq (md := mX11_markSeed) (pc := 87) (kTab_at (pc := 87) tX11_markSeed_ok 51 rfl) (tgt := 96) rfl h (fun h => ?_) (fun h => ?_)
            · refine K_aload_n (md := mX11_markSeed) (pc := 96) 0 (kTab_at (pc := 96) tX11_markSeed_ok 56 rfl) rfl ?_
              refine Z_callV (md := mX11_markSeed) (pc := 97) (st := []) (sv := (fun _ => [])) (kTab_at (pc := 97) tX11_markSeed_ok 57 rfl) mv_X11_190 sk_248 rfl (Nat.le_of_ble_eq_true rfl) (by decide) rfl (c_X11_changes X μ) (fun _ => rfl) h (fun μ _ h => ?_) rfl
              refine K_aload_n (md := mX11_markSeed) (pc := 100) 0 (kTab_at (pc := 100) tX11_markSeed_ok 58 rfl) rfl ?_
              refine K_getR (md := mX11_markSeed) (pc := 101) (b := 249) (kTab_at (pc := 101) tX11_markSeed_ok 59 rfl) fl_X11_7 sk_248 rfl rfl ?_
              refine K_iload_n (md := mX11_markSeed) (pc := 104) 1 (kTab_at (pc := 104) tX11_markSeed_ok 60 rfl) rfl ?_
              refine K_iload_n (md := mX11_markSeed) (pc := 105) 2 (kTab_at (pc := 105) tX11_markSeed_ok 61 rfl) rfl ?_
              refine K_iload_n (md := mX11_markSeed) (pc := 106) 3 (kTab_at (pc := 106) tX11_markSeed_ok 62 rfl) rfl ?_
              refine Z_callS (md := mX11_markSeed) (pc := 107) (st := [.ref (X.1 + 249)]) (sv := (fun x9 => [.int (iI x9), .ref (X.1 + 249)])) (kTab_at (pc := 107) tX11_markSeed_ok 63 rfl) ms_X11_64 rfl (Nat.le_of_ble_eq_true rfl) (by decide) rfl (c_X11_markedAt X p1 p2 p3 μ) (fun _ => rfl) h (fun μ x9 h => ?_) rfl
              refine K_iload (md := mX11_markSeed) (pc := 110) 4 (kTab_at (pc := 110) tX11_markSeed_ok 64 rfl) rfl ?_
              refine K_iconst (md := mX11_markSeed) (pc := 112) (x := 1) (kTab_at (pc := 112) tX11_markSeed_ok 65 rfl) rfl ?_
              refine K_iadd (md := mX11_markSeed) (pc := 113) (kTab_at (pc := 113) tX11_markSeed_ok 66 rfl) ?_
              refine Z_iast (md := mX11_markSeed) (pc := 114) (kTab_at (pc := 114) tX11_markSeed_ok 67 rfl) sk_249 (by decide) h (fun μ h => ?_)
              refine K_aload_n (md := mX11_markSeed) (pc := 115) 0 (kTab_at (pc := 115) tX11_markSeed_ok 68 rfl) rfl ?_
              refine K_iload_n (md := mX11_markSeed) (pc := 116) 1 (kTab_at (pc := 116) tX11_markSeed_ok 69 rfl) rfl ?_
              refine K_iload_n (md := mX11_markSeed) (pc := 117) 2 (kTab_at (pc := 117) tX11_markSeed_ok 70 rfl) rfl ?_
              refine Z_callV (md := mX11_markSeed) (pc := 118) (st := []) (sv := (fun _ => [])) (kTab_at (pc := 118) tX11_markSeed_ok 71 rfl) mv_X11_199 sk_248 rfl (Nat.le_of_ble_eq_true rfl) (by decide) rfl (c_X11_pays X p1 p2 μ) (fun _ => rfl) h (fun μ _ h => ?_) rfl
              refine K_aload_n (md := mX11_markSeed) (pc := 121) 0 (kTab_at (pc := 121) tX11_markSeed_ok 72 rfl) rfl ?_
              refine K_iload_n (md := mX11_markSeed) (pc := 122) 1 (kTab_at (pc := 122) tX11_markSeed_ok 73 rfl) rfl ?_
              refine K_iload_n (md := mX11_markSeed) (pc := 123) 2 (kTab_at (pc := 123) tX11_markSeed_ok 74 rfl) rfl ?_
              refine K_iload_n (md := mX11_markSeed) (pc := 124) 3 (kTab_at (pc := 124) tX11_markSeed_ok 75 rfl) rfl ?_
              refine Z_callV (md := mX11_markSeed) (pc := 125) (st := []) (sv := (fun x10 => [.int (iI x10)])) (kTab_at (pc := 125) tX11_markSeed_ok 76 rfl) mv_X11_71 sk_248 rfl (Nat.le_of_ble_eq_true rfl) (by decide) rfl (c_X11_deviation X p1 p2 p3 μ) (fun _ => rfl) h (fun μ x10 h => ?_) rfl
              exact Z_iret (md := mX11_markSeed) (pc := 128) (kTab_at (pc := 128) tX11_markSeed_ok 77 rfl) rfl rfl rfl h
            · refine K_aload_n (md := mX11_markSeed) (pc := 90) 0 (kTab_at (pc := 90) tX11_markSeed_ok 52 rfl) rfl ?_
              refine K_iconst (md := mX11_markSeed) (pc := 91) (x := 4) (kTab_at (pc := 91) tX11_markSeed_ok 53 rfl) rfl ?_
              refine Z_callV (md := mX11_markSeed) (pc := 92) (st := []) (sv := (fun x11 => [.int (iI x11)])) (kTab_at (pc := 92) tX11_markSeed_ok 54 rfl) mv_X11_177 sk_248 rfl (Nat.le_of_ble_eq_true rfl) (by decide) rfl (c_X11_fails X 4 μ) (fun _ => rfl) h (fun μ x11 h => ?_) rfl
              exact Z_iret (md := mX11_markSeed) (pc := 95) (kTab_at (pc := 95) tX11_markSeed_ok 55 rfl) rfl rfl rfl h
          · refine K_aload_n (md := mX11_markSeed) (pc := 74) 0 (kTab_at (pc := 74) tX11_markSeed_ok 42 rfl) rfl ?_
            refine K_iconst (md := mX11_markSeed) (pc := 75) (x := 3) (kTab_at (pc := 75) tX11_markSeed_ok 43 rfl) rfl ?_
            refine Z_callV (md := mX11_markSeed) (pc := 76) (st := []) (sv := (fun x12 => [.int (iI x12)])) (kTab_at (pc := 76) tX11_markSeed_ok 44 rfl) mv_X11_177 sk_248 rfl (Nat.le_of_ble_eq_true rfl) (by decide) rfl (c_X11_fails X 3 μ) (fun _ => rfl) h (fun μ x12 h => ?_) rfl
            exact Z_iret (md := mX11_markSeed) (pc := 79) (kTab_at (pc := 79) tX11_markSeed_ok 45 rfl) rfl rfl rfl h
        · refine K_aload_n (md := mX11_markSeed) (pc := 61) 0 (kTab_at (pc := 61) tX11_markSeed_ok 35 rfl) rfl ?_
          refine K_iconst (md := mX11_markSeed) (pc := 62) (x := 2) (kTab_at (pc := 62) tX11_markSeed_ok 36 rfl) rfl ?_
          refine Z_callV (md := mX11_markSeed) (pc := 63) (st := []) (sv := (fun x13 => [.int (iI x13)])) (kTab_at (pc := 63) tX11_markSeed_ok 37 rfl) mv_X11_177 sk_248 rfl (Nat.le_of_ble_eq_true rfl) (by decide) rfl (c_X11_fails X 2 μ) (fun _ => rfl) h (fun μ x13 h => ?_) rfl
          exact Z_iret (md := mX11_markSeed) (pc := 66) (kTab_at (pc := 66) tX11_markSeed_ok 38 rfl) rfl rfl rfl h
      · refine K_sub [0] rfl ?_
        refine c_X11_markSeed_38 X p1 p2 p3 p4  μ h
def f_X11_markerRefusal_20 (p1 : Int) (p2 : Int)  (s1 : Int) (μ : Mu) : Option Res := wrF μ 248 0 s1 fun μ => rdF μ 248 0 fun x1 => some (μ, 0, x1)
set_option maxRecDepth 100000 in
theorem c_X11_markerRefusal_20 (X : kX) (p1 : Int) (p2 : Int)  {res : Res}  (s1 : Int) (μ : Mu) (h : f_X11_markerRefusal_20 p1 p2 s1 μ = some res) : KK X mX11_markerRefusal 2 1 res 20 [(0, .ref (X.1 + 248))] [.int (iI s1), .ref (X.1 + 248)] μ := by
  unfold f_X11_markerRefusal_20 at h
  refine Z_putI (md := mX11_markerRefusal) (pc := 20) (kTab_at (pc := 20) tX11_markerRefusal_ok 10 rfl) fl_X11_48 sk_248 rfl h (fun μ h => ?_)
  refine K_aload_n (md := mX11_markerRefusal) (pc := 23) 0 (kTab_at (pc := 23) tX11_markerRefusal_ok 11 rfl) rfl ?_
  refine Z_getI (md := mX11_markerRefusal) (pc := 24) (kTab_at (pc := 24) tX11_markerRefusal_ok 12 rfl) fl_X11_48 sk_248 (Or.inl rfl) h (fun x1 h => ?_)
  exact Z_iret (md := mX11_markerRefusal) (pc := 27) (kTab_at (pc := 27) tX11_markerRefusal_ok 13 rfl) rfl rfl rfl h
def f_X11_markerRefusal_19 (p1 : Int) (p2 : Int)   (μ : Mu) : Option Res := f_X11_markerRefusal_20 p1 p2 1 μ
set_option maxRecDepth 100000 in
theorem c_X11_markerRefusal_19 (X : kX) (p1 : Int) (p2 : Int)  {res : Res}  (μ : Mu) (h : f_X11_markerRefusal_19 p1 p2 μ = some res) : KK X mX11_markerRefusal 2 1 res 19 [(0, .ref (X.1 + 248))] [.ref (X.1 + 248)] μ := by
  unfold f_X11_markerRefusal_19 at h
  refine K_iconst (md := mX11_markerRefusal) (pc := 19) (x := 1) (kTab_at (pc := 19) tX11_markerRefusal_ok 9 rfl) rfl ?_
  refine c_X11_markerRefusal_20 X p1 p2  1 μ h
def f_X11_markerRefusal (p1 : Int) (p2 : Int) (μ : Mu) : Option Res := rb (f_X11_isMarker p1 μ) fun μ x1 => i_eq x1 0 (f_X11_markerRefusal_19 p1 p2 μ) (rb (f_X11_isQuestion p2 μ) fun μ x2 => i_eq x2 0 (f_X11_markerRefusal_19 p1 p2 μ) (f_X11_markerRefusal_20 p1 p2 0 μ))
set_option maxRecDepth 100000 in
theorem c_X11_markerRefusal (X : kX) (p1 : Int) (p2 : Int)  (μ : Mu) : Cq X mX11_markerRefusal 2 1 μ [.ref (X.1 + 248), .int (iI p1), .int (iI p2)] (f_X11_markerRefusal p1 p2 μ) := by
  intro res h
  refine ct_of (by decide +kernel) rfl (Nat.le_of_ble_eq_true rfl) ?_
  show KK X mX11_markerRefusal 2 1 res 0 [(0, .ref (X.1 + 248)), (1, .int (iI p1)), (2, .int (iI p2))] [] μ
  unfold f_X11_markerRefusal at h
  refine K_aload_n (md := mX11_markerRefusal) (pc := 0) 0 (kTab_at (pc := 0) tX11_markerRefusal_ok 0 rfl) rfl ?_
  refine K_iload_n (md := mX11_markerRefusal) (pc := 1) 1 (kTab_at (pc := 1) tX11_markerRefusal_ok 1 rfl) rfl ?_
  refine Z_callS (md := mX11_markerRefusal) (pc := 2) (st := [.ref (X.1 + 248)]) (sv := (fun x1 => [.int (iI x1), .ref (X.1 + 248)])) (kTab_at (pc := 2) tX11_markerRefusal_ok 2 rfl) ms_X11_196 rfl (Nat.le_of_ble_eq_true rfl) (by decide) rfl (c_X11_isMarker X p1 μ) (fun _ => rfl) h (fun μ x1 h => ?_) rfl
  refine K_if_eq (md := mX11_markerRefusal) (pc := 5) (kTab_at (pc := 5) tX11_markerRefusal_ok 3 rfl) (tgt := 19) rfl h (fun h => ?_) (fun h => ?_)
  · refine K_sub [0] rfl ?_
    refine c_X11_markerRefusal_19 X p1 p2  μ h
  · refine K_iload_n (md := mX11_markerRefusal) (pc := 8) 2 (kTab_at (pc := 8) tX11_markerRefusal_ok 4 rfl) rfl ?_
    refine Z_callS (md := mX11_markerRefusal) (pc := 9) (st := [.ref (X.1 + 248)]) (sv := (fun x2 => [.int (iI x2), .ref (X.1 + 248)])) (kTab_at (pc := 9) tX11_markerRefusal_ok 5 rfl) ms_X11_180 rfl (Nat.le_of_ble_eq_true rfl) (by decide) rfl (c_X11_isQuestion X p2 μ) (fun _ => rfl) h (fun μ x2 h => ?_) rfl
    refine K_if_eq (md := mX11_markerRefusal) (pc := 12) (kTab_at (pc := 12) tX11_markerRefusal_ok 6 rfl) (tgt := 19) rfl h (fun h => ?_) (fun h => ?_)
    · refine K_sub [0] rfl ?_
      refine c_X11_markerRefusal_19 X p1 p2  μ h
    · refine K_iconst (md := mX11_markerRefusal) (pc := 15) (x := 0) (kTab_at (pc := 15) tX11_markerRefusal_ok 7 rfl) rfl ?_
      refine K_goto (md := mX11_markerRefusal) (pc := 16) (tgt := 20) (kTab_at (pc := 16) tX11_markerRefusal_ok 8 rfl) rfl ?_
      refine K_sub [0] rfl ?_
      refine c_X11_markerRefusal_20 X p1 p2  0 μ h
def f_X11_correction_19 (p1 : Int) (p2 : Int)  (s0 : Int) (μ : Mu) : Option Res := some (μ, 0, s0)
set_option maxRecDepth 100000 in
theorem c_X11_correction_19 (X : kX) (p1 : Int) (p2 : Int)  {res : Res}  (s0 : Int) (μ : Mu) (h : f_X11_correction_19 p1 p2 s0 μ = some res) : KK X mX11_correction 3 1 res 19 [] [.int (iI s0)] μ := by
  unfold f_X11_correction_19 at h
  exact Z_iret (md := mX11_correction) (pc := 19) (kTab_at (pc := 19) tX11_correction_ok 11 rfl) rfl rfl rfl h
def f_X11_correction (p1 : Int) (p2 : Int) (μ : Mu) : Option Res := rb (f_X11_markerRefusal p1 p2 μ) fun μ x1 => i_lt 0 x1 (f_X11_correction_19 p1 p2 0 μ) (rb (f_X11_corrects p1 p2 μ) fun μ x2 => f_X11_correction_19 p1 p2 x2 μ)
set_option maxRecDepth 100000 in
theorem c_X11_correction (X : kX) (p1 : Int) (p2 : Int)  (μ : Mu) : Cq X mX11_correction 3 1 μ [.ref (X.1 + 248), .int (iI p1), .int (iI p2)] (f_X11_correction p1 p2 μ) := by
  intro res h
  refine ct_of (by decide +kernel) rfl (Nat.le_of_ble_eq_true rfl) ?_
  show KK X mX11_correction 3 1 res 0 [(0, .ref (X.1 + 248)), (1, .int (iI p1)), (2, .int (iI p2))] [] μ
  unfold f_X11_correction at h
  refine K_aload_n (md := mX11_correction) (pc := 0) 0 (kTab_at (pc := 0) tX11_correction_ok 0 rfl) rfl ?_
  refine K_iload_n (md := mX11_correction) (pc := 1) 1 (kTab_at (pc := 1) tX11_correction_ok 1 rfl) rfl ?_
  refine K_iload_n (md := mX11_correction) (pc := 2) 2 (kTab_at (pc := 2) tX11_correction_ok 2 rfl) rfl ?_
  refine Z_callV (md := mX11_correction) (pc := 3) (st := []) (sv := (fun x1 => [.int (iI x1)])) (kTab_at (pc := 3) tX11_correction_ok 3 rfl) mv_X11_202 sk_248 rfl (Nat.le_of_ble_eq_true rfl) (by decide) rfl (c_X11_markerRefusal X p1 p2 μ) (fun _ => rfl) h (fun μ x1 h => ?_) rfl
  refine K_if_le (md := mX11_correction) (pc := 6) (kTab_at (pc := 6) tX11_correction_ok 4 rfl) (tgt := 13) rfl h (fun h => ?_) (fun h => ?_)
  · refine K_aload_n (md := mX11_correction) (pc := 13) 0 (kTab_at (pc := 13) tX11_correction_ok 7 rfl) rfl ?_
    refine K_iload_n (md := mX11_correction) (pc := 14) 1 (kTab_at (pc := 14) tX11_correction_ok 8 rfl) rfl ?_
    refine K_iload_n (md := mX11_correction) (pc := 15) 2 (kTab_at (pc := 15) tX11_correction_ok 9 rfl) rfl ?_
    refine Z_callV (md := mX11_correction) (pc := 16) (st := []) (sv := (fun x2 => [.int (iI x2)])) (kTab_at (pc := 16) tX11_correction_ok 10 rfl) mv_X11_92 sk_248 rfl (Nat.le_of_ble_eq_true rfl) (by decide) rfl (c_X11_corrects X p1 p2 μ) (fun _ => rfl) h (fun μ x2 h => ?_) rfl
    refine K_sub [] rfl ?_
    refine c_X11_correction_19 X p1 p2  x2 μ h
  · refine K_iconst (md := mX11_correction) (pc := 9) (x := 0) (kTab_at (pc := 9) tX11_correction_ok 5 rfl) rfl ?_
    refine K_goto (md := mX11_correction) (pc := 10) (tgt := 19) (kTab_at (pc := 10) tX11_correction_ok 6 rfl) rfl ?_
    refine K_sub [] rfl ?_
    refine c_X11_correction_19 X p1 p2  0 μ h
def f_X11_isSuspended_23 (p1 : Int) (p2 : Int)  (s0 : Int) (μ : Mu) : Option Res := retZ μ s0
set_option maxRecDepth 100000 in
theorem c_X11_isSuspended_23 (X : kX) (p1 : Int) (p2 : Int)  {res : Res}  (s0 : Int) (μ : Mu) (h : f_X11_isSuspended_23 p1 p2 s0 μ = some res) : KK X mX11_isSuspended 3 1 res 23 [] [.int (iI s0)] μ := by
  unfold f_X11_isSuspended_23 at h
  exact Z_zret (md := mX11_isSuspended) (pc := 23) (kTab_at (pc := 23) tX11_isSuspended_ok 13 rfl) rfl rfl h
def f_X11_isSuspended_22 (p1 : Int) (p2 : Int)   (μ : Mu) : Option Res := f_X11_isSuspended_23 p1 p2 0 μ
set_option maxRecDepth 100000 in
theorem c_X11_isSuspended_22 (X : kX) (p1 : Int) (p2 : Int)  {res : Res}  (μ : Mu) (h : f_X11_isSuspended_22 p1 p2 μ = some res) : KK X mX11_isSuspended 3 1 res 22 [] [] μ := by
  unfold f_X11_isSuspended_22 at h
  refine K_iconst (md := mX11_isSuspended) (pc := 22) (x := 0) (kTab_at (pc := 22) tX11_isSuspended_ok 12 rfl) rfl ?_
  refine c_X11_isSuspended_23 X p1 p2  0 μ h
def f_X11_isSuspended (p1 : Int) (p2 : Int) (μ : Mu) : Option Res := rb (f_X11_markerRefusal p1 p2 μ) fun μ x1 => i_eq x1 0 (rb (f_X11_suspended p1 p2 μ) fun μ x2 => i_eq x2 0 (f_X11_isSuspended_22 p1 p2 μ) (f_X11_isSuspended_23 p1 p2 1 μ)) (f_X11_isSuspended_22 p1 p2 μ)
set_option maxRecDepth 100000 in
theorem c_X11_isSuspended (X : kX) (p1 : Int) (p2 : Int)  (μ : Mu) : Cq X mX11_isSuspended 3 1 μ [.ref (X.1 + 248), .int (iI p1), .int (iI p2)] (f_X11_isSuspended p1 p2 μ) := by
  intro res h
  refine ct_of (by decide +kernel) rfl (Nat.le_of_ble_eq_true rfl) ?_
  show KK X mX11_isSuspended 3 1 res 0 [(0, .ref (X.1 + 248)), (1, .int (iI p1)), (2, .int (iI p2))] [] μ
  unfold f_X11_isSuspended at h
  refine K_aload_n (md := mX11_isSuspended) (pc := 0) 0 (kTab_at (pc := 0) tX11_isSuspended_ok 0 rfl) rfl ?_
  refine K_iload_n (md := mX11_isSuspended) (pc := 1) 1 (kTab_at (pc := 1) tX11_isSuspended_ok 1 rfl) rfl ?_
  refine K_iload_n (md := mX11_isSuspended) (pc := 2) 2 (kTab_at (pc := 2) tX11_isSuspended_ok 2 rfl) rfl ?_
  refine Z_callV (md := mX11_isSuspended) (pc := 3) (st := []) (sv := (fun x1 => [.int (iI x1)])) (kTab_at (pc := 3) tX11_isSuspended_ok 3 rfl) mv_X11_202 sk_248 rfl (Nat.le_of_ble_eq_true rfl) (by decide) rfl (c_X11_markerRefusal X p1 p2 μ) (fun _ => rfl) h (fun μ x1 h => ?_) rfl
  refine K_if_ne (md := mX11_isSuspended) (pc := 6) (kTab_at (pc := 6) tX11_isSuspended_ok 4 rfl) (tgt := 22) rfl h (fun h => ?_) (fun h => ?_)
  · refine K_sub [] rfl ?_
    refine c_X11_isSuspended_22 X p1 p2  μ h
  · refine K_aload_n (md := mX11_isSuspended) (pc := 9) 0 (kTab_at (pc := 9) tX11_isSuspended_ok 5 rfl) rfl ?_
    refine K_iload_n (md := mX11_isSuspended) (pc := 10) 1 (kTab_at (pc := 10) tX11_isSuspended_ok 6 rfl) rfl ?_
    refine K_iload_n (md := mX11_isSuspended) (pc := 11) 2 (kTab_at (pc := 11) tX11_isSuspended_ok 7 rfl) rfl ?_
    refine Z_callV (md := mX11_isSuspended) (pc := 12) (st := []) (sv := (fun x2 => [.int (iI x2)])) (kTab_at (pc := 12) tX11_isSuspended_ok 8 rfl) mv_X11_88 sk_248 rfl (Nat.le_of_ble_eq_true rfl) (by decide) rfl (c_X11_suspended X p1 p2 μ) (fun _ => rfl) h (fun μ x2 h => ?_) rfl
    refine K_if_eq (md := mX11_isSuspended) (pc := 15) (kTab_at (pc := 15) tX11_isSuspended_ok 9 rfl) (tgt := 22) rfl h (fun h => ?_) (fun h => ?_)
    · refine K_sub [] rfl ?_
      refine c_X11_isSuspended_22 X p1 p2  μ h
    · refine K_iconst (md := mX11_isSuspended) (pc := 18) (x := 1) (kTab_at (pc := 18) tX11_isSuspended_ok 10 rfl) rfl ?_
      refine K_goto (md := mX11_isSuspended) (pc := 19) (tgt := 23) (kTab_at (pc := 19) tX11_isSuspended_ok 11 rfl) rfl ?_
      refine K_sub [] rfl ?_
      refine c_X11_isSuspended_23 X p1 p2  1 μ h
def f_X11_hasEntered_51 (p1 : Int) (p2 : Int) (p3 : Int) (k6 : Int → Int → Mu → Option Res) (v5 : Int) (s0 : Int) (μ : Mu) : Option Res := k6 s0 (v5 + 1) μ
set_option maxRecDepth 100000 in
theorem c_X11_hasEntered_51 (X : kX) (p1 : Int) (p2 : Int) (p3 : Int)  {res : Res} (k6 : Int → Int → Mu → Option Res) (hk6 : ∀ (v4 : Int), ∀ (v5 : Int), ∀ (μ : Mu), k6 v4 v5 μ = some res → KK X mX11_hasEntered 2 1 res 6 [(0, .ref (X.1 + 248)), (1, .int (iI p1)), (2, .int (iI p2)), (3, .int (iI p3)), (4, .int (iI v4)), (5, .int (iI v5))] [] μ) (v5 : Int) (s0 : Int) (μ : Mu) (h : f_X11_hasEntered_51 p1 p2 p3 k6 v5 s0 μ = some res) : KK X mX11_hasEntered 2 1 res 51 [(0, .ref (X.1 + 248)), (1, .int (iI p1)), (2, .int (iI p2)), (3, .int (iI p3)), (5, .int (iI v5))] [.int (iI s0)] μ := by
  unfold f_X11_hasEntered_51 at h
  refine K_istore (md := mX11_hasEntered) (pc := 51) (l' := [(4, .int (iI s0)), (0, .ref (X.1 + 248)), (1, .int (iI p1)), (2, .int (iI p2)), (3, .int (iI p3)), (5, .int (iI v5))]) (kTab_at (pc := 51) tX11_hasEntered_ok 27 rfl) (Nat.le_of_ble_eq_true rfl) rfl ?_
  refine K_iinc (md := mX11_hasEntered) (pc := 53) (l' := [(5, .int (iI (v5 + 1))), (4, .int (iI s0)), (0, .ref (X.1 + 248)), (1, .int (iI p1)), (2, .int (iI p2)), (3, .int (iI p3))]) 5 (kTab_at (pc := 53) tX11_hasEntered_ok 28 rfl) rfl (Nat.le_of_ble_eq_true rfl) rfl ?_
  refine K_goto (md := mX11_hasEntered) (pc := 56) (tgt := 6) (kTab_at (pc := 56) tX11_hasEntered_ok 29 rfl) rfl ?_
  refine K_sub [2, 3, 4, 5, 1, 0] rfl ?_
  exact hk6 s0 (v5 + 1) μ h
def f_X11_hasEntered_46 (p1 : Int) (p2 : Int) (p3 : Int) (k6 : Int → Int → Mu → Option Res) (v5 : Int) (μ : Mu) : Option Res := f_X11_hasEntered_51 p1 p2 p3 k6 v5 1 μ
set_option maxRecDepth 100000 in
theorem c_X11_hasEntered_46 (X : kX) (p1 : Int) (p2 : Int) (p3 : Int)  {res : Res} (k6 : Int → Int → Mu → Option Res) (hk6 : ∀ (v4 : Int), ∀ (v5 : Int), ∀ (μ : Mu), k6 v4 v5 μ = some res → KK X mX11_hasEntered 2 1 res 6 [(0, .ref (X.1 + 248)), (1, .int (iI p1)), (2, .int (iI p2)), (3, .int (iI p3)), (4, .int (iI v4)), (5, .int (iI v5))] [] μ) (v5 : Int) (μ : Mu) (h : f_X11_hasEntered_46 p1 p2 p3 k6 v5 μ = some res) : KK X mX11_hasEntered 2 1 res 46 [(0, .ref (X.1 + 248)), (1, .int (iI p1)), (2, .int (iI p2)), (3, .int (iI p3)), (5, .int (iI v5))] [] μ := by
  unfold f_X11_hasEntered_46 at h
  refine K_iconst (md := mX11_hasEntered) (pc := 46) (x := 1) (kTab_at (pc := 46) tX11_hasEntered_ok 24 rfl) rfl ?_
  refine K_goto (md := mX11_hasEntered) (pc := 47) (tgt := 51) (kTab_at (pc := 47) tX11_hasEntered_ok 25 rfl) rfl ?_
  refine c_X11_hasEntered_51 X p1 p2 p3 _ hk6 v5 1 μ h
def f_X11_hasEntered_50 (p1 : Int) (p2 : Int) (p3 : Int) (k6 : Int → Int → Mu → Option Res) (v5 : Int) (μ : Mu) : Option Res := f_X11_hasEntered_51 p1 p2 p3 k6 v5 0 μ
set_option maxRecDepth 100000 in
theorem c_X11_hasEntered_50 (X : kX) (p1 : Int) (p2 : Int) (p3 : Int)  {res : Res} (k6 : Int → Int → Mu → Option Res) (hk6 : ∀ (v4 : Int), ∀ (v5 : Int), ∀ (μ : Mu), k6 v4 v5 μ = some res → KK X mX11_hasEntered 2 1 res 6 [(0, .ref (X.1 + 248)), (1, .int (iI p1)), (2, .int (iI p2)), (3, .int (iI p3)), (4, .int (iI v4)), (5, .int (iI v5))] [] μ) (v5 : Int) (μ : Mu) (h : f_X11_hasEntered_50 p1 p2 p3 k6 v5 μ = some res) : KK X mX11_hasEntered 2 1 res 50 [(0, .ref (X.1 + 248)), (1, .int (iI p1)), (2, .int (iI p2)), (3, .int (iI p3)), (5, .int (iI v5))] [] μ := by
  unfold f_X11_hasEntered_50 at h
  refine K_iconst (md := mX11_hasEntered) (pc := 50) (x := 0) (kTab_at (pc := 50) tX11_hasEntered_ok 26 rfl) rfl ?_
  refine c_X11_hasEntered_51 X p1 p2 p3 _ hk6 v5 0 μ h
def f_X11_hasEntered_6 (p1 : Int) (p2 : Int) (p3 : Int) (k59 : Int → Mu → Option Res) : Nat → Int → Int → Mu → Option Res
  | 0, _, _, _ => none
  | fu + 1, v4, v5, μ => rdI μ 249 779 144 fun x1 => i_lt v5 x1 (i_eq v4 0 (rb (f_X11_isOf v5 p2 p3 μ) fun μ x2 => i_eq x2 0 (f_X11_hasEntered_50 p1 p2 p3 (f_X11_hasEntered_6 p1 p2 p3 k59 fu) v5 μ) (rb (f_X11_part v5 0 μ) fun μ x3 => i_eq x3 p1 (f_X11_hasEntered_46 p1 p2 p3 (f_X11_hasEntered_6 p1 p2 p3 k59 fu) v5 μ) (f_X11_hasEntered_50 p1 p2 p3 (f_X11_hasEntered_6 p1 p2 p3 k59 fu) v5 μ))) (f_X11_hasEntered_46 p1 p2 p3 (f_X11_hasEntered_6 p1 p2 p3 k59 fu) v5 μ)) (k59 v4 μ)
set_option maxRecDepth 100000 in
theorem c_X11_hasEntered_6 (X : kX) (p1 : Int) (p2 : Int) (p3 : Int)  {res : Res} (k59 : Int → Mu → Option Res) (hk59 : ∀ (v4 : Int), ∀ (μ : Mu), k59 v4 μ = some res → KK X mX11_hasEntered 2 1 res 59 [(4, .int (iI v4))] [] μ) : ∀ (fu : Nat)  (v4 : Int) (v5 : Int) (μ : Mu), f_X11_hasEntered_6 p1 p2 p3 k59 fu v4 v5 μ = some res → KK X mX11_hasEntered 2 1 res 6 [(0, .ref (X.1 + 248)), (1, .int (iI p1)), (2, .int (iI p2)), (3, .int (iI p3)), (4, .int (iI v4)), (5, .int (iI v5))] [] μ := by
  intro fu
  induction fu with
  | zero => intro v4 v5 μ h; exact nomatch h
  | succ fu ih =>
    intro v4 v5 μ h
    refine K_iload (md := mX11_hasEntered) (pc := 6) 5 (kTab_at (pc := 6) tX11_hasEntered_ok 4 rfl) rfl ?_
    refine K_aload_n (md := mX11_hasEntered) (pc := 8) 0 (kTab_at (pc := 8) tX11_hasEntered_ok 5 rfl) rfl ?_
    refine K_getR (md := mX11_hasEntered) (pc := 9) (b := 249) (kTab_at (pc := 9) tX11_hasEntered_ok 6 rfl) fl_X11_7 sk_248 rfl rfl ?_
    refine K_sipush (md := mX11_hasEntered) (pc := 12) (x := 144) (kTab_at (pc := 12) tX11_hasEntered_ok 7 rfl) (by decide) ?_
    refine Z_iald (md := mX11_hasEntered) (pc := 15) (kTab_at (pc := 15) tX11_hasEntered_ok 8 rfl) sk_249 (by decide) h (fun x1 h => ?_)
    refine K_icmp_ge (md := mX11_hasEntered) (pc := 16) (kTab_at (pc := 16) tX11_hasEntered_ok 9 rfl) (tgt := 59) rfl h (fun h => ?_) (fun h => ?_)
    · refine K_sub [4] rfl ?_
      exact hk59 v4 μ h
    · refine K_iload (md := mX11_hasEntered) (pc := 19) 4 (kTab_at (pc := 19) tX11_hasEntered_ok 10 rfl) rfl ?_
      refine K_if_ne (md := mX11_hasEntered) (pc := 21) (kTab_at (pc := 21) tX11_hasEntered_ok 11 rfl) (tgt := 46) rfl h (fun h => ?_) (fun h => ?_)
      · refine K_sub [0, 1, 2, 3, 5] rfl ?_
        refine c_X11_hasEntered_46 X p1 p2 p3 _ ih v5 μ h
      · refine K_aload_n (md := mX11_hasEntered) (pc := 24) 0 (kTab_at (pc := 24) tX11_hasEntered_ok 12 rfl) rfl ?_
        refine K_iload (md := mX11_hasEntered) (pc := 25) 5 (kTab_at (pc := 25) tX11_hasEntered_ok 13 rfl) rfl ?_
        refine K_iload_n (md := mX11_hasEntered) (pc := 27) 2 (kTab_at (pc := 27) tX11_hasEntered_ok 14 rfl) rfl ?_
        refine K_iload_n (md := mX11_hasEntered) (pc := 28) 3 (kTab_at (pc := 28) tX11_hasEntered_ok 15 rfl) rfl ?_
        refine Z_callV (md := mX11_hasEntered) (pc := 29) (st := []) (sv := (fun x2 => [.int (iI x2)])) (kTab_at (pc := 29) tX11_hasEntered_ok 16 rfl) mv_X11_85 sk_248 rfl (Nat.le_of_ble_eq_true rfl) (by decide) rfl (c_X11_isOf X v5 p2 p3 μ) (fun _ => rfl) h (fun μ x2 h => ?_) rfl
        refine K_if_eq (md := mX11_hasEntered) (pc := 32) (kTab_at (pc := 32) tX11_hasEntered_ok 17 rfl) (tgt := 50) rfl h (fun h => ?_) (fun h => ?_)
        · refine K_sub [0, 1, 2, 3, 5] rfl ?_
          refine c_X11_hasEntered_50 X p1 p2 p3 _ ih v5 μ h
        · refine K_aload_n (md := mX11_hasEntered) (pc := 35) 0 (kTab_at (pc := 35) tX11_hasEntered_ok 18 rfl) rfl ?_
          refine K_iload (md := mX11_hasEntered) (pc := 36) 5 (kTab_at (pc := 36) tX11_hasEntered_ok 19 rfl) rfl ?_
          refine K_iconst (md := mX11_hasEntered) (pc := 38) (x := 0) (kTab_at (pc := 38) tX11_hasEntered_ok 20 rfl) rfl ?_
          refine Z_callV (md := mX11_hasEntered) (pc := 39) (st := []) (sv := (fun x3 => [.int (iI x3)])) (kTab_at (pc := 39) tX11_hasEntered_ok 21 rfl) mv_X11_81 sk_248 rfl (Nat.le_of_ble_eq_true rfl) (by decide) rfl (c_X11_part X v5 0 μ) (fun _ => rfl) h (fun μ x3 h => ?_) rfl
          refine K_iload_n (md := mX11_hasEntered) (pc := 42) 1 (kTab_at (pc := 42) tX11_hasEntered_ok 22 rfl) rfl ?_
          refine K_icmp_ne (md := mX11_hasEntered) (pc := 43) (kTab_at (pc := 43) tX11_hasEntered_ok 23 rfl) (tgt := 50) rfl h (fun h => ?_) (fun h => ?_)
          · refine K_sub [0, 1, 2, 3, 5] rfl ?_
            refine c_X11_hasEntered_50 X p1 p2 p3 _ ih v5 μ h
          · refine K_sub [0, 1, 2, 3, 5] rfl ?_
            refine c_X11_hasEntered_46 X p1 p2 p3 _ ih v5 μ h
def f_X11_hasEntered (p1 : Int) (p2 : Int) (p3 : Int) (μ : Mu) : Option Res := f_X11_hasEntered_6 p1 p2 p3 (fun v4 μ => retZ μ v4) FU 0 0 μ
set_option maxRecDepth 100000 in
theorem c_X11_hasEntered (X : kX) (p1 : Int) (p2 : Int) (p3 : Int)  (μ : Mu) : Cq X mX11_hasEntered 2 1 μ [.ref (X.1 + 248), .int (iI p1), .int (iI p2), .int (iI p3)] (f_X11_hasEntered p1 p2 p3 μ) := by
  intro res h
  refine ct_of (by decide +kernel) rfl (Nat.le_of_ble_eq_true rfl) ?_
  show KK X mX11_hasEntered 2 1 res 0 [(0, .ref (X.1 + 248)), (1, .int (iI p1)), (2, .int (iI p2)), (3, .int (iI p3))] [] μ
  unfold f_X11_hasEntered at h
  refine K_iconst (md := mX11_hasEntered) (pc := 0) (x := 0) (kTab_at (pc := 0) tX11_hasEntered_ok 0 rfl) rfl ?_
  refine K_istore (md := mX11_hasEntered) (pc := 1) (l' := [(4, .int (iI 0)), (0, .ref (X.1 + 248)), (1, .int (iI p1)), (2, .int (iI p2)), (3, .int (iI p3))]) (kTab_at (pc := 1) tX11_hasEntered_ok 1 rfl) (Nat.le_of_ble_eq_true rfl) rfl ?_
  refine K_iconst (md := mX11_hasEntered) (pc := 3) (x := 0) (kTab_at (pc := 3) tX11_hasEntered_ok 2 rfl) rfl ?_
  refine K_istore (md := mX11_hasEntered) (pc := 4) (l' := [(5, .int (iI 0)), (4, .int (iI 0)), (0, .ref (X.1 + 248)), (1, .int (iI p1)), (2, .int (iI p2)), (3, .int (iI p3))]) (kTab_at (pc := 4) tX11_hasEntered_ok 3 rfl) (Nat.le_of_ble_eq_true rfl) rfl ?_
  refine K_sub [2, 3, 4, 5, 1, 0] rfl ?_
  refine c_X11_hasEntered_6 X p1 p2 p3 _ ?_ _ 0 0 μ h
  · intro v4 μ h
    refine K_iload (md := mX11_hasEntered) (pc := 59) 0 (kTab_at (pc := 59) tX11_hasEntered_ok 30 rfl) rfl ?_
    exact Z_zret (md := mX11_hasEntered) (pc := 61) (kTab_at (pc := 61) tX11_hasEntered_ok 31 rfl) rfl rfl h
def f_X11_refusal_123 (p1 : Int) (p2 : Int) (p3 : Int) (p4 : Int)  (s0 : Int) (μ : Mu) : Option Res := some (μ, 0, s0)
set_option maxRecDepth 100000 in
theorem c_X11_refusal_123 (X : kX) (p1 : Int) (p2 : Int) (p3 : Int) (p4 : Int)  {res : Res}  (s0 : Int) (μ : Mu) (h : f_X11_refusal_123 p1 p2 p3 p4 s0 μ = some res) : KK X mX11_refusal 5 1 res 123 [] [.int (iI s0)] μ := by
  unfold f_X11_refusal_123 at h
  exact Z_iret (md := mX11_refusal) (pc := 123) (kTab_at (pc := 123) tX11_refusal_ok 73 rfl) rfl rfl rfl h
def f_X11_refusal_122 (p1 : Int) (p2 : Int) (p3 : Int) (p4 : Int)   (μ : Mu) : Option Res := f_X11_refusal_123 p1 p2 p3 p4 0 μ
set_option maxRecDepth 100000 in
theorem c_X11_refusal_122 (X : kX) (p1 : Int) (p2 : Int) (p3 : Int) (p4 : Int)  {res : Res}  (μ : Mu) (h : f_X11_refusal_122 p1 p2 p3 p4 μ = some res) : KK X mX11_refusal 5 1 res 122 [] [] μ := by
  unfold f_X11_refusal_122 at h
  refine K_iconst (md := mX11_refusal) (pc := 122) (x := 0) (kTab_at (pc := 122) tX11_refusal_ok 72 rfl) rfl ?_
  refine c_X11_refusal_123 X p1 p2 p3 p4  0 μ h
def f_X11_refusal (p1 : Int) (p2 : Int) (p3 : Int) (p4 : Int) (μ : Mu) : Option Res := wrF μ 248 20 0 fun μ => rb (f_X11_isPublished μ) fun μ x1 => i_eq x1 0 (rdI μ 249 779 (0 + p3) fun x2 => wrF μ 248 20 x2 fun μ => rdI μ 249 779 (0 + p3) fun x3 => i_lt x3 p4 (some (μ, 0, 12)) (wrF μ 248 20 p1 fun μ => rb (f_X11_hasEntered p1 p2 p3 μ) fun μ x4 => i_eq x4 0 (wrF μ 248 20 3 fun μ => rb (f_X11_entries p2 p3 μ) fun μ x5 => i_eq x5 3 (some (μ, 0, 14)) (wrF μ 248 20 p3 fun μ => rb (f_X11_finds p2 p3 μ) fun μ _ => rdF μ 248 13 fun x6 => i_eq x6 2 (rdI μ 255 3 0 fun x7 => rdI μ 255 3 1 fun x8 => rb (f_X11_agree x7 x8 μ) fun μ x9 => i_eq x9 0 (f_X11_refusal_122 p1 p2 p3 p4 μ) (f_X11_refusal_123 p1 p2 p3 p4 15 μ)) (f_X11_refusal_122 p1 p2 p3 p4 μ))) (some (μ, 0, 13)))) (some (μ, 0, 11))
set_option maxRecDepth 100000 in
theorem c_X11_refusal (X : kX) (p1 : Int) (p2 : Int) (p3 : Int) (p4 : Int)  (μ : Mu) : Cq X mX11_refusal 5 1 μ [.ref (X.1 + 248), .int (iI p1), .int (iI p2), .int (iI p3), .int (iI p4)] (f_X11_refusal p1 p2 p3 p4 μ) := by
  intro res h
  refine ct_of (by decide +kernel) rfl (Nat.le_of_ble_eq_true rfl) ?_
  show KK X mX11_refusal 5 1 res 0 [(0, .ref (X.1 + 248)), (1, .int (iI p1)), (2, .int (iI p2)), (3, .int (iI p3)), (4, .int (iI p4))] [] μ
  unfold f_X11_refusal at h
  refine K_aload_n (md := mX11_refusal) (pc := 0) 0 (kTab_at (pc := 0) tX11_refusal_ok 0 rfl) rfl ?_
  refine K_iconst (md := mX11_refusal) (pc := 1) (x := 0) (kTab_at (pc := 1) tX11_refusal_ok 1 rfl) rfl ?_
  refine Z_putI (md := mX11_refusal) (pc := 2) (kTab_at (pc := 2) tX11_refusal_ok 2 rfl) fl_X11_205 sk_248 rfl h (fun μ h => ?_)
  refine K_aload_n (md := mX11_refusal) (pc := 5) 0 (kTab_at (pc := 5) tX11_refusal_ok 3 rfl) rfl ?_
  refine Z_callV (md := mX11_refusal) (pc := 6) (st := []) (sv := (fun x1 => [.int (iI x1)])) (kTab_at (pc := 6) tX11_refusal_ok 4 rfl) mv_X11_183 sk_248 rfl (Nat.le_of_ble_eq_true rfl) (by decide) rfl (c_X11_isPublished X μ) (fun _ => rfl) h (fun μ x1 h => ?_) rfl
  refine K_if_eq (md := mX11_refusal) (pc := 9) (kTab_at (pc := 9) tX11_refusal_ok 5 rfl) (tgt := 15) rfl h (fun h => ?_) (fun h => ?_)
  · refine K_aload_n (md := mX11_refusal) (pc := 15) 0 (kTab_at (pc := 15) tX11_refusal_ok 8 rfl) rfl ?_
    refine K_aload_n (md := mX11_refusal) (pc := 16) 0 (kTab_at (pc := 16) tX11_refusal_ok 9 rfl) rfl ?_
    refine K_getR (md := mX11_refusal) (pc := 17) (b := 249) (kTab_at (pc := 17) tX11_refusal_ok 10 rfl) fl_X11_7 sk_248 rfl rfl ?_
    refine K_iconst (md := mX11_refusal) (pc := 20) (x := 0) (kTab_at (pc := 20) tX11_refusal_ok 11 rfl) rfl ?_
    refine K_iload_n (md := mX11_refusal) (pc := 21) 3 (kTab_at (pc := 21) tX11_refusal_ok 12 rfl) rfl ?_
    refine K_iadd (md := mX11_refusal) (pc := 22) (kTab_at (pc := 22) tX11_refusal_ok 13 rfl) ?_
    refine Z_iald (md := mX11_refusal) (pc := 23) (kTab_at (pc := 23) tX11_refusal_ok 14 rfl) sk_249 (by decide) h (fun x2 h => ?_)
    refine Z_putI (md := mX11_refusal) (pc := 24) (kTab_at (pc := 24) tX11_refusal_ok 15 rfl) fl_X11_205 sk_248 rfl h (fun μ h => ?_)
    refine K_iload (md := mX11_refusal) (pc := 27) 4 (kTab_at (pc := 27) tX11_refusal_ok 16 rfl) rfl ?_
    refine K_aload_n (md := mX11_refusal) (pc := 29) 0 (kTab_at (pc := 29) tX11_refusal_ok 17 rfl) rfl ?_
    refine K_getR (md := mX11_refusal) (pc := 30) (b := 249) (kTab_at (pc := 30) tX11_refusal_ok 18 rfl) fl_X11_7 sk_248 rfl rfl ?_
    refine K_iconst (md := mX11_refusal) (pc := 33) (x := 0) (kTab_at (pc := 33) tX11_refusal_ok 19 rfl) rfl ?_
    refine K_iload_n (md := mX11_refusal) (pc := 34) 3 (kTab_at (pc := 34) tX11_refusal_ok 20 rfl) rfl ?_
    refine K_iadd (md := mX11_refusal) (pc := 35) (kTab_at (pc := 35) tX11_refusal_ok 21 rfl) ?_
    refine Z_iald (md := mX11_refusal) (pc := 36) (kTab_at (pc := 36) tX11_refusal_ok 22 rfl) sk_249 (by decide) h (fun x3 h => ?_)
    refine K_icmp_le (md := mX11_refusal) (pc := 37) (kTab_at (pc := 37) tX11_refusal_ok 23 rfl) (tgt := 43) rfl h (fun h => ?_) (fun h => ?_)
    · refine K_aload_n (md := mX11_refusal) (pc := 43) 0 (kTab_at (pc := 43) tX11_refusal_ok 26 rfl) rfl ?_
      refine K_iload_n (md := mX11_refusal) (pc := 44) 1 (kTab_at (pc := 44) tX11_refusal_ok 27 rfl) rfl ?_
      refine Z_putI (md := mX11_refusal) (pc := 45) (kTab_at (pc := 45) tX11_refusal_ok 28 rfl) fl_X11_205 sk_248 rfl h (fun μ h => ?_)
      refine K_aload_n (md := mX11_refusal) (pc := 48) 0 (kTab_at (pc := 48) tX11_refusal_ok 29 rfl) rfl ?_
      refine K_iload_n (md := mX11_refusal) (pc := 49) 1 (kTab_at (pc := 49) tX11_refusal_ok 30 rfl) rfl ?_
      refine K_iload_n (md := mX11_refusal) (pc := 50) 2 (kTab_at (pc := 50) tX11_refusal_ok 31 rfl) rfl ?_
      refine K_iload_n (md := mX11_refusal) (pc := 51) 3 (kTab_at (pc := 51) tX11_refusal_ok 32 rfl) rfl ?_
      refine Z_callV (md := mX11_refusal) (pc := 52) (st := []) (sv := (fun x4 => [.int (iI x4)])) (kTab_at (pc := 52) tX11_refusal_ok 33 rfl) mv_X11_208 sk_248 rfl (Nat.le_of_ble_eq_true rfl) (by decide) rfl (c_X11_hasEntered X p1 p2 p3 μ) (fun _ => rfl) h (fun μ x4 h => ?_) rfl
      refine K_if_eq (md := mX11_refusal) (pc := 55) (kTab_at (pc := 55) tX11_refusal_ok 34 rfl) (tgt := 61) rfl h (fun h => ?_) (fun h => ?_)
      · refine K_aload_n (md := mX11_refusal) (pc := 61) 0 (kTab_at (pc := 61) tX11_refusal_ok 37 rfl) rfl ?_
        refine K_iconst (md := mX11_refusal) (pc := 62) (x := 3) (kTab_at (pc := 62) tX11_refusal_ok 38 rfl) rfl ?_
        refine Z_putI (md := mX11_refusal) (pc := 63) (kTab_at (pc := 63) tX11_refusal_ok 39 rfl) fl_X11_205 sk_248 rfl h (fun μ h => ?_)
        refine K_aload_n (md := mX11_refusal) (pc := 66) 0 (kTab_at (pc := 66) tX11_refusal_ok 40 rfl) rfl ?_
        refine K_iload_n (md := mX11_refusal) (pc := 67) 2 (kTab_at (pc := 67) tX11_refusal_ok 41 rfl) rfl ?_
        refine K_iload_n (md := mX11_refusal) (pc := 68) 3 (kTab_at (pc := 68) tX11_refusal_ok 42 rfl) rfl ?_
        refine Z_callV (md := mX11_refusal) (pc := 69) (st := []) (sv := (fun x5 => [.int (iI x5)])) (kTab_at (pc := 69) tX11_refusal_ok 43 rfl) mv_X11_211 sk_248 rfl (Nat.le_of_ble_eq_true rfl) (by decide) rfl (c_X11_entries X p2 p3 μ) (fun _ => rfl) h (fun μ x5 h => ?_) rfl
        refine K_iconst (md := mX11_refusal) (pc := 72) (x := 3) (kTab_at (pc := 72) tX11_refusal_ok 44 rfl) rfl ?_
        refine K_icmp_ne (md := mX11_refusal) (pc := 73) (kTab_at (pc := 73) tX11_refusal_ok 45 rfl) (tgt := 79) rfl h (fun h => ?_) (fun h => ?_)
        · refine K_aload_n (md := mX11_refusal) (pc := 79) 0 (kTab_at (pc := 79) tX11_refusal_ok 48 rfl) rfl ?_
          refine K_iload_n (md := mX11_refusal) (pc := 80) 3 (kTab_at (pc := 80) tX11_refusal_ok 49 rfl) rfl ?_
          refine Z_putI (md := mX11_refusal) (pc := 81) (kTab_at (pc := 81) tX11_refusal_ok 50 rfl) fl_X11_205 sk_248 rfl h (fun μ h => ?_)
          refine K_aload_n (md := mX11_refusal) (pc := 84) 0 (kTab_at (pc := 84) tX11_refusal_ok 51 rfl) rfl ?_
          refine K_iload_n (md := mX11_refusal) (pc := 85) 2 (kTab_at (pc := 85) tX11_refusal_ok 52 rfl) rfl ?_
          refine K_iload_n (md := mX11_refusal) (pc := 86) 3 (kTab_at (pc := 86) tX11_refusal_ok 53 rfl) rfl ?_
          refine Z_callV (md := mX11_refusal) (pc := 87) (st := []) (sv := (fun _ => [])) (kTab_at (pc := 87) tX11_refusal_ok 54 rfl) mv_X11_108 sk_248 rfl (Nat.le_of_ble_eq_true rfl) (by decide) rfl (c_X11_finds X p2 p3 μ) (fun _ => rfl) h (fun μ _ h => ?_) rfl
          refine K_aload_n (md := mX11_refusal) (pc := 90) 0 (kTab_at (pc := 90) tX11_refusal_ok 55 rfl) rfl ?_
          refine Z_getI (md := mX11_refusal) (pc := 91) (kTab_at (pc := 91) tX11_refusal_ok 56 rfl) fl_X11_95 sk_248 (Or.inl rfl) h (fun x6 h => ?_)
          refine K_iconst (md := mX11_refusal) (pc := 94) (x := 2) (kTab_at (pc := 94) tX11_refusal_ok 57 rfl) rfl ?_
          refine K_icmp_ne (md := mX11_refusal) (pc := 95) (kTab_at (pc := 95) tX11_refusal_ok 58 rfl) (tgt := 122) rfl h (fun h => ?_) (fun h => ?_)
          · refine K_sub [] rfl ?_
            refine c_X11_refusal_122 X p1 p2 p3 p4  μ h
          · refine K_aload_n (md := mX11_refusal) (pc := 98) 0 (kTab_at (pc := 98) tX11_refusal_ok 59 rfl) rfl ?_
            refine K_aload_n (md := mX11_refusal) (pc := 99) 0 (kTab_at (pc := 99) tX11_refusal_ok 60 rfl) rfl ?_
            refine K_getR (md := mX11_refusal) (pc := 100) (b := 255) (kTab_at (pc := 100) tX11_refusal_ok 61 rfl) fl_X11_32 sk_248 rfl rfl ?_
            refine K_iconst (md := mX11_refusal) (pc := 103) (x := 0) (kTab_at (pc := 103) tX11_refusal_ok 62 rfl) rfl ?_
            refine Z_iald (md := mX11_refusal) (pc := 104) (kTab_at (pc := 104) tX11_refusal_ok 63 rfl) sk_255 (by decide) h (fun x7 h => ?_)
            refine K_aload_n (md := mX11_refusal) (pc := 105) 0 (kTab_at (pc := 105) tX11_refusal_ok 64 rfl) rfl ?_
            refine K_getR (md := mX11_refusal) (pc := 106) (b := 255) (kTab_at (pc := 106) tX11_refusal_ok 65 rfl) fl_X11_32 sk_248 rfl rfl ?_
            refine K_iconst (md := mX11_refusal) (pc := 109) (x := 1) (kTab_at (pc := 109) tX11_refusal_ok 66 rfl) rfl ?_
            refine Z_iald (md := mX11_refusal) (pc := 110) (kTab_at (pc := 110) tX11_refusal_ok 67 rfl) sk_255 (by decide) h (fun x8 h => ?_)
            refine Z_callV (md := mX11_refusal) (pc := 111) (st := []) (sv := (fun x9 => [.int (iI x9)])) (kTab_at (pc := 111) tX11_refusal_ok 68 rfl) mv_X11_112 sk_248 rfl (Nat.le_of_ble_eq_true rfl) (by decide) rfl (c_X11_agree X x7 x8 μ) (fun _ => rfl) h (fun μ x9 h => ?_) rfl
            refine K_if_eq (md := mX11_refusal) (pc := 114) (kTab_at (pc := 114) tX11_refusal_ok 69 rfl) (tgt := 122) rfl h (fun h => ?_) (fun h => ?_)
            · refine K_sub [] rfl ?_
              refine c_X11_refusal_122 X p1 p2 p3 p4  μ h
            · refine K_bipush (md := mX11_refusal) (pc := 117) (x := 15) (kTab_at (pc := 117) tX11_refusal_ok 70 rfl) (by decide) ?_
              refine K_goto (md := mX11_refusal) (pc := 119) (tgt := 123) (kTab_at (pc := 119) tX11_refusal_ok 71 rfl) rfl ?_
              refine K_sub [] rfl ?_
              refine c_X11_refusal_123 X p1 p2 p3 p4  15 μ h
        · refine K_bipush (md := mX11_refusal) (pc := 76) (x := 14) (kTab_at (pc := 76) tX11_refusal_ok 46 rfl) (by decide) ?_
          exact Z_iret (md := mX11_refusal) (pc := 78) (kTab_at (pc := 78) tX11_refusal_ok 47 rfl) rfl rfl rfl h
      · refine K_bipush (md := mX11_refusal) (pc := 58) (x := 13) (kTab_at (pc := 58) tX11_refusal_ok 35 rfl) (by decide) ?_
        exact Z_iret (md := mX11_refusal) (pc := 60) (kTab_at (pc := 60) tX11_refusal_ok 36 rfl) rfl rfl rfl h
    · refine K_bipush (md := mX11_refusal) (pc := 40) (x := 12) (kTab_at (pc := 40) tX11_refusal_ok 24 rfl) (by decide) ?_
      exact Z_iret (md := mX11_refusal) (pc := 42) (kTab_at (pc := 42) tX11_refusal_ok 25 rfl) rfl rfl rfl h
  · refine K_bipush (md := mX11_refusal) (pc := 12) (x := 11) (kTab_at (pc := 12) tX11_refusal_ok 6 rfl) (by decide) ?_
    exact Z_iret (md := mX11_refusal) (pc := 14) (kTab_at (pc := 14) tX11_refusal_ok 7 rfl) rfl rfl rfl h
def f_X11_enters (p1 : Int) (p2 : Int) (p3 : Int) (p4 : Int) (μ : Mu) : Option Res := rdI μ 249 779 144 fun x1 => wrI μ 249 779 (145 + (4 * x1)) p1 fun μ => wrI μ 249 779 ((145 + (4 * x1)) + 1) p2 fun μ => wrI μ 249 779 ((145 + (4 * x1)) + 2) p3 fun μ => wrI μ 249 779 ((145 + (4 * x1)) + 3) p4 fun μ => rdI μ 249 779 144 fun x2 => wrI μ 249 779 144 (x2 + 1) fun μ => rb (f_X11_pays p1 p3 μ) fun μ _ => some (μ, 0, 0)
set_option maxRecDepth 100000 in
theorem c_X11_enters (X : kX) (p1 : Int) (p2 : Int) (p3 : Int) (p4 : Int)  (μ : Mu) : Cq X mX11_enters 1 0 μ [.ref (X.1 + 248), .int (iI p1), .int (iI p2), .int (iI p3), .int (iI p4)] (f_X11_enters p1 p2 p3 p4 μ) := by
  intro res h
  refine ct_of (by decide +kernel) rfl (Nat.le_of_ble_eq_true rfl) ?_
  show KK X mX11_enters 1 0 res 0 [(0, .ref (X.1 + 248)), (1, .int (iI p1)), (2, .int (iI p2)), (3, .int (iI p3)), (4, .int (iI p4))] [] μ
  unfold f_X11_enters at h
  refine K_aload_n (md := mX11_enters) (pc := 0) 0 (kTab_at (pc := 0) tX11_enters_ok 0 rfl) rfl ?_
  refine K_getR (md := mX11_enters) (pc := 1) (b := 249) (kTab_at (pc := 1) tX11_enters_ok 1 rfl) fl_X11_7 sk_248 rfl rfl ?_
  refine K_sipush (md := mX11_enters) (pc := 4) (x := 144) (kTab_at (pc := 4) tX11_enters_ok 2 rfl) (by decide) ?_
  refine Z_iald (md := mX11_enters) (pc := 7) (kTab_at (pc := 7) tX11_enters_ok 3 rfl) sk_249 (by decide) h (fun x1 h => ?_)
  refine K_istore (md := mX11_enters) (pc := 8) (l' := [(5, .int (iI x1)), (0, .ref (X.1 + 248)), (1, .int (iI p1)), (2, .int (iI p2)), (3, .int (iI p3)), (4, .int (iI p4))]) (kTab_at (pc := 8) tX11_enters_ok 4 rfl) (Nat.le_of_ble_eq_true rfl) rfl ?_
  refine K_aload_n (md := mX11_enters) (pc := 10) 1 (kTab_at (pc := 10) tX11_enters_ok 5 rfl) rfl ?_
  refine K_getR (md := mX11_enters) (pc := 11) (b := 249) (kTab_at (pc := 11) tX11_enters_ok 6 rfl) fl_X11_7 sk_248 rfl rfl ?_
  refine K_sipush (md := mX11_enters) (pc := 14) (x := 145) (kTab_at (pc := 14) tX11_enters_ok 7 rfl) (by decide) ?_
  refine K_iconst (md := mX11_enters) (pc := 17) (x := 4) (kTab_at (pc := 17) tX11_enters_ok 8 rfl) rfl ?_
  refine K_iload (md := mX11_enters) (pc := 18) 0 (kTab_at (pc := 18) tX11_enters_ok 9 rfl) rfl ?_
  refine K_imul (md := mX11_enters) (pc := 20) (kTab_at (pc := 20) tX11_enters_ok 10 rfl) ?_
  refine K_iadd (md := mX11_enters) (pc := 21) (kTab_at (pc := 21) tX11_enters_ok 11 rfl) ?_
  refine K_iload_n (md := mX11_enters) (pc := 22) 2 (kTab_at (pc := 22) tX11_enters_ok 12 rfl) rfl ?_
  refine Z_iast (md := mX11_enters) (pc := 23) (kTab_at (pc := 23) tX11_enters_ok 13 rfl) sk_249 (by decide) h (fun μ h => ?_)
  refine K_aload_n (md := mX11_enters) (pc := 24) 1 (kTab_at (pc := 24) tX11_enters_ok 14 rfl) rfl ?_
  refine K_getR (md := mX11_enters) (pc := 25) (b := 249) (kTab_at (pc := 25) tX11_enters_ok 15 rfl) fl_X11_7 sk_248 rfl rfl ?_
  refine K_sipush (md := mX11_enters) (pc := 28) (x := 145) (kTab_at (pc := 28) tX11_enters_ok 16 rfl) (by decide) ?_
  refine K_iconst (md := mX11_enters) (pc := 31) (x := 4) (kTab_at (pc := 31) tX11_enters_ok 17 rfl) rfl ?_
  refine K_iload (md := mX11_enters) (pc := 32) 0 (kTab_at (pc := 32) tX11_enters_ok 18 rfl) rfl ?_
  refine K_imul (md := mX11_enters) (pc := 34) (kTab_at (pc := 34) tX11_enters_ok 19 rfl) ?_
  refine K_iadd (md := mX11_enters) (pc := 35) (kTab_at (pc := 35) tX11_enters_ok 20 rfl) ?_
  refine K_iconst (md := mX11_enters) (pc := 36) (x := 1) (kTab_at (pc := 36) tX11_enters_ok 21 rfl) rfl ?_
  refine K_iadd (md := mX11_enters) (pc := 37) (kTab_at (pc := 37) tX11_enters_ok 22 rfl) ?_
  refine K_iload_n (md := mX11_enters) (pc := 38) 3 (kTab_at (pc := 38) tX11_enters_ok 23 rfl) rfl ?_
  refine Z_iast (md := mX11_enters) (pc := 39) (kTab_at (pc := 39) tX11_enters_ok 24 rfl) sk_249 (by decide) h (fun μ h => ?_)
  refine K_aload_n (md := mX11_enters) (pc := 40) 1 (kTab_at (pc := 40) tX11_enters_ok 25 rfl) rfl ?_
  refine K_getR (md := mX11_enters) (pc := 41) (b := 249) (kTab_at (pc := 41) tX11_enters_ok 26 rfl) fl_X11_7 sk_248 rfl rfl ?_
  refine K_sipush (md := mX11_enters) (pc := 44) (x := 145) (kTab_at (pc := 44) tX11_enters_ok 27 rfl) (by decide) ?_
  refine K_iconst (md := mX11_enters) (pc := 47) (x := 4) (kTab_at (pc := 47) tX11_enters_ok 28 rfl) rfl ?_
  refine K_iload (md := mX11_enters) (pc := 48) 0 (kTab_at (pc := 48) tX11_enters_ok 29 rfl) rfl ?_
  refine K_imul (md := mX11_enters) (pc := 50) (kTab_at (pc := 50) tX11_enters_ok 30 rfl) ?_
  refine K_iadd (md := mX11_enters) (pc := 51) (kTab_at (pc := 51) tX11_enters_ok 31 rfl) ?_
  refine K_iconst (md := mX11_enters) (pc := 52) (x := 2) (kTab_at (pc := 52) tX11_enters_ok 32 rfl) rfl ?_
  refine K_iadd (md := mX11_enters) (pc := 53) (kTab_at (pc := 53) tX11_enters_ok 33 rfl) ?_
  refine K_iload_n (md := mX11_enters) (pc := 54) 4 (kTab_at (pc := 54) tX11_enters_ok 34 rfl) rfl ?_
  refine Z_iast (md := mX11_enters) (pc := 55) (kTab_at (pc := 55) tX11_enters_ok 35 rfl) sk_249 (by decide) h (fun μ h => ?_)
  refine K_aload_n (md := mX11_enters) (pc := 56) 1 (kTab_at (pc := 56) tX11_enters_ok 36 rfl) rfl ?_
  refine K_getR (md := mX11_enters) (pc := 57) (b := 249) (kTab_at (pc := 57) tX11_enters_ok 37 rfl) fl_X11_7 sk_248 rfl rfl ?_
  refine K_sipush (md := mX11_enters) (pc := 60) (x := 145) (kTab_at (pc := 60) tX11_enters_ok 38 rfl) (by decide) ?_
  refine K_iconst (md := mX11_enters) (pc := 63) (x := 4) (kTab_at (pc := 63) tX11_enters_ok 39 rfl) rfl ?_
  refine K_iload (md := mX11_enters) (pc := 64) 0 (kTab_at (pc := 64) tX11_enters_ok 40 rfl) rfl ?_
  refine K_imul (md := mX11_enters) (pc := 66) (kTab_at (pc := 66) tX11_enters_ok 41 rfl) ?_
  refine K_iadd (md := mX11_enters) (pc := 67) (kTab_at (pc := 67) tX11_enters_ok 42 rfl) ?_
  refine K_iconst (md := mX11_enters) (pc := 68) (x := 3) (kTab_at (pc := 68) tX11_enters_ok 43 rfl) rfl ?_
  refine K_iadd (md := mX11_enters) (pc := 69) (kTab_at (pc := 69) tX11_enters_ok 44 rfl) ?_
  refine K_iload (md := mX11_enters) (pc := 70) 5 (kTab_at (pc := 70) tX11_enters_ok 45 rfl) rfl ?_
  refine Z_iast (md := mX11_enters) (pc := 72) (kTab_at (pc := 72) tX11_enters_ok 46 rfl) sk_249 (by decide) h (fun μ h => ?_)
  refine K_aload_n (md := mX11_enters) (pc := 73) 1 (kTab_at (pc := 73) tX11_enters_ok 47 rfl) rfl ?_
  refine K_getR (md := mX11_enters) (pc := 74) (b := 249) (kTab_at (pc := 74) tX11_enters_ok 48 rfl) fl_X11_7 sk_248 rfl rfl ?_
  refine K_sipush (md := mX11_enters) (pc := 77) (x := 144) (kTab_at (pc := 77) tX11_enters_ok 49 rfl) (by decide) ?_
  refine K_dup2 (md := mX11_enters) (pc := 80) (kTab_at (pc := 80) tX11_enters_ok 50 rfl) rfl rfl ?_
  refine Z_iald (md := mX11_enters) (pc := 81) (kTab_at (pc := 81) tX11_enters_ok 51 rfl) sk_249 (by decide) h (fun x2 h => ?_)
  refine K_iconst (md := mX11_enters) (pc := 82) (x := 1) (kTab_at (pc := 82) tX11_enters_ok 52 rfl) rfl ?_
  refine K_iadd (md := mX11_enters) (pc := 83) (kTab_at (pc := 83) tX11_enters_ok 53 rfl) ?_
  refine Z_iast (md := mX11_enters) (pc := 84) (kTab_at (pc := 84) tX11_enters_ok 54 rfl) sk_249 (by decide) h (fun μ h => ?_)
  refine K_aload_n (md := mX11_enters) (pc := 85) 1 (kTab_at (pc := 85) tX11_enters_ok 55 rfl) rfl ?_
  refine K_iload_n (md := mX11_enters) (pc := 86) 2 (kTab_at (pc := 86) tX11_enters_ok 56 rfl) rfl ?_
  refine K_iload_n (md := mX11_enters) (pc := 87) 4 (kTab_at (pc := 87) tX11_enters_ok 57 rfl) rfl ?_
  refine Z_callV (md := mX11_enters) (pc := 88) (st := []) (sv := (fun _ => [])) (kTab_at (pc := 88) tX11_enters_ok 58 rfl) mv_X11_199 sk_248 rfl (Nat.le_of_ble_eq_true rfl) (by decide) rfl (c_X11_pays X p1 p3 μ) (fun _ => rfl) h (fun μ _ h => ?_) rfl
  exact Z_vret (md := mX11_enters) (pc := 91) (kTab_at (pc := 91) tX11_enters_ok 59 rfl) rfl rfl h
def f_X11_enter_26 (p1 : Int) (p2 : Int) (p3 : Int) (p4 : Int)   (μ : Mu) : Option Res := rb (f_X11_fails 1 μ) fun μ x1 => some (μ, 0, x1)
set_option maxRecDepth 100000 in
theorem c_X11_enter_26 (X : kX) (p1 : Int) (p2 : Int) (p3 : Int) (p4 : Int)  {res : Res}  (μ : Mu) (h : f_X11_enter_26 p1 p2 p3 p4 μ = some res) : KK X mX11_enter 6 1 res 26 [(0, .ref (X.1 + 248))] [] μ := by
  unfold f_X11_enter_26 at h
  refine K_aload_n (md := mX11_enter) (pc := 26) 0 (kTab_at (pc := 26) tX11_enter_ok 12 rfl) rfl ?_
  refine K_iconst (md := mX11_enter) (pc := 27) (x := 1) (kTab_at (pc := 27) tX11_enter_ok 13 rfl) rfl ?_
  refine Z_callV (md := mX11_enter) (pc := 28) (st := []) (sv := (fun x1 => [.int (iI x1)])) (kTab_at (pc := 28) tX11_enter_ok 14 rfl) mv_X11_177 sk_248 rfl (Nat.le_of_ble_eq_true rfl) (by decide) rfl (c_X11_fails X 1 μ) (fun _ => rfl) h (fun μ x1 h => ?_) rfl
  exact Z_iret (md := mX11_enter) (pc := 31) (kTab_at (pc := 31) tX11_enter_ok 15 rfl) rfl rfl rfl h
def f_X11_enter (p1 : Int) (p2 : Int) (p3 : Int) (p4 : Int) (μ : Mu) : Option Res := wrF μ 248 0 0 fun μ => rb (f_X11_isMarker p1 μ) fun μ x1 => i_eq x1 0 (f_X11_enter_26 p1 p2 p3 p4 μ) (rb (f_X11_isCandidate p2 μ) fun μ x2 => i_eq x2 0 (f_X11_enter_26 p1 p2 p3 p4 μ) (rb (f_X11_isQuestion p3 μ) fun μ x3 => i_eq x3 0 (f_X11_enter_26 p1 p2 p3 p4 μ) (i_lt p4 0 (rb (f_X11_fails 2 μ) fun μ x8 => some (μ, 0, x8)) (rb (f_X11_refusal p1 p2 p3 p4 μ) fun μ x4 => i_lt 0 x4 (rdF μ 248 20 fun x6 => rb (f_X11_reports 1 0 x4 x6 3 μ) fun μ x7 => some (μ, 0, x7)) (rb (f_X11_changes μ) fun μ _ => rb (f_X11_enters p1 p2 p3 p4 μ) fun μ _ => rb (f_X11_entries p2 p3 μ) fun μ x5 => some (μ, 0, x5))))))
set_option maxRecDepth 100000 in
theorem c_X11_enter (X : kX) (p1 : Int) (p2 : Int) (p3 : Int) (p4 : Int)  (μ : Mu) : Cq X mX11_enter 6 1 μ [.ref (X.1 + 248), .int (iI p1), .int (iI p2), .int (iI p3), .int (iI p4)] (f_X11_enter p1 p2 p3 p4 μ) := by
  intro res h
  refine ct_of (by decide +kernel) rfl (Nat.le_of_ble_eq_true rfl) ?_
  show KK X mX11_enter 6 1 res 0 [(0, .ref (X.1 + 248)), (1, .int (iI p1)), (2, .int (iI p2)), (3, .int (iI p3)), (4, .int (iI p4))] [] μ
  unfold f_X11_enter at h
  refine K_aload_n (md := mX11_enter) (pc := 0) 0 (kTab_at (pc := 0) tX11_enter_ok 0 rfl) rfl ?_
  refine K_iconst (md := mX11_enter) (pc := 1) (x := 0) (kTab_at (pc := 1) tX11_enter_ok 1 rfl) rfl ?_
  refine Z_putI (md := mX11_enter) (pc := 2) (kTab_at (pc := 2) tX11_enter_ok 2 rfl) fl_X11_48 sk_248 rfl h (fun μ h => ?_)
  refine K_iload_n (md := mX11_enter) (pc := 5) 1 (kTab_at (pc := 5) tX11_enter_ok 3 rfl) rfl ?_
  refine Z_callS (md := mX11_enter) (pc := 6) (st := []) (sv := (fun x1 => [.int (iI x1)])) (kTab_at (pc := 6) tX11_enter_ok 4 rfl) ms_X11_196 rfl (Nat.le_of_ble_eq_true rfl) (by decide) rfl (c_X11_isMarker X p1 μ) (fun _ => rfl) h (fun μ x1 h => ?_) rfl
  refine K_if_eq (md := mX11_enter) (pc := 9) (kTab_at (pc := 9) tX11_enter_ok 5 rfl) (tgt := 26) rfl h (fun h => ?_) (fun h => ?_)
  · refine K_sub [0] rfl ?_
    refine c_X11_enter_26 X p1 p2 p3 p4  μ h
  · refine K_iload_n (md := mX11_enter) (pc := 12) 2 (kTab_at (pc := 12) tX11_enter_ok 6 rfl) rfl ?_
    refine Z_callS (md := mX11_enter) (pc := 13) (st := []) (sv := (fun x2 => [.int (iI x2)])) (kTab_at (pc := 13) tX11_enter_ok 7 rfl) ms_X11_214 rfl (Nat.le_of_ble_eq_true rfl) (by decide) rfl (c_X11_isCandidate X p2 μ) (fun _ => rfl) h (fun μ x2 h => ?_) rfl
    refine K_if_eq (md := mX11_enter) (pc := 16) (kTab_at (pc := 16) tX11_enter_ok 8 rfl) (tgt := 26) rfl h (fun h => ?_) (fun h => ?_)
    · refine K_sub [0] rfl ?_
      refine c_X11_enter_26 X p1 p2 p3 p4  μ h
    · refine K_iload_n (md := mX11_enter) (pc := 19) 3 (kTab_at (pc := 19) tX11_enter_ok 9 rfl) rfl ?_
      refine Z_callS (md := mX11_enter) (pc := 20) (st := []) (sv := (fun x3 => [.int (iI x3)])) (kTab_at (pc := 20) tX11_enter_ok 10 rfl) ms_X11_180 rfl (Nat.le_of_ble_eq_true rfl) (by decide) rfl (c_X11_isQuestion X p3 μ) (fun _ => rfl) h (fun μ x3 h => ?_) rfl
      refine K_if_ne (md := mX11_enter) (pc := 23) (kTab_at (pc := 23) tX11_enter_ok 11 rfl) (tgt := 32) rfl h (fun h => ?_) (fun h => ?_)
      · refine K_iload (md := mX11_enter) (pc := 32) 4 (kTab_at (pc := 32) tX11_enter_ok 16 rfl) rfl ?_
        refine K_if_ge (md := mX11_enter) (pc := 34) (kTab_at (pc := 34) tX11_enter_ok 17 rfl) (tgt := 43) rfl h (fun h => ?_) (fun h => ?_)
        · refine K_aload_n (md := mX11_enter) (pc := 43) 0 (kTab_at (pc := 43) tX11_enter_ok 22 rfl) rfl ?_
          refine K_iload_n (md := mX11_enter) (pc := 44) 1 (kTab_at (pc := 44) tX11_enter_ok 23 rfl) rfl ?_
          refine K_iload_n (md := mX11_enter) (pc := 45) 2 (kTab_at (pc := 45) tX11_enter_ok 24 rfl) rfl ?_
          refine K_iload_n (md := mX11_enter) (pc := 46) 3 (kTab_at (pc := 46) tX11_enter_ok 25 rfl) rfl ?_
          refine K_iload (md := mX11_enter) (pc := 47) 4 (kTab_at (pc := 47) tX11_enter_ok 26 rfl) rfl ?_
          refine Z_callV (md := mX11_enter) (pc := 49) (st := []) (sv := (fun x4 => [.int (iI x4)])) (kTab_at (pc := 49) tX11_enter_ok 27 rfl) mv_X11_217 sk_248 rfl (Nat.le_of_ble_eq_true rfl) (by decide) rfl (c_X11_refusal X p1 p2 p3 p4 μ) (fun _ => rfl) h (fun μ x4 h => ?_) rfl
          refine K_istore (md := mX11_enter) (pc := 52) (l' := [(5, .int (iI x4)), (0, .ref (X.1 + 248)), (1, .int (iI p1)), (2, .int (iI p2)), (3, .int (iI p3)), (4, .int (iI p4))]) (kTab_at (pc := 52) tX11_enter_ok 28 rfl) (Nat.le_of_ble_eq_true rfl) rfl ?_
          refine K_iload (md := mX11_enter) (pc := 54) 0 (kTab_at (pc := 54) tX11_enter_ok 29 rfl) rfl ?_
          refine K_if_le (md := mX11_enter) (pc := 56) (kTab_at (pc := 56) tX11_enter_ok 30 rfl) (tgt := 73) rfl h (fun h => ?_) (fun h => ?_)
          · refine K_aload_n (md := mX11_enter) (pc := 73) 1 (kTab_at (pc := 73) tX11_enter_ok 40 rfl) rfl ?_
            refine Z_callV (md := mX11_enter) (pc := 74) (st := []) (sv := (fun _ => [])) (kTab_at (pc := 74) tX11_enter_ok 41 rfl) mv_X11_190 sk_248 rfl (Nat.le_of_ble_eq_true rfl) (by decide) rfl (c_X11_changes X μ) (fun _ => rfl) h (fun μ _ h => ?_) rfl
            refine K_aload_n (md := mX11_enter) (pc := 77) 1 (kTab_at (pc := 77) tX11_enter_ok 42 rfl) rfl ?_
            refine K_iload_n (md := mX11_enter) (pc := 78) 2 (kTab_at (pc := 78) tX11_enter_ok 43 rfl) rfl ?_
            refine K_iload_n (md := mX11_enter) (pc := 79) 3 (kTab_at (pc := 79) tX11_enter_ok 44 rfl) rfl ?_
            refine K_iload_n (md := mX11_enter) (pc := 80) 4 (kTab_at (pc := 80) tX11_enter_ok 45 rfl) rfl ?_
            refine K_iload (md := mX11_enter) (pc := 81) 5 (kTab_at (pc := 81) tX11_enter_ok 46 rfl) rfl ?_
            refine Z_callV (md := mX11_enter) (pc := 83) (st := []) (sv := (fun _ => [])) (kTab_at (pc := 83) tX11_enter_ok 47 rfl) mv_X11_224 sk_248 rfl (Nat.le_of_ble_eq_true rfl) (by decide) rfl (c_X11_enters X p1 p2 p3 p4 μ) (fun _ => rfl) h (fun μ _ h => ?_) rfl
            refine K_aload_n (md := mX11_enter) (pc := 86) 1 (kTab_at (pc := 86) tX11_enter_ok 48 rfl) rfl ?_
            refine K_iload_n (md := mX11_enter) (pc := 87) 3 (kTab_at (pc := 87) tX11_enter_ok 49 rfl) rfl ?_
            refine K_iload_n (md := mX11_enter) (pc := 88) 4 (kTab_at (pc := 88) tX11_enter_ok 50 rfl) rfl ?_
            refine Z_callV (md := mX11_enter) (pc := 89) (st := []) (sv := (fun x5 => [.int (iI x5)])) (kTab_at (pc := 89) tX11_enter_ok 51 rfl) mv_X11_211 sk_248 rfl (Nat.le_of_ble_eq_true rfl) (by decide) rfl (c_X11_entries X p2 p3 μ) (fun _ => rfl) h (fun μ x5 h => ?_) rfl
            exact Z_iret (md := mX11_enter) (pc := 92) (kTab_at (pc := 92) tX11_enter_ok 52 rfl) rfl rfl rfl h
          · refine K_aload_n (md := mX11_enter) (pc := 59) 1 (kTab_at (pc := 59) tX11_enter_ok 31 rfl) rfl ?_
            refine K_iconst (md := mX11_enter) (pc := 60) (x := 1) (kTab_at (pc := 60) tX11_enter_ok 32 rfl) rfl ?_
            refine K_iconst (md := mX11_enter) (pc := 61) (x := 0) (kTab_at (pc := 61) tX11_enter_ok 33 rfl) rfl ?_
            refine K_iload (md := mX11_enter) (pc := 62) 0 (kTab_at (pc := 62) tX11_enter_ok 34 rfl) rfl ?_
            refine K_aload_n (md := mX11_enter) (pc := 64) 1 (kTab_at (pc := 64) tX11_enter_ok 35 rfl) rfl ?_
            refine Z_getI (md := mX11_enter) (pc := 65) (kTab_at (pc := 65) tX11_enter_ok 36 rfl) fl_X11_205 sk_248 (Or.inl rfl) h (fun x6 h => ?_)
            refine K_iconst (md := mX11_enter) (pc := 68) (x := 3) (kTab_at (pc := 68) tX11_enter_ok 37 rfl) rfl ?_
            refine Z_callV (md := mX11_enter) (pc := 69) (st := []) (sv := (fun x7 => [.int (iI x7)])) (kTab_at (pc := 69) tX11_enter_ok 38 rfl) mv_X11_221 sk_248 rfl (Nat.le_of_ble_eq_true rfl) (by decide) rfl (c_X11_reports X 1 0 x4 x6 3 μ) (fun _ => rfl) h (fun μ x7 h => ?_) rfl
            exact Z_iret (md := mX11_enter) (pc := 72) (kTab_at (pc := 72) tX11_enter_ok 39 rfl) rfl rfl rfl h
        · refine K_aload_n (md := mX11_enter) (pc := 37) 0 (kTab_at (pc := 37) tX11_enter_ok 18 rfl) rfl ?_
          refine K_iconst (md := mX11_enter) (pc := 38) (x := 2) (kTab_at (pc := 38) tX11_enter_ok 19 rfl) rfl ?_
          refine Z_callV (md := mX11_enter) (pc := 39) (st := []) (sv := (fun x8 => [.int (iI x8)])) (kTab_at (pc := 39) tX11_enter_ok 20 rfl) mv_X11_177 sk_248 rfl (Nat.le_of_ble_eq_true rfl) (by decide) rfl (c_X11_fails X 2 μ) (fun _ => rfl) h (fun μ x8 h => ?_) rfl
          exact Z_iret (md := mX11_enter) (pc := 42) (kTab_at (pc := 42) tX11_enter_ok 21 rfl) rfl rfl rfl h
      · refine K_sub [0] rfl ?_
        refine c_X11_enter_26 X p1 p2 p3 p4  μ h

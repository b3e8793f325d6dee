def f_X10_needed_35 (p1 : Int) (p2 : Int) (p3 : Int) (k71 : Int → Mu → Option Res) (k80 : Mu → Option Res) : Nat → Nat → Int → Mu → Option Res
  | 0, _, _, _ => none
  | fu + 1, v4, v5, μ => rdI μ (1 + 1) 5 p2 fun x1 => i_lt x1 v5 (k80 μ) (rb (f_X5_suppose v4 1 p1 p2 v5 μ) fun μ _ => rdF μ v4 5 fun x2 => i_lt p3 x2 ((f_X10_needed_35 p1 p2 p3 k71 k80 fu) v4 (v5 + 1) μ) (k71 v5 μ))
set_option maxRecDepth 100000 in
theorem c_X10_needed_35 (X : kX) (p1 : Int) (p2 : Int) (p3 : Int)  {res : Res} (k71 : Int → Mu → Option Res) (hk71 : ∀ (v5 : Int), ∀ (μ : Mu), k71 v5 μ = some res → KK X mX10_needed 6 1 res 71 [(5, .int (iI v5))] [] μ) (k80 : Mu → Option Res) (hk80 : ∀ (μ : Mu), k80 μ = some res → KK X mX10_needed 6 1 res 80 [] [] μ) : ∀ (fu : Nat)  (v4 : Nat) (hv4 : Lay v4 (ksX5 v4)) (v5 : Int) (μ : Mu), f_X10_needed_35 p1 p2 p3 k71 k80 fu v4 v5 μ = some res → KK X mX10_needed 6 1 res 35 [(0, .ref (X.1 + 0)), (1, .int (iI p1)), (2, .int (iI p2)), (3, .int (iI p3)), (4, .ref (X.1 + v4)), (5, .int (iI v5))] [] μ := by
  intro fu
  induction fu with
  | zero => intro v4 hv4 v5 μ h; exact nomatch h
  | succ fu ih =>
    intro v4 hv4 v5 μ h
    refine K_iload (md := mX10_needed) (pc := 35) 5 (kTab_at (pc := 35) tX10_needed_ok 20 rfl) rfl ?_
    refine K_aload_n (md := mX10_needed) (pc := 37) 0 (kTab_at (pc := 37) tX10_needed_ok 21 rfl) rfl ?_
    refine K_getR (md := mX10_needed) (pc := 38) (b := 1) (kTab_at (pc := 38) tX10_needed_ok 22 rfl) fl_X10_12 sk_0 rfl rfl ?_
    refine K_getR (md := mX10_needed) (pc := 41) (b := (1 + 1)) (kTab_at (pc := 41) tX10_needed_ok 23 rfl) fl_X10_79 (lay_0 lay_now rfl) rfl rfl ?_
    refine K_iload_n (md := mX10_needed) (pc := 44) 2 (kTab_at (pc := 44) tX10_needed_ok 24 rfl) rfl ?_
    refine Z_iald (md := mX10_needed) (pc := 45) (kTab_at (pc := 45) tX10_needed_ok 25 rfl) (lay_at lay_now 1 rfl) (by decide) h (fun x1 h => ?_)
    refine K_icmp_gt (md := mX10_needed) (pc := 46) (kTab_at (pc := 46) tX10_needed_ok 26 rfl) (tgt := 80) rfl h (fun h => ?_) (fun h => ?_)
    · refine K_sub [] rfl ?_
      exact hk80 μ h
    · refine K_aload (md := mX10_needed) (pc := 49) 4 (kTab_at (pc := 49) tX10_needed_ok 27 rfl) rfl ?_
      refine K_aload_n (md := mX10_needed) (pc := 51) 0 (kTab_at (pc := 51) tX10_needed_ok 28 rfl) rfl ?_
      refine K_getR (md := mX10_needed) (pc := 52) (b := 1) (kTab_at (pc := 52) tX10_needed_ok 29 rfl) fl_X10_12 sk_0 rfl rfl ?_
      refine K_iload_n (md := mX10_needed) (pc := 55) 1 (kTab_at (pc := 55) tX10_needed_ok 30 rfl) rfl ?_
      refine K_iload_n (md := mX10_needed) (pc := 56) 2 (kTab_at (pc := 56) tX10_needed_ok 31 rfl) rfl ?_
      refine K_iload (md := mX10_needed) (pc := 57) 5 (kTab_at (pc := 57) tX10_needed_ok 32 rfl) rfl ?_
      refine Z_callV (md := mX10_needed) (pc := 59) (st := []) (sv := (fun _ => [])) (kTab_at (pc := 59) tX10_needed_ok 33 rfl) mv_X10_341 (lay_0 hv4 rfl) rfl (Nat.le_of_ble_eq_true rfl) (by decide) rfl (c_X5_suppose X v4 1 p1 p2 v5 hv4 lay_now μ) (fun _ => rfl) h (fun μ _ h => ?_) rfl
      refine K_aload (md := mX10_needed) (pc := 62) 4 (kTab_at (pc := 62) tX10_needed_ok 34 rfl) rfl ?_
      refine Z_getI (md := mX10_needed) (pc := 64) (kTab_at (pc := 64) tX10_needed_ok 35 rfl) fl_X10_323 (lay_0 hv4 rfl) (Or.inl rfl) h (fun x2 h => ?_)
      refine K_iload_n (md := mX10_needed) (pc := 67) 3 (kTab_at (pc := 67) tX10_needed_ok 36 rfl) rfl ?_
      refine K_icmp_gt (md := mX10_needed) (pc := 68) (kTab_at (pc := 68) tX10_needed_ok 37 rfl) (tgt := 74) rfl h (fun h => ?_) (fun h => ?_)
      · refine K_iinc (md := mX10_needed) (pc := 74) (l' := [(5, .int (iI (v5 + 1))), (0, .ref (X.1 + 0)), (1, .int (iI p1)), (2, .int (iI p2)), (3, .int (iI p3)), (4, .ref (X.1 + v4))]) 5 (kTab_at (pc := 74) tX10_needed_ok 40 rfl) rfl (Nat.le_of_ble_eq_true rfl) rfl ?_
        refine K_goto (md := mX10_needed) (pc := 77) (tgt := 35) (kTab_at (pc := 77) tX10_needed_ok 41 rfl) rfl ?_
        refine K_sub [1, 2, 3, 4, 5, 0] rfl ?_
        exact ih v4 hv4 (v5 + 1) μ h
      · refine K_sub [5] rfl ?_
        exact hk71 v5 μ h
def f_X10_needed (p1 : Int) (p2 : Int) (p3 : Int) (μ : Mu) : Option Res := rb (f_X10_requireScript p1 p2 μ) fun μ _ => rb (f_X10_requireGradeNumber p3 μ) fun μ _ => rb (f_X10_requireGrade p1 μ) fun μ _ => rdA 8 p1 (fun j => 232 + 2 * j) fun x1 => rb (f_X5_find x1 1 p1 μ) fun μ _ => f_X10_needed_35 p1 p2 p3 (fun v5 μ => some (μ, 0, v5)) (fun μ => some (μ, 6, 0)) FU x1 0 μ
set_option maxRecDepth 100000 in
theorem c_X10_needed (X : kX) (p1 : Int) (p2 : Int) (p3 : Int)  (μ : Mu) : Cq X mX10_needed 6 1 μ [.ref (X.1 + 0), .int (iI p1), .int (iI p2), .int (iI p3)] (f_X10_needed p1 p2 p3 μ) := by
  intro res h
  refine ct_of (by decide +kernel) rfl (Nat.le_of_ble_eq_true rfl) ?_
  show KK X mX10_needed 6 1 res 0 [(0, .ref (X.1 + 0)), (1, .int (iI p1)), (2, .int (iI p2)), (3, .int (iI p3))] [] μ
  unfold f_X10_needed at h
  refine K_iload_n (md := mX10_needed) (pc := 0) 1 (kTab_at (pc := 0) tX10_needed_ok 0 rfl) rfl ?_
  refine K_iload_n (md := mX10_needed) (pc := 1) 2 (kTab_at (pc := 1) tX10_needed_ok 1 rfl) rfl ?_
  refine Z_callS (md := mX10_needed) (pc := 2) (st := []) (sv := (fun _ => [])) (kTab_at (pc := 2) tX10_needed_ok 2 rfl) ms_X10_142 rfl (Nat.le_of_ble_eq_true rfl) (by decide) rfl (c_X10_requireScript X p1 p2 μ) (fun _ => rfl) h (fun μ _ h => ?_) rfl
  refine K_iload_n (md := mX10_needed) (pc := 5) 3 (kTab_at (pc := 5) tX10_needed_ok 3 rfl) rfl ?_
  refine Z_callS (md := mX10_needed) (pc := 6) (st := []) (sv := (fun _ => [])) (kTab_at (pc := 6) tX10_needed_ok 4 rfl) ms_X10_338 rfl (Nat.le_of_ble_eq_true rfl) (by decide) rfl (c_X10_requireGradeNumber X p3 μ) (fun _ => rfl) h (fun μ _ h => ?_) rfl
  refine K_aload_n (md := mX10_needed) (pc := 9) 0 (kTab_at (pc := 9) tX10_needed_ok 5 rfl) rfl ?_
  refine K_iload_n (md := mX10_needed) (pc := 10) 1 (kTab_at (pc := 10) tX10_needed_ok 6 rfl) rfl ?_
  refine Z_callV (md := mX10_needed) (pc := 11) (st := []) (sv := (fun _ => [])) (kTab_at (pc := 11) tX10_needed_ok 7 rfl) mv_X10_303 sk_0 rfl (Nat.le_of_ble_eq_true rfl) (by decide) rfl (c_X10_requireGrade X p1 μ) (fun _ => rfl) h (fun μ _ h => ?_) rfl
  refine K_aload_n (md := mX10_needed) (pc := 14) 0 (kTab_at (pc := 14) tX10_needed_ok 8 rfl) rfl ?_
  refine K_getR (md := mX10_needed) (pc := 15) (b := 226) (kTab_at (pc := 15) tX10_needed_ok 9 rfl) fl_X10_45 sk_0 rfl rfl ?_
  refine K_iload_n (md := mX10_needed) (pc := 18) 1 (kTab_at (pc := 18) tX10_needed_ok 10 rfl) rfl ?_
  refine Z_aaldL (md := mX10_needed) (pc := 19) (ks := ksX5) (kTab_at (pc := 19) tX10_needed_ok 11 rfl) sk_226 (Or.inr rfl) (by decide) lay_outs h (fun x1 hx1 h => ?_)
  refine K_astore (md := mX10_needed) (pc := 20) (l' := [(4, .ref (X.1 + x1)), (0, .ref (X.1 + 0)), (1, .int (iI p1)), (2, .int (iI p2)), (3, .int (iI p3))]) (kTab_at (pc := 20) tX10_needed_ok 12 rfl) (Nat.le_of_ble_eq_true rfl) rfl ?_
  refine K_aload (md := mX10_needed) (pc := 22) 0 (kTab_at (pc := 22) tX10_needed_ok 13 rfl) rfl ?_
  refine K_aload_n (md := mX10_needed) (pc := 24) 1 (kTab_at (pc := 24) tX10_needed_ok 14 rfl) rfl ?_
  refine K_getR (md := mX10_needed) (pc := 25) (b := 1) (kTab_at (pc := 25) tX10_needed_ok 15 rfl) fl_X10_12 sk_0 rfl rfl ?_
  refine K_iload_n (md := mX10_needed) (pc := 28) 2 (kTab_at (pc := 28) tX10_needed_ok 16 rfl) rfl ?_
  refine Z_callV (md := mX10_needed) (pc := 29) (st := []) (sv := (fun _ => [])) (kTab_at (pc := 29) tX10_needed_ok 17 rfl) mv_X10_306 (lay_0 hx1 rfl) rfl (Nat.le_of_ble_eq_true rfl) (by decide) rfl (c_X5_find X x1 1 p1 hx1 lay_now μ) (fun _ => rfl) h (fun μ _ h => ?_) rfl
  refine K_iconst (md := mX10_needed) (pc := 32) (x := 0) (kTab_at (pc := 32) tX10_needed_ok 18 rfl) rfl ?_
  refine K_istore (md := mX10_needed) (pc := 33) (l' := [(5, .int (iI 0)), (4, .ref (X.1 + x1)), (0, .ref (X.1 + 0)), (1, .int (iI p1)), (2, .int (iI p2)), (3, .int (iI p3))]) (kTab_at (pc := 33) tX10_needed_ok 19 rfl) (Nat.le_of_ble_eq_true rfl) rfl ?_
  refine K_sub [2, 3, 4, 5, 1, 0] rfl ?_
  refine c_X10_needed_35 X p1 p2 p3 _ ?_ _ ?_ _ x1 hx1 0 μ h
  · intro v5 μ h
    refine K_iload (md := mX10_needed) (pc := 71) 0 (kTab_at (pc := 71) tX10_needed_ok 38 rfl) rfl ?_
    exact Z_iret (md := mX10_needed) (pc := 73) (kTab_at (pc := 73) tX10_needed_ok 39 rfl) rfl rfl rfl h
  · intro  μ h
    exact Z_thNW (md := mX10_needed) (pc := 80) (text := "the maximum is not sufficient") tn_0 ck_5 (by decide +kernel) rfl (kTab_at (pc := 80) tX10_needed_ok 42 rfl) (kTab_at (pc := 83) tX10_needed_ok 43 rfl) (kTab_at (pc := 84) tX10_needed_ok 44 rfl) (kTab_at (pc := 87) tX10_needed_ok 45 rfl) (kTab_at (pc := 90) tX10_needed_ok 46 rfl) h
def f_X10_doubleBits_87 (p0 : UInt64)  (v2 : UInt64) (v4 : Int) (μ : Mu) : Option Res := d_ck (FP.dsub v2 (FP.dconst1)) fun x1 => d_ck (FP.dmul x1 (4841369599423283200 : UInt64)) fun x2 => some (μ, 0, (orL (shlL v4 52) ((FP.d2l x2).toInt)))
set_option maxRecDepth 100000 in
theorem c_X10_doubleBits_87 (X : kX) (p0 : UInt64)  {res : Res}  (v2 : UInt64) (v4 : Int) (μ : Mu) (h : f_X10_doubleBits_87 p0 v2 v4 μ = some res) : KK X mX10_doubleBits 0 2 res 87 [(2, .double v2), (4, .long (iL v4))] [] μ := by
  unfold f_X10_doubleBits_87 at h
  refine K_lload (md := mX10_doubleBits) (pc := 87) 1 (kTab_at (pc := 87) tX10_doubleBits_ok 48 rfl) rfl ?_
  refine K_bipush (md := mX10_doubleBits) (pc := 89) (x := 52) (kTab_at (pc := 89) tX10_doubleBits_ok 49 rfl) (by decide) ?_
  refine K_lshl (md := mX10_doubleBits) (pc := 91) (kTab_at (pc := 91) tX10_doubleBits_ok 50 rfl) ?_
  refine K_dload_n (md := mX10_doubleBits) (pc := 92) 0 (kTab_at (pc := 92) tX10_doubleBits_ok 51 rfl) rfl ?_
  refine K_dconst1 (md := mX10_doubleBits) (pc := 93) (kTab_at (pc := 93) tX10_doubleBits_ok 52 rfl) ?_
  refine Z_dsub (md := mX10_doubleBits) (pc := 94) (kTab_at (pc := 94) tX10_doubleBits_ok 53 rfl) h (fun x1 h => ?_)
  refine K_ldc2d (md := mX10_doubleBits) (pc := 95) (v := 4841369599423283200) (kTab_at (pc := 95) tX10_doubleBits_ok 54 rfl) (inT5 115 (by decide +kernel) rfl) ?_
  refine Z_dmul (md := mX10_doubleBits) (pc := 98) (kTab_at (pc := 98) tX10_doubleBits_ok 55 rfl) h (fun x2 h => ?_)
  refine K_d2l (md := mX10_doubleBits) (pc := 99) (kTab_at (pc := 99) tX10_doubleBits_ok 56 rfl) ?_
  refine K_lor (md := mX10_doubleBits) (pc := 100) (kTab_at (pc := 100) tX10_doubleBits_ok 57 rfl) ?_
  exact Z_lret (md := mX10_doubleBits) (pc := 101) (kTab_at (pc := 101) tX10_doubleBits_ok 58 rfl) rfl rfl h
def f_X10_doubleBits_55 (p0 : UInt64) (k87 : UInt64 → Int → Mu → Option Res) : Nat → UInt64 → Int → Int → Mu → Option Res
  | 0, _, _, _, _ => none
  | fu + 1, v2, v4, v6, μ => i_lt v6 1022 (i_lt (dcI .g v2 (FP.dconst1)) 0 (d_ck (FP.dmul v2 (4611686018427387904 : UInt64)) fun x1 => bnd (v4 - 1) fun x2 => (f_X10_doubleBits_55 p0 k87 fu) x1 x2 (v6 + 1) μ) (k87 v2 v4 μ)) (k87 v2 v4 μ)
set_option maxRecDepth 100000 in
theorem c_X10_doubleBits_55 (X : kX) (p0 : UInt64)  {res : Res} (k87 : UInt64 → Int → Mu → Option Res) (hk87 : ∀ (v2 : UInt64), ∀ (v4 : Int), ∀ (μ : Mu), k87 v2 v4 μ = some res → KK X mX10_doubleBits 0 2 res 87 [(2, .double v2), (4, .long (iL v4))] [] μ) : ∀ (fu : Nat)  (v2 : UInt64) (v4 : Int) (v6 : Int) (μ : Mu), f_X10_doubleBits_55 p0 k87 fu v2 v4 v6 μ = some res → KK X mX10_doubleBits 0 2 res 55 [(2, .double v2), (4, .long (iL v4)), (6, .int (iI v6))] [] μ := by
  intro fu
  induction fu with
  | zero => intro v2 v4 v6 μ h; exact nomatch h
  | succ fu ih =>
    intro v2 v4 v6 μ h
    refine K_iload (md := mX10_doubleBits) (pc := 55) 2 (kTab_at (pc := 55) tX10_doubleBits_ok 31 rfl) rfl ?_
    refine K_sipush (md := mX10_doubleBits) (pc := 57) (x := 1022) (kTab_at (pc := 57) tX10_doubleBits_ok 32 rfl) (by decide) ?_
    refine K_icmp_ge (md := mX10_doubleBits) (pc := 60) (kTab_at (pc := 60) tX10_doubleBits_ok 33 rfl) (tgt := 87) rfl h (fun h => ?_) (fun h => ?_)
    · refine K_sub [0, 1] rfl ?_
      exact hk87 v2 v4 μ h
    · refine K_dload_n (md := mX10_doubleBits) (pc := 63) 0 (kTab_at (pc := 63) tX10_doubleBits_ok 34 rfl) rfl ?_
      refine K_dconst1 (md := mX10_doubleBits) (pc := 64) (kTab_at (pc := 64) tX10_doubleBits_ok 35 rfl) ?_
      refine K_dcmp (md := mX10_doubleBits) (pc := 65) (kTab_at (pc := 65) tX10_doubleBits_ok 36 rfl) ?_
      refine K_if_ge (md := mX10_doubleBits) (pc := 66) (kTab_at (pc := 66) tX10_doubleBits_ok 37 rfl) (tgt := 87) rfl h (fun h => ?_) (fun h => ?_)
      · refine K_sub [0, 1] rfl ?_
        exact hk87 v2 v4 μ h
      · refine K_dload_n (md := mX10_doubleBits) (pc := 69) 0 (kTab_at (pc := 69) tX10_doubleBits_ok 38 rfl) rfl ?_
        refine K_ldc2d (md := mX10_doubleBits) (pc := 70) (v := 4611686018427387904) (kTab_at (pc := 70) tX10_doubleBits_ok 39 rfl) (inT5 114 (by decide +kernel) rfl) ?_
        refine Z_dmul (md := mX10_doubleBits) (pc := 73) (kTab_at (pc := 73) tX10_doubleBits_ok 40 rfl) h (fun x1 h => ?_)
        refine K_dstore_n (md := mX10_doubleBits) (pc := 74) (l' := [(2, .double x1), (4, .long (iL v4)), (6, .int (iI v6))]) (kTab_at (pc := 74) tX10_doubleBits_ok 41 rfl) (Nat.le_of_ble_eq_true rfl) rfl ?_
        refine K_lload (md := mX10_doubleBits) (pc := 75) 1 (kTab_at (pc := 75) tX10_doubleBits_ok 42 rfl) rfl ?_
        refine K_lconst (md := mX10_doubleBits) (pc := 77) (x := 1) (kTab_at (pc := 77) tX10_doubleBits_ok 43 rfl) rfl ?_
        refine K_lsub (md := mX10_doubleBits) (pc := 78) (kTab_at (pc := 78) tX10_doubleBits_ok 44 rfl) ?_
        refine Z_bndL (md := mX10_doubleBits) (pc := 79) h (fun x2 h => ?_)
        refine K_lstore (md := mX10_doubleBits) (pc := 79) (l' := [(4, .long (iL x2)), (2, .double x1), (6, .int (iI v6))]) (kTab_at (pc := 79) tX10_doubleBits_ok 45 rfl) (Nat.le_of_ble_eq_true rfl) rfl ?_
        refine K_iinc (md := mX10_doubleBits) (pc := 81) (l' := [(6, .int (iI (v6 + 1))), (4, .long (iL x2)), (2, .double x1)]) 2 (kTab_at (pc := 81) tX10_doubleBits_ok 46 rfl) rfl (Nat.le_of_ble_eq_true rfl) rfl ?_
        refine K_goto (md := mX10_doubleBits) (pc := 84) (tgt := 55) (kTab_at (pc := 84) tX10_doubleBits_ok 47 rfl) rfl ?_
        refine K_sub [2, 1, 0] rfl ?_
        exact ih x1 x2 (v6 + 1) μ h
def f_X10_doubleBits_52 (p0 : UInt64)  (v2 : UInt64) (v4 : Int) (μ : Mu) : Option Res := f_X10_doubleBits_55 p0 (fun v2 v4 μ => f_X10_doubleBits_87 p0 v2 v4 μ) FU v2 v4 0 μ
set_option maxRecDepth 100000 in
theorem c_X10_doubleBits_52 (X : kX) (p0 : UInt64)  {res : Res}  (v2 : UInt64) (v4 : Int) (μ : Mu) (h : f_X10_doubleBits_52 p0 v2 v4 μ = some res) : KK X mX10_doubleBits 0 2 res 52 [(2, .double v2), (4, .long (iL v4))] [] μ := by
  unfold f_X10_doubleBits_52 at h
  refine K_iconst (md := mX10_doubleBits) (pc := 52) (x := 0) (kTab_at (pc := 52) tX10_doubleBits_ok 29 rfl) rfl ?_
  refine K_istore (md := mX10_doubleBits) (pc := 53) (l' := [(6, .int (iI 0)), (2, .double v2), (4, .long (iL v4))]) (kTab_at (pc := 53) tX10_doubleBits_ok 30 rfl) (Nat.le_of_ble_eq_true rfl) rfl ?_
  refine K_sub [1, 2, 0] rfl ?_
  refine c_X10_doubleBits_55 X p0 _ ?_ _ v2 v4 0 μ h
  · intro v2 v4 μ h
    refine c_X10_doubleBits_87 X p0  v2 v4 μ h
def f_X10_doubleBits_18 (p0 : UInt64) (k52 : UInt64 → Int → Mu → Option Res) : Nat → UInt64 → Int → Int → Mu → Option Res
  | 0, _, _, _, _ => none
  | fu + 1, v2, v4, v6, μ => i_lt v6 1023 (i_lt (dcI .l v2 (4611686018427387904 : UInt64)) 0 (k52 v2 v4 μ) (d_ck (FP.ddiv v2 (4611686018427387904 : UInt64)) fun x1 => bnd (v4 + 1) fun x2 => (f_X10_doubleBits_18 p0 k52 fu) x1 x2 (v6 + 1) μ)) (k52 v2 v4 μ)
set_option maxRecDepth 100000 in
theorem c_X10_doubleBits_18 (X : kX) (p0 : UInt64)  {res : Res} (k52 : UInt64 → Int → Mu → Option Res) (hk52 : ∀ (v2 : UInt64), ∀ (v4 : Int), ∀ (μ : Mu), k52 v2 v4 μ = some res → KK X mX10_doubleBits 0 2 res 52 [(2, .double v2), (4, .long (iL v4))] [] μ) : ∀ (fu : Nat)  (v2 : UInt64) (v4 : Int) (v6 : Int) (μ : Mu), f_X10_doubleBits_18 p0 k52 fu v2 v4 v6 μ = some res → KK X mX10_doubleBits 0 2 res 18 [(2, .double v2), (4, .long (iL v4)), (6, .int (iI v6))] [] μ := by
  intro fu
  induction fu with
  | zero => intro v2 v4 v6 μ h; exact nomatch h
  | succ fu ih =>
    intro v2 v4 v6 μ h
    refine K_iload (md := mX10_doubleBits) (pc := 18) 2 (kTab_at (pc := 18) tX10_doubleBits_ok 12 rfl) rfl ?_
    refine K_sipush (md := mX10_doubleBits) (pc := 20) (x := 1023) (kTab_at (pc := 20) tX10_doubleBits_ok 13 rfl) (by decide) ?_
    refine K_icmp_ge (md := mX10_doubleBits) (pc := 23) (kTab_at (pc := 23) tX10_doubleBits_ok 14 rfl) (tgt := 52) rfl h (fun h => ?_) (fun h => ?_)
    · refine K_sub [0, 1] rfl ?_
      exact hk52 v2 v4 μ h
    · refine K_dload_n (md := mX10_doubleBits) (pc := 26) 0 (kTab_at (pc := 26) tX10_doubleBits_ok 15 rfl) rfl ?_
      refine K_ldc2d (md := mX10_doubleBits) (pc := 27) (v := 4611686018427387904) (kTab_at (pc := 27) tX10_doubleBits_ok 16 rfl) (inT5 114 (by decide +kernel) rfl) ?_
      refine K_dcmp (md := mX10_doubleBits) (pc := 30) (kTab_at (pc := 30) tX10_doubleBits_ok 17 rfl) ?_
      refine K_if_lt (md := mX10_doubleBits) (pc := 31) (kTab_at (pc := 31) tX10_doubleBits_ok 18 rfl) (tgt := 52) rfl h (fun h => ?_) (fun h => ?_)
      · refine K_sub [0, 1] rfl ?_
        exact hk52 v2 v4 μ h
      · refine K_dload_n (md := mX10_doubleBits) (pc := 34) 0 (kTab_at (pc := 34) tX10_doubleBits_ok 19 rfl) rfl ?_
        refine K_ldc2d (md := mX10_doubleBits) (pc := 35) (v := 4611686018427387904) (kTab_at (pc := 35) tX10_doubleBits_ok 20 rfl) (inT5 114 (by decide +kernel) rfl) ?_
        refine Z_ddiv (md := mX10_doubleBits) (pc := 38) (kTab_at (pc := 38) tX10_doubleBits_ok 21 rfl) h (fun x1 h => ?_)
        refine K_dstore_n (md := mX10_doubleBits) (pc := 39) (l' := [(2, .double x1), (4, .long (iL v4)), (6, .int (iI v6))]) (kTab_at (pc := 39) tX10_doubleBits_ok 22 rfl) (Nat.le_of_ble_eq_true rfl) rfl ?_
        refine K_lload (md := mX10_doubleBits) (pc := 40) 1 (kTab_at (pc := 40) tX10_doubleBits_ok 23 rfl) rfl ?_
        refine K_lconst (md := mX10_doubleBits) (pc := 42) (x := 1) (kTab_at (pc := 42) tX10_doubleBits_ok 24 rfl) rfl ?_
        refine K_ladd (md := mX10_doubleBits) (pc := 43) (kTab_at (pc := 43) tX10_doubleBits_ok 25 rfl) ?_
        refine Z_bndL (md := mX10_doubleBits) (pc := 44) h (fun x2 h => ?_)
        refine K_lstore (md := mX10_doubleBits) (pc := 44) (l' := [(4, .long (iL x2)), (2, .double x1), (6, .int (iI v6))]) (kTab_at (pc := 44) tX10_doubleBits_ok 26 rfl) (Nat.le_of_ble_eq_true rfl) rfl ?_
        refine K_iinc (md := mX10_doubleBits) (pc := 46) (l' := [(6, .int (iI (v6 + 1))), (4, .long (iL x2)), (2, .double x1)]) 2 (kTab_at (pc := 46) tX10_doubleBits_ok 27 rfl) rfl (Nat.le_of_ble_eq_true rfl) rfl ?_
        refine K_goto (md := mX10_doubleBits) (pc := 49) (tgt := 18) (kTab_at (pc := 49) tX10_doubleBits_ok 28 rfl) rfl ?_
        refine K_sub [2, 1, 0] rfl ?_
        exact ih x1 x2 (v6 + 1) μ h
def f_X10_doubleBits (p0 : UInt64) (μ : Mu) : Option Res := i_lt 0 (dcI .l p0 (FP.dconst0)) (f_X10_doubleBits_18 p0 (fun v2 v4 μ => f_X10_doubleBits_52 p0 v2 v4 μ) FU p0 1023 0 μ) (some (μ, 0, 0))
set_option maxRecDepth 100000 in
theorem c_X10_doubleBits (X : kX) (p0 : UInt64)  (μ : Mu) : Cq X mX10_doubleBits 0 2 μ [.double p0] (f_X10_doubleBits p0 μ) := by
  intro res h
  refine ct_of (by decide +kernel) rfl (Nat.le_of_ble_eq_true rfl) ?_
  show KK X mX10_doubleBits 0 2 res 0 [(0, .double p0)] [] μ
  unfold f_X10_doubleBits at h
  refine K_dload_n (md := mX10_doubleBits) (pc := 0) 0 (kTab_at (pc := 0) tX10_doubleBits_ok 0 rfl) rfl ?_
  refine K_dconst0 (md := mX10_doubleBits) (pc := 1) (kTab_at (pc := 1) tX10_doubleBits_ok 1 rfl) ?_
  refine K_dcmp (md := mX10_doubleBits) (pc := 2) (kTab_at (pc := 2) tX10_doubleBits_ok 2 rfl) ?_
  refine K_if_gt (md := mX10_doubleBits) (pc := 3) (kTab_at (pc := 3) tX10_doubleBits_ok 3 rfl) (tgt := 8) rfl h (fun h => ?_) (fun h => ?_)
  · refine K_dload_n (md := mX10_doubleBits) (pc := 8) 0 (kTab_at (pc := 8) tX10_doubleBits_ok 6 rfl) rfl ?_
    refine K_dstore_n (md := mX10_doubleBits) (pc := 9) (l' := [(2, .double p0), (0, .double p0)]) (kTab_at (pc := 9) tX10_doubleBits_ok 7 rfl) (Nat.le_of_ble_eq_true rfl) rfl ?_
    refine K_ldc2 (md := mX10_doubleBits) (pc := 10) (x := 1023) (v := 1023) (kTab_at (pc := 10) tX10_doubleBits_ok 8 rfl) (inT5 113 (by decide +kernel) rfl) (by decide) ?_
    refine K_lstore (md := mX10_doubleBits) (pc := 13) (l' := [(4, .long (iL 1023)), (2, .double p0), (0, .double p0)]) (kTab_at (pc := 13) tX10_doubleBits_ok 9 rfl) (Nat.le_of_ble_eq_true rfl) rfl ?_
    refine K_iconst (md := mX10_doubleBits) (pc := 15) (x := 0) (kTab_at (pc := 15) tX10_doubleBits_ok 10 rfl) rfl ?_
    refine K_istore (md := mX10_doubleBits) (pc := 16) (l' := [(6, .int (iI 0)), (4, .long (iL 1023)), (2, .double p0), (0, .double p0)]) (kTab_at (pc := 16) tX10_doubleBits_ok 11 rfl) (Nat.le_of_ble_eq_true rfl) rfl ?_
    refine K_sub [2, 1, 0] rfl ?_
    refine c_X10_doubleBits_18 X p0 _ ?_ _ p0 1023 0 μ h
    · intro v2 v4 μ h
      refine c_X10_doubleBits_52 X p0  v2 v4 μ h
  · refine K_lconst (md := mX10_doubleBits) (pc := 6) (x := 0) (kTab_at (pc := 6) tX10_doubleBits_ok 4 rfl) rfl ?_
    exact Z_lret (md := mX10_doubleBits) (pc := 7) (kTab_at (pc := 7) tX10_doubleBits_ok 5 rfl) rfl rfl h
def f_X10_meanBits_62 (p1 : Int) (k11 : Int → Int → Int → Mu → Option Res) (v2 : Int) (v3 : Int) (v4 : Int) (μ : Mu) : Option Res := k11 v2 v3 (v4 + 1) μ
set_option maxRecDepth 100000 in
theorem c_X10_meanBits_62 (X : kX) (p1 : Int)  {res : Res} (k11 : Int → Int → Int → Mu → Option Res) (hk11 : ∀ (v2 : Int), ∀ (v3 : Int), ∀ (v4 : Int), ∀ (μ : Mu), k11 v2 v3 v4 μ = some res → KK X mX10_meanBits 5 2 res 11 [(0, .ref (X.1 + 0)), (1, .int (iI p1)), (2, .int (iI v2)), (3, .int (iI v3)), (4, .int (iI v4))] [] μ) (v2 : Int) (v3 : Int) (v4 : Int) (μ : Mu) (h : f_X10_meanBits_62 p1 k11 v2 v3 v4 μ = some res) : KK X mX10_meanBits 5 2 res 62 [(0, .ref (X.1 + 0)), (1, .int (iI p1)), (2, .int (iI v2)), (3, .int (iI v3)), (4, .int (iI v4))] [] μ := by
  unfold f_X10_meanBits_62 at h
  refine K_iinc (md := mX10_meanBits) (pc := 62) (l' := [(4, .int (iI (v4 + 1))), (0, .ref (X.1 + 0)), (1, .int (iI p1)), (2, .int (iI v2)), (3, .int (iI v3))]) 4 (kTab_at (pc := 62) tX10_meanBits_ok 32 rfl) rfl (Nat.le_of_ble_eq_true rfl) rfl ?_
  refine K_goto (md := mX10_meanBits) (pc := 65) (tgt := 11) (kTab_at (pc := 65) tX10_meanBits_ok 33 rfl) rfl ?_
  refine K_sub [1, 2, 3, 4, 0] rfl ?_
  exact hk11 v2 v3 (v4 + 1) μ h
def f_X10_meanBits_11 (p1 : Int) (k68 : Int → Int → Mu → Option Res) : Nat → Int → Int → Int → Mu → Option Res
  | 0, _, _, _, _ => none
  | fu + 1, v2, v3, v4, μ => i_lt v4 8 (rb (f_X1_hasGrade 1 v4 μ) fun μ x1 => i_eq x1 0 (f_X10_meanBits_62 p1 (f_X10_meanBits_11 p1 k68 fu) v2 v3 v4 μ) (rb (f_X1_isExcused 1 v4 p1 μ) fun μ x2 => i_eq x2 0 (rb (f_X10_scriptOf v4 p1 μ) fun μ x3 => rb (f_X1_settledOf 1 x3 μ) fun μ x4 => bnd (v2 + x4) fun x5 => f_X10_meanBits_62 p1 (f_X10_meanBits_11 p1 k68 fu) x5 (v3 + 1) v4 μ) (f_X10_meanBits_62 p1 (f_X10_meanBits_11 p1 k68 fu) v2 v3 v4 μ))) (k68 v2 v3 μ)
set_option maxRecDepth 100000 in
theorem c_X10_meanBits_11 (X : kX) (p1 : Int)  {res : Res} (k68 : Int → Int → Mu → Option Res) (hk68 : ∀ (v2 : Int), ∀ (v3 : Int), ∀ (μ : Mu), k68 v2 v3 μ = some res → KK X mX10_meanBits 5 2 res 68 [(2, .int (iI v2)), (3, .int (iI v3))] [] μ) : ∀ (fu : Nat)  (v2 : Int) (v3 : Int) (v4 : Int) (μ : Mu), f_X10_meanBits_11 p1 k68 fu v2 v3 v4 μ = some res → KK X mX10_meanBits 5 2 res 11 [(0, .ref (X.1 + 0)), (1, .int (iI p1)), (2, .int (iI v2)), (3, .int (iI v3)), (4, .int (iI v4))] [] μ := by
  intro fu
  induction fu with
  | zero => intro v2 v3 v4 μ h; exact nomatch h
  | succ fu ih =>
    intro v2 v3 v4 μ h
    refine K_iload (md := mX10_meanBits) (pc := 11) 4 (kTab_at (pc := 11) tX10_meanBits_ok 8 rfl) rfl ?_
    refine K_bipush (md := mX10_meanBits) (pc := 13) (x := 8) (kTab_at (pc := 13) tX10_meanBits_ok 9 rfl) (by decide) ?_
    refine K_icmp_ge (md := mX10_meanBits) (pc := 15) (kTab_at (pc := 15) tX10_meanBits_ok 10 rfl) (tgt := 68) rfl h (fun h => ?_) (fun h => ?_)
    · refine K_sub [2, 3] rfl ?_
      exact hk68 v2 v3 μ h
    · refine K_aload_n (md := mX10_meanBits) (pc := 18) 0 (kTab_at (pc := 18) tX10_meanBits_ok 11 rfl) rfl ?_
      refine K_getR (md := mX10_meanBits) (pc := 19) (b := 1) (kTab_at (pc := 19) tX10_meanBits_ok 12 rfl) fl_X10_12 sk_0 rfl rfl ?_
      refine K_iload (md := mX10_meanBits) (pc := 22) 4 (kTab_at (pc := 22) tX10_meanBits_ok 13 rfl) rfl ?_
      refine Z_callV (md := mX10_meanBits) (pc := 24) (st := []) (sv := (fun x1 => [.int (iI x1)])) (kTab_at (pc := 24) tX10_meanBits_ok 14 rfl) mv_X10_330 (lay_0 lay_now rfl) rfl (Nat.le_of_ble_eq_true rfl) (by decide) rfl (c_X1_hasGrade X 1 v4 lay_now μ) (fun _ => rfl) h (fun μ x1 h => ?_) rfl
      refine K_if_eq (md := mX10_meanBits) (pc := 27) (kTab_at (pc := 27) tX10_meanBits_ok 15 rfl) (tgt := 62) rfl h (fun h => ?_) (fun h => ?_)
      · refine c_X10_meanBits_62 X p1 _ ih v2 v3 v4 μ h
      · refine K_aload_n (md := mX10_meanBits) (pc := 30) 0 (kTab_at (pc := 30) tX10_meanBits_ok 16 rfl) rfl ?_
        refine K_getR (md := mX10_meanBits) (pc := 31) (b := 1) (kTab_at (pc := 31) tX10_meanBits_ok 17 rfl) fl_X10_12 sk_0 rfl rfl ?_
        refine K_iload (md := mX10_meanBits) (pc := 34) 4 (kTab_at (pc := 34) tX10_meanBits_ok 18 rfl) rfl ?_
        refine K_iload_n (md := mX10_meanBits) (pc := 36) 1 (kTab_at (pc := 36) tX10_meanBits_ok 19 rfl) rfl ?_
        refine Z_callV (md := mX10_meanBits) (pc := 37) (st := []) (sv := (fun x2 => [.int (iI x2)])) (kTab_at (pc := 37) tX10_meanBits_ok 20 rfl) mv_X10_243 (lay_0 lay_now rfl) rfl (Nat.le_of_ble_eq_true rfl) (by decide) rfl (c_X1_isExcused X 1 v4 p1 lay_now μ) (fun _ => rfl) h (fun μ x2 h => ?_) rfl
        refine K_if_ne (md := mX10_meanBits) (pc := 40) (kTab_at (pc := 40) tX10_meanBits_ok 21 rfl) (tgt := 62) rfl h (fun h => ?_) (fun h => ?_)
        · refine c_X10_meanBits_62 X p1 _ ih v2 v3 v4 μ h
        · refine K_iload_n (md := mX10_meanBits) (pc := 43) 2 (kTab_at (pc := 43) tX10_meanBits_ok 22 rfl) rfl ?_
          refine K_aload_n (md := mX10_meanBits) (pc := 44) 0 (kTab_at (pc := 44) tX10_meanBits_ok 23 rfl) rfl ?_
          refine K_getR (md := mX10_meanBits) (pc := 45) (b := 1) (kTab_at (pc := 45) tX10_meanBits_ok 24 rfl) fl_X10_12 sk_0 rfl rfl ?_
          refine K_iload (md := mX10_meanBits) (pc := 48) 4 (kTab_at (pc := 48) tX10_meanBits_ok 25 rfl) rfl ?_
          refine K_iload_n (md := mX10_meanBits) (pc := 50) 1 (kTab_at (pc := 50) tX10_meanBits_ok 26 rfl) rfl ?_
          refine Z_callS (md := mX10_meanBits) (pc := 51) (st := [.ref (X.1 + 1), .int (iI v2)]) (sv := (fun x3 => [.int (iI x3), .ref (X.1 + 1), .int (iI v2)])) (kTab_at (pc := 51) tX10_meanBits_ok 27 rfl) ms_X10_148 rfl (Nat.le_of_ble_eq_true rfl) (by decide) rfl (c_X10_scriptOf X v4 p1 μ) (fun _ => rfl) h (fun μ x3 h => ?_) rfl
          refine Z_callV (md := mX10_meanBits) (pc := 54) (st := [.int (iI v2)]) (sv := (fun x4 => [.int (iI x4), .int (iI v2)])) (kTab_at (pc := 54) tX10_meanBits_ok 28 rfl) mv_X10_225 (lay_0 lay_now rfl) rfl (Nat.le_of_ble_eq_true rfl) (by decide) rfl (c_X1_settledOf X 1 x3 lay_now μ) (fun _ => rfl) h (fun μ x4 h => ?_) rfl
          refine K_iadd (md := mX10_meanBits) (pc := 57) (kTab_at (pc := 57) tX10_meanBits_ok 29 rfl) ?_
          refine Z_bnd (md := mX10_meanBits) (pc := 58) h (fun x5 h => ?_)
          refine K_istore_n (md := mX10_meanBits) (pc := 58) (l' := [(2, .int (iI x5)), (0, .ref (X.1 + 0)), (1, .int (iI p1)), (3, .int (iI v3)), (4, .int (iI v4))]) (kTab_at (pc := 58) tX10_meanBits_ok 30 rfl) (Nat.le_of_ble_eq_true rfl) rfl ?_
          refine K_iinc (md := mX10_meanBits) (pc := 59) (l' := [(3, .int (iI (v3 + 1))), (2, .int (iI x5)), (0, .ref (X.1 + 0)), (1, .int (iI p1)), (4, .int (iI v4))]) 3 (kTab_at (pc := 59) tX10_meanBits_ok 31 rfl) rfl (Nat.le_of_ble_eq_true rfl) rfl ?_
          refine K_sub [2, 3, 1, 0, 4] rfl ?_
          refine c_X10_meanBits_62 X p1 _ ih x5 (v3 + 1) v4 μ h
def f_X10_meanBits (p1 : Int) (μ : Mu) : Option Res := rb (f_X10_requireQuestion p1 μ) fun μ _ => f_X10_meanBits_11 p1 (fun v2 v3 μ => i_eq v3 0 (some (μ, 4, 0)) (d_ck (FP.ddiv (FP.i2d (iI v2)) (4638144666238189568 : UInt64)) fun x1 => d_ck (FP.ddiv x1 (FP.i2d (iI v3))) fun x2 => rb (f_X10_doubleBits x2 μ) fun μ x3 => some (μ, 0, x3))) FU 0 0 0 μ
set_option maxRecDepth 100000 in
theorem c_X10_meanBits (X : kX) (p1 : Int)  (μ : Mu) : Cq X mX10_meanBits 5 2 μ [.ref (X.1 + 0), .int (iI p1)] (f_X10_meanBits p1 μ) := by
  intro res h
  refine ct_of (by decide +kernel) rfl (Nat.le_of_ble_eq_true rfl) ?_
  show KK X mX10_meanBits 5 2 res 0 [(0, .ref (X.1 + 0)), (1, .int (iI p1))] [] μ
  unfold f_X10_meanBits at h
  refine K_iload_n (md := mX10_meanBits) (pc := 0) 1 (kTab_at (pc := 0) tX10_meanBits_ok 0 rfl) rfl ?_
  refine Z_callS (md := mX10_meanBits) (pc := 1) (st := []) (sv := (fun _ => [])) (kTab_at (pc := 1) tX10_meanBits_ok 1 rfl) ms_X10_57 rfl (Nat.le_of_ble_eq_true rfl) (by decide) rfl (c_X10_requireQuestion X p1 μ) (fun _ => rfl) h (fun μ _ h => ?_) rfl
  refine K_iconst (md := mX10_meanBits) (pc := 4) (x := 0) (kTab_at (pc := 4) tX10_meanBits_ok 2 rfl) rfl ?_
  refine K_istore_n (md := mX10_meanBits) (pc := 5) (l' := [(2, .int (iI 0)), (0, .ref (X.1 + 0)), (1, .int (iI p1))]) (kTab_at (pc := 5) tX10_meanBits_ok 3 rfl) (Nat.le_of_ble_eq_true rfl) rfl ?_
  refine K_iconst (md := mX10_meanBits) (pc := 6) (x := 0) (kTab_at (pc := 6) tX10_meanBits_ok 4 rfl) rfl ?_
  refine K_istore_n (md := mX10_meanBits) (pc := 7) (l' := [(3, .int (iI 0)), (2, .int (iI 0)), (0, .ref (X.1 + 0)), (1, .int (iI p1))]) (kTab_at (pc := 7) tX10_meanBits_ok 5 rfl) (Nat.le_of_ble_eq_true rfl) rfl ?_
  refine K_iconst (md := mX10_meanBits) (pc := 8) (x := 0) (kTab_at (pc := 8) tX10_meanBits_ok 6 rfl) rfl ?_
  refine K_istore (md := mX10_meanBits) (pc := 9) (l' := [(4, .int (iI 0)), (3, .int (iI 0)), (2, .int (iI 0)), (0, .ref (X.1 + 0)), (1, .int (iI p1))]) (kTab_at (pc := 9) tX10_meanBits_ok 7 rfl) (Nat.le_of_ble_eq_true rfl) rfl ?_
  refine K_sub [3, 4, 2, 1, 0] rfl ?_
  refine c_X10_meanBits_11 X p1 _ ?_ _ 0 0 0 μ h
  · intro v2 v3 μ h
    refine K_iload_n (md := mX10_meanBits) (pc := 68) 1 (kTab_at (pc := 68) tX10_meanBits_ok 34 rfl) rfl ?_
    refine K_if_ne (md := mX10_meanBits) (pc := 69) (kTab_at (pc := 69) tX10_meanBits_ok 35 rfl) (tgt := 83) rfl h (fun h => ?_) (fun h => ?_)
    · refine K_iload_n (md := mX10_meanBits) (pc := 83) 0 (kTab_at (pc := 83) tX10_meanBits_ok 41 rfl) rfl ?_
      refine K_i2d (md := mX10_meanBits) (pc := 84) (kTab_at (pc := 84) tX10_meanBits_ok 42 rfl) ?_
      refine K_ldc2d (md := mX10_meanBits) (pc := 85) (v := 4638144666238189568) (kTab_at (pc := 85) tX10_meanBits_ok 43 rfl) (inT5 109 (by decide +kernel) rfl) ?_
      refine Z_ddiv (md := mX10_meanBits) (pc := 88) (kTab_at (pc := 88) tX10_meanBits_ok 44 rfl) h (fun x1 h => ?_)
      refine K_iload_n (md := mX10_meanBits) (pc := 89) 1 (kTab_at (pc := 89) tX10_meanBits_ok 45 rfl) rfl ?_
      refine K_i2d (md := mX10_meanBits) (pc := 90) (kTab_at (pc := 90) tX10_meanBits_ok 46 rfl) ?_
      refine Z_ddiv (md := mX10_meanBits) (pc := 91) (kTab_at (pc := 91) tX10_meanBits_ok 47 rfl) h (fun x2 h => ?_)
      refine Z_callS (md := mX10_meanBits) (pc := 92) (st := []) (sv := (fun x3 => [.long (iL x3)])) (kTab_at (pc := 92) tX10_meanBits_ok 48 rfl) ms_X10_354 rfl (Nat.le_of_ble_eq_true rfl) (by decide) rfl (c_X10_doubleBits X x2 μ) (fun _ => rfl) h (fun μ x3 h => ?_) rfl
      exact Z_lret (md := mX10_meanBits) (pc := 95) (kTab_at (pc := 95) tX10_meanBits_ok 49 rfl) rfl rfl h
    · exact Z_thW (md := mX10_meanBits) (pc := 72) (text := "no candidates for the mean") th_3 ck_3 (by decide +kernel) rfl (kTab_at (pc := 72) tX10_meanBits_ok 36 rfl) (kTab_at (pc := 75) tX10_meanBits_ok 37 rfl) (kTab_at (pc := 76) tX10_meanBits_ok 38 rfl) (kTab_at (pc := 79) tX10_meanBits_ok 39 rfl) (kTab_at (pc := 82) tX10_meanBits_ok 40 rfl) h
def f_X10_floatBits_25 (p0 : UInt32)  (s0 : Int) (μ : Mu) : Option Res := some (μ, 0, s0)
set_option maxRecDepth 100000 in
theorem c_X10_floatBits_25 (X : kX) (p0 : UInt32)  {res : Res}  (s0 : Int) (μ : Mu) (h : f_X10_floatBits_25 p0 s0 μ = some res) : KK X mX10_floatBits 1 1 res 25 [] [.int (iI s0)] μ := by
  unfold f_X10_floatBits_25 at h
  exact Z_iret (md := mX10_floatBits) (pc := 25) (kTab_at (pc := 25) tX10_floatBits_ok 16 rfl) rfl rfl rfl h
def f_X10_floatBits (p0 : UInt32) (μ : Mu) : Option Res := d_ck (FP.f2d p0) fun x1 => rb (f_X10_doubleBits x1 μ) fun μ x2 => l_eq x2 0 (f_X10_floatBits_25 p0 0 μ) (f_X10_floatBits_25 p0 ((ushrL x2 29) - 7516192768) μ)
set_option maxRecDepth 100000 in
theorem c_X10_floatBits (X : kX) (p0 : UInt32)  (μ : Mu) : Cq X mX10_floatBits 1 1 μ [.float p0] (f_X10_floatBits p0 μ) := by
  intro res h
  refine ct_of (by decide +kernel) rfl (Nat.le_of_ble_eq_true rfl) ?_
  show KK X mX10_floatBits 1 1 res 0 [(0, .float p0)] [] μ
  unfold f_X10_floatBits at h
  refine K_fload_n (md := mX10_floatBits) (pc := 0) 0 (kTab_at (pc := 0) tX10_floatBits_ok 0 rfl) rfl ?_
  refine Z_f2d (md := mX10_floatBits) (pc := 1) (kTab_at (pc := 1) tX10_floatBits_ok 1 rfl) h (fun x1 h => ?_)
  refine Z_callS (md := mX10_floatBits) (pc := 2) (st := []) (sv := (fun x2 => [.long (iL x2)])) (kTab_at (pc := 2) tX10_floatBits_ok 2 rfl) ms_X10_354 rfl (Nat.le_of_ble_eq_true rfl) (by decide) rfl (c_X10_doubleBits X x1 μ) (fun _ => rfl) h (fun μ x2 h => ?_) rfl
  refine K_lstore_n (md := mX10_floatBits) (pc := 5) (l' := [(1, .long (iL x2)), (0, .float p0)]) (kTab_at (pc := 5) tX10_floatBits_ok 3 rfl) (Nat.le_of_ble_eq_true rfl) rfl ?_
  refine K_lload_n (md := mX10_floatBits) (pc := 6) 0 (kTab_at (pc := 6) tX10_floatBits_ok 4 rfl) rfl ?_
  refine K_lconst (md := mX10_floatBits) (pc := 7) (x := 0) (kTab_at (pc := 7) tX10_floatBits_ok 5 rfl) rfl ?_
  refine K_lcmp_ne (md := mX10_floatBits) (pc := 8) (kTab_at (pc := 8) tX10_floatBits_ok 6 rfl) (kTab_at (pc := 9) tX10_floatBits_ok 7 rfl) (tgt := 16) rfl h (fun h => ?_) (fun h => ?_)
  · refine K_lload_n (md := mX10_floatBits) (pc := 16) 0 (kTab_at (pc := 16) tX10_floatBits_ok 10 rfl) rfl ?_
    refine K_bipush (md := mX10_floatBits) (pc := 17) (x := 29) (kTab_at (pc := 17) tX10_floatBits_ok 11 rfl) (by decide) ?_
    refine K_lushr (md := mX10_floatBits) (pc := 19) (kTab_at (pc := 19) tX10_floatBits_ok 12 rfl) ?_
    refine K_ldc2 (md := mX10_floatBits) (pc := 20) (x := 7516192768) (v := 7516192768) (kTab_at (pc := 20) tX10_floatBits_ok 13 rfl) (inT5 128 (by decide +kernel) rfl) (by decide) ?_
    refine K_lsub (md := mX10_floatBits) (pc := 23) (kTab_at (pc := 23) tX10_floatBits_ok 14 rfl) ?_
    refine K_l2i (md := mX10_floatBits) (pc := 24) (kTab_at (pc := 24) tX10_floatBits_ok 15 rfl) ?_
    refine K_sub [] rfl ?_
    refine c_X10_floatBits_25 X p0  ((ushrL x2 29) - 7516192768) μ h
  · refine K_iconst (md := mX10_floatBits) (pc := 12) (x := 0) (kTab_at (pc := 12) tX10_floatBits_ok 8 rfl) rfl ?_
    refine K_goto (md := mX10_floatBits) (pc := 13) (tgt := 25) (kTab_at (pc := 13) tX10_floatBits_ok 9 rfl) rfl ?_
    refine K_sub [] rfl ?_
    refine c_X10_floatBits_25 X p0  0 μ h
def f_X10_validBits_57 (p1 : Int) (k11 : Int → Int → Int → Mu → Option Res) (v2 : Int) (v3 : Int) (v4 : Int) (μ : Mu) : Option Res := k11 v2 v3 (v4 + 1) μ
set_option maxRecDepth 100000 in
theorem c_X10_validBits_57 (X : kX) (p1 : Int)  {res : Res} (k11 : Int → Int → Int → Mu → Option Res) (hk11 : ∀ (v2 : Int), ∀ (v3 : Int), ∀ (v4 : Int), ∀ (μ : Mu), k11 v2 v3 v4 μ = some res → KK X mX10_validBits 3 1 res 11 [(0, .ref (X.1 + 0)), (1, .int (iI p1)), (2, .int (iI v2)), (3, .int (iI v3)), (4, .int (iI v4))] [] μ) (v2 : Int) (v3 : Int) (v4 : Int) (μ : Mu) (h : f_X10_validBits_57 p1 k11 v2 v3 v4 μ = some res) : KK X mX10_validBits 3 1 res 57 [(0, .ref (X.1 + 0)), (1, .int (iI p1)), (2, .int (iI v2)), (3, .int (iI v3)), (4, .int (iI v4))] [] μ := by
  unfold f_X10_validBits_57 at h
  refine K_iinc (md := mX10_validBits) (pc := 57) (l' := [(4, .int (iI (v4 + 1))), (0, .ref (X.1 + 0)), (1, .int (iI p1)), (2, .int (iI v2)), (3, .int (iI v3))]) 4 (kTab_at (pc := 57) tX10_validBits_ok 30 rfl) rfl (Nat.le_of_ble_eq_true rfl) rfl ?_
  refine K_goto (md := mX10_validBits) (pc := 60) (tgt := 11) (kTab_at (pc := 60) tX10_validBits_ok 31 rfl) rfl ?_
  refine K_sub [1, 2, 3, 4, 0] rfl ?_
  exact hk11 v2 v3 (v4 + 1) μ h
def f_X10_validBits_55 (p1 : Int) (k11 : Int → Int → Int → Mu → Option Res) (v3 : Int) (v4 : Int) (s0 : Int) (s1 : Int) (μ : Mu) : Option Res := bnd (s0 + s1) fun x1 => f_X10_validBits_57 p1 k11 x1 v3 v4 μ
set_option maxRecDepth 100000 in
theorem c_X10_validBits_55 (X : kX) (p1 : Int)  {res : Res} (k11 : Int → Int → Int → Mu → Option Res) (hk11 : ∀ (v2 : Int), ∀ (v3 : Int), ∀ (v4 : Int), ∀ (μ : Mu), k11 v2 v3 v4 μ = some res → KK X mX10_validBits 3 1 res 11 [(0, .ref (X.1 + 0)), (1, .int (iI p1)), (2, .int (iI v2)), (3, .int (iI v3)), (4, .int (iI v4))] [] μ) (v3 : Int) (v4 : Int) (s0 : Int) (s1 : Int) (μ : Mu) (h : f_X10_validBits_55 p1 k11 v3 v4 s0 s1 μ = some res) : KK X mX10_validBits 3 1 res 55 [(0, .ref (X.1 + 0)), (1, .int (iI p1)), (3, .int (iI v3)), (4, .int (iI v4))] [.int (iI s1), .int (iI s0)] μ := by
  unfold f_X10_validBits_55 at h
  refine K_iadd (md := mX10_validBits) (pc := 55) (kTab_at (pc := 55) tX10_validBits_ok 28 rfl) ?_
  refine Z_bnd (md := mX10_validBits) (pc := 56) h (fun x1 h => ?_)
  refine K_istore_n (md := mX10_validBits) (pc := 56) (l' := [(2, .int (iI x1)), (0, .ref (X.1 + 0)), (1, .int (iI p1)), (3, .int (iI v3)), (4, .int (iI v4))]) (kTab_at (pc := 56) tX10_validBits_ok 29 rfl) (Nat.le_of_ble_eq_true rfl) rfl ?_
  refine K_sub [1, 2, 0, 3, 4] rfl ?_
  refine c_X10_validBits_57 X p1 _ hk11 x1 v3 v4 μ h
def f_X10_validBits_11 (p1 : Int) (k63 : Int → Int → Mu → Option Res) : Nat → Int → Int → Int → Mu → Option Res
  | 0, _, _, _, _ => none
  | fu + 1, v2, v3, v4, μ => i_lt v4 120 (rb (f_X3_isBy (1 + 11) p1 v4 μ) fun μ x1 => i_eq x1 0 (f_X10_validBits_57 p1 (f_X10_validBits_11 p1 k63 fu) v2 v3 v4 μ) (rb (f_X1_isValid 1 v4 μ) fun μ x2 => i_eq x2 0 (f_X10_validBits_55 p1 (f_X10_validBits_11 p1 k63 fu) (v3 + 1) v4 v2 0 μ) (f_X10_validBits_55 p1 (f_X10_validBits_11 p1 k63 fu) (v3 + 1) v4 v2 1 μ))) (k63 v2 v3 μ)
set_option maxRecDepth 100000 in
theorem c_X10_validBits_11 (X : kX) (p1 : Int)  {res : Res} (k63 : Int → Int → Mu → Option Res) (hk63 : ∀ (v2 : Int), ∀ (v3 : Int), ∀ (μ : Mu), k63 v2 v3 μ = some res → KK X mX10_validBits 3 1 res 63 [(2, .int (iI v2)), (3, .int (iI v3))] [] μ) : ∀ (fu : Nat)  (v2 : Int) (v3 : Int) (v4 : Int) (μ : Mu), f_X10_validBits_11 p1 k63 fu v2 v3 v4 μ = some res → KK X mX10_validBits 3 1 res 11 [(0, .ref (X.1 + 0)), (1, .int (iI p1)), (2, .int (iI v2)), (3, .int (iI v3)), (4, .int (iI v4))] [] μ := by
  intro fu
  induction fu with
  | zero => intro v2 v3 v4 μ h; exact nomatch h
  | succ fu ih =>
    intro v2 v3 v4 μ h
    refine K_iload (md := mX10_validBits) (pc := 11) 4 (kTab_at (pc := 11) tX10_validBits_ok 8 rfl) rfl ?_
    refine K_bipush (md := mX10_validBits) (pc := 13) (x := 120) (kTab_at (pc := 13) tX10_validBits_ok 9 rfl) (by decide) ?_
    refine K_icmp_ge (md := mX10_validBits) (pc := 15) (kTab_at (pc := 15) tX10_validBits_ok 10 rfl) (tgt := 63) rfl h (fun h => ?_) (fun h => ?_)
    · refine K_sub [2, 3] rfl ?_
      exact hk63 v2 v3 μ h
    · refine K_aload_n (md := mX10_validBits) (pc := 18) 0 (kTab_at (pc := 18) tX10_validBits_ok 11 rfl) rfl ?_
      refine K_getR (md := mX10_validBits) (pc := 19) (b := 1) (kTab_at (pc := 19) tX10_validBits_ok 12 rfl) fl_X10_12 sk_0 rfl rfl ?_
      refine K_getR (md := mX10_validBits) (pc := 22) (b := (1 + 11)) (kTab_at (pc := 22) tX10_validBits_ok 13 rfl) fl_X10_203 (lay_0 lay_now rfl) rfl rfl ?_
      refine K_iload_n (md := mX10_validBits) (pc := 25) 1 (kTab_at (pc := 25) tX10_validBits_ok 14 rfl) rfl ?_
      refine K_iload (md := mX10_validBits) (pc := 26) 4 (kTab_at (pc := 26) tX10_validBits_ok 15 rfl) rfl ?_
      refine Z_callV (md := mX10_validBits) (pc := 28) (st := []) (sv := (fun x1 => [.int (iI x1)])) (kTab_at (pc := 28) tX10_validBits_ok 16 rfl) mv_X10_358 (lay_0 (lay_entries lay_now) rfl) rfl (Nat.le_of_ble_eq_true rfl) (by decide) rfl (c_X3_isBy X (1 + 11) p1 v4 (lay_entries lay_now) μ) (fun _ => rfl) h (fun μ x1 h => ?_) rfl
      refine K_if_eq (md := mX10_validBits) (pc := 31) (kTab_at (pc := 31) tX10_validBits_ok 17 rfl) (tgt := 57) rfl h (fun h => ?_) (fun h => ?_)
      · refine c_X10_validBits_57 X p1 _ ih v2 v3 v4 μ h
      · refine K_iinc (md := mX10_validBits) (pc := 34) (l' := [(3, .int (iI (v3 + 1))), (0, .ref (X.1 + 0)), (1, .int (iI p1)), (2, .int (iI v2)), (4, .int (iI v4))]) 3 (kTab_at (pc := 34) tX10_validBits_ok 18 rfl) rfl (Nat.le_of_ble_eq_true rfl) rfl ?_
        refine K_iload_n (md := mX10_validBits) (pc := 37) 3 (kTab_at (pc := 37) tX10_validBits_ok 19 rfl) rfl ?_
        refine K_aload_n (md := mX10_validBits) (pc := 38) 1 (kTab_at (pc := 38) tX10_validBits_ok 20 rfl) rfl ?_
        refine K_getR (md := mX10_validBits) (pc := 39) (b := 1) (kTab_at (pc := 39) tX10_validBits_ok 21 rfl) fl_X10_12 sk_0 rfl rfl ?_
        refine K_iload (md := mX10_validBits) (pc := 42) 4 (kTab_at (pc := 42) tX10_validBits_ok 22 rfl) rfl ?_
        refine Z_callV (md := mX10_validBits) (pc := 44) (st := [.int (iI v2)]) (sv := (fun x2 => [.int (iI x2), .int (iI v2)])) (kTab_at (pc := 44) tX10_validBits_ok 23 rfl) mv_X10_221 (lay_0 lay_now rfl) rfl (Nat.le_of_ble_eq_true rfl) (by decide) rfl (c_X1_isValid X 1 v4 lay_now μ) (fun _ => rfl) h (fun μ x2 h => ?_) rfl
        refine K_if_eq (md := mX10_validBits) (pc := 47) (kTab_at (pc := 47) tX10_validBits_ok 24 rfl) (tgt := 54) rfl h (fun h => ?_) (fun h => ?_)
        · refine K_iconst (md := mX10_validBits) (pc := 54) (x := 0) (kTab_at (pc := 54) tX10_validBits_ok 27 rfl) rfl ?_
          refine K_sub [1, 2, 0, 4] rfl ?_
          refine c_X10_validBits_55 X p1 _ ih (v3 + 1) v4 v2 0 μ h
        · refine K_iconst (md := mX10_validBits) (pc := 50) (x := 1) (kTab_at (pc := 50) tX10_validBits_ok 25 rfl) rfl ?_
          refine K_goto (md := mX10_validBits) (pc := 51) (tgt := 55) (kTab_at (pc := 51) tX10_validBits_ok 26 rfl) rfl ?_
          refine K_sub [1, 2, 0, 4] rfl ?_
          refine c_X10_validBits_55 X p1 _ ih (v3 + 1) v4 v2 1 μ h
def f_X10_validBits (p1 : Int) (μ : Mu) : Option Res := rb (f_X10_requireMarker p1 μ) fun μ _ => f_X10_validBits_11 p1 (fun v2 v3 μ => i_eq v3 0 (some (μ, 4, 0)) (f_ck (FP.fdiv (FP.i2f (iI v2)) (FP.i2f (iI v3))) fun x1 => rb (f_X10_floatBits x1 μ) fun μ x2 => some (μ, 0, x2))) FU 0 0 0 μ
set_option maxRecDepth 100000 in
theorem c_X10_validBits (X : kX) (p1 : Int)  (μ : Mu) : Cq X mX10_validBits 3 1 μ [.ref (X.1 + 0), .int (iI p1)] (f_X10_validBits p1 μ) := by
  intro res h
  refine ct_of (by decide +kernel) rfl (Nat.le_of_ble_eq_true rfl) ?_
  show KK X mX10_validBits 3 1 res 0 [(0, .ref (X.1 + 0)), (1, .int (iI p1))] [] μ
  unfold f_X10_validBits at h
  refine K_iload_n (md := mX10_validBits) (pc := 0) 1 (kTab_at (pc := 0) tX10_validBits_ok 0 rfl) rfl ?_
  refine Z_callS (md := mX10_validBits) (pc := 1) (st := []) (sv := (fun _ => [])) (kTab_at (pc := 1) tX10_validBits_ok 1 rfl) ms_X10_116 rfl (Nat.le_of_ble_eq_true rfl) (by decide) rfl (c_X10_requireMarker X p1 μ) (fun _ => rfl) h (fun μ _ h => ?_) rfl
  refine K_iconst (md := mX10_validBits) (pc := 4) (x := 0) (kTab_at (pc := 4) tX10_validBits_ok 2 rfl) rfl ?_
  refine K_istore_n (md := mX10_validBits) (pc := 5) (l' := [(2, .int (iI 0)), (0, .ref (X.1 + 0)), (1, .int (iI p1))]) (kTab_at (pc := 5) tX10_validBits_ok 3 rfl) (Nat.le_of_ble_eq_true rfl) rfl ?_
  refine K_iconst (md := mX10_validBits) (pc := 6) (x := 0) (kTab_at (pc := 6) tX10_validBits_ok 4 rfl) rfl ?_
  refine K_istore_n (md := mX10_validBits) (pc := 7) (l' := [(3, .int (iI 0)), (2, .int (iI 0)), (0, .ref (X.1 + 0)), (1, .int (iI p1))]) (kTab_at (pc := 7) tX10_validBits_ok 5 rfl) (Nat.le_of_ble_eq_true rfl) rfl ?_
  refine K_iconst (md := mX10_validBits) (pc := 8) (x := 0) (kTab_at (pc := 8) tX10_validBits_ok 6 rfl) rfl ?_
  refine K_istore (md := mX10_validBits) (pc := 9) (l' := [(4, .int (iI 0)), (3, .int (iI 0)), (2, .int (iI 0)), (0, .ref (X.1 + 0)), (1, .int (iI p1))]) (kTab_at (pc := 9) tX10_validBits_ok 7 rfl) (Nat.le_of_ble_eq_true rfl) rfl ?_
  refine K_sub [3, 4, 2, 1, 0] rfl ?_
  refine c_X10_validBits_11 X p1 _ ?_ _ 0 0 0 μ h
  · intro v2 v3 μ h
    refine K_iload_n (md := mX10_validBits) (pc := 63) 1 (kTab_at (pc := 63) tX10_validBits_ok 32 rfl) rfl ?_
    refine K_if_ne (md := mX10_validBits) (pc := 64) (kTab_at (pc := 64) tX10_validBits_ok 33 rfl) (tgt := 78) rfl h (fun h => ?_) (fun h => ?_)
    · refine K_iload_n (md := mX10_validBits) (pc := 78) 0 (kTab_at (pc := 78) tX10_validBits_ok 39 rfl) rfl ?_
      refine K_i2f (md := mX10_validBits) (pc := 79) (kTab_at (pc := 79) tX10_validBits_ok 40 rfl) ?_
      refine K_iload_n (md := mX10_validBits) (pc := 80) 1 (kTab_at (pc := 80) tX10_validBits_ok 41 rfl) rfl ?_
      refine K_i2f (md := mX10_validBits) (pc := 81) (kTab_at (pc := 81) tX10_validBits_ok 42 rfl) ?_
      refine Z_fdiv (md := mX10_validBits) (pc := 82) (kTab_at (pc := 82) tX10_validBits_ok 43 rfl) h (fun x1 h => ?_)
      refine Z_callS (md := mX10_validBits) (pc := 83) (st := []) (sv := (fun x2 => [.int (iI x2)])) (kTab_at (pc := 83) tX10_validBits_ok 44 rfl) ms_X10_363 rfl (Nat.le_of_ble_eq_true rfl) (by decide) rfl (c_X10_floatBits X x1 μ) (fun _ => rfl) h (fun μ x2 h => ?_) rfl
      exact Z_iret (md := mX10_validBits) (pc := 86) (kTab_at (pc := 86) tX10_validBits_ok 45 rfl) rfl rfl rfl h
    · exact Z_thW (md := mX10_validBits) (pc := 67) (text := "no entries for the share") th_3 ck_3 (by decide +kernel) rfl (kTab_at (pc := 67) tX10_validBits_ok 34 rfl) (kTab_at (pc := 70) tX10_validBits_ok 35 rfl) (kTab_at (pc := 71) tX10_validBits_ok 36 rfl) (kTab_at (pc := 74) tX10_validBits_ok 37 rfl) (kTab_at (pc := 77) tX10_validBits_ok 38 rfl) h
def f_X10_refusesPublication_84  (k2 : Int → Mu → Option Res) (v1 : Int) (μ : Mu) : Option Res := k2 (v1 + 1) μ
set_option maxRecDepth 100000 in
theorem c_X10_refusesPublication_84 (X : kX)   {res : Res} (k2 : Int → Mu → Option Res) (hk2 : ∀ (v1 : Int), ∀ (μ : Mu), k2 v1 μ = some res → KK X mX10_refusesPublication 5 1 res 2 [(0, .ref (X.1 + 0)), (1, .int (iI v1))] [] μ) (v1 : Int) (μ : Mu) (h : f_X10_refusesPublication_84 k2 v1 μ = some res) : KK X mX10_refusesPublication 5 1 res 84 [(0, .ref (X.1 + 0)), (1, .int (iI v1))] [] μ := by
  unfold f_X10_refusesPublication_84 at h
  refine K_iinc (md := mX10_refusesPublication) (pc := 84) (l' := [(1, .int (iI (v1 + 1))), (0, .ref (X.1 + 0))]) 1 (kTab_at (pc := 84) tX10_refusesPublication_ok 45 rfl) rfl (Nat.le_of_ble_eq_true rfl) rfl ?_
  refine K_goto (md := mX10_refusesPublication) (pc := 87) (tgt := 2) (kTab_at (pc := 87) tX10_refusesPublication_ok 46 rfl) rfl ?_
  refine K_sub [1, 0] rfl ?_
  exact hk2 (v1 + 1) μ h
def f_X10_refusesPublication_78  (k10 : Int → Int → Mu → Option Res) (v1 : Int) (v2 : Int) (μ : Mu) : Option Res := k10 v1 (v2 + 1) μ
set_option maxRecDepth 100000 in
theorem c_X10_refusesPublication_78 (X : kX)   {res : Res} (k10 : Int → Int → Mu → Option Res) (hk10 : ∀ (v1 : Int), ∀ (v2 : Int), ∀ (μ : Mu), k10 v1 v2 μ = some res → KK X mX10_refusesPublication 5 1 res 10 [(0, .ref (X.1 + 0)), (1, .int (iI v1)), (2, .int (iI v2))] [] μ) (v1 : Int) (v2 : Int) (μ : Mu) (h : f_X10_refusesPublication_78 k10 v1 v2 μ = some res) : KK X mX10_refusesPublication 5 1 res 78 [(0, .ref (X.1 + 0)), (1, .int (iI v1)), (2, .int (iI v2))] [] μ := by
  unfold f_X10_refusesPublication_78 at h
  refine K_iinc (md := mX10_refusesPublication) (pc := 78) (l' := [(2, .int (iI (v2 + 1))), (0, .ref (X.1 + 0)), (1, .int (iI v1))]) 2 (kTab_at (pc := 78) tX10_refusesPublication_ok 43 rfl) rfl (Nat.le_of_ble_eq_true rfl) rfl ?_
  refine K_goto (md := mX10_refusesPublication) (pc := 81) (tgt := 10) (kTab_at (pc := 81) tX10_refusesPublication_ok 44 rfl) rfl ?_
  refine K_sub [1, 2, 0] rfl ?_
  exact hk10 v1 (v2 + 1) μ h
def f_X10_refusesPublication_73   (v2 : Int) (s1 : Int) (s2 : Int) (s3 : Int) (μ : Mu) : Option Res := rb (f_X6_tell s1 s2 s3 v2 μ) fun μ x1 => retZ μ x1
set_option maxRecDepth 100000 in
theorem c_X10_refusesPublication_73 (X : kX)   {res : Res}  (v2 : Int) (s1 : Int) (s2 : Int) (s3 : Int) (μ : Mu) (h : f_X10_refusesPublication_73 v2 s1 s2 s3 μ = some res) : KK X mX10_refusesPublication 5 1 res 73 [(2, .int (iI v2))] [.int (iI s3), .int (iI s2), .int (iI s1), .ref (X.1 + 223)] μ := by
  unfold f_X10_refusesPublication_73 at h
  refine K_iload_n (md := mX10_refusesPublication) (pc := 73) 0 (kTab_at (pc := 73) tX10_refusesPublication_ok 40 rfl) rfl ?_
  refine Z_callV (md := mX10_refusesPublication) (pc := 74) (st := []) (sv := (fun x1 => [.int (iI x1)])) (kTab_at (pc := 74) tX10_refusesPublication_ok 41 rfl) mv_X10_474 sk_223 rfl (Nat.le_of_ble_eq_true rfl) (by decide) rfl (c_X6_tell X s1 s2 s3 v2 μ) (fun _ => rfl) h (fun μ x1 h => ?_) rfl
  exact Z_zret (md := mX10_refusesPublication) (pc := 77) (kTab_at (pc := 77) tX10_refusesPublication_ok 42 rfl) rfl rfl h
def f_X10_refusesPublication_10  (k55 : Int → Int → Int → Mu → Option Res) (k84 : Int → Mu → Option Res) : Nat → Int → Int → Mu → Option Res
  | 0, _, _, _ => none
  | fu + 1, v1, v2, μ => i_lt v2 5 (rb (f_X1_hasGrade 1 v1 μ) fun μ x1 => i_eq x1 0 (k84 v1 μ) (rb (f_X10_scriptOf v1 v2 μ) fun μ x2 => rb (f_X1_standingOf 1 x2 μ) fun μ x3 => i_eq x3 0 (f_X10_refusesPublication_78 (f_X10_refusesPublication_10 k55 k84 fu) v1 v2 μ) (rb (f_X1_isExcused 1 v1 v2 μ) fun μ x4 => i_eq x4 0 (k55 v1 v2 x3 μ) (f_X10_refusesPublication_78 (f_X10_refusesPublication_10 k55 k84 fu) v1 v2 μ)))) (k84 v1 μ)
set_option maxRecDepth 100000 in
theorem c_X10_refusesPublication_10 (X : kX)   {res : Res} (k55 : Int → Int → Int → Mu → Option Res) (hk55 : ∀ (v1 : Int), ∀ (v2 : Int), ∀ (v3 : Int), ∀ (μ : Mu), k55 v1 v2 v3 μ = some res → KK X mX10_refusesPublication 5 1 res 55 [(0, .ref (X.1 + 0)), (1, .int (iI v1)), (2, .int (iI v2)), (3, .int (iI v3))] [] μ) (k84 : Int → Mu → Option Res) (hk84 : ∀ (v1 : Int), ∀ (μ : Mu), k84 v1 μ = some res → KK X mX10_refusesPublication 5 1 res 84 [(0, .ref (X.1 + 0)), (1, .int (iI v1))] [] μ) : ∀ (fu : Nat)  (v1 : Int) (v2 : Int) (μ : Mu), f_X10_refusesPublication_10 k55 k84 fu v1 v2 μ = some res → KK X mX10_refusesPublication 5 1 res 10 [(0, .ref (X.1 + 0)), (1, .int (iI v1)), (2, .int (iI v2))] [] μ := by
  intro fu
  induction fu with
  | zero => intro v1 v2 μ h; exact nomatch h
  | succ fu ih =>
    intro v1 v2 μ h
    refine K_iload_n (md := mX10_refusesPublication) (pc := 10) 2 (kTab_at (pc := 10) tX10_refusesPublication_ok 7 rfl) rfl ?_
    refine K_iconst (md := mX10_refusesPublication) (pc := 11) (x := 5) (kTab_at (pc := 11) tX10_refusesPublication_ok 8 rfl) rfl ?_
    refine K_icmp_ge (md := mX10_refusesPublication) (pc := 12) (kTab_at (pc := 12) tX10_refusesPublication_ok 9 rfl) (tgt := 84) rfl h (fun h => ?_) (fun h => ?_)
    · refine K_sub [0, 1] rfl ?_
      exact hk84 v1 μ h
    · refine K_aload_n (md := mX10_refusesPublication) (pc := 15) 0 (kTab_at (pc := 15) tX10_refusesPublication_ok 10 rfl) rfl ?_
      refine K_getR (md := mX10_refusesPublication) (pc := 16) (b := 1) (kTab_at (pc := 16) tX10_refusesPublication_ok 11 rfl) fl_X10_12 sk_0 rfl rfl ?_
      refine K_iload_n (md := mX10_refusesPublication) (pc := 19) 1 (kTab_at (pc := 19) tX10_refusesPublication_ok 12 rfl) rfl ?_
      refine Z_callV (md := mX10_refusesPublication) (pc := 20) (st := []) (sv := (fun x1 => [.int (iI x1)])) (kTab_at (pc := 20) tX10_refusesPublication_ok 13 rfl) mv_X10_330 (lay_0 lay_now rfl) rfl (Nat.le_of_ble_eq_true rfl) (by decide) rfl (c_X1_hasGrade X 1 v1 lay_now μ) (fun _ => rfl) h (fun μ x1 h => ?_) rfl
      refine K_if_eq (md := mX10_refusesPublication) (pc := 23) (kTab_at (pc := 23) tX10_refusesPublication_ok 14 rfl) (tgt := 84) rfl h (fun h => ?_) (fun h => ?_)
      · refine K_sub [0, 1] rfl ?_
        exact hk84 v1 μ h
      · refine K_aload_n (md := mX10_refusesPublication) (pc := 26) 0 (kTab_at (pc := 26) tX10_refusesPublication_ok 15 rfl) rfl ?_
        refine K_getR (md := mX10_refusesPublication) (pc := 27) (b := 1) (kTab_at (pc := 27) tX10_refusesPublication_ok 16 rfl) fl_X10_12 sk_0 rfl rfl ?_
        refine K_iload_n (md := mX10_refusesPublication) (pc := 30) 1 (kTab_at (pc := 30) tX10_refusesPublication_ok 17 rfl) rfl ?_
        refine K_iload_n (md := mX10_refusesPublication) (pc := 31) 2 (kTab_at (pc := 31) tX10_refusesPublication_ok 18 rfl) rfl ?_
        refine Z_callS (md := mX10_refusesPublication) (pc := 32) (st := [.ref (X.1 + 1)]) (sv := (fun x2 => [.int (iI x2), .ref (X.1 + 1)])) (kTab_at (pc := 32) tX10_refusesPublication_ok 19 rfl) ms_X10_148 rfl (Nat.le_of_ble_eq_true rfl) (by decide) rfl (c_X10_scriptOf X v1 v2 μ) (fun _ => rfl) h (fun μ x2 h => ?_) rfl
        refine Z_callV (md := mX10_refusesPublication) (pc := 35) (st := []) (sv := (fun x3 => [.int (iI x3)])) (kTab_at (pc := 35) tX10_refusesPublication_ok 20 rfl) mv_X10_231 (lay_0 lay_now rfl) rfl (Nat.le_of_ble_eq_true rfl) (by decide) rfl (c_X1_standingOf X 1 x2 lay_now μ) (fun _ => rfl) h (fun μ x3 h => ?_) rfl
        refine K_istore_n (md := mX10_refusesPublication) (pc := 38) (l' := [(3, .int (iI x3)), (0, .ref (X.1 + 0)), (1, .int (iI v1)), (2, .int (iI v2))]) (kTab_at (pc := 38) tX10_refusesPublication_ok 21 rfl) (Nat.le_of_ble_eq_true rfl) rfl ?_
        refine K_iload_n (md := mX10_refusesPublication) (pc := 39) 0 (kTab_at (pc := 39) tX10_refusesPublication_ok 22 rfl) rfl ?_
        refine K_if_eq (md := mX10_refusesPublication) (pc := 40) (kTab_at (pc := 40) tX10_refusesPublication_ok 23 rfl) (tgt := 78) rfl h (fun h => ?_) (fun h => ?_)
        · refine K_sub [1, 2, 3] rfl ?_
          refine c_X10_refusesPublication_78 X  _ ih v1 v2 μ h
        · refine K_aload_n (md := mX10_refusesPublication) (pc := 43) 1 (kTab_at (pc := 43) tX10_refusesPublication_ok 24 rfl) rfl ?_
          refine K_getR (md := mX10_refusesPublication) (pc := 44) (b := 1) (kTab_at (pc := 44) tX10_refusesPublication_ok 25 rfl) fl_X10_12 sk_0 rfl rfl ?_
          refine K_iload_n (md := mX10_refusesPublication) (pc := 47) 2 (kTab_at (pc := 47) tX10_refusesPublication_ok 26 rfl) rfl ?_
          refine K_iload_n (md := mX10_refusesPublication) (pc := 48) 3 (kTab_at (pc := 48) tX10_refusesPublication_ok 27 rfl) rfl ?_
          refine Z_callV (md := mX10_refusesPublication) (pc := 49) (st := []) (sv := (fun x4 => [.int (iI x4)])) (kTab_at (pc := 49) tX10_refusesPublication_ok 28 rfl) mv_X10_243 (lay_0 lay_now rfl) rfl (Nat.le_of_ble_eq_true rfl) (by decide) rfl (c_X1_isExcused X 1 v1 v2 lay_now μ) (fun _ => rfl) h (fun μ x4 h => ?_) rfl
          refine K_if_ne (md := mX10_refusesPublication) (pc := 52) (kTab_at (pc := 52) tX10_refusesPublication_ok 29 rfl) (tgt := 78) rfl h (fun h => ?_) (fun h => ?_)
          · refine K_sub [1, 2, 3] rfl ?_
            refine c_X10_refusesPublication_78 X  _ ih v1 v2 μ h
          · refine K_sub [1, 2, 3, 0] rfl ?_
            exact hk55 v1 v2 x3 μ h
def f_X10_refusesPublication_2  (k55 : Int → Int → Int → Mu → Option Res) (k90 : Mu → Option Res) : Nat → Int → Mu → Option Res
  | 0, _, _ => none
  | fu + 1, v1, μ => i_lt v1 8 (f_X10_refusesPublication_10 k55 (fun v1 μ => f_X10_refusesPublication_84 (f_X10_refusesPublication_2 k55 k90 fu) v1 μ) FU v1 0 μ) (k90 μ)
set_option maxRecDepth 100000 in
theorem c_X10_refusesPublication_2 (X : kX)   {res : Res} (k55 : Int → Int → Int → Mu → Option Res) (hk55 : ∀ (v1 : Int), ∀ (v2 : Int), ∀ (v3 : Int), ∀ (μ : Mu), k55 v1 v2 v3 μ = some res → KK X mX10_refusesPublication 5 1 res 55 [(0, .ref (X.1 + 0)), (1, .int (iI v1)), (2, .int (iI v2)), (3, .int (iI v3))] [] μ) (k90 : Mu → Option Res) (hk90 : ∀ (μ : Mu), k90 μ = some res → KK X mX10_refusesPublication 5 1 res 90 [] [] μ) : ∀ (fu : Nat)  (v1 : Int) (μ : Mu), f_X10_refusesPublication_2 k55 k90 fu v1 μ = some res → KK X mX10_refusesPublication 5 1 res 2 [(0, .ref (X.1 + 0)), (1, .int (iI v1))] [] μ := by
  intro fu
  induction fu with
  | zero => intro v1 μ h; exact nomatch h
  | succ fu ih =>
    intro v1 μ h
    refine K_iload_n (md := mX10_refusesPublication) (pc := 2) 1 (kTab_at (pc := 2) tX10_refusesPublication_ok 2 rfl) rfl ?_
    refine K_bipush (md := mX10_refusesPublication) (pc := 3) (x := 8) (kTab_at (pc := 3) tX10_refusesPublication_ok 3 rfl) (by decide) ?_
    refine K_icmp_ge (md := mX10_refusesPublication) (pc := 5) (kTab_at (pc := 5) tX10_refusesPublication_ok 4 rfl) (tgt := 90) rfl h (fun h => ?_) (fun h => ?_)
    · refine K_sub [] rfl ?_
      exact hk90 μ h
    · refine K_iconst (md := mX10_refusesPublication) (pc := 8) (x := 0) (kTab_at (pc := 8) tX10_refusesPublication_ok 5 rfl) rfl ?_
      refine K_istore_n (md := mX10_refusesPublication) (pc := 9) (l' := [(2, .int (iI 0)), (0, .ref (X.1 + 0)), (1, .int (iI v1))]) (kTab_at (pc := 9) tX10_refusesPublication_ok 6 rfl) (Nat.le_of_ble_eq_true rfl) rfl ?_
      refine K_sub [1, 2, 0] rfl ?_
      refine c_X10_refusesPublication_10 X  _ hk55 _ ?_ _ v1 0 μ h
      · intro v1 μ h
        refine c_X10_refusesPublication_84 X  _ ih v1 μ h
def f_X10_refusesPublication  (μ : Mu) : Option Res := f_X10_refusesPublication_2 (fun v1 v2 v3 μ => i_eq v3 1 (f_X10_refusesPublication_73 v2 2 v1 21 μ) (f_X10_refusesPublication_73 v2 2 v1 22 μ)) (fun μ => retZ μ 0) FU 0 μ
set_option maxRecDepth 100000 in
theorem c_X10_refusesPublication (X : kX)   (μ : Mu) : Cq X mX10_refusesPublication 5 1 μ [.ref (X.1 + 0)] (f_X10_refusesPublication  μ) := by
  intro res h
  refine ct_of (by decide +kernel) rfl (Nat.le_of_ble_eq_true rfl) ?_
  show KK X mX10_refusesPublication 5 1 res 0 [(0, .ref (X.1 + 0))] [] μ
  unfold f_X10_refusesPublication at h
  refine K_iconst (md := mX10_refusesPublication) (pc := 0) (x := 0) (kTab_at (pc := 0) tX10_refusesPublication_ok 0 rfl) rfl ?_
  refine K_istore_n (md := mX10_refusesPublication) (pc := 1) (l' := [(1, .int (iI 0)), (0, .ref (X.1 + 0))]) (kTab_at (pc := 1) tX10_refusesPublication_ok 1 rfl) (Nat.le_of_ble_eq_true rfl) rfl ?_
  refine K_sub [1, 0] rfl ?_
  refine c_X10_refusesPublication_2 X  _ ?_ _ ?_ _ 0 μ h
  · intro v1 v2 v3 μ h
    refine K_aload_n (md := mX10_refusesPublication) (pc := 55) 0 (kTab_at (pc := 55) tX10_refusesPublication_ok 30 rfl) rfl ?_
    refine K_getR (md := mX10_refusesPublication) (pc := 56) (b := 223) (kTab_at (pc := 56) tX10_refusesPublication_ok 31 rfl) fl_X10_39 sk_0 rfl rfl ?_
    refine K_iconst (md := mX10_refusesPublication) (pc := 59) (x := 2) (kTab_at (pc := 59) tX10_refusesPublication_ok 32 rfl) rfl ?_
    refine K_iload_n (md := mX10_refusesPublication) (pc := 60) 1 (kTab_at (pc := 60) tX10_refusesPublication_ok 33 rfl) rfl ?_
    refine K_iload_n (md := mX10_refusesPublication) (pc := 61) 3 (kTab_at (pc := 61) tX10_refusesPublication_ok 34 rfl) rfl ?_
    refine K_iconst (md := mX10_refusesPublication) (pc := 62) (x := 1) (kTab_at (pc := 62) tX10_refusesPublication_ok 35 rfl) rfl ?_
    refine K_icmp_ne (md := mX10_refusesPublication) (pc := 63) (kTab_at (pc := 63) tX10_refusesPublication_ok 36 rfl) (tgt := 71) rfl h (fun h => ?_) (fun h => ?_)
    · refine K_bipush (md := mX10_refusesPublication) (pc := 71) (x := 22) (kTab_at (pc := 71) tX10_refusesPublication_ok 39 rfl) (by decide) ?_
      refine K_sub [2] rfl ?_
      refine c_X10_refusesPublication_73 X   v2 2 v1 22 μ h
    · refine K_bipush (md := mX10_refusesPublication) (pc := 66) (x := 21) (kTab_at (pc := 66) tX10_refusesPublication_ok 37 rfl) (by decide) ?_
      refine K_goto (md := mX10_refusesPublication) (pc := 68) (tgt := 73) (kTab_at (pc := 68) tX10_refusesPublication_ok 38 rfl) rfl ?_
      refine K_sub [2] rfl ?_
      refine c_X10_refusesPublication_73 X   v2 2 v1 21 μ h
  · intro  μ h
    refine K_iconst (md := mX10_refusesPublication) (pc := 90) (x := 0) (kTab_at (pc := 90) tX10_refusesPublication_ok 47 rfl) rfl ?_
    exact Z_zret (md := mX10_refusesPublication) (pc := 91) (kTab_at (pc := 91) tX10_refusesPublication_ok 48 rfl) rfl rfl h
def f_X10_publish  (μ : Mu) : Option Res := rdF μ 1 10 fun x1 => i_eq x1 0 (rb (f_X10_refusesPublication μ) fun μ x2 => i_eq x2 0 (rb (f_X4_keep 1 μ) fun μ _ => wrZ μ 1 10 1 fun μ => rb (f_X1_gradedCandidates 1 μ) fun μ x3 => some (μ, 0, x3)) (some (μ, 5, 0))) (some (μ, 1, 0))
set_option maxRecDepth 100000 in
theorem c_X10_publish (X : kX)   (μ : Mu) : Cq X mX10_publish 6 1 μ [.ref (X.1 + 0)] (f_X10_publish  μ) := by
  intro res h
  refine ct_of (by decide +kernel) rfl (Nat.le_of_ble_eq_true rfl) ?_
  show KK X mX10_publish 6 1 res 0 [(0, .ref (X.1 + 0))] [] μ
  unfold f_X10_publish at h
  refine K_aload_n (md := mX10_publish) (pc := 0) 0 (kTab_at (pc := 0) tX10_publish_ok 0 rfl) rfl ?_
  refine K_getR (md := mX10_publish) (pc := 1) (b := 1) (kTab_at (pc := 1) tX10_publish_ok 1 rfl) fl_X10_12 sk_0 rfl rfl ?_
  refine Z_getI (md := mX10_publish) (pc := 4) (kTab_at (pc := 4) tX10_publish_ok 2 rfl) fl_X10_367 (lay_0 lay_now rfl) (Or.inr rfl) h (fun x1 h => ?_)
  refine K_if_eq (md := mX10_publish) (pc := 7) (kTab_at (pc := 7) tX10_publish_ok 3 rfl) (tgt := 21) rfl h (fun h => ?_) (fun h => ?_)
  · refine K_aload_n (md := mX10_publish) (pc := 21) 0 (kTab_at (pc := 21) tX10_publish_ok 9 rfl) rfl ?_
    refine Z_callV (md := mX10_publish) (pc := 22) (st := []) (sv := (fun x2 => [.int (iI x2)])) (kTab_at (pc := 22) tX10_publish_ok 10 rfl) mv_X10_373 sk_0 rfl (Nat.le_of_ble_eq_true rfl) (by decide) rfl (c_X10_refusesPublication X μ) (fun _ => rfl) h (fun μ x2 h => ?_) rfl
    refine K_if_eq (md := mX10_publish) (pc := 25) (kTab_at (pc := 25) tX10_publish_ok 11 rfl) (tgt := 39) rfl h (fun h => ?_) (fun h => ?_)
    · refine K_aload_n (md := mX10_publish) (pc := 39) 0 (kTab_at (pc := 39) tX10_publish_ok 17 rfl) rfl ?_
      refine K_getR (md := mX10_publish) (pc := 40) (b := 73) (kTab_at (pc := 40) tX10_publish_ok 18 rfl) fl_X10_25 sk_0 rfl rfl ?_
      refine K_aload_n (md := mX10_publish) (pc := 43) 0 (kTab_at (pc := 43) tX10_publish_ok 19 rfl) rfl ?_
      refine K_getR (md := mX10_publish) (pc := 44) (b := 1) (kTab_at (pc := 44) tX10_publish_ok 20 rfl) fl_X10_12 sk_0 rfl rfl ?_
      refine Z_callV (md := mX10_publish) (pc := 47) (st := []) (sv := (fun _ => [])) (kTab_at (pc := 47) tX10_publish_ok 21 rfl) mv_X10_83 sk_73 rfl (Nat.le_of_ble_eq_true rfl) (by decide) rfl (c_X4_keep X 1 lay_now μ) (fun _ => rfl) h (fun μ _ h => ?_) rfl
      refine K_aload_n (md := mX10_publish) (pc := 50) 0 (kTab_at (pc := 50) tX10_publish_ok 22 rfl) rfl ?_
      refine K_getR (md := mX10_publish) (pc := 51) (b := 1) (kTab_at (pc := 51) tX10_publish_ok 23 rfl) fl_X10_12 sk_0 rfl rfl ?_
      refine K_iconst (md := mX10_publish) (pc := 54) (x := 1) (kTab_at (pc := 54) tX10_publish_ok 24 rfl) rfl ?_
      refine Z_putZ (md := mX10_publish) (pc := 55) (kTab_at (pc := 55) tX10_publish_ok 25 rfl) fl_X10_367 (lay_0 lay_now rfl) rfl h (fun μ h => ?_)
      refine K_aload_n (md := mX10_publish) (pc := 58) 0 (kTab_at (pc := 58) tX10_publish_ok 26 rfl) rfl ?_
      refine K_getR (md := mX10_publish) (pc := 59) (b := 1) (kTab_at (pc := 59) tX10_publish_ok 27 rfl) fl_X10_12 sk_0 rfl rfl ?_
      refine Z_callV (md := mX10_publish) (pc := 62) (st := []) (sv := (fun x3 => [.int (iI x3)])) (kTab_at (pc := 62) tX10_publish_ok 28 rfl) mv_X10_379 (lay_0 lay_now rfl) rfl (Nat.le_of_ble_eq_true rfl) (by decide) rfl (c_X1_gradedCandidates X 1 lay_now μ) (fun _ => rfl) h (fun μ x3 h => ?_) rfl
      exact Z_iret (md := mX10_publish) (pc := 65) (kTab_at (pc := 65) tX10_publish_ok 29 rfl) rfl rfl rfl h
    · exact Z_thW (md := mX10_publish) (pc := 28) (text := "the publication is refused") th_4 ck_4 (by decide +kernel) rfl (kTab_at (pc := 28) tX10_publish_ok 12 rfl) (kTab_at (pc := 31) tX10_publish_ok 13 rfl) (kTab_at (pc := 32) tX10_publish_ok 14 rfl) (kTab_at (pc := 35) tX10_publish_ok 15 rfl) (kTab_at (pc := 38) tX10_publish_ok 16 rfl) h
  · exact Z_thW (md := mX10_publish) (pc := 10) (text := "the results are published") th_0 ck_0 (by decide +kernel) rfl (kTab_at (pc := 10) tX10_publish_ok 4 rfl) (kTab_at (pc := 13) tX10_publish_ok 5 rfl) (kTab_at (pc := 14) tX10_publish_ok 6 rfl) (kTab_at (pc := 17) tX10_publish_ok 7 rfl) (kTab_at (pc := 20) tX10_publish_ok 8 rfl) h
def f_X10_withdraw  (μ : Mu) : Option Res := rdF μ 1 10 fun x1 => i_eq x1 0 (some (μ, 1, 0)) (rb (f_X0_made (1 + 19) μ) fun μ x2 => i_lt 0 x2 (some (μ, 5, 0)) (rb (f_X4_keep 1 μ) fun μ _ => wrZ μ 1 10 0 fun μ => rb (f_X1_gradedCandidates 1 μ) fun μ x3 => some (μ, 0, x3)))
set_option maxRecDepth 100000 in
theorem c_X10_withdraw (X : kX)   (μ : Mu) : Cq X mX10_withdraw 4 1 μ [.ref (X.1 + 0)] (f_X10_withdraw  μ) := by
  intro res h
  refine ct_of (by decide +kernel) rfl (Nat.le_of_ble_eq_true rfl) ?_
  show KK X mX10_withdraw 4 1 res 0 [(0, .ref (X.1 + 0))] [] μ
  unfold f_X10_withdraw at h
  refine K_aload_n (md := mX10_withdraw) (pc := 0) 0 (kTab_at (pc := 0) tX10_withdraw_ok 0 rfl) rfl ?_
  refine K_getR (md := mX10_withdraw) (pc := 1) (b := 1) (kTab_at (pc := 1) tX10_withdraw_ok 1 rfl) fl_X10_12 sk_0 rfl rfl ?_
  refine Z_getI (md := mX10_withdraw) (pc := 4) (kTab_at (pc := 4) tX10_withdraw_ok 2 rfl) fl_X10_367 (lay_0 lay_now rfl) (Or.inr rfl) h (fun x1 h => ?_)
  refine K_if_ne (md := mX10_withdraw) (pc := 7) (kTab_at (pc := 7) tX10_withdraw_ok 3 rfl) (tgt := 21) rfl h (fun h => ?_) (fun h => ?_)
  · refine K_aload_n (md := mX10_withdraw) (pc := 21) 0 (kTab_at (pc := 21) tX10_withdraw_ok 9 rfl) rfl ?_
    refine K_getR (md := mX10_withdraw) (pc := 22) (b := 1) (kTab_at (pc := 22) tX10_withdraw_ok 10 rfl) fl_X10_12 sk_0 rfl rfl ?_
    refine K_getR (md := mX10_withdraw) (pc := 25) (b := (1 + 19)) (kTab_at (pc := 25) tX10_withdraw_ok 11 rfl) fl_X10_234 (lay_0 lay_now rfl) rfl rfl ?_
    refine Z_callV (md := mX10_withdraw) (pc := 28) (st := []) (sv := (fun x2 => [.int (iI x2)])) (kTab_at (pc := 28) tX10_withdraw_ok 12 rfl) mv_X10_384 (lay_0 (lay_appeals lay_now) rfl) rfl (Nat.le_of_ble_eq_true rfl) (by decide) rfl (c_X0_made X (1 + 19) (lay_appeals lay_now) μ) (fun _ => rfl) h (fun μ x2 h => ?_) rfl
    refine K_if_le (md := mX10_withdraw) (pc := 31) (kTab_at (pc := 31) tX10_withdraw_ok 13 rfl) (tgt := 45) rfl h (fun h => ?_) (fun h => ?_)
    · refine K_aload_n (md := mX10_withdraw) (pc := 45) 0 (kTab_at (pc := 45) tX10_withdraw_ok 19 rfl) rfl ?_
      refine K_getR (md := mX10_withdraw) (pc := 46) (b := 73) (kTab_at (pc := 46) tX10_withdraw_ok 20 rfl) fl_X10_25 sk_0 rfl rfl ?_
      refine K_aload_n (md := mX10_withdraw) (pc := 49) 0 (kTab_at (pc := 49) tX10_withdraw_ok 21 rfl) rfl ?_
      refine K_getR (md := mX10_withdraw) (pc := 50) (b := 1) (kTab_at (pc := 50) tX10_withdraw_ok 22 rfl) fl_X10_12 sk_0 rfl rfl ?_
      refine Z_callV (md := mX10_withdraw) (pc := 53) (st := []) (sv := (fun _ => [])) (kTab_at (pc := 53) tX10_withdraw_ok 23 rfl) mv_X10_83 sk_73 rfl (Nat.le_of_ble_eq_true rfl) (by decide) rfl (c_X4_keep X 1 lay_now μ) (fun _ => rfl) h (fun μ _ h => ?_) rfl
      refine K_aload_n (md := mX10_withdraw) (pc := 56) 0 (kTab_at (pc := 56) tX10_withdraw_ok 24 rfl) rfl ?_
      refine K_getR (md := mX10_withdraw) (pc := 57) (b := 1) (kTab_at (pc := 57) tX10_withdraw_ok 25 rfl) fl_X10_12 sk_0 rfl rfl ?_
      refine K_iconst (md := mX10_withdraw) (pc := 60) (x := 0) (kTab_at (pc := 60) tX10_withdraw_ok 26 rfl) rfl ?_
      refine Z_putZ (md := mX10_withdraw) (pc := 61) (kTab_at (pc := 61) tX10_withdraw_ok 27 rfl) fl_X10_367 (lay_0 lay_now rfl) rfl h (fun μ h => ?_)
      refine K_aload_n (md := mX10_withdraw) (pc := 64) 0 (kTab_at (pc := 64) tX10_withdraw_ok 28 rfl) rfl ?_
      refine K_getR (md := mX10_withdraw) (pc := 65) (b := 1) (kTab_at (pc := 65) tX10_withdraw_ok 29 rfl) fl_X10_12 sk_0 rfl rfl ?_
      refine Z_callV (md := mX10_withdraw) (pc := 68) (st := []) (sv := (fun x3 => [.int (iI x3)])) (kTab_at (pc := 68) tX10_withdraw_ok 30 rfl) mv_X10_379 (lay_0 lay_now rfl) rfl (Nat.le_of_ble_eq_true rfl) (by decide) rfl (c_X1_gradedCandidates X 1 lay_now μ) (fun _ => rfl) h (fun μ x3 h => ?_) rfl
      exact Z_iret (md := mX10_withdraw) (pc := 71) (kTab_at (pc := 71) tX10_withdraw_ok 31 rfl) rfl rfl rfl h
    · exact Z_thW (md := mX10_withdraw) (pc := 34) (text := "an appeal was made") th_4 ck_4 (by decide +kernel) rfl (kTab_at (pc := 34) tX10_withdraw_ok 14 rfl) (kTab_at (pc := 37) tX10_withdraw_ok 15 rfl) (kTab_at (pc := 38) tX10_withdraw_ok 16 rfl) (kTab_at (pc := 41) tX10_withdraw_ok 17 rfl) (kTab_at (pc := 44) tX10_withdraw_ok 18 rfl) h
  · exact Z_thW (md := mX10_withdraw) (pc := 10) (text := "the results are not published") th_0 ck_0 (by decide +kernel) rfl (kTab_at (pc := 10) tX10_withdraw_ok 4 rfl) (kTab_at (pc := 13) tX10_withdraw_ok 5 rfl) (kTab_at (pc := 14) tX10_withdraw_ok 6 rfl) (kTab_at (pc := 17) tX10_withdraw_ok 7 rfl) (kTab_at (pc := 20) tX10_withdraw_ok 8 rfl) h
def f_X10_refusesAppeal (p1 : Int) (p2 : Int) (μ : Mu) : Option Res := rb (f_X10_scriptOf p1 0 μ) fun μ x1 => rdF μ 1 10 fun x2 => i_eq x2 0 (rb (f_X6_tell 3 p1 31 0 μ) fun μ x9 => retZ μ x9) (rb (f_X1_hasGrade 1 p1 μ) fun μ x3 => i_eq x3 0 (rb (f_X6_tell 3 p1 32 p1 μ) fun μ x8 => retZ μ x8) (rdI μ ((1 + 19) + 1) 40 (x1 + p2) fun x4 => i_eq x4 0 (rb (f_X0_inState (1 + 19) 0 x1 (x1 + 5) μ) fun μ x5 => i_lt (5 - x5) 3 (retZ μ 0) (rb (f_X6_tell 3 p1 34 3 μ) fun μ x6 => retZ μ x6)) (rb (f_X6_tell 3 p1 33 p2 μ) fun μ x7 => retZ μ x7)))
set_option maxRecDepth 100000 in
theorem c_X10_refusesAppeal (X : kX) (p1 : Int) (p2 : Int)  (μ : Mu) : Cq X mX10_refusesAppeal 2 1 μ [.ref (X.1 + 0), .int (iI p1), .int (iI p2)] (f_X10_refusesAppeal p1 p2 μ) := by
  intro res h
  refine ct_of (by decide +kernel) rfl (Nat.le_of_ble_eq_true rfl) ?_
  show KK X mX10_refusesAppeal 2 1 res 0 [(0, .ref (X.1 + 0)), (1, .int (iI p1)), (2, .int (iI p2))] [] μ
  unfold f_X10_refusesAppeal at h
  refine K_iload_n (md := mX10_refusesAppeal) (pc := 0) 1 (kTab_at (pc := 0) tX10_refusesAppeal_ok 0 rfl) rfl ?_
  refine K_iconst (md := mX10_refusesAppeal) (pc := 1) (x := 0) (kTab_at (pc := 1) tX10_refusesAppeal_ok 1 rfl) rfl ?_
  refine Z_callS (md := mX10_refusesAppeal) (pc := 2) (st := []) (sv := (fun x1 => [.int (iI x1)])) (kTab_at (pc := 2) tX10_refusesAppeal_ok 2 rfl) ms_X10_148 rfl (Nat.le_of_ble_eq_true rfl) (by decide) rfl (c_X10_scriptOf X p1 0 μ) (fun _ => rfl) h (fun μ x1 h => ?_) rfl
  refine K_istore_n (md := mX10_refusesAppeal) (pc := 5) (l' := [(3, .int (iI x1)), (0, .ref (X.1 + 0)), (1, .int (iI p1)), (2, .int (iI p2))]) (kTab_at (pc := 5) tX10_refusesAppeal_ok 3 rfl) (Nat.le_of_ble_eq_true rfl) rfl ?_
  refine K_aload_n (md := mX10_refusesAppeal) (pc := 6) 1 (kTab_at (pc := 6) tX10_refusesAppeal_ok 4 rfl) rfl ?_
  refine K_getR (md := mX10_refusesAppeal) (pc := 7) (b := 1) (kTab_at (pc := 7) tX10_refusesAppeal_ok 5 rfl) fl_X10_12 sk_0 rfl rfl ?_
  refine Z_getI (md := mX10_refusesAppeal) (pc := 10) (kTab_at (pc := 10) tX10_refusesAppeal_ok 6 rfl) fl_X10_367 (lay_0 lay_now rfl) (Or.inr rfl) h (fun x2 h => ?_)
  refine K_if_ne (md := mX10_refusesAppeal) (pc := 13) (kTab_at (pc := 13) tX10_refusesAppeal_ok 7 rfl) (tgt := 29) rfl h (fun h => ?_) (fun h => ?_)
  · refine K_aload_n (md := mX10_refusesAppeal) (pc := 29) 1 (kTab_at (pc := 29) tX10_refusesAppeal_ok 16 rfl) rfl ?_
    refine K_getR (md := mX10_refusesAppeal) (pc := 30) (b := 1) (kTab_at (pc := 30) tX10_refusesAppeal_ok 17 rfl) fl_X10_12 sk_0 rfl rfl ?_
    refine K_iload_n (md := mX10_refusesAppeal) (pc := 33) 2 (kTab_at (pc := 33) tX10_refusesAppeal_ok 18 rfl) rfl ?_
    refine Z_callV (md := mX10_refusesAppeal) (pc := 34) (st := []) (sv := (fun x3 => [.int (iI x3)])) (kTab_at (pc := 34) tX10_refusesAppeal_ok 19 rfl) mv_X10_330 (lay_0 lay_now rfl) rfl (Nat.le_of_ble_eq_true rfl) (by decide) rfl (c_X1_hasGrade X 1 p1 lay_now μ) (fun _ => rfl) h (fun μ x3 h => ?_) rfl
    refine K_if_ne (md := mX10_refusesAppeal) (pc := 37) (kTab_at (pc := 37) tX10_refusesAppeal_ok 20 rfl) (tgt := 53) rfl h (fun h => ?_) (fun h => ?_)
    · refine K_aload_n (md := mX10_refusesAppeal) (pc := 53) 1 (kTab_at (pc := 53) tX10_refusesAppeal_ok 29 rfl) rfl ?_
      refine K_getR (md := mX10_refusesAppeal) (pc := 54) (b := 1) (kTab_at (pc := 54) tX10_refusesAppeal_ok 30 rfl) fl_X10_12 sk_0 rfl rfl ?_
      refine K_getR (md := mX10_refusesAppeal) (pc := 57) (b := (1 + 19)) (kTab_at (pc := 57) tX10_refusesAppeal_ok 31 rfl) fl_X10_234 (lay_0 lay_now rfl) rfl rfl ?_
      refine K_getR (md := mX10_refusesAppeal) (pc := 60) (b := ((1 + 19) + 1)) (kTab_at (pc := 60) tX10_refusesAppeal_ok 32 rfl) fl_X10_238 (lay_0 (lay_appeals lay_now) rfl) rfl rfl ?_
      refine K_iload_n (md := mX10_refusesAppeal) (pc := 63) 0 (kTab_at (pc := 63) tX10_refusesAppeal_ok 33 rfl) rfl ?_
      refine K_iload_n (md := mX10_refusesAppeal) (pc := 64) 3 (kTab_at (pc := 64) tX10_refusesAppeal_ok 34 rfl) rfl ?_
      refine K_iadd (md := mX10_refusesAppeal) (pc := 65) (kTab_at (pc := 65) tX10_refusesAppeal_ok 35 rfl) ?_
      refine Z_iald (md := mX10_refusesAppeal) (pc := 66) (kTab_at (pc := 66) tX10_refusesAppeal_ok 36 rfl) (lay_at (lay_appeals lay_now) 1 rfl) (by decide) h (fun x4 h => ?_)
      refine K_if_eq (md := mX10_refusesAppeal) (pc := 67) (kTab_at (pc := 67) tX10_refusesAppeal_ok 37 rfl) (tgt := 83) rfl h (fun h => ?_) (fun h => ?_)
      · refine K_iconst (md := mX10_refusesAppeal) (pc := 83) (x := 5) (kTab_at (pc := 83) tX10_refusesAppeal_ok 46 rfl) rfl ?_
        refine K_aload_n (md := mX10_refusesAppeal) (pc := 84) 1 (kTab_at (pc := 84) tX10_refusesAppeal_ok 47 rfl) rfl ?_
        refine K_getR (md := mX10_refusesAppeal) (pc := 85) (b := 1) (kTab_at (pc := 85) tX10_refusesAppeal_ok 48 rfl) fl_X10_12 sk_0 rfl rfl ?_
        refine K_getR (md := mX10_refusesAppeal) (pc := 88) (b := (1 + 19)) (kTab_at (pc := 88) tX10_refusesAppeal_ok 49 rfl) fl_X10_234 (lay_0 lay_now rfl) rfl rfl ?_
        refine K_iconst (md := mX10_refusesAppeal) (pc := 91) (x := 0) (kTab_at (pc := 91) tX10_refusesAppeal_ok 50 rfl) rfl ?_
        refine K_iload_n (md := mX10_refusesAppeal) (pc := 92) 0 (kTab_at (pc := 92) tX10_refusesAppeal_ok 51 rfl) rfl ?_
        refine K_iload_n (md := mX10_refusesAppeal) (pc := 93) 0 (kTab_at (pc := 93) tX10_refusesAppeal_ok 52 rfl) rfl ?_
        refine K_iconst (md := mX10_refusesAppeal) (pc := 94) (x := 5) (kTab_at (pc := 94) tX10_refusesAppeal_ok 53 rfl) rfl ?_
        refine K_iadd (md := mX10_refusesAppeal) (pc := 95) (kTab_at (pc := 95) tX10_refusesAppeal_ok 54 rfl) ?_
        refine Z_callV (md := mX10_refusesAppeal) (pc := 96) (st := [.int (iI 5)]) (sv := (fun x5 => [.int (iI x5), .int (iI 5)])) (kTab_at (pc := 96) tX10_refusesAppeal_ok 55 rfl) mv_X10_425 (lay_0 (lay_appeals lay_now) rfl) rfl (Nat.le_of_ble_eq_true rfl) (by decide) rfl (c_X0_inState X (1 + 19) 0 x1 (x1 + 5) (lay_appeals lay_now) μ) (fun _ => rfl) h (fun μ x5 h => ?_) rfl
        refine K_isub (md := mX10_refusesAppeal) (pc := 99) (kTab_at (pc := 99) tX10_refusesAppeal_ok 56 rfl) ?_
        refine K_iconst (md := mX10_refusesAppeal) (pc := 100) (x := 3) (kTab_at (pc := 100) tX10_refusesAppeal_ok 57 rfl) rfl ?_
        refine K_icmp_lt (md := mX10_refusesAppeal) (pc := 101) (kTab_at (pc := 101) tX10_refusesAppeal_ok 58 rfl) (tgt := 117) rfl h (fun h => ?_) (fun h => ?_)
        · refine K_iconst (md := mX10_refusesAppeal) (pc := 117) (x := 0) (kTab_at (pc := 117) tX10_refusesAppeal_ok 67 rfl) rfl ?_
          exact Z_zret (md := mX10_refusesAppeal) (pc := 118) (kTab_at (pc := 118) tX10_refusesAppeal_ok 68 rfl) rfl rfl h
        · refine K_aload_n (md := mX10_refusesAppeal) (pc := 104) 1 (kTab_at (pc := 104) tX10_refusesAppeal_ok 59 rfl) rfl ?_
          refine K_getR (md := mX10_refusesAppeal) (pc := 105) (b := 223) (kTab_at (pc := 105) tX10_refusesAppeal_ok 60 rfl) fl_X10_39 sk_0 rfl rfl ?_
          refine K_iconst (md := mX10_refusesAppeal) (pc := 108) (x := 3) (kTab_at (pc := 108) tX10_refusesAppeal_ok 61 rfl) rfl ?_
          refine K_iload_n (md := mX10_refusesAppeal) (pc := 109) 2 (kTab_at (pc := 109) tX10_refusesAppeal_ok 62 rfl) rfl ?_
          refine K_bipush (md := mX10_refusesAppeal) (pc := 110) (x := 34) (kTab_at (pc := 110) tX10_refusesAppeal_ok 63 rfl) (by decide) ?_
          refine K_iconst (md := mX10_refusesAppeal) (pc := 112) (x := 3) (kTab_at (pc := 112) tX10_refusesAppeal_ok 64 rfl) rfl ?_
          refine Z_callV (md := mX10_refusesAppeal) (pc := 113) (st := []) (sv := (fun x6 => [.int (iI x6)])) (kTab_at (pc := 113) tX10_refusesAppeal_ok 65 rfl) mv_X10_474 sk_223 rfl (Nat.le_of_ble_eq_true rfl) (by decide) rfl (c_X6_tell X 3 p1 34 3 μ) (fun _ => rfl) h (fun μ x6 h => ?_) rfl
          exact Z_zret (md := mX10_refusesAppeal) (pc := 116) (kTab_at (pc := 116) tX10_refusesAppeal_ok 66 rfl) rfl rfl h
      · refine K_aload_n (md := mX10_refusesAppeal) (pc := 70) 1 (kTab_at (pc := 70) tX10_refusesAppeal_ok 38 rfl) rfl ?_
        refine K_getR (md := mX10_refusesAppeal) (pc := 71) (b := 223) (kTab_at (pc := 71) tX10_refusesAppeal_ok 39 rfl) fl_X10_39 sk_0 rfl rfl ?_
        refine K_iconst (md := mX10_refusesAppeal) (pc := 74) (x := 3) (kTab_at (pc := 74) tX10_refusesAppeal_ok 40 rfl) rfl ?_
        refine K_iload_n (md := mX10_refusesAppeal) (pc := 75) 2 (kTab_at (pc := 75) tX10_refusesAppeal_ok 41 rfl) rfl ?_
        refine K_bipush (md := mX10_refusesAppeal) (pc := 76) (x := 33) (kTab_at (pc := 76) tX10_refusesAppeal_ok 42 rfl) (by decide) ?_
        refine K_iload_n (md := mX10_refusesAppeal) (pc := 78) 3 (kTab_at (pc := 78) tX10_refusesAppeal_ok 43 rfl) rfl ?_
        refine Z_callV (md := mX10_refusesAppeal) (pc := 79) (st := []) (sv := (fun x7 => [.int (iI x7)])) (kTab_at (pc := 79) tX10_refusesAppeal_ok 44 rfl) mv_X10_474 sk_223 rfl (Nat.le_of_ble_eq_true rfl) (by decide) rfl (c_X6_tell X 3 p1 33 p2 μ) (fun _ => rfl) h (fun μ x7 h => ?_) rfl
        exact Z_zret (md := mX10_refusesAppeal) (pc := 82) (kTab_at (pc := 82) tX10_refusesAppeal_ok 45 rfl) rfl rfl h
    · refine K_aload_n (md := mX10_refusesAppeal) (pc := 40) 1 (kTab_at (pc := 40) tX10_refusesAppeal_ok 21 rfl) rfl ?_
      refine K_getR (md := mX10_refusesAppeal) (pc := 41) (b := 223) (kTab_at (pc := 41) tX10_refusesAppeal_ok 22 rfl) fl_X10_39 sk_0 rfl rfl ?_
      refine K_iconst (md := mX10_refusesAppeal) (pc := 44) (x := 3) (kTab_at (pc := 44) tX10_refusesAppeal_ok 23 rfl) rfl ?_
      refine K_iload_n (md := mX10_refusesAppeal) (pc := 45) 2 (kTab_at (pc := 45) tX10_refusesAppeal_ok 24 rfl) rfl ?_
      refine K_bipush (md := mX10_refusesAppeal) (pc := 46) (x := 32) (kTab_at (pc := 46) tX10_refusesAppeal_ok 25 rfl) (by decide) ?_
      refine K_iload_n (md := mX10_refusesAppeal) (pc := 48) 2 (kTab_at (pc := 48) tX10_refusesAppeal_ok 26 rfl) rfl ?_
      refine Z_callV (md := mX10_refusesAppeal) (pc := 49) (st := []) (sv := (fun x8 => [.int (iI x8)])) (kTab_at (pc := 49) tX10_refusesAppeal_ok 27 rfl) mv_X10_474 sk_223 rfl (Nat.le_of_ble_eq_true rfl) (by decide) rfl (c_X6_tell X 3 p1 32 p1 μ) (fun _ => rfl) h (fun μ x8 h => ?_) rfl
      exact Z_zret (md := mX10_refusesAppeal) (pc := 52) (kTab_at (pc := 52) tX10_refusesAppeal_ok 28 rfl) rfl rfl h
  · refine K_aload_n (md := mX10_refusesAppeal) (pc := 16) 1 (kTab_at (pc := 16) tX10_refusesAppeal_ok 8 rfl) rfl ?_
    refine K_getR (md := mX10_refusesAppeal) (pc := 17) (b := 223) (kTab_at (pc := 17) tX10_refusesAppeal_ok 9 rfl) fl_X10_39 sk_0 rfl rfl ?_
    refine K_iconst (md := mX10_refusesAppeal) (pc := 20) (x := 3) (kTab_at (pc := 20) tX10_refusesAppeal_ok 10 rfl) rfl ?_
    refine K_iload_n (md := mX10_refusesAppeal) (pc := 21) 2 (kTab_at (pc := 21) tX10_refusesAppeal_ok 11 rfl) rfl ?_
    refine K_bipush (md := mX10_refusesAppeal) (pc := 22) (x := 31) (kTab_at (pc := 22) tX10_refusesAppeal_ok 12 rfl) (by decide) ?_
    refine K_iconst (md := mX10_refusesAppeal) (pc := 24) (x := 0) (kTab_at (pc := 24) tX10_refusesAppeal_ok 13 rfl) rfl ?_
    refine Z_callV (md := mX10_refusesAppeal) (pc := 25) (st := []) (sv := (fun x9 => [.int (iI x9)])) (kTab_at (pc := 25) tX10_refusesAppeal_ok 14 rfl) mv_X10_474 sk_223 rfl (Nat.le_of_ble_eq_true rfl) (by decide) rfl (c_X6_tell X 3 p1 31 0 μ) (fun _ => rfl) h (fun μ x9 h => ?_) rfl
    exact Z_zret (md := mX10_refusesAppeal) (pc := 28) (kTab_at (pc := 28) tX10_refusesAppeal_ok 15 rfl) rfl rfl h
def f_X10_appeal (p1 : Int) (p2 : Int) (μ : Mu) : Option Res := rb (f_X10_requireScript p1 p2 μ) fun μ _ => rb (f_X10_refusesAppeal p1 p2 μ) fun μ x1 => i_eq x1 0 (rb (f_X4_keep 1 μ) fun μ _ => rdI μ (1 + 2) 5 4 fun x2 => rb (f_X10_scriptOf p1 p2 μ) fun μ x3 => rb (f_X0_open (1 + 19) x3 x2 μ) fun μ _ => some (μ, 0, x2)) (some (μ, 5, 0))
set_option maxRecDepth 100000 in
theorem c_X10_appeal (X : kX) (p1 : Int) (p2 : Int)  (μ : Mu) : Cq X mX10_appeal 4 1 μ [.ref (X.1 + 0), .int (iI p1), .int (iI p2)] (f_X10_appeal p1 p2 μ) := by
  intro res h
  refine ct_of (by decide +kernel) rfl (Nat.le_of_ble_eq_true rfl) ?_
  show KK X mX10_appeal 4 1 res 0 [(0, .ref (X.1 + 0)), (1, .int (iI p1)), (2, .int (iI p2))] [] μ
  unfold f_X10_appeal at h
  refine K_iload_n (md := mX10_appeal) (pc := 0) 1 (kTab_at (pc := 0) tX10_appeal_ok 0 rfl) rfl ?_
  refine K_iload_n (md := mX10_appeal) (pc := 1) 2 (kTab_at (pc := 1) tX10_appeal_ok 1 rfl) rfl ?_
  refine Z_callS (md := mX10_appeal) (pc := 2) (st := []) (sv := (fun _ => [])) (kTab_at (pc := 2) tX10_appeal_ok 2 rfl) ms_X10_142 rfl (Nat.le_of_ble_eq_true rfl) (by decide) rfl (c_X10_requireScript X p1 p2 μ) (fun _ => rfl) h (fun μ _ h => ?_) rfl
  refine K_aload_n (md := mX10_appeal) (pc := 5) 0 (kTab_at (pc := 5) tX10_appeal_ok 3 rfl) rfl ?_
  refine K_iload_n (md := mX10_appeal) (pc := 6) 1 (kTab_at (pc := 6) tX10_appeal_ok 4 rfl) rfl ?_
  refine K_iload_n (md := mX10_appeal) (pc := 7) 2 (kTab_at (pc := 7) tX10_appeal_ok 5 rfl) rfl ?_
  refine Z_callV (md := mX10_appeal) (pc := 8) (st := []) (sv := (fun x1 => [.int (iI x1)])) (kTab_at (pc := 8) tX10_appeal_ok 6 rfl) mv_X10_389 sk_0 rfl (Nat.le_of_ble_eq_true rfl) (by decide) rfl (c_X10_refusesAppeal X p1 p2 μ) (fun _ => rfl) h (fun μ x1 h => ?_) rfl
  refine K_if_eq (md := mX10_appeal) (pc := 11) (kTab_at (pc := 11) tX10_appeal_ok 7 rfl) (tgt := 25) rfl h (fun h => ?_) (fun h => ?_)
  · refine K_aload_n (md := mX10_appeal) (pc := 25) 0 (kTab_at (pc := 25) tX10_appeal_ok 13 rfl) rfl ?_
    refine K_getR (md := mX10_appeal) (pc := 26) (b := 73) (kTab_at (pc := 26) tX10_appeal_ok 14 rfl) fl_X10_25 sk_0 rfl rfl ?_
    refine K_aload_n (md := mX10_appeal) (pc := 29) 0 (kTab_at (pc := 29) tX10_appeal_ok 15 rfl) rfl ?_
    refine K_getR (md := mX10_appeal) (pc := 30) (b := 1) (kTab_at (pc := 30) tX10_appeal_ok 16 rfl) fl_X10_12 sk_0 rfl rfl ?_
    refine Z_callV (md := mX10_appeal) (pc := 33) (st := []) (sv := (fun _ => [])) (kTab_at (pc := 33) tX10_appeal_ok 17 rfl) mv_X10_83 sk_73 rfl (Nat.le_of_ble_eq_true rfl) (by decide) rfl (c_X4_keep X 1 lay_now μ) (fun _ => rfl) h (fun μ _ h => ?_) rfl
    refine K_aload_n (md := mX10_appeal) (pc := 36) 0 (kTab_at (pc := 36) tX10_appeal_ok 18 rfl) rfl ?_
    refine K_getR (md := mX10_appeal) (pc := 37) (b := 1) (kTab_at (pc := 37) tX10_appeal_ok 19 rfl) fl_X10_12 sk_0 rfl rfl ?_
    refine K_getR (md := mX10_appeal) (pc := 40) (b := (1 + 2)) (kTab_at (pc := 40) tX10_appeal_ok 20 rfl) fl_X10_98 (lay_0 lay_now rfl) rfl rfl ?_
    refine K_iconst (md := mX10_appeal) (pc := 43) (x := 4) (kTab_at (pc := 43) tX10_appeal_ok 21 rfl) rfl ?_
    refine Z_iald (md := mX10_appeal) (pc := 44) (kTab_at (pc := 44) tX10_appeal_ok 22 rfl) (lay_at lay_now 2 rfl) (by decide) h (fun x2 h => ?_)
    refine K_istore_n (md := mX10_appeal) (pc := 45) (l' := [(3, .int (iI x2)), (0, .ref (X.1 + 0)), (1, .int (iI p1)), (2, .int (iI p2))]) (kTab_at (pc := 45) tX10_appeal_ok 23 rfl) (Nat.le_of_ble_eq_true rfl) rfl ?_
    refine K_aload_n (md := mX10_appeal) (pc := 46) 1 (kTab_at (pc := 46) tX10_appeal_ok 24 rfl) rfl ?_
    refine K_getR (md := mX10_appeal) (pc := 47) (b := 1) (kTab_at (pc := 47) tX10_appeal_ok 25 rfl) fl_X10_12 sk_0 rfl rfl ?_
    refine K_getR (md := mX10_appeal) (pc := 50) (b := (1 + 19)) (kTab_at (pc := 50) tX10_appeal_ok 26 rfl) fl_X10_234 (lay_0 lay_now rfl) rfl rfl ?_
    refine K_iload_n (md := mX10_appeal) (pc := 53) 2 (kTab_at (pc := 53) tX10_appeal_ok 27 rfl) rfl ?_
    refine K_iload_n (md := mX10_appeal) (pc := 54) 3 (kTab_at (pc := 54) tX10_appeal_ok 28 rfl) rfl ?_
    refine Z_callS (md := mX10_appeal) (pc := 55) (st := [.ref (X.1 + (1 + 19))]) (sv := (fun x3 => [.int (iI x3), .ref (X.1 + (1 + 19))])) (kTab_at (pc := 55) tX10_appeal_ok 29 rfl) ms_X10_148 rfl (Nat.le_of_ble_eq_true rfl) (by decide) rfl (c_X10_scriptOf X p1 p2 μ) (fun _ => rfl) h (fun μ x3 h => ?_) rfl
    refine K_iload_n (md := mX10_appeal) (pc := 58) 0 (kTab_at (pc := 58) tX10_appeal_ok 30 rfl) rfl ?_
    refine Z_callV (md := mX10_appeal) (pc := 59) (st := []) (sv := (fun _ => [])) (kTab_at (pc := 59) tX10_appeal_ok 31 rfl) mv_X10_394 (lay_0 (lay_appeals lay_now) rfl) rfl (Nat.le_of_ble_eq_true rfl) (by decide) rfl (c_X0_open X (1 + 19) x3 x2 (lay_appeals lay_now) μ) (fun _ => rfl) h (fun μ _ h => ?_) rfl
    refine K_iload_n (md := mX10_appeal) (pc := 62) 0 (kTab_at (pc := 62) tX10_appeal_ok 32 rfl) rfl ?_
    exact Z_iret (md := mX10_appeal) (pc := 63) (kTab_at (pc := 63) tX10_appeal_ok 33 rfl) rfl rfl rfl h
  · exact Z_thW (md := mX10_appeal) (pc := 14) (text := "the appeal is refused") th_4 ck_4 (by decide +kernel) rfl (kTab_at (pc := 14) tX10_appeal_ok 8 rfl) (kTab_at (pc := 17) tX10_appeal_ok 9 rfl) (kTab_at (pc := 18) tX10_appeal_ok 10 rfl) (kTab_at (pc := 21) tX10_appeal_ok 11 rfl) (kTab_at (pc := 24) tX10_appeal_ok 12 rfl) h
def f_X10_refusesRemark (p1 : Int) (p2 : Int) (p3 : Int) (p4 : Int) (μ : Mu) : Option Res := rb (f_X10_scriptOf p2 p3 μ) fun μ x1 => rdI μ ((1 + 19) + 1) 40 x1 fun x2 => i_eq x2 1 (rdI μ (1 + 1) 5 p3 fun x3 => i_lt x3 p4 (rdI μ (1 + 1) 5 p3 fun x6 => rb (f_X6_tell 4 p2 42 x6 μ) fun μ x7 => retZ μ x7) (rb (f_X3_hasEntryBy (1 + 11) p1 x1 μ) fun μ x4 => i_eq x4 0 (retZ μ 0) (rb (f_X6_tell 4 p2 43 p1 μ) fun μ x5 => retZ μ x5))) (rb (f_X6_tell 4 p2 41 p3 μ) fun μ x8 => retZ μ x8)
set_option maxRecDepth 100000 in
theorem c_X10_refusesRemark (X : kX) (p1 : Int) (p2 : Int) (p3 : Int) (p4 : Int)  (μ : Mu) : Cq X mX10_refusesRemark 2 1 μ [.ref (X.1 + 0), .int (iI p1), .int (iI p2), .int (iI p3), .int (iI p4)] (f_X10_refusesRemark p1 p2 p3 p4 μ) := by
  intro res h
  refine ct_of (by decide +kernel) rfl (Nat.le_of_ble_eq_true rfl) ?_
  show KK X mX10_refusesRemark 2 1 res 0 [(0, .ref (X.1 + 0)), (1, .int (iI p1)), (2, .int (iI p2)), (3, .int (iI p3)), (4, .int (iI p4))] [] μ
  unfold f_X10_refusesRemark at h
  refine K_iload_n (md := mX10_refusesRemark) (pc := 0) 2 (kTab_at (pc := 0) tX10_refusesRemark_ok 0 rfl) rfl ?_
  refine K_iload_n (md := mX10_refusesRemark) (pc := 1) 3 (kTab_at (pc := 1) tX10_refusesRemark_ok 1 rfl) rfl ?_
  refine Z_callS (md := mX10_refusesRemark) (pc := 2) (st := []) (sv := (fun x1 => [.int (iI x1)])) (kTab_at (pc := 2) tX10_refusesRemark_ok 2 rfl) ms_X10_148 rfl (Nat.le_of_ble_eq_true rfl) (by decide) rfl (c_X10_scriptOf X p2 p3 μ) (fun _ => rfl) h (fun μ x1 h => ?_) rfl
  refine K_istore (md := mX10_refusesRemark) (pc := 5) (l' := [(5, .int (iI x1)), (0, .ref (X.1 + 0)), (1, .int (iI p1)), (2, .int (iI p2)), (3, .int (iI p3)), (4, .int (iI p4))]) (kTab_at (pc := 5) tX10_refusesRemark_ok 3 rfl) (Nat.le_of_ble_eq_true rfl) rfl ?_
  refine K_aload_n (md := mX10_refusesRemark) (pc := 7) 1 (kTab_at (pc := 7) tX10_refusesRemark_ok 4 rfl) rfl ?_
  refine K_getR (md := mX10_refusesRemark) (pc := 8) (b := 1) (kTab_at (pc := 8) tX10_refusesRemark_ok 5 rfl) fl_X10_12 sk_0 rfl rfl ?_
  refine K_getR (md := mX10_refusesRemark) (pc := 11) (b := (1 + 19)) (kTab_at (pc := 11) tX10_refusesRemark_ok 6 rfl) fl_X10_234 (lay_0 lay_now rfl) rfl rfl ?_
  refine K_getR (md := mX10_refusesRemark) (pc := 14) (b := ((1 + 19) + 1)) (kTab_at (pc := 14) tX10_refusesRemark_ok 7 rfl) fl_X10_238 (lay_0 (lay_appeals lay_now) rfl) rfl rfl ?_
  refine K_iload (md := mX10_refusesRemark) (pc := 17) 0 (kTab_at (pc := 17) tX10_refusesRemark_ok 8 rfl) rfl ?_
  refine Z_iald (md := mX10_refusesRemark) (pc := 19) (kTab_at (pc := 19) tX10_refusesRemark_ok 9 rfl) (lay_at (lay_appeals lay_now) 1 rfl) (by decide) h (fun x2 h => ?_)
  refine K_iconst (md := mX10_refusesRemark) (pc := 20) (x := 1) (kTab_at (pc := 20) tX10_refusesRemark_ok 10 rfl) rfl ?_
  refine K_icmp_eq (md := mX10_refusesRemark) (pc := 21) (kTab_at (pc := 21) tX10_refusesRemark_ok 11 rfl) (tgt := 37) rfl h (fun h => ?_) (fun h => ?_)
  · refine K_iload (md := mX10_refusesRemark) (pc := 37) 5 (kTab_at (pc := 37) tX10_refusesRemark_ok 20 rfl) rfl ?_
    refine K_aload_n (md := mX10_refusesRemark) (pc := 39) 1 (kTab_at (pc := 39) tX10_refusesRemark_ok 21 rfl) rfl ?_
    refine K_getR (md := mX10_refusesRemark) (pc := 40) (b := 1) (kTab_at (pc := 40) tX10_refusesRemark_ok 22 rfl) fl_X10_12 sk_0 rfl rfl ?_
    refine K_getR (md := mX10_refusesRemark) (pc := 43) (b := (1 + 1)) (kTab_at (pc := 43) tX10_refusesRemark_ok 23 rfl) fl_X10_79 (lay_0 lay_now rfl) rfl rfl ?_
    refine K_iload_n (md := mX10_refusesRemark) (pc := 46) 4 (kTab_at (pc := 46) tX10_refusesRemark_ok 24 rfl) rfl ?_
    refine Z_iald (md := mX10_refusesRemark) (pc := 47) (kTab_at (pc := 47) tX10_refusesRemark_ok 25 rfl) (lay_at lay_now 1 rfl) (by decide) h (fun x3 h => ?_)
    refine K_icmp_le (md := mX10_refusesRemark) (pc := 48) (kTab_at (pc := 48) tX10_refusesRemark_ok 26 rfl) (tgt := 72) rfl h (fun h => ?_) (fun h => ?_)
    · refine K_aload_n (md := mX10_refusesRemark) (pc := 72) 1 (kTab_at (pc := 72) tX10_refusesRemark_ok 39 rfl) rfl ?_
      refine K_getR (md := mX10_refusesRemark) (pc := 73) (b := 1) (kTab_at (pc := 73) tX10_refusesRemark_ok 40 rfl) fl_X10_12 sk_0 rfl rfl ?_
      refine K_getR (md := mX10_refusesRemark) (pc := 76) (b := (1 + 11)) (kTab_at (pc := 76) tX10_refusesRemark_ok 41 rfl) fl_X10_203 (lay_0 lay_now rfl) rfl rfl ?_
      refine K_iload_n (md := mX10_refusesRemark) (pc := 79) 2 (kTab_at (pc := 79) tX10_refusesRemark_ok 42 rfl) rfl ?_
      refine K_iload (md := mX10_refusesRemark) (pc := 80) 0 (kTab_at (pc := 80) tX10_refusesRemark_ok 43 rfl) rfl ?_
      refine Z_callV (md := mX10_refusesRemark) (pc := 82) (st := []) (sv := (fun x4 => [.int (iI x4)])) (kTab_at (pc := 82) tX10_refusesRemark_ok 44 rfl) mv_X10_477 (lay_0 (lay_entries lay_now) rfl) rfl (Nat.le_of_ble_eq_true rfl) (by decide) rfl (c_X3_hasEntryBy X (1 + 11) p1 x1 (lay_entries lay_now) μ) (fun _ => rfl) h (fun μ x4 h => ?_) rfl
      refine K_if_eq (md := mX10_refusesRemark) (pc := 85) (kTab_at (pc := 85) tX10_refusesRemark_ok 45 rfl) (tgt := 101) rfl h (fun h => ?_) (fun h => ?_)
      · refine K_iconst (md := mX10_refusesRemark) (pc := 101) (x := 0) (kTab_at (pc := 101) tX10_refusesRemark_ok 54 rfl) rfl ?_
        exact Z_zret (md := mX10_refusesRemark) (pc := 102) (kTab_at (pc := 102) tX10_refusesRemark_ok 55 rfl) rfl rfl h
      · refine K_aload_n (md := mX10_refusesRemark) (pc := 88) 1 (kTab_at (pc := 88) tX10_refusesRemark_ok 46 rfl) rfl ?_
        refine K_getR (md := mX10_refusesRemark) (pc := 89) (b := 223) (kTab_at (pc := 89) tX10_refusesRemark_ok 47 rfl) fl_X10_39 sk_0 rfl rfl ?_
        refine K_iconst (md := mX10_refusesRemark) (pc := 92) (x := 4) (kTab_at (pc := 92) tX10_refusesRemark_ok 48 rfl) rfl ?_
        refine K_iload_n (md := mX10_refusesRemark) (pc := 93) 3 (kTab_at (pc := 93) tX10_refusesRemark_ok 49 rfl) rfl ?_
        refine K_bipush (md := mX10_refusesRemark) (pc := 94) (x := 43) (kTab_at (pc := 94) tX10_refusesRemark_ok 50 rfl) (by decide) ?_
        refine K_iload_n (md := mX10_refusesRemark) (pc := 96) 2 (kTab_at (pc := 96) tX10_refusesRemark_ok 51 rfl) rfl ?_
        refine Z_callV (md := mX10_refusesRemark) (pc := 97) (st := []) (sv := (fun x5 => [.int (iI x5)])) (kTab_at (pc := 97) tX10_refusesRemark_ok 52 rfl) mv_X10_474 sk_223 rfl (Nat.le_of_ble_eq_true rfl) (by decide) rfl (c_X6_tell X 4 p2 43 p1 μ) (fun _ => rfl) h (fun μ x5 h => ?_) rfl
        exact Z_zret (md := mX10_refusesRemark) (pc := 100) (kTab_at (pc := 100) tX10_refusesRemark_ok 53 rfl) rfl rfl h
    · refine K_aload_n (md := mX10_refusesRemark) (pc := 51) 1 (kTab_at (pc := 51) tX10_refusesRemark_ok 27 rfl) rfl ?_
      refine K_getR (md := mX10_refusesRemark) (pc := 52) (b := 223) (kTab_at (pc := 52) tX10_refusesRemark_ok 28 rfl) fl_X10_39 sk_0 rfl rfl ?_
      refine K_iconst (md := mX10_refusesRemark) (pc := 55) (x := 4) (kTab_at (pc := 55) tX10_refusesRemark_ok 29 rfl) rfl ?_
      refine K_iload_n (md := mX10_refusesRemark) (pc := 56) 3 (kTab_at (pc := 56) tX10_refusesRemark_ok 30 rfl) rfl ?_
      refine K_bipush (md := mX10_refusesRemark) (pc := 57) (x := 42) (kTab_at (pc := 57) tX10_refusesRemark_ok 31 rfl) (by decide) ?_
      refine K_aload_n (md := mX10_refusesRemark) (pc := 59) 1 (kTab_at (pc := 59) tX10_refusesRemark_ok 32 rfl) rfl ?_
      refine K_getR (md := mX10_refusesRemark) (pc := 60) (b := 1) (kTab_at (pc := 60) tX10_refusesRemark_ok 33 rfl) fl_X10_12 sk_0 rfl rfl ?_
      refine K_getR (md := mX10_refusesRemark) (pc := 63) (b := (1 + 1)) (kTab_at (pc := 63) tX10_refusesRemark_ok 34 rfl) fl_X10_79 (lay_0 lay_now rfl) rfl rfl ?_
      refine K_iload_n (md := mX10_refusesRemark) (pc := 66) 4 (kTab_at (pc := 66) tX10_refusesRemark_ok 35 rfl) rfl ?_
      refine Z_iald (md := mX10_refusesRemark) (pc := 67) (kTab_at (pc := 67) tX10_refusesRemark_ok 36 rfl) (lay_at lay_now 1 rfl) (by decide) h (fun x6 h => ?_)
      refine Z_callV (md := mX10_refusesRemark) (pc := 68) (st := []) (sv := (fun x7 => [.int (iI x7)])) (kTab_at (pc := 68) tX10_refusesRemark_ok 37 rfl) mv_X10_474 sk_223 rfl (Nat.le_of_ble_eq_true rfl) (by decide) rfl (c_X6_tell X 4 p2 42 x6 μ) (fun _ => rfl) h (fun μ x7 h => ?_) rfl
      exact Z_zret (md := mX10_refusesRemark) (pc := 71) (kTab_at (pc := 71) tX10_refusesRemark_ok 38 rfl) rfl rfl h
  · refine K_aload_n (md := mX10_refusesRemark) (pc := 24) 1 (kTab_at (pc := 24) tX10_refusesRemark_ok 12 rfl) rfl ?_
    refine K_getR (md := mX10_refusesRemark) (pc := 25) (b := 223) (kTab_at (pc := 25) tX10_refusesRemark_ok 13 rfl) fl_X10_39 sk_0 rfl rfl ?_
    refine K_iconst (md := mX10_refusesRemark) (pc := 28) (x := 4) (kTab_at (pc := 28) tX10_refusesRemark_ok 14 rfl) rfl ?_
    refine K_iload_n (md := mX10_refusesRemark) (pc := 29) 3 (kTab_at (pc := 29) tX10_refusesRemark_ok 15 rfl) rfl ?_
    refine K_bipush (md := mX10_refusesRemark) (pc := 30) (x := 41) (kTab_at (pc := 30) tX10_refusesRemark_ok 16 rfl) (by decide) ?_
    refine K_iload_n (md := mX10_refusesRemark) (pc := 32) 4 (kTab_at (pc := 32) tX10_refusesRemark_ok 17 rfl) rfl ?_
    refine Z_callV (md := mX10_refusesRemark) (pc := 33) (st := []) (sv := (fun x8 => [.int (iI x8)])) (kTab_at (pc := 33) tX10_refusesRemark_ok 18 rfl) mv_X10_474 sk_223 rfl (Nat.le_of_ble_eq_true rfl) (by decide) rfl (c_X6_tell X 4 p2 41 p3 μ) (fun _ => rfl) h (fun μ x8 h => ?_) rfl
    exact Z_zret (md := mX10_refusesRemark) (pc := 36) (kTab_at (pc := 36) tX10_refusesRemark_ok 19 rfl) rfl rfl h

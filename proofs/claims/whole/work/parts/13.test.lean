def f_X1_earn (p0 : Nat) (p1 : Int) (p2 : Int) (μ : Mu) : Option Res := rdI μ (p0 + 6) 4 p1 fun x1 => rdI μ (p0 + 1) 5 p2 fun x2 => wrI μ (p0 + 6) 4 p1 (x1 + (10 + x2)) fun μ => some (μ, 0, 0)
set_option maxRecDepth 100000 in
theorem c_X1_earn (X : kX) (p0 : Nat) (p1 : Int) (p2 : Int) (h0 : Lay p0 (ksX1 p0)) (μ : Mu) : Cq X mX1_earn 0 0 μ [.ref (X.1 + p0), .int (iI p1), .int (iI p2)] (f_X1_earn p0 p1 p2 μ) := by
  intro res h
  refine ct_of (by decide +kernel) rfl (Nat.le_of_ble_eq_true rfl) ?_
  show KK X mX1_earn 0 0 res 0 [(0, .ref (X.1 + p0)), (1, .int (iI p1)), (2, .int (iI p2))] [] μ
  unfold f_X1_earn at h
  refine K_aload_n 0 (kTab_at tX1_earn_ok 0 rfl) rfl ?_
  refine K_getR (b := (p0 + 6)) (kTab_at tX1_earn_ok 1 rfl) fl_X1_27 (lay_0 h0 rfl) rfl rfl ?_
  refine K_iload_n 1 (kTab_at tX1_earn_ok 2 rfl) rfl ?_
  refine K_dup2 (kTab_at tX1_earn_ok 3 rfl) rfl rfl ?_
  refine Z_iald (kTab_at tX1_earn_ok 4 rfl) (lay_at h0 6 rfl) (by decide) h (fun x1 h => ?_)
  refine K_bipush (x := 10) (kTab_at tX1_earn_ok 5 rfl) (by decide) ?_
  refine K_aload_n 0 (kTab_at tX1_earn_ok 6 rfl) rfl ?_
  refine K_getR (b := (p0 + 1)) (kTab_at tX1_earn_ok 7 rfl) fl_X1_9 (lay_0 h0 rfl) rfl rfl ?_
  refine K_iload_n 2 (kTab_at tX1_earn_ok 8 rfl) rfl ?_
  refine Z_iald (kTab_at tX1_earn_ok 9 rfl) (lay_at h0 1 rfl) (by decide) h (fun x2 h => ?_)
  refine K_iadd (kTab_at tX1_earn_ok 10 rfl) ?_
  refine K_iadd (kTab_at tX1_earn_ok 11 rfl) ?_
  refine Z_iast (kTab_at tX1_earn_ok 12 rfl) (lay_at h0 6 rfl) (by decide) h (fun μ h => ?_)
  exact Z_vret (kTab_at tX1_earn_ok 13 rfl) rfl rfl h
def f_X10_isBelow_14 (p0 : Int) (p1 : Int)  (s0 : Int) (μ : Mu) : Option Res := retZ μ s0
set_option maxRecDepth 100000 in
theorem n_X10_isBelow_14 (p0 : Int) (p1 : Int)   (s0 : Int) (μ : Mu) : nth (f_X10_isBelow_14 p0 p1 s0 μ) := by
  unfold f_X10_isBelow_14
  repeat (first | exact nth_s _ _ | exact nth_Z _ _ | apply nth_ilt | apply nth_ieq | apply nth_llt | apply nth_leq | (apply nth_rdI; intro _) | (apply nth_wrI; intro _) | (apply nth_bnd; intro _) | (apply nth_idiv; intro _) | (apply nth_irem; intro _) | (apply nth_ldiv; intro _) | (apply nth_lrem; intro _) | (apply nth_max; intro _) | (apply nth_min; intro _) | (apply nth_cpy; intro _) | exact ih _ | exact ih _ _ | exact ih _ _ _ | exact ih _ _ _ _ | exact ih _ _ _ _ _ | (refine n_X10_isBelow_13 _ _ _; all_goals (try intros)) | (refine n_X10_isBelow_14 _ _ _ _; all_goals (try intros)))
set_option maxRecDepth 100000 in
theorem c_X10_isBelow_14 (X : kX) (p0 : Int) (p1 : Int)  {res : Res}  (s0 : Int) (μ : Mu) (h : f_X10_isBelow_14 p0 p1 s0 μ = some res) : KK X mX10_isBelow 0 1 res 14 [] [.int (iI s0)] μ := by
  unfold f_X10_isBelow_14 at h
  exact Z_zret (kTab_at tX10_isBelow_ok 8 rfl) rfl rfl h
def f_X10_isBelow_13 (p0 : Int) (p1 : Int)   (μ : Mu) : Option Res := f_X10_isBelow_14 p0 p1 0 μ
set_option maxRecDepth 100000 in
theorem n_X10_isBelow_13 (p0 : Int) (p1 : Int)    (μ : Mu) : nth (f_X10_isBelow_13 p0 p1 μ) := by
  unfold f_X10_isBelow_13
  repeat (first | exact nth_s _ _ | exact nth_Z _ _ | apply nth_ilt | apply nth_ieq | apply nth_llt | apply nth_leq | (apply nth_rdI; intro _) | (apply nth_wrI; intro _) | (apply nth_bnd; intro _) | (apply nth_idiv; intro _) | (apply nth_irem; intro _) | (apply nth_ldiv; intro _) | (apply nth_lrem; intro _) | (apply nth_max; intro _) | (apply nth_min; intro _) | (apply nth_cpy; intro _) | exact ih _ | exact ih _ _ | exact ih _ _ _ | exact ih _ _ _ _ | exact ih _ _ _ _ _ | (refine n_X10_isBelow_13 _ _ _; all_goals (try intros)) | (refine n_X10_isBelow_14 _ _ _ _; all_goals (try intros)))
set_option maxRecDepth 100000 in
theorem c_X10_isBelow_13 (X : kX) (p0 : Int) (p1 : Int)  {res : Res}  (μ : Mu) (h : f_X10_isBelow_13 p0 p1 μ = some res) : KK X mX10_isBelow 0 1 res 13 [] [] μ := by
  unfold f_X10_isBelow_13 at h
  refine K_iconst (x := 0) (kTab_at tX10_isBelow_ok 7 rfl) rfl ?_
  refine c_X10_isBelow_14 X p0 p1  0 μ h
def f_X10_isBelow (p0 : Int) (p1 : Int) (μ : Mu) : Option Res := i_lt p0 0 (f_X10_isBelow_13 p0 p1 μ) (i_lt p0 p1 (f_X10_isBelow_14 p0 p1 1 μ) (f_X10_isBelow_13 p0 p1 μ))
set_option maxRecDepth 100000 in
theorem c_X10_isBelow (X : kX) (p0 : Int) (p1 : Int)  (μ : Mu) : Cq X mX10_isBelow 0 1 μ [.int (iI p0), .int (iI p1)] (f_X10_isBelow p0 p1 μ) := by
  intro res h
  refine ct_of (by decide +kernel) rfl (Nat.le_of_ble_eq_true rfl) ?_
  show KK X mX10_isBelow 0 1 res 0 [(0, .int (iI p0)), (1, .int (iI p1))] [] μ
  unfold f_X10_isBelow at h
  refine K_iload_n 0 (kTab_at tX10_isBelow_ok 0 rfl) rfl ?_
  refine K_if_lt (kTab_at tX10_isBelow_ok 1 rfl) (tgt := 13) rfl h (fun h => ?_) (fun h => ?_)
  · refine K_sub [] rfl ?_
    refine c_X10_isBelow_13 X p0 p1  μ h
  · refine K_iload_n 0 (kTab_at tX10_isBelow_ok 2 rfl) rfl ?_
    refine K_iload_n 1 (kTab_at tX10_isBelow_ok 3 rfl) rfl ?_
    refine K_icmp_ge (kTab_at tX10_isBelow_ok 4 rfl) (tgt := 13) rfl h (fun h => ?_) (fun h => ?_)
    · refine K_sub [] rfl ?_
      refine c_X10_isBelow_13 X p0 p1  μ h
    · refine K_iconst (x := 1) (kTab_at tX10_isBelow_ok 5 rfl) rfl ?_
      refine K_goto (tgt := 14) (kTab_at tX10_isBelow_ok 6 rfl) rfl ?_
      refine K_sub [] rfl ?_
      refine c_X10_isBelow_14 X p0 p1  1 μ h
set_option maxRecDepth 100000 in
theorem n_X10_isBelow (p0 : Int) (p1 : Int) (μ : Mu) : nth (f_X10_isBelow p0 p1 μ) := by
  unfold f_X10_isBelow
  repeat (first | exact nth_s _ _ | exact nth_Z _ _ | apply nth_ilt | apply nth_ieq | apply nth_llt | apply nth_leq | (apply nth_rdI; intro _) | (apply nth_wrI; intro _) | (apply nth_bnd; intro _) | (apply nth_idiv; intro _) | (apply nth_irem; intro _) | (apply nth_ldiv; intro _) | (apply nth_lrem; intro _) | (apply nth_max; intro _) | (apply nth_min; intro _) | (apply nth_cpy; intro _) | exact ih _ | exact ih _ _ | exact ih _ _ _ | exact ih _ _ _ _ | exact ih _ _ _ _ _ | (refine n_X10_isBelow_13 _ _ _; all_goals (try intros)) | (refine n_X10_isBelow_14 _ _ _ _; all_goals (try intros)))
def f_X10_sumOf_4 (p0 n0 : Nat) (k22 : Int → Mu → Option Res) : Nat → Int → Int → Mu → Option Res
  | 0, _, _, _ => none
  | fu + 1, v1, v2, μ => i_lt v2 ((n0 : Nat) : Int) (rdI μ p0 n0 v2 fun x1 => bnd (v1 + x1) fun x2 => f_X10_sumOf_4 p0 n0 k22 fu x2 (v2 + 1) μ) (k22 v1 μ)
set_option maxRecDepth 100000 in
theorem n_X10_sumOf_4 (p0 n0 : Nat) (k22 : Int → Mu → Option Res) (q22 : ∀ z0 μ, nth (k22 z0 μ)) : ∀ (fu : Nat) v1 v2 μ, nth (f_X10_sumOf_4 p0 n0 k22 fu v1 v2 μ) := by
  intro fu
  induction fu with
  | zero => intro v1 v2 μ; intro r h; exact nomatch h
  | succ fu ih =>
    intro v1 v2 μ
    unfold f_X10_sumOf_4
    repeat (first | exact nth_s _ _ | exact nth_Z _ _ | apply nth_ilt | apply nth_ieq | apply nth_llt | apply nth_leq | (apply nth_rdI; intro _) | (apply nth_wrI; intro _) | (apply nth_bnd; intro _) | (apply nth_idiv; intro _) | (apply nth_irem; intro _) | (apply nth_ldiv; intro _) | (apply nth_lrem; intro _) | (apply nth_max; intro _) | (apply nth_min; intro _) | (apply nth_cpy; intro _) | exact q22 _ _ | exact ih _ | exact ih _ _ | exact ih _ _ _ | exact ih _ _ _ _ | exact ih _ _ _ _ _ | (refine n_X10_sumOf_4 _ _ _ ?_ _ _ _ _; all_goals (try intros)))
set_option maxRecDepth 100000 in
theorem c_X10_sumOf_4 (X : kX) (p0 n0 : Nat) {r0 : Nat → Option Nat} (h0 : SK[p0]? = some (.inl (0, n0, r0))) (b0 : n0 < 2 ^ 31) {res : Res} (k22 : Int → Mu → Option Res) (hk22 : ∀ (v1 : Int), ∀ (μ : Mu), k22 v1 μ = some res → KK X mX10_sumOf 0 1 res 22 [(1, .int (iI v1))] [] μ) : ∀ (fu : Nat)  (v1 : Int) (v2 : Int) (μ : Mu), f_X10_sumOf_4 p0 n0 k22 fu v1 v2 μ = some res → KK X mX10_sumOf 0 1 res 4 [(0, .ref (X.1 + p0)), (1, .int (iI v1)), (2, .int (iI v2))] [] μ := by
  intro fu
  induction fu with
  | zero => intro v1 v2 μ h; exact nomatch h
  | succ fu ih =>
    intro v1 v2 μ h
    refine K_iload_n 2 (kTab_at tX10_sumOf_ok 4 rfl) rfl ?_
    refine K_aload_n 0 (kTab_at tX10_sumOf_ok 5 rfl) rfl ?_
    refine K_alen (kTab_at tX10_sumOf_ok 6 rfl) h0 (by decide) ?_
    refine K_icmp_ge (kTab_at tX10_sumOf_ok 7 rfl) (tgt := 22) rfl h (fun h => ?_) (fun h => ?_)
    · refine K_sub [1] rfl ?_
      exact hk22 v1 μ h
    · refine K_iload_n 1 (kTab_at tX10_sumOf_ok 8 rfl) rfl ?_
      refine K_aload_n 0 (kTab_at tX10_sumOf_ok 9 rfl) rfl ?_
      refine K_iload_n 2 (kTab_at tX10_sumOf_ok 10 rfl) rfl ?_
      refine Z_iald (kTab_at tX10_sumOf_ok 11 rfl) h0 b0 h (fun x1 h => ?_)
      refine K_iadd (kTab_at tX10_sumOf_ok 12 rfl) ?_
      refine Z_bnd h (fun x2 h => ?_)
      refine K_istore_n (l' := [(1, .int (iI x2)), (0, .ref (X.1 + p0)), (2, .int (iI v2))]) (kTab_at tX10_sumOf_ok 13 rfl) (Nat.le_of_ble_eq_true rfl) rfl ?_
      refine K_iinc (l' := [(2, .int (iI (v2 + 1))), (1, .int (iI x2)), (0, .ref (X.1 + p0))]) 2 (kTab_at tX10_sumOf_ok 14 rfl) rfl (Nat.le_of_ble_eq_true rfl) rfl ?_
      refine K_goto (tgt := 4) (kTab_at tX10_sumOf_ok 15 rfl) rfl ?_
      refine K_sub [2, 1, 0] rfl ?_
      exact ih x2 (v2 + 1) μ h
def f_X10_sumOf (p0 n0 : Nat) (μ : Mu) : Option Res := f_X10_sumOf_4 p0 n0 (fun v1 μ => some (μ, 0, v1)) 100000 0 0 μ
set_option maxRecDepth 100000 in
theorem c_X10_sumOf (X : kX) (p0 n0 : Nat) {r0 : Nat → Option Nat} (h0 : SK[p0]? = some (.inl (0, n0, r0))) (b0 : n0 < 2 ^ 31) (μ : Mu) : Cq X mX10_sumOf 0 1 μ [.ref (X.1 + p0)] (f_X10_sumOf p0 n0 μ) := by
  intro res h
  refine ct_of (by decide +kernel) rfl (Nat.le_of_ble_eq_true rfl) ?_
  show KK X mX10_sumOf 0 1 res 0 [(0, .ref (X.1 + p0))] [] μ
  unfold f_X10_sumOf at h
  refine K_iconst (x := 0) (kTab_at tX10_sumOf_ok 0 rfl) rfl ?_
  refine K_istore_n (l' := [(1, .int (iI 0)), (0, .ref (X.1 + p0))]) (kTab_at tX10_sumOf_ok 1 rfl) (Nat.le_of_ble_eq_true rfl) rfl ?_
  refine K_iconst (x := 0) (kTab_at tX10_sumOf_ok 2 rfl) rfl ?_
  refine K_istore_n (l' := [(2, .int (iI 0)), (1, .int (iI 0)), (0, .ref (X.1 + p0))]) (kTab_at tX10_sumOf_ok 3 rfl) (Nat.le_of_ble_eq_true rfl) rfl ?_
  refine K_sub [2, 1, 0] rfl ?_
  refine c_X10_sumOf_4 X p0 n0 h0 b0 _ ?_ _ 0 0 μ h
  · intro v1 μ h
    refine K_iload_n 0 (kTab_at tX10_sumOf_ok 16 rfl) rfl ?_
    exact Z_iret (kTab_at tX10_sumOf_ok 17 rfl) rfl rfl rfl h
set_option maxRecDepth 100000 in
theorem n_X10_sumOf (p0 n0 : Nat) (μ : Mu) : nth (f_X10_sumOf p0 n0 μ) := by
  unfold f_X10_sumOf
  repeat (first | exact nth_s _ _ | exact nth_Z _ _ | apply nth_ilt | apply nth_ieq | apply nth_llt | apply nth_leq | (apply nth_rdI; intro _) | (apply nth_wrI; intro _) | (apply nth_bnd; intro _) | (apply nth_idiv; intro _) | (apply nth_irem; intro _) | (apply nth_ldiv; intro _) | (apply nth_lrem; intro _) | (apply nth_max; intro _) | (apply nth_min; intro _) | (apply nth_cpy; intro _) | exact ih _ | exact ih _ _ | exact ih _ _ _ | exact ih _ _ _ _ | exact ih _ _ _ _ _ | (refine n_X10_sumOf_4 _ _ _ ?_ _ _ _ _; all_goals (try intros)))
def f_X1_fullMaximum (p0 : Nat) (μ : Mu) : Option Res := rb (f_X10_sumOf (p0 + 1) 5 μ) fun μ x1 => some (μ, 0, x1)
set_option maxRecDepth 100000 in
theorem c_X1_fullMaximum (X : kX) (p0 : Nat) (h0 : Lay p0 (ksX1 p0)) (μ : Mu) : Cq X mX1_fullMaximum 1 1 μ [.ref (X.1 + p0)] (f_X1_fullMaximum p0 μ) := by
  intro res h
  refine ct_of (by decide +kernel) rfl (Nat.le_of_ble_eq_true rfl) ?_
  show KK X mX1_fullMaximum 1 1 res 0 [(0, .ref (X.1 + p0))] [] μ
  unfold f_X1_fullMaximum at h
  refine K_aload_n 0 (kTab_at tX1_fullMaximum_ok 0 rfl) rfl ?_
  refine K_getR (b := (p0 + 1)) (kTab_at tX1_fullMaximum_ok 1 rfl) fl_X1_9 (lay_0 h0 rfl) rfl rfl ?_
  refine Z_callSN (st := []) (sv := (fun x1 => [.int (iI x1)])) (kTab_at tX1_fullMaximum_ok 2 rfl) mn_X1_88 rfl (Nat.le_of_ble_eq_true rfl) (by decide) (c_X10_sumOf X (p0 + 1) 5 (lay_at h0 1 rfl) (by decide) μ) (n_X10_sumOf (p0 + 1) 5 μ) (fun _ => rfl) h (fun μ x1 h => ?_) rfl
  exact Z_iret (kTab_at tX1_fullMaximum_ok 3 rfl) rfl rfl rfl h
def f_X7_placeOf (p0 : Nat) (p1 : Int) (p2 : Int) (p3 : Int) (μ : Mu) : Option Res := some (μ, 0, ((((p1 * 5) + p2) * 5) + p3))
set_option maxRecDepth 100000 in
theorem c_X7_placeOf (X : kX) (p0 : Nat) (p1 : Int) (p2 : Int) (p3 : Int) (h0 : Lay p0 (ksX7 p0)) (μ : Mu) : Cq X mX7_placeOf 0 1 μ [.ref (X.1 + p0), .int (iI p1), .int (iI p2), .int (iI p3)] (f_X7_placeOf p0 p1 p2 p3 μ) := by
  intro res h
  refine ct_of (by decide +kernel) rfl (Nat.le_of_ble_eq_true rfl) ?_
  show KK X mX7_placeOf 0 1 res 0 [(0, .ref (X.1 + p0)), (1, .int (iI p1)), (2, .int (iI p2)), (3, .int (iI p3))] [] μ
  unfold f_X7_placeOf at h
  refine K_iload_n 1 (kTab_at tX7_placeOf_ok 0 rfl) rfl ?_
  refine K_iconst (x := 5) (kTab_at tX7_placeOf_ok 1 rfl) rfl ?_
  refine K_imul (kTab_at tX7_placeOf_ok 2 rfl) ?_
  refine K_iload_n 2 (kTab_at tX7_placeOf_ok 3 rfl) rfl ?_
  refine K_iadd (kTab_at tX7_placeOf_ok 4 rfl) ?_
  refine K_iconst (x := 5) (kTab_at tX7_placeOf_ok 5 rfl) rfl ?_
  refine K_imul (kTab_at tX7_placeOf_ok 6 rfl) ?_
  refine K_iload_n 3 (kTab_at tX7_placeOf_ok 7 rfl) rfl ?_
  refine K_iadd (kTab_at tX7_placeOf_ok 8 rfl) ?_
  exact Z_iret (kTab_at tX7_placeOf_ok 9 rfl) rfl rfl rfl h
def f_X7_correctionOf_58 (p0 : Nat) (p1 : Int) (p2 : Int) (p3 : Int) (k9 : Int → Int → Int → Mu → Option Res) (v4 : Int) (v5 : Int) (v6 : Int) (μ : Mu) : Option Res := k9 v4 v5 (v6 + 1) μ
set_option maxRecDepth 100000 in
theorem c_X7_correctionOf_58 (X : kX) (p0 : Nat) (p1 : Int) (p2 : Int) (p3 : Int) (h0 : Lay p0 (ksX7 p0)) {res : Res} (k9 : Int → Int → Int → Mu → Option Res) (hk9 : ∀ (v4 : Int), ∀ (v5 : Int), ∀ (v6 : Int), ∀ (μ : Mu), k9 v4 v5 v6 μ = some res → KK X mX7_correctionOf 1 1 res 9 [(0, .ref (X.1 + p0)), (1, .int (iI p1)), (2, .int (iI p2)), (3, .int (iI p3)), (4, .int (iI v4)), (5, .int (iI v5)), (6, .int (iI v6))] [] μ) (v4 : Int) (v5 : Int) (v6 : Int) (μ : Mu) (h : f_X7_correctionOf_58 p0 p1 p2 p3 k9 v4 v5 v6 μ = some res) : KK X mX7_correctionOf 1 1 res 58 [(0, .ref (X.1 + p0)), (1, .int (iI p1)), (2, .int (iI p2)), (3, .int (iI p3)), (4, .int (iI v4)), (5, .int (iI v5)), (6, .int (iI v6))] [] μ := by
  unfold f_X7_correctionOf_58 at h
  refine K_iinc (l' := [(6, .int (iI (v6 + 1))), (0, .ref (X.1 + p0)), (1, .int (iI p1)), (2, .int (iI p2)), (3, .int (iI p3)), (4, .int (iI v4)), (5, .int (iI v5))]) 6 (kTab_at tX7_correctionOf_ok 35 rfl) rfl (Nat.le_of_ble_eq_true rfl) rfl ?_
  refine K_goto (tgt := 9) (kTab_at tX7_correctionOf_ok 36 rfl) rfl ?_
  refine K_sub [1, 2, 3, 4, 5, 6, 0] rfl ?_
  exact hk9 v4 v5 (v6 + 1) μ h
def f_X7_correctionOf_81 (p0 : Nat) (p1 : Int) (p2 : Int) (p3 : Int)   (μ : Mu) : Option Res := some (μ, 0, 0)
set_option maxRecDepth 100000 in
theorem c_X7_correctionOf_81 (X : kX) (p0 : Nat) (p1 : Int) (p2 : Int) (p3 : Int) (h0 : Lay p0 (ksX7 p0)) {res : Res}  (μ : Mu) (h : f_X7_correctionOf_81 p0 p1 p2 p3 μ = some res) : KK X mX7_correctionOf 1 1 res 81 [] [] μ := by
  unfold f_X7_correctionOf_81 at h
  refine K_iconst (x := 0) (kTab_at tX7_correctionOf_ok 45 rfl) rfl ?_
  exact Z_iret (kTab_at tX7_correctionOf_ok 46 rfl) rfl rfl rfl h
def f_X7_correctionOf_9 (p0 : Nat) (p1 : Int) (p2 : Int) (p3 : Int) (k64 : Int → Int → Mu → Option Res) : Nat → Int → Int → Int → Mu → Option Res
  | 0, _, _, _, _ => none
  | fu + 1, v4, v5, v6, μ => i_lt v6 5 (rb (f_X7_placeOf p0 p1 p2 v6 μ) fun μ x1 => rdI μ (p0 + 3) 100 x1 fun x2 => i_eq x2 (-1) (f_X7_correctionOf_58 p0 p1 p2 p3 f_X7_correctionOf_9 p0 p1 p2 p3 k64 fu v4 v5 v6 μ) (rdI μ (p0 + 2) 25 ((p2 * 5) + v6) fun x3 => bnd (v5 + (x2 - x3)) fun x4 => f_X7_correctionOf_58 p0 p1 p2 p3 f_X7_correctionOf_9 p0 p1 p2 p3 k64 fu (v4 + 1) x4 v6 μ)) (k64 v4 v5 μ)
set_option maxRecDepth 100000 in
theorem c_X7_correctionOf_9 (X : kX) (p0 : Nat) (p1 : Int) (p2 : Int) (p3 : Int) (h0 : Lay p0 (ksX7 p0)) {res : Res} (k64 : Int → Int → Mu → Option Res) (hk64 : ∀ (v4 : Int), ∀ (v5 : Int), ∀ (μ : Mu), k64 v4 v5 μ = some res → KK X mX7_correctionOf 1 1 res 64 [(3, .int (iI p3)), (4, .int (iI v4)), (5, .int (iI v5))] [] μ) : ∀ (fu : Nat)  (v4 : Int) (v5 : Int) (v6 : Int) (μ : Mu), f_X7_correctionOf_9 p0 p1 p2 p3 k64 fu v4 v5 v6 μ = some res → KK X mX7_correctionOf 1 1 res 9 [(0, .ref (X.1 + p0)), (1, .int (iI p1)), (2, .int (iI p2)), (3, .int (iI p3)), (4, .int (iI v4)), (5, .int (iI v5)), (6, .int (iI v6))] [] μ := by
  intro fu
  induction fu with
  | zero => intro v4 v5 v6 μ h; exact nomatch h
  | succ fu ih =>
    intro v4 v5 v6 μ h
    refine K_iload 6 (kTab_at tX7_correctionOf_ok 6 rfl) rfl ?_
    refine K_iconst (x := 5) (kTab_at tX7_correctionOf_ok 7 rfl) rfl ?_
    refine K_icmp_ge (kTab_at tX7_correctionOf_ok 8 rfl) (tgt := 64) rfl h (fun h => ?_) (fun h => ?_)
    · refine K_sub [3, 4, 5] rfl ?_
      exact hk64 v4 v5 μ h
    · refine K_aload_n 0 (kTab_at tX7_correctionOf_ok 9 rfl) rfl ?_
      refine K_getR (b := (p0 + 3)) (kTab_at tX7_correctionOf_ok 10 rfl) fl_X7_18 (lay_0 h0 rfl) rfl rfl ?_
      refine K_aload_n 0 (kTab_at tX7_correctionOf_ok 11 rfl) rfl ?_
      refine K_iload_n 1 (kTab_at tX7_correctionOf_ok 12 rfl) rfl ?_
      refine K_iload_n 2 (kTab_at tX7_correctionOf_ok 13 rfl) rfl ?_
      refine K_iload 6 (kTab_at tX7_correctionOf_ok 14 rfl) rfl ?_
      refine Z_callV (st := [.ref (X.1 + (p0 + 3))]) (sv := (fun x1 => [.int (iI x1), .ref (X.1 + (p0 + 3))])) (kTab_at tX7_correctionOf_ok 15 rfl) mv_X7_31 (lay_0 h0 rfl) rfl (Nat.le_of_ble_eq_true rfl) (by decide) rfl (c_X7_placeOf X p0 p1 p2 v6 h0 μ) (fun _ => rfl) h (fun μ x1 h => ?_) rfl
      refine Z_iald (kTab_at tX7_correctionOf_ok 16 rfl) (lay_at h0 3 rfl) (by decide) h (fun x2 h => ?_)
      refine K_istore (l' := [(7, .int (iI x2)), (0, .ref (X.1 + p0)), (1, .int (iI p1)), (2, .int (iI p2)), (3, .int (iI p3)), (4, .int (iI v4)), (5, .int (iI v5)), (6, .int (iI v6))]) (kTab_at tX7_correctionOf_ok 17 rfl) (Nat.le_of_ble_eq_true rfl) rfl ?_
      refine K_iload 0 (kTab_at tX7_correctionOf_ok 18 rfl) rfl ?_
      refine K_iconst (x := -1) (kTab_at tX7_correctionOf_ok 19 rfl) rfl ?_
      refine K_icmp_eq (kTab_at tX7_correctionOf_ok 20 rfl) (tgt := 58) rfl h (fun h => ?_) (fun h => ?_)
      · refine K_sub [1, 2, 3, 4, 5, 6, 7] rfl ?_
        refine c_X7_correctionOf_58 X p0 p1 p2 p3 h0 _ ih v4 v5 v6 μ h
      · refine K_iinc (l' := [(4, .int (iI (v4 + 1))), (7, .int (iI x2)), (0, .ref (X.1 + p0)), (1, .int (iI p1)), (2, .int (iI p2)), (3, .int (iI p3)), (5, .int (iI v5)), (6, .int (iI v6))]) 5 (kTab_at tX7_correctionOf_ok 21 rfl) rfl (Nat.le_of_ble_eq_true rfl) rfl ?_
        refine K_iload 6 (kTab_at tX7_correctionOf_ok 22 rfl) rfl ?_
        refine K_iload 1 (kTab_at tX7_correctionOf_ok 23 rfl) rfl ?_
        refine K_aload_n 2 (kTab_at tX7_correctionOf_ok 24 rfl) rfl ?_
        refine K_getR (b := (p0 + 2)) (kTab_at tX7_correctionOf_ok 25 rfl) fl_X7_15 (lay_0 h0 rfl) rfl rfl ?_
        refine K_iload_n 4 (kTab_at tX7_correctionOf_ok 26 rfl) rfl ?_
        refine K_iconst (x := 5) (kTab_at tX7_correctionOf_ok 27 rfl) rfl ?_
        refine K_imul (kTab_at tX7_correctionOf_ok 28 rfl) ?_
        refine K_iload 7 (kTab_at tX7_correctionOf_ok 29 rfl) rfl ?_
        refine K_iadd (kTab_at tX7_correctionOf_ok 30 rfl) ?_
        refine Z_iald (kTab_at tX7_correctionOf_ok 31 rfl) (lay_at h0 2 rfl) (by decide) h (fun x3 h => ?_)
        refine K_isub (kTab_at tX7_correctionOf_ok 32 rfl) ?_
        refine K_iadd (kTab_at tX7_correctionOf_ok 33 rfl) ?_
        refine Z_bnd h (fun x4 h => ?_)
        refine K_istore (l' := [(5, .int (iI x4)), (4, .int (iI (v4 + 1))), (7, .int (iI x2)), (0, .ref (X.1 + p0)), (1, .int (iI p1)), (2, .int (iI p2)), (3, .int (iI p3)), (6, .int (iI v6))]) (kTab_at tX7_correctionOf_ok 34 rfl) (Nat.le_of_ble_eq_true rfl) rfl ?_
        refine K_sub [3, 4, 5, 6, 1, 0, 7] rfl ?_
        refine c_X7_correctionOf_58 X p0 p1 p2 p3 h0 _ ih (v4 + 1) x4 v6 μ h
def f_X7_correctionOf (p0 : Nat) (p1 : Int) (p2 : Int) (p3 : Int) (μ : Mu) : Option Res := f_X7_correctionOf_9 p0 p1 p2 p3 (fun v4 v5 μ => i_eq v4 0 (f_X7_correctionOf_81 p0 p1 p2 p3 μ) (i_abs v5 fun x1 => i_lt (v4 * p3) x1 (i_div 120 v4 fun x2 => some (μ, 0, ((-v5) * x2))) (f_X7_correctionOf_81 p0 p1 p2 p3 μ))) 100000 0 0 0 μ
set_option maxRecDepth 100000 in
theorem c_X7_correctionOf (X : kX) (p0 : Nat) (p1 : Int) (p2 : Int) (p3 : Int) (h0 : Lay p0 (ksX7 p0)) (μ : Mu) : Cq X mX7_correctionOf 1 1 μ [.ref (X.1 + p0), .int (iI p1), .int (iI p2), .int (iI p3)] (f_X7_correctionOf p0 p1 p2 p3 μ) := by
  intro res h
  refine ct_of (by decide +kernel) rfl (Nat.le_of_ble_eq_true rfl) ?_
  show KK X mX7_correctionOf 1 1 res 0 [(0, .ref (X.1 + p0)), (1, .int (iI p1)), (2, .int (iI p2)), (3, .int (iI p3))] [] μ
  unfold f_X7_correctionOf at h
  refine K_iconst (x := 0) (kTab_at tX7_correctionOf_ok 0 rfl) rfl ?_
  refine K_istore (l' := [(4, .int (iI 0)), (0, .ref (X.1 + p0)), (1, .int (iI p1)), (2, .int (iI p2)), (3, .int (iI p3))]) (kTab_at tX7_correctionOf_ok 1 rfl) (Nat.le_of_ble_eq_true rfl) rfl ?_
  refine K_iconst (x := 0) (kTab_at tX7_correctionOf_ok 2 rfl) rfl ?_
  refine K_istore (l' := [(5, .int (iI 0)), (4, .int (iI 0)), (0, .ref (X.1 + p0)), (1, .int (iI p1)), (2, .int (iI p2)), (3, .int (iI p3))]) (kTab_at tX7_correctionOf_ok 3 rfl) (Nat.le_of_ble_eq_true rfl) rfl ?_
  refine K_iconst (x := 0) (kTab_at tX7_correctionOf_ok 4 rfl) rfl ?_
  refine K_istore (l' := [(6, .int (iI 0)), (5, .int (iI 0)), (4, .int (iI 0)), (0, .ref (X.1 + p0)), (1, .int (iI p1)), (2, .int (iI p2)), (3, .int (iI p3))]) (kTab_at tX7_correctionOf_ok 5 rfl) (Nat.le_of_ble_eq_true rfl) rfl ?_
  refine K_sub [3, 4, 5, 6, 2, 1, 0] rfl ?_
  refine c_X7_correctionOf_9 X p0 p1 p2 p3 h0 _ ?_ _ 0 0 0 μ h
  · intro v4 v5 μ h
    refine K_iload 1 (kTab_at tX7_correctionOf_ok 37 rfl) rfl ?_
    refine K_if_eq (kTab_at tX7_correctionOf_ok 38 rfl) (tgt := 81) rfl h (fun h => ?_) (fun h => ?_)
    · refine K_sub [] rfl ?_
      refine c_X7_correctionOf_81 X p0 p1 p2 p3 h0  μ h
    · refine K_iload 2 (kTab_at tX7_correctionOf_ok 39 rfl) rfl ?_
      refine Z_mabs (kTab_at tX7_correctionOf_ok 40 rfl) (inT3 174 (by decide +kernel) rfl) (inT3 175 (by decide +kernel) rfl) (inT1 22 (by decide +kernel) rfl) (inT3 176 (by decide +kernel) rfl) (Nat.le_of_ble_eq_true rfl) h (fun x1 h => ?_)
      refine K_iload 1 (kTab_at tX7_correctionOf_ok 41 rfl) rfl ?_
      refine K_iload_n 0 (kTab_at tX7_correctionOf_ok 42 rfl) rfl ?_
      refine K_imul (kTab_at tX7_correctionOf_ok 43 rfl) ?_
      refine K_icmp_gt (kTab_at tX7_correctionOf_ok 44 rfl) (tgt := 83) rfl h (fun h => ?_) (fun h => ?_)
      · refine K_iload 2 (kTab_at tX7_correctionOf_ok 47 rfl) rfl ?_
        refine K_ineg (kTab_at tX7_correctionOf_ok 48 rfl) ?_
        refine K_bipush (x := 120) (kTab_at tX7_correctionOf_ok 49 rfl) (by decide) ?_
        refine K_iload 1 (kTab_at tX7_correctionOf_ok 50 rfl) rfl ?_
        refine Z_idiv (kTab_at tX7_correctionOf_ok 51 rfl) h (fun x2 h => ?_)
        refine K_imul (kTab_at tX7_correctionOf_ok 52 rfl) ?_
        exact Z_iret (kTab_at tX7_correctionOf_ok 53 rfl) rfl rfl rfl h
      · refine K_sub [] rfl ?_
        refine c_X7_correctionOf_81 X p0 p1 p2 p3 h0  μ h
def f_X10_distanceOf_14 (p0 : Int) (p1 : Int)  (s0 : Int) (μ : Mu) : Option Res := some (μ, 0, s0)
set_option maxRecDepth 100000 in
theorem n_X10_distanceOf_14 (p0 : Int) (p1 : Int)   (s0 : Int) (μ : Mu) : nth (f_X10_distanceOf_14 p0 p1 s0 μ) := by
  unfold f_X10_distanceOf_14
  repeat (first | exact nth_s _ _ | exact nth_Z _ _ | apply nth_ilt | apply nth_ieq | apply nth_llt | apply nth_leq | (apply nth_rdI; intro _) | (apply nth_wrI; intro _) | (apply nth_bnd; intro _) | (apply nth_idiv; intro _) | (apply nth_irem; intro _) | (apply nth_ldiv; intro _) | (apply nth_lrem; intro _) | (apply nth_max; intro _) | (apply nth_min; intro _) | (apply nth_cpy; intro _) | exact ih _ | exact ih _ _ | exact ih _ _ _ | exact ih _ _ _ _ | exact ih _ _ _ _ _ | (refine n_X10_distanceOf_14 _ _ _ _; all_goals (try intros)))
set_option maxRecDepth 100000 in
theorem c_X10_distanceOf_14 (X : kX) (p0 : Int) (p1 : Int)  {res : Res}  (s0 : Int) (μ : Mu) (h : f_X10_distanceOf_14 p0 p1 s0 μ = some res) : KK X mX10_distanceOf 0 1 res 14 [] [.int (iI s0)] μ := by
  unfold f_X10_distanceOf_14 at h
  exact Z_iret (kTab_at tX10_distanceOf_ok 10 rfl) rfl rfl rfl h
def f_X10_distanceOf (p0 : Int) (p1 : Int) (μ : Mu) : Option Res := i_lt p1 p0 (f_X10_distanceOf_14 p0 p1 (p0 - p1) μ) (f_X10_distanceOf_14 p0 p1 (p1 - p0) μ)
set_option maxRecDepth 100000 in
theorem c_X10_distanceOf (X : kX) (p0 : Int) (p1 : Int)  (μ : Mu) : Cq X mX10_distanceOf 0 1 μ [.int (iI p0), .int (iI p1)] (f_X10_distanceOf p0 p1 μ) := by
  intro res h
  refine ct_of (by decide +kernel) rfl (Nat.le_of_ble_eq_true rfl) ?_
  show KK X mX10_distanceOf 0 1 res 0 [(0, .int (iI p0)), (1, .int (iI p1))] [] μ
  unfold f_X10_distanceOf at h
  refine K_iload_n 0 (kTab_at tX10_distanceOf_ok 0 rfl) rfl ?_
  refine K_iload_n 1 (kTab_at tX10_distanceOf_ok 1 rfl) rfl ?_
  refine K_icmp_le (kTab_at tX10_distanceOf_ok 2 rfl) (tgt := 11) rfl h (fun h => ?_) (fun h => ?_)
  · refine K_iload_n 1 (kTab_at tX10_distanceOf_ok 7 rfl) rfl ?_
    refine K_iload_n 0 (kTab_at tX10_distanceOf_ok 8 rfl) rfl ?_
    refine K_isub (kTab_at tX10_distanceOf_ok 9 rfl) ?_
    refine K_sub [] rfl ?_
    refine c_X10_distanceOf_14 X p0 p1  (p1 - p0) μ h
  · refine K_iload_n 0 (kTab_at tX10_distanceOf_ok 3 rfl) rfl ?_
    refine K_iload_n 1 (kTab_at tX10_distanceOf_ok 4 rfl) rfl ?_
    refine K_isub (kTab_at tX10_distanceOf_ok 5 rfl) ?_
    refine K_goto (tgt := 14) (kTab_at tX10_distanceOf_ok 6 rfl) rfl ?_
    refine K_sub [] rfl ?_
    refine c_X10_distanceOf_14 X p0 p1  (p0 - p1) μ h
set_option maxRecDepth 100000 in
theorem n_X10_distanceOf (p0 : Int) (p1 : Int) (μ : Mu) : nth (f_X10_distanceOf p0 p1 μ) := by
  unfold f_X10_distanceOf
  repeat (first | exact nth_s _ _ | exact nth_Z _ _ | apply nth_ilt | apply nth_ieq | apply nth_llt | apply nth_leq | (apply nth_rdI; intro _) | (apply nth_wrI; intro _) | (apply nth_bnd; intro _) | (apply nth_idiv; intro _) | (apply nth_irem; intro _) | (apply nth_ldiv; intro _) | (apply nth_lrem; intro _) | (apply nth_max; intro _) | (apply nth_min; intro _) | (apply nth_cpy; intro _) | exact ih _ | exact ih _ _ | exact ih _ _ _ | exact ih _ _ _ _ | exact ih _ _ _ _ _ | (refine n_X10_distanceOf_14 _ _ _ _; all_goals (try intros)))
def f_X7_strays_52 (p0 : Nat) (p1 : Int) (p2 : Int) (p3 : Int) (k3 : Int → Mu → Option Res) (v4 : Int) (μ : Mu) : Option Res := k3 (v4 + 1) μ
set_option maxRecDepth 100000 in
theorem c_X7_strays_52 (X : kX) (p0 : Nat) (p1 : Int) (p2 : Int) (p3 : Int) (h0 : Lay p0 (ksX7 p0)) {res : Res} (k3 : Int → Mu → Option Res) (hk3 : ∀ (v4 : Int), ∀ (μ : Mu), k3 v4 μ = some res → KK X mX7_strays 1 1 res 3 [(0, .ref (X.1 + p0)), (1, .int (iI p1)), (2, .int (iI p2)), (3, .int (iI p3)), (4, .int (iI v4))] [] μ) (v4 : Int) (μ : Mu) (h : f_X7_strays_52 p0 p1 p2 p3 k3 v4 μ = some res) : KK X mX7_strays 1 1 res 52 [(0, .ref (X.1 + p0)), (1, .int (iI p1)), (2, .int (iI p2)), (3, .int (iI p3)), (4, .int (iI v4))] [] μ := by
  unfold f_X7_strays_52 at h
  refine K_iinc (l' := [(4, .int (iI (v4 + 1))), (0, .ref (X.1 + p0)), (1, .int (iI p1)), (2, .int (iI p2)), (3, .int (iI p3))]) 4 (kTab_at tX7_strays_ok 31 rfl) rfl (Nat.le_of_ble_eq_true rfl) rfl ?_
  refine K_goto (tgt := 3) (kTab_at tX7_strays_ok 32 rfl) rfl ?_
  refine K_sub [1, 2, 3, 4, 0] rfl ?_
  exact hk3 (v4 + 1) μ h
def f_X7_strays_3 (p0 : Nat) (p1 : Int) (p2 : Int) (p3 : Int) (k50 : Mu → Option Res) (k58 : Mu → Option Res) : Nat → Int → Mu → Option Res
  | 0, _, _ => none
  | fu + 1, v4, μ => i_lt v4 5 (rb (f_X7_placeOf p0 p1 p2 v4 μ) fun μ x1 => rdI μ (p0 + 3) 100 x1 fun x2 => i_eq x2 (-1) (f_X7_strays_52 p0 p1 p2 p3 f_X7_strays_3 p0 p1 p2 p3 k50 k58 fu v4 μ) (rdI μ (p0 + 2) 25 ((p2 * 5) + v4) fun x3 => rb (f_X10_distanceOf x2 x3 μ) fun μ x4 => i_lt p3 x4 (k50 μ) (f_X7_strays_52 p0 p1 p2 p3 f_X7_strays_3 p0 p1 p2 p3 k50 k58 fu v4 μ))) (k58 μ)
set_option maxRecDepth 100000 in
theorem c_X7_strays_3 (X : kX) (p0 : Nat) (p1 : Int) (p2 : Int) (p3 : Int) (h0 : Lay p0 (ksX7 p0)) {res : Res} (k50 : Mu → Option Res) (hk50 : ∀ (μ : Mu), k50 μ = some res → KK X mX7_strays 1 1 res 50 [] [] μ) (k58 : Mu → Option Res) (hk58 : ∀ (μ : Mu), k58 μ = some res → KK X mX7_strays 1 1 res 58 [] [] μ) : ∀ (fu : Nat)  (v4 : Int) (μ : Mu), f_X7_strays_3 p0 p1 p2 p3 k50 k58 fu v4 μ = some res → KK X mX7_strays 1 1 res 3 [(0, .ref (X.1 + p0)), (1, .int (iI p1)), (2, .int (iI p2)), (3, .int (iI p3)), (4, .int (iI v4))] [] μ := by
  intro fu
  induction fu with
  | zero => intro v4 μ h; exact nomatch h
  | succ fu ih =>
    intro v4 μ h
    refine K_iload 4 (kTab_at tX7_strays_ok 2 rfl) rfl ?_
    refine K_iconst (x := 5) (kTab_at tX7_strays_ok 3 rfl) rfl ?_
    refine K_icmp_ge (kTab_at tX7_strays_ok 4 rfl) (tgt := 58) rfl h (fun h => ?_) (fun h => ?_)
    · refine K_sub [] rfl ?_
      exact hk58 μ h
    · refine K_aload_n 0 (kTab_at tX7_strays_ok 5 rfl) rfl ?_
      refine K_getR (b := (p0 + 3)) (kTab_at tX7_strays_ok 6 rfl) fl_X7_18 (lay_0 h0 rfl) rfl rfl ?_
      refine K_aload_n 0 (kTab_at tX7_strays_ok 7 rfl) rfl ?_
      refine K_iload_n 1 (kTab_at tX7_strays_ok 8 rfl) rfl ?_
      refine K_iload_n 2 (kTab_at tX7_strays_ok 9 rfl) rfl ?_
      refine K_iload 4 (kTab_at tX7_strays_ok 10 rfl) rfl ?_
      refine Z_callV (st := [.ref (X.1 + (p0 + 3))]) (sv := (fun x1 => [.int (iI x1), .ref (X.1 + (p0 + 3))])) (kTab_at tX7_strays_ok 11 rfl) mv_X7_31 (lay_0 h0 rfl) rfl (Nat.le_of_ble_eq_true rfl) (by decide) rfl (c_X7_placeOf X p0 p1 p2 v4 h0 μ) (fun _ => rfl) h (fun μ x1 h => ?_) rfl
      refine Z_iald (kTab_at tX7_strays_ok 12 rfl) (lay_at h0 3 rfl) (by decide) h (fun x2 h => ?_)
      refine K_istore (l' := [(5, .int (iI x2)), (0, .ref (X.1 + p0)), (1, .int (iI p1)), (2, .int (iI p2)), (3, .int (iI p3)), (4, .int (iI v4))]) (kTab_at tX7_strays_ok 13 rfl) (Nat.le_of_ble_eq_true rfl) rfl ?_
      refine K_iload 0 (kTab_at tX7_strays_ok 14 rfl) rfl ?_
      refine K_iconst (x := -1) (kTab_at tX7_strays_ok 15 rfl) rfl ?_
      refine K_icmp_eq (kTab_at tX7_strays_ok 16 rfl) (tgt := 52) rfl h (fun h => ?_) (fun h => ?_)
      · refine K_sub [1, 2, 3, 4, 5] rfl ?_
        refine c_X7_strays_52 X p0 p1 p2 p3 h0 _ ih v4 μ h
      · refine K_iload 0 (kTab_at tX7_strays_ok 17 rfl) rfl ?_
        refine K_aload_n 1 (kTab_at tX7_strays_ok 18 rfl) rfl ?_
        refine K_getR (b := (p0 + 2)) (kTab_at tX7_strays_ok 19 rfl) fl_X7_15 (lay_0 h0 rfl) rfl rfl ?_
        refine K_iload_n 3 (kTab_at tX7_strays_ok 20 rfl) rfl ?_
        refine K_iconst (x := 5) (kTab_at tX7_strays_ok 21 rfl) rfl ?_
        refine K_imul (kTab_at tX7_strays_ok 22 rfl) ?_
        refine K_iload 5 (kTab_at tX7_strays_ok 23 rfl) rfl ?_
        refine K_iadd (kTab_at tX7_strays_ok 24 rfl) ?_
        refine Z_iald (kTab_at tX7_strays_ok 25 rfl) (lay_at h0 2 rfl) (by decide) h (fun x3 h => ?_)
        refine Z_callSN (st := []) (sv := (fun x4 => [.int (iI x4)])) (kTab_at tX7_strays_ok 26 rfl) mn_X7_45 rfl (Nat.le_of_ble_eq_true rfl) (by decide) (c_X10_distanceOf X x2 x3 μ) (n_X10_distanceOf x2 x3 μ) (fun _ => rfl) h (fun μ x4 h => ?_) rfl
        refine K_iload_n 4 (kTab_at tX7_strays_ok 27 rfl) rfl ?_
        refine K_icmp_le (kTab_at tX7_strays_ok 28 rfl) (tgt := 52) rfl h (fun h => ?_) (fun h => ?_)
        · refine K_sub [1, 2, 3, 4, 5] rfl ?_
          refine c_X7_strays_52 X p0 p1 p2 p3 h0 _ ih v4 μ h
        · refine K_sub [] rfl ?_
          exact hk50 μ h
def f_X7_strays (p0 : Nat) (p1 : Int) (p2 : Int) (p3 : Int) (μ : Mu) : Option Res := f_X7_strays_3 p0 p1 p2 p3 (fun μ => retZ μ 1) (fun μ => retZ μ 0) 100000 0 μ
set_option maxRecDepth 100000 in
theorem c_X7_strays (X : kX) (p0 : Nat) (p1 : Int) (p2 : Int) (p3 : Int) (h0 : Lay p0 (ksX7 p0)) (μ : Mu) : Cq X mX7_strays 1 1 μ [.ref (X.1 + p0), .int (iI p1), .int (iI p2), .int (iI p3)] (f_X7_strays p0 p1 p2 p3 μ) := by
  intro res h
  refine ct_of (by decide +kernel) rfl (Nat.le_of_ble_eq_true rfl) ?_
  show KK X mX7_strays 1 1 res 0 [(0, .ref (X.1 + p0)), (1, .int (iI p1)), (2, .int (iI p2)), (3, .int (iI p3))] [] μ
  unfold f_X7_strays at h
  refine K_iconst (x := 0) (kTab_at tX7_strays_ok 0 rfl) rfl ?_
  refine K_istore (l' := [(4, .int (iI 0)), (0, .ref (X.1 + p0)), (1, .int (iI p1)), (2, .int (iI p2)), (3, .int (iI p3))]) (kTab_at tX7_strays_ok 1 rfl) (Nat.le_of_ble_eq_true rfl) rfl ?_
  refine K_sub [1, 2, 3, 4, 0] rfl ?_
  refine c_X7_strays_3 X p0 p1 p2 p3 h0 _ ?_ _ ?_ _ 0 μ h
  · intro  μ h
    refine K_iconst (x := 1) (kTab_at tX7_strays_ok 29 rfl) rfl ?_
    exact Z_zret (kTab_at tX7_strays_ok 30 rfl) rfl rfl h
  · intro  μ h
    refine K_iconst (x := 0) (kTab_at tX7_strays_ok 33 rfl) rfl ?_
    exact Z_zret (kTab_at tX7_strays_ok 34 rfl) rfl rfl h
def f_X10_copyRow (p0 n0 : Nat) (p1 n1 : Nat) (μ : Mu) : Option Res := i_min ((n0 : Nat) : Int) ((n1 : Nat) : Int) fun x1 => cpyI μ p0 n0 0 p1 n1 0 x1 fun μ => some (μ, 0, 0)
set_option maxRecDepth 100000 in
theorem c_X10_copyRow (X : kX) (p0 n0 : Nat) (p1 n1 : Nat) {r0 : Nat → Option Nat} (h0 : SK[p0]? = some (.inl (0, n0, r0))) (b0 : n0 < 2 ^ 31) {r1 : Nat → Option Nat} (h1 : SK[p1]? = some (.inl (0, n1, r1))) (b1 : n1 < 2 ^ 31) (μ : Mu) : Cq X mX10_copyRow 0 0 μ [.ref (X.1 + p0), .ref (X.1 + p1)] (f_X10_copyRow p0 n0 p1 n1 μ) := by
  intro res h
  refine ct_of (by decide +kernel) rfl (Nat.le_of_ble_eq_true rfl) ?_
  show KK X mX10_copyRow 0 0 res 0 [(0, .ref (X.1 + p0)), (1, .ref (X.1 + p1))] [] μ
  unfold f_X10_copyRow at h
  refine K_aload_n 0 (kTab_at tX10_copyRow_ok 0 rfl) rfl ?_
  refine K_iconst (x := 0) (kTab_at tX10_copyRow_ok 1 rfl) rfl ?_
  refine K_aload_n 1 (kTab_at tX10_copyRow_ok 2 rfl) rfl ?_
  refine K_iconst (x := 0) (kTab_at tX10_copyRow_ok 3 rfl) rfl ?_
  refine K_aload_n 0 (kTab_at tX10_copyRow_ok 4 rfl) rfl ?_
  refine K_alen (kTab_at tX10_copyRow_ok 5 rfl) h0 (by decide) ?_
  refine K_aload_n 1 (kTab_at tX10_copyRow_ok 6 rfl) rfl ?_
  refine K_alen (kTab_at tX10_copyRow_ok 7 rfl) h1 (by decide) ?_
  refine Z_mmin (kTab_at tX10_copyRow_ok 8 rfl) (inT2 135 (by decide +kernel) rfl) (inT2 136 (by decide +kernel) rfl) (inT1 22 (by decide +kernel) rfl) (inT2 137 (by decide +kernel) rfl) (Nat.le_of_ble_eq_true rfl) h (fun x1 h => ?_)
  refine Z_copy (kTab_at tX10_copyRow_ok 9 rfl) (inT2 138 (by decide +kernel) rfl) (inT2 140 (by decide +kernel) rfl) (inT2 139 (by decide +kernel) rfl) (inT1 24 (by decide +kernel) rfl) h0 h1 (Nat.le_of_ble_eq_true rfl) h (fun μ h => ?_)
  exact Z_vret (kTab_at tX10_copyRow_ok 10 rfl) rfl rfl h
set_option maxRecDepth 100000 in
theorem n_X10_copyRow (p0 n0 : Nat) (p1 n1 : Nat) (μ : Mu) : nth (f_X10_copyRow p0 n0 p1 n1 μ) := by
  unfold f_X10_copyRow
  repeat (first | exact nth_s _ _ | exact nth_Z _ _ | apply nth_ilt | apply nth_ieq | apply nth_llt | apply nth_leq | (apply nth_rdI; intro _) | (apply nth_wrI; intro _) | (apply nth_bnd; intro _) | (apply nth_idiv; intro _) | (apply nth_irem; intro _) | (apply nth_ldiv; intro _) | (apply nth_lrem; intro _) | (apply nth_max; intro _) | (apply nth_min; intro _) | (apply nth_cpy; intro _) | exact ih _ | exact ih _ _ | exact ih _ _ _ | exact ih _ _ _ _ | exact ih _ _ _ _ _)

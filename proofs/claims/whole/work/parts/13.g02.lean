def f_X10_distanceOf_14 (p0 : Int) (p1 : Int)  (s0 : Int) (μ : Mu) : Option Res := some (μ, 0, s0)
set_option maxRecDepth 100000 in
theorem n_X10_distanceOf_14 (p0 : Int) (p1 : Int)   (s0 : Int) (μ : Mu) : nth (f_X10_distanceOf_14 p0 p1 s0 μ) := by
  unfold f_X10_distanceOf_14
  repeat (first | with_reducible exact nth_s _ _ | with_reducible exact nth_Z _ _ | with_reducible apply nth_ilt | with_reducible apply nth_ieq | with_reducible apply nth_llt | with_reducible apply nth_leq | (with_reducible apply nth_rdI; intro _) | (with_reducible apply nth_wrI; intro _) | (with_reducible apply nth_bnd; intro _) | (with_reducible apply nth_idiv; intro _) | (with_reducible apply nth_irem; intro _) | (with_reducible apply nth_ldiv; intro _) | (with_reducible apply nth_lrem; intro _) | (with_reducible apply nth_max; intro _) | (with_reducible apply nth_min; intro _) | (with_reducible apply nth_cpy; intro _) | with_reducible exact ih _ | with_reducible exact ih _ _ | with_reducible exact ih _ _ _ | with_reducible exact ih _ _ _ _)
set_option maxRecDepth 100000 in
theorem c_X10_distanceOf_14 (X : kX) (p0 : Int) (p1 : Int)  {res : Res}  (s0 : Int) (μ : Mu) (h : f_X10_distanceOf_14 p0 p1 s0 μ = some res) : KK X mX10_distanceOf 0 1 res 14 [] [.int (iI s0)] μ := by
  unfold f_X10_distanceOf_14 at h
  exact Z_iret (md := mX10_distanceOf) (pc := 14) (kTab_at (pc := 14) tX10_distanceOf_ok 10 rfl) rfl rfl rfl h
def f_X10_distanceOf (p0 : Int) (p1 : Int) (μ : Mu) : Option Res := i_lt p1 p0 (f_X10_distanceOf_14 p0 p1 (p0 - p1) μ) (f_X10_distanceOf_14 p0 p1 (p1 - p0) μ)
set_option maxRecDepth 100000 in
theorem c_X10_distanceOf (X : kX) (p0 : Int) (p1 : Int)  (μ : Mu) : Cq X mX10_distanceOf 0 1 μ [.int (iI p0), .int (iI p1)] (f_X10_distanceOf p0 p1 μ) := by
  intro res h
  refine ct_of (by decide +kernel) rfl (Nat.le_of_ble_eq_true rfl) ?_
  show KK X mX10_distanceOf 0 1 res 0 [(0, .int (iI p0)), (1, .int (iI p1))] [] μ
  unfold f_X10_distanceOf at h
  refine K_iload_n (md := mX10_distanceOf) (pc := 0) 0 (kTab_at (pc := 0) tX10_distanceOf_ok 0 rfl) rfl ?_
  refine K_iload_n (md := mX10_distanceOf) (pc := 1) 1 (kTab_at (pc := 1) tX10_distanceOf_ok 1 rfl) rfl ?_
  refine K_icmp_le (md := mX10_distanceOf) (pc := 2) (kTab_at (pc := 2) tX10_distanceOf_ok 2 rfl) (tgt := 11) rfl h (fun h => ?_) (fun h => ?_)
  · refine K_iload_n (md := mX10_distanceOf) (pc := 11) 1 (kTab_at (pc := 11) tX10_distanceOf_ok 7 rfl) rfl ?_
    refine K_iload_n (md := mX10_distanceOf) (pc := 12) 0 (kTab_at (pc := 12) tX10_distanceOf_ok 8 rfl) rfl ?_
    refine K_isub (md := mX10_distanceOf) (pc := 13) (kTab_at (pc := 13) tX10_distanceOf_ok 9 rfl) ?_
    refine K_sub [] rfl ?_
    refine c_X10_distanceOf_14 X p0 p1  (p1 - p0) μ h
  · refine K_iload_n (md := mX10_distanceOf) (pc := 5) 0 (kTab_at (pc := 5) tX10_distanceOf_ok 3 rfl) rfl ?_
    refine K_iload_n (md := mX10_distanceOf) (pc := 6) 1 (kTab_at (pc := 6) tX10_distanceOf_ok 4 rfl) rfl ?_
    refine K_isub (md := mX10_distanceOf) (pc := 7) (kTab_at (pc := 7) tX10_distanceOf_ok 5 rfl) ?_
    refine K_goto (md := mX10_distanceOf) (pc := 8) (tgt := 14) (kTab_at (pc := 8) tX10_distanceOf_ok 6 rfl) rfl ?_
    refine K_sub [] rfl ?_
    refine c_X10_distanceOf_14 X p0 p1  (p0 - p1) μ h
set_option maxRecDepth 100000 in
theorem n_X10_distanceOf (p0 : Int) (p1 : Int) (μ : Mu) : nth (f_X10_distanceOf p0 p1 μ) := by
  unfold f_X10_distanceOf
  repeat (first | with_reducible exact nth_s _ _ | with_reducible exact nth_Z _ _ | with_reducible apply nth_ilt | with_reducible apply nth_ieq | with_reducible apply nth_llt | with_reducible apply nth_leq | (with_reducible apply nth_rdI; intro _) | (with_reducible apply nth_wrI; intro _) | (with_reducible apply nth_bnd; intro _) | (with_reducible apply nth_idiv; intro _) | (with_reducible apply nth_irem; intro _) | (with_reducible apply nth_ldiv; intro _) | (with_reducible apply nth_lrem; intro _) | (with_reducible apply nth_max; intro _) | (with_reducible apply nth_min; intro _) | (with_reducible apply nth_cpy; intro _) | with_reducible exact ih _ | with_reducible exact ih _ _ | with_reducible exact ih _ _ _ | with_reducible exact ih _ _ _ _ | (with_reducible refine n_X10_distanceOf_14 _ _ _ _; all_goals (try intros)))
def f_X7_strays_52 (p0 : Nat) (p1 : Int) (p2 : Int) (p3 : Int) (k3 : Int → Mu → Option Res) (v4 : Int) (μ : Mu) : Option Res := k3 (v4 + 1) μ
set_option maxRecDepth 100000 in
theorem c_X7_strays_52 (X : kX) (p0 : Nat) (p1 : Int) (p2 : Int) (p3 : Int) (h0 : Lay p0 (ksX7 p0)) {res : Res} (k3 : Int → Mu → Option Res) (hk3 : ∀ (v4 : Int), ∀ (μ : Mu), k3 v4 μ = some res → KK X mX7_strays 1 1 res 3 [(0, .ref (X.1 + p0)), (1, .int (iI p1)), (2, .int (iI p2)), (3, .int (iI p3)), (4, .int (iI v4))] [] μ) (v4 : Int) (μ : Mu) (h : f_X7_strays_52 p0 p1 p2 p3 k3 v4 μ = some res) : KK X mX7_strays 1 1 res 52 [(0, .ref (X.1 + p0)), (1, .int (iI p1)), (2, .int (iI p2)), (3, .int (iI p3)), (4, .int (iI v4))] [] μ := by
  unfold f_X7_strays_52 at h
  refine K_iinc (md := mX7_strays) (pc := 52) (l' := [(4, .int (iI (v4 + 1))), (0, .ref (X.1 + p0)), (1, .int (iI p1)), (2, .int (iI p2)), (3, .int (iI p3))]) 4 (kTab_at (pc := 52) tX7_strays_ok 31 rfl) rfl (Nat.le_of_ble_eq_true rfl) rfl ?_
  refine K_goto (md := mX7_strays) (pc := 55) (tgt := 3) (kTab_at (pc := 55) tX7_strays_ok 32 rfl) rfl ?_
  refine K_sub [1, 2, 3, 4, 0] rfl ?_
  exact hk3 (v4 + 1) μ h
def f_X7_strays_3 (p0 : Nat) (p1 : Int) (p2 : Int) (p3 : Int) (k50 : Mu → Option Res) (k58 : Mu → Option Res) : Nat → Int → Mu → Option Res
  | 0, _, _ => none
  | fu + 1, v4, μ => i_lt v4 5 (rb (f_X7_placeOf p0 p1 p2 v4 μ) fun μ x1 => rdI μ (p0 + 3) 100 x1 fun x2 => i_eq x2 (-1) (f_X7_strays_52 p0 p1 p2 p3 (f_X7_strays_3 p0 p1 p2 p3 k50 k58 fu) v4 μ) (rdI μ (p0 + 2) 25 ((p2 * 5) + v4) fun x3 => rb (f_X10_distanceOf x2 x3 μ) fun μ x4 => i_lt p3 x4 (k50 μ) (f_X7_strays_52 p0 p1 p2 p3 (f_X7_strays_3 p0 p1 p2 p3 k50 k58 fu) v4 μ))) (k58 μ)
set_option maxRecDepth 100000 in
theorem c_X7_strays_3 (X : kX) (p0 : Nat) (p1 : Int) (p2 : Int) (p3 : Int) (h0 : Lay p0 (ksX7 p0)) {res : Res} (k50 : Mu → Option Res) (hk50 : ∀ (μ : Mu), k50 μ = some res → KK X mX7_strays 1 1 res 50 [] [] μ) (k58 : Mu → Option Res) (hk58 : ∀ (μ : Mu), k58 μ = some res → KK X mX7_strays 1 1 res 58 [] [] μ) : ∀ (fu : Nat)  (v4 : Int) (μ : Mu), f_X7_strays_3 p0 p1 p2 p3 k50 k58 fu v4 μ = some res → KK X mX7_strays 1 1 res 3 [(0, .ref (X.1 + p0)), (1, .int (iI p1)), (2, .int (iI p2)), (3, .int (iI p3)), (4, .int (iI v4))] [] μ := by
  intro fu
  induction fu with
  | zero => intro v4 μ h; exact nomatch h
  | succ fu ih =>
    intro v4 μ h
    refine K_iload (md := mX7_strays) (pc := 3) 4 (kTab_at (pc := 3) tX7_strays_ok 2 rfl) rfl ?_
    refine K_iconst (md := mX7_strays) (pc := 5) (x := 5) (kTab_at (pc := 5) tX7_strays_ok 3 rfl) rfl ?_
    refine K_icmp_ge (md := mX7_strays) (pc := 6) (kTab_at (pc := 6) tX7_strays_ok 4 rfl) (tgt := 58) rfl h (fun h => ?_) (fun h => ?_)
    · refine K_sub [] rfl ?_
      exact hk58 μ h
    · refine K_aload_n (md := mX7_strays) (pc := 9) 0 (kTab_at (pc := 9) tX7_strays_ok 5 rfl) rfl ?_
      refine K_getR (md := mX7_strays) (pc := 10) (b := (p0 + 3)) (kTab_at (pc := 10) tX7_strays_ok 6 rfl) fl_X7_18 (lay_0 h0 rfl) rfl rfl ?_
      refine K_aload_n (md := mX7_strays) (pc := 13) 0 (kTab_at (pc := 13) tX7_strays_ok 7 rfl) rfl ?_
      refine K_iload_n (md := mX7_strays) (pc := 14) 1 (kTab_at (pc := 14) tX7_strays_ok 8 rfl) rfl ?_
      refine K_iload_n (md := mX7_strays) (pc := 15) 2 (kTab_at (pc := 15) tX7_strays_ok 9 rfl) rfl ?_
      refine K_iload (md := mX7_strays) (pc := 16) 4 (kTab_at (pc := 16) tX7_strays_ok 10 rfl) rfl ?_
      refine Z_callV (md := mX7_strays) (pc := 18) (st := [.ref (X.1 + (p0 + 3))]) (sv := (fun x1 => [.int (iI x1), .ref (X.1 + (p0 + 3))])) (kTab_at (pc := 18) tX7_strays_ok 11 rfl) mv_X7_31 (lay_0 h0 rfl) rfl (Nat.le_of_ble_eq_true rfl) (by decide) rfl (c_X7_placeOf X p0 p1 p2 v4 h0 μ) (fun _ => rfl) h (fun μ x1 h => ?_) rfl
      refine Z_iald (md := mX7_strays) (pc := 21) (kTab_at (pc := 21) tX7_strays_ok 12 rfl) (lay_at h0 3 rfl) (by decide) h (fun x2 h => ?_)
      refine K_istore (md := mX7_strays) (pc := 22) (l' := [(5, .int (iI x2)), (0, .ref (X.1 + p0)), (1, .int (iI p1)), (2, .int (iI p2)), (3, .int (iI p3)), (4, .int (iI v4))]) (kTab_at (pc := 22) tX7_strays_ok 13 rfl) (Nat.le_of_ble_eq_true rfl) rfl ?_
      refine K_iload (md := mX7_strays) (pc := 24) 0 (kTab_at (pc := 24) tX7_strays_ok 14 rfl) rfl ?_
      refine K_iconst (md := mX7_strays) (pc := 26) (x := -1) (kTab_at (pc := 26) tX7_strays_ok 15 rfl) rfl ?_
      refine K_icmp_eq (md := mX7_strays) (pc := 27) (kTab_at (pc := 27) tX7_strays_ok 16 rfl) (tgt := 52) rfl h (fun h => ?_) (fun h => ?_)
      · refine K_sub [1, 2, 3, 4, 5] rfl ?_
        refine c_X7_strays_52 X p0 p1 p2 p3 h0 _ ih v4 μ h
      · refine K_iload (md := mX7_strays) (pc := 30) 0 (kTab_at (pc := 30) tX7_strays_ok 17 rfl) rfl ?_
        refine K_aload_n (md := mX7_strays) (pc := 32) 1 (kTab_at (pc := 32) tX7_strays_ok 18 rfl) rfl ?_
        refine K_getR (md := mX7_strays) (pc := 33) (b := (p0 + 2)) (kTab_at (pc := 33) tX7_strays_ok 19 rfl) fl_X7_15 (lay_0 h0 rfl) rfl rfl ?_
        refine K_iload_n (md := mX7_strays) (pc := 36) 3 (kTab_at (pc := 36) tX7_strays_ok 20 rfl) rfl ?_
        refine K_iconst (md := mX7_strays) (pc := 37) (x := 5) (kTab_at (pc := 37) tX7_strays_ok 21 rfl) rfl ?_
        refine K_imul (md := mX7_strays) (pc := 38) (kTab_at (pc := 38) tX7_strays_ok 22 rfl) ?_
        refine K_iload (md := mX7_strays) (pc := 39) 5 (kTab_at (pc := 39) tX7_strays_ok 23 rfl) rfl ?_
        refine K_iadd (md := mX7_strays) (pc := 41) (kTab_at (pc := 41) tX7_strays_ok 24 rfl) ?_
        refine Z_iald (md := mX7_strays) (pc := 42) (kTab_at (pc := 42) tX7_strays_ok 25 rfl) (lay_at h0 2 rfl) (by decide) h (fun x3 h => ?_)
        refine Z_callSN (md := mX7_strays) (pc := 43) (st := []) (sv := (fun x4 => [.int (iI x4)])) (kTab_at (pc := 43) tX7_strays_ok 26 rfl) mn_X7_45 rfl (Nat.le_of_ble_eq_true rfl) (by decide) (c_X10_distanceOf X x2 x3 μ) (n_X10_distanceOf x2 x3 μ) (fun _ => rfl) h (fun μ x4 h => ?_) rfl
        refine K_iload_n (md := mX7_strays) (pc := 46) 4 (kTab_at (pc := 46) tX7_strays_ok 27 rfl) rfl ?_
        refine K_icmp_le (md := mX7_strays) (pc := 47) (kTab_at (pc := 47) tX7_strays_ok 28 rfl) (tgt := 52) rfl h (fun h => ?_) (fun h => ?_)
        · refine K_sub [1, 2, 3, 4, 5] rfl ?_
          refine c_X7_strays_52 X p0 p1 p2 p3 h0 _ ih v4 μ h
        · refine K_sub [] rfl ?_
          exact hk50 μ h
def f_X7_strays (p0 : Nat) (p1 : Int) (p2 : Int) (p3 : Int) (μ : Mu) : Option Res := f_X7_strays_3 p0 p1 p2 p3 (fun μ => retZ μ 1) (fun μ => retZ μ 0) FU 0 μ
set_option maxRecDepth 100000 in
theorem c_X7_strays (X : kX) (p0 : Nat) (p1 : Int) (p2 : Int) (p3 : Int) (h0 : Lay p0 (ksX7 p0)) (μ : Mu) : Cq X mX7_strays 1 1 μ [.ref (X.1 + p0), .int (iI p1), .int (iI p2), .int (iI p3)] (f_X7_strays p0 p1 p2 p3 μ) := by
  intro res h
  refine ct_of (by decide +kernel) rfl (Nat.le_of_ble_eq_true rfl) ?_
  show KK X mX7_strays 1 1 res 0 [(0, .ref (X.1 + p0)), (1, .int (iI p1)), (2, .int (iI p2)), (3, .int (iI p3))] [] μ
  unfold f_X7_strays at h
  refine K_iconst (md := mX7_strays) (pc := 0) (x := 0) (kTab_at (pc := 0) tX7_strays_ok 0 rfl) rfl ?_
  refine K_istore (md := mX7_strays) (pc := 1) (l' := [(4, .int (iI 0)), (0, .ref (X.1 + p0)), (1, .int (iI p1)), (2, .int (iI p2)), (3, .int (iI p3))]) (kTab_at (pc := 1) tX7_strays_ok 1 rfl) (Nat.le_of_ble_eq_true rfl) rfl ?_
  refine K_sub [1, 2, 3, 4, 0] rfl ?_
  refine c_X7_strays_3 X p0 p1 p2 p3 h0 _ ?_ _ ?_ _ 0 μ h
  · intro  μ h
    refine K_iconst (md := mX7_strays) (pc := 50) (x := 1) (kTab_at (pc := 50) tX7_strays_ok 29 rfl) rfl ?_
    exact Z_zret (md := mX7_strays) (pc := 51) (kTab_at (pc := 51) tX7_strays_ok 30 rfl) rfl rfl h
  · intro  μ h
    refine K_iconst (md := mX7_strays) (pc := 58) (x := 0) (kTab_at (pc := 58) tX7_strays_ok 33 rfl) rfl ?_
    exact Z_zret (md := mX7_strays) (pc := 59) (kTab_at (pc := 59) tX7_strays_ok 34 rfl) rfl rfl h
def f_X1_isValid_44 (p0 : Nat) (p1 : Int)  (s0 : Int) (μ : Mu) : Option Res := retZ μ s0
set_option maxRecDepth 100000 in
theorem c_X1_isValid_44 (X : kX) (p0 : Nat) (p1 : Int) (h0 : Lay p0 (ksX1 p0)) {res : Res}  (s0 : Int) (μ : Mu) (h : f_X1_isValid_44 p0 p1 s0 μ = some res) : KK X mX1_isValid 2 1 res 44 [] [.int (iI s0)] μ := by
  unfold f_X1_isValid_44 at h
  exact Z_zret (md := mX1_isValid) (pc := 44) (kTab_at (pc := 44) tX1_isValid_ok 24 rfl) rfl rfl h
def f_X1_isValid_43 (p0 : Nat) (p1 : Int)   (μ : Mu) : Option Res := f_X1_isValid_44 p0 p1 0 μ
set_option maxRecDepth 100000 in
theorem c_X1_isValid_43 (X : kX) (p0 : Nat) (p1 : Int) (h0 : Lay p0 (ksX1 p0)) {res : Res}  (μ : Mu) (h : f_X1_isValid_43 p0 p1 μ = some res) : KK X mX1_isValid 2 1 res 43 [] [] μ := by
  unfold f_X1_isValid_43 at h
  refine K_iconst (md := mX1_isValid) (pc := 43) (x := 0) (kTab_at (pc := 43) tX1_isValid_ok 23 rfl) rfl ?_
  refine c_X1_isValid_44 X p0 p1 h0  0 μ h
def f_X1_isValid (p0 : Nat) (p1 : Int) (μ : Mu) : Option Res := rdI μ ((p0 + 11) + 2) 120 p1 fun x1 => rb (f_X10_isBelow x1 4 μ) fun μ x2 => i_eq x2 0 (f_X1_isValid_43 p0 p1 μ) (rb (f_X10_questionOf p1 μ) fun μ x3 => rdI μ (p0 + 2) 5 1 fun x4 => rb (f_X7_strays (p0 + 7) x1 x3 x4 μ) fun μ x5 => i_eq x5 0 (f_X1_isValid_44 p0 p1 1 μ) (f_X1_isValid_43 p0 p1 μ))
set_option maxRecDepth 100000 in
theorem c_X1_isValid (X : kX) (p0 : Nat) (p1 : Int) (h0 : Lay p0 (ksX1 p0)) (μ : Mu) : Cq X mX1_isValid 2 1 μ [.ref (X.1 + p0), .int (iI p1)] (f_X1_isValid p0 p1 μ) := by
  intro res h
  refine ct_of (by decide +kernel) rfl (Nat.le_of_ble_eq_true rfl) ?_
  show KK X mX1_isValid 2 1 res 0 [(0, .ref (X.1 + p0)), (1, .int (iI p1))] [] μ
  unfold f_X1_isValid at h
  refine K_aload_n (md := mX1_isValid) (pc := 0) 0 (kTab_at (pc := 0) tX1_isValid_ok 0 rfl) rfl ?_
  refine K_getR (md := mX1_isValid) (pc := 1) (b := (p0 + 11)) (kTab_at (pc := 1) tX1_isValid_ok 1 rfl) fl_X1_40 (lay_0 h0 rfl) rfl rfl ?_
  refine K_getR (md := mX1_isValid) (pc := 4) (b := ((p0 + 11) + 2)) (kTab_at (pc := 4) tX1_isValid_ok 2 rfl) fl_X1_111 (lay_0 (lay_entries h0) rfl) rfl rfl ?_
  refine K_iload_n (md := mX1_isValid) (pc := 7) 1 (kTab_at (pc := 7) tX1_isValid_ok 3 rfl) rfl ?_
  refine Z_iald (md := mX1_isValid) (pc := 8) (kTab_at (pc := 8) tX1_isValid_ok 4 rfl) (lay_at (lay_entries h0) 2 rfl) (by decide) h (fun x1 h => ?_)
  refine K_istore_n (md := mX1_isValid) (pc := 9) (l' := [(2, .int (iI x1)), (0, .ref (X.1 + p0)), (1, .int (iI p1))]) (kTab_at (pc := 9) tX1_isValid_ok 5 rfl) (Nat.le_of_ble_eq_true rfl) rfl ?_
  refine K_iload_n (md := mX1_isValid) (pc := 10) 0 (kTab_at (pc := 10) tX1_isValid_ok 6 rfl) rfl ?_
  refine K_iconst (md := mX1_isValid) (pc := 11) (x := 4) (kTab_at (pc := 11) tX1_isValid_ok 7 rfl) rfl ?_
  refine Z_callSN (md := mX1_isValid) (pc := 12) (st := []) (sv := (fun x2 => [.int (iI x2)])) (kTab_at (pc := 12) tX1_isValid_ok 8 rfl) mn_X1_114 rfl (Nat.le_of_ble_eq_true rfl) (by decide) (c_X10_isBelow X x1 4 μ) (n_X10_isBelow x1 4 μ) (fun _ => rfl) h (fun μ x2 h => ?_) rfl
  refine K_if_eq (md := mX1_isValid) (pc := 15) (kTab_at (pc := 15) tX1_isValid_ok 9 rfl) (tgt := 43) rfl h (fun h => ?_) (fun h => ?_)
  · refine K_sub [] rfl ?_
    refine c_X1_isValid_43 X p0 p1 h0  μ h
  · refine K_aload_n (md := mX1_isValid) (pc := 18) 1 (kTab_at (pc := 18) tX1_isValid_ok 10 rfl) rfl ?_
    refine K_getR (md := mX1_isValid) (pc := 19) (b := (p0 + 7)) (kTab_at (pc := 19) tX1_isValid_ok 11 rfl) fl_X1_33 (lay_0 h0 rfl) rfl rfl ?_
    refine K_iload_n (md := mX1_isValid) (pc := 22) 0 (kTab_at (pc := 22) tX1_isValid_ok 12 rfl) rfl ?_
    refine K_iload_n (md := mX1_isValid) (pc := 23) 2 (kTab_at (pc := 23) tX1_isValid_ok 13 rfl) rfl ?_
    refine Z_callSN (md := mX1_isValid) (pc := 24) (st := [.int (iI x1), .ref (X.1 + (p0 + 7))]) (sv := (fun x3 => [.int (iI x3), .int (iI x1), .ref (X.1 + (p0 + 7))])) (kTab_at (pc := 24) tX1_isValid_ok 14 rfl) mn_X1_118 rfl (Nat.le_of_ble_eq_true rfl) (by decide) (c_X10_questionOf X p1 μ) (n_X10_questionOf p1 μ) (fun _ => rfl) h (fun μ x3 h => ?_) rfl
    refine K_aload_n (md := mX1_isValid) (pc := 27) 1 (kTab_at (pc := 27) tX1_isValid_ok 15 rfl) rfl ?_
    refine K_getR (md := mX1_isValid) (pc := 28) (b := (p0 + 2)) (kTab_at (pc := 28) tX1_isValid_ok 16 rfl) fl_X1_15 (lay_0 h0 rfl) rfl rfl ?_
    refine K_iconst (md := mX1_isValid) (pc := 31) (x := 1) (kTab_at (pc := 31) tX1_isValid_ok 17 rfl) rfl ?_
    refine Z_iald (md := mX1_isValid) (pc := 32) (kTab_at (pc := 32) tX1_isValid_ok 18 rfl) (lay_at h0 2 rfl) (by decide) h (fun x4 h => ?_)
    refine Z_callV (md := mX1_isValid) (pc := 33) (st := []) (sv := (fun x5 => [.int (iI x5)])) (kTab_at (pc := 33) tX1_isValid_ok 19 rfl) mv_X1_121 (lay_0 (lay_seeds h0) rfl) rfl (Nat.le_of_ble_eq_true rfl) (by decide) rfl (c_X7_strays X (p0 + 7) x1 x3 x4 (lay_seeds h0) μ) (fun _ => rfl) h (fun μ x5 h => ?_) rfl
    refine K_if_ne (md := mX1_isValid) (pc := 36) (kTab_at (pc := 36) tX1_isValid_ok 20 rfl) (tgt := 43) rfl h (fun h => ?_) (fun h => ?_)
    · refine K_sub [] rfl ?_
      refine c_X1_isValid_43 X p0 p1 h0  μ h
    · refine K_iconst (md := mX1_isValid) (pc := 39) (x := 1) (kTab_at (pc := 39) tX1_isValid_ok 21 rfl) rfl ?_
      refine K_goto (md := mX1_isValid) (pc := 40) (tgt := 44) (kTab_at (pc := 40) tX1_isValid_ok 22 rfl) rfl ?_
      refine K_sub [] rfl ?_
      refine c_X1_isValid_44 X p0 p1 h0  1 μ h
def f_X7_correctionOf_58 (p0 : Nat) (p1 : Int) (p2 : Int) (p3 : Int) (k9 : Int → Int → Int → Mu → Option Res) (v4 : Int) (v5 : Int) (v6 : Int) (μ : Mu) : Option Res := k9 v4 v5 (v6 + 1) μ
set_option maxRecDepth 100000 in
theorem c_X7_correctionOf_58 (X : kX) (p0 : Nat) (p1 : Int) (p2 : Int) (p3 : Int) (h0 : Lay p0 (ksX7 p0)) {res : Res} (k9 : Int → Int → Int → Mu → Option Res) (hk9 : ∀ (v4 : Int), ∀ (v5 : Int), ∀ (v6 : Int), ∀ (μ : Mu), k9 v4 v5 v6 μ = some res → KK X mX7_correctionOf 1 1 res 9 [(0, .ref (X.1 + p0)), (1, .int (iI p1)), (2, .int (iI p2)), (3, .int (iI p3)), (4, .int (iI v4)), (5, .int (iI v5)), (6, .int (iI v6))] [] μ) (v4 : Int) (v5 : Int) (v6 : Int) (μ : Mu) (h : f_X7_correctionOf_58 p0 p1 p2 p3 k9 v4 v5 v6 μ = some res) : KK X mX7_correctionOf 1 1 res 58 [(0, .ref (X.1 + p0)), (1, .int (iI p1)), (2, .int (iI p2)), (3, .int (iI p3)), (4, .int (iI v4)), (5, .int (iI v5)), (6, .int (iI v6))] [] μ := by
  unfold f_X7_correctionOf_58 at h
  refine K_iinc (md := mX7_correctionOf) (pc := 58) (l' := [(6, .int (iI (v6 + 1))), (0, .ref (X.1 + p0)), (1, .int (iI p1)), (2, .int (iI p2)), (3, .int (iI p3)), (4, .int (iI v4)), (5, .int (iI v5))]) 6 (kTab_at (pc := 58) tX7_correctionOf_ok 35 rfl) rfl (Nat.le_of_ble_eq_true rfl) rfl ?_
  refine K_goto (md := mX7_correctionOf) (pc := 61) (tgt := 9) (kTab_at (pc := 61) tX7_correctionOf_ok 36 rfl) rfl ?_
  refine K_sub [1, 2, 3, 4, 5, 6, 0] rfl ?_
  exact hk9 v4 v5 (v6 + 1) μ h
def f_X7_correctionOf_81 (p0 : Nat) (p1 : Int) (p2 : Int) (p3 : Int)   (μ : Mu) : Option Res := some (μ, 0, 0)
set_option maxRecDepth 100000 in
theorem c_X7_correctionOf_81 (X : kX) (p0 : Nat) (p1 : Int) (p2 : Int) (p3 : Int) (h0 : Lay p0 (ksX7 p0)) {res : Res}  (μ : Mu) (h : f_X7_correctionOf_81 p0 p1 p2 p3 μ = some res) : KK X mX7_correctionOf 1 1 res 81 [] [] μ := by
  unfold f_X7_correctionOf_81 at h
  refine K_iconst (md := mX7_correctionOf) (pc := 81) (x := 0) (kTab_at (pc := 81) tX7_correctionOf_ok 45 rfl) rfl ?_
  exact Z_iret (md := mX7_correctionOf) (pc := 82) (kTab_at (pc := 82) tX7_correctionOf_ok 46 rfl) rfl rfl rfl h
def f_X7_correctionOf_9 (p0 : Nat) (p1 : Int) (p2 : Int) (p3 : Int) (k64 : Int → Int → Mu → Option Res) : Nat → Int → Int → Int → Mu → Option Res
  | 0, _, _, _, _ => none
  | fu + 1, v4, v5, v6, μ => i_lt v6 5 (rb (f_X7_placeOf p0 p1 p2 v6 μ) fun μ x1 => rdI μ (p0 + 3) 100 x1 fun x2 => i_eq x2 (-1) (f_X7_correctionOf_58 p0 p1 p2 p3 (f_X7_correctionOf_9 p0 p1 p2 p3 k64 fu) v4 v5 v6 μ) (rdI μ (p0 + 2) 25 ((p2 * 5) + v6) fun x3 => bnd (v5 + (x2 - x3)) fun x4 => f_X7_correctionOf_58 p0 p1 p2 p3 (f_X7_correctionOf_9 p0 p1 p2 p3 k64 fu) (v4 + 1) x4 v6 μ)) (k64 v4 v5 μ)
set_option maxRecDepth 100000 in
theorem c_X7_correctionOf_9 (X : kX) (p0 : Nat) (p1 : Int) (p2 : Int) (p3 : Int) (h0 : Lay p0 (ksX7 p0)) {res : Res} (k64 : Int → Int → Mu → Option Res) (hk64 : ∀ (v4 : Int), ∀ (v5 : Int), ∀ (μ : Mu), k64 v4 v5 μ = some res → KK X mX7_correctionOf 1 1 res 64 [(3, .int (iI p3)), (4, .int (iI v4)), (5, .int (iI v5))] [] μ) : ∀ (fu : Nat)  (v4 : Int) (v5 : Int) (v6 : Int) (μ : Mu), f_X7_correctionOf_9 p0 p1 p2 p3 k64 fu v4 v5 v6 μ = some res → KK X mX7_correctionOf 1 1 res 9 [(0, .ref (X.1 + p0)), (1, .int (iI p1)), (2, .int (iI p2)), (3, .int (iI p3)), (4, .int (iI v4)), (5, .int (iI v5)), (6, .int (iI v6))] [] μ := by
  intro fu
  induction fu with
  | zero => intro v4 v5 v6 μ h; exact nomatch h
  | succ fu ih =>
    intro v4 v5 v6 μ h
    refine K_iload (md := mX7_correctionOf) (pc := 9) 6 (kTab_at (pc := 9) tX7_correctionOf_ok 6 rfl) rfl ?_
    refine K_iconst (md := mX7_correctionOf) (pc := 11) (x := 5) (kTab_at (pc := 11) tX7_correctionOf_ok 7 rfl) rfl ?_
    refine K_icmp_ge (md := mX7_correctionOf) (pc := 12) (kTab_at (pc := 12) tX7_correctionOf_ok 8 rfl) (tgt := 64) rfl h (fun h => ?_) (fun h => ?_)
    · refine K_sub [3, 4, 5] rfl ?_
      exact hk64 v4 v5 μ h
    · refine K_aload_n (md := mX7_correctionOf) (pc := 15) 0 (kTab_at (pc := 15) tX7_correctionOf_ok 9 rfl) rfl ?_
      refine K_getR (md := mX7_correctionOf) (pc := 16) (b := (p0 + 3)) (kTab_at (pc := 16) tX7_correctionOf_ok 10 rfl) fl_X7_18 (lay_0 h0 rfl) rfl rfl ?_
      refine K_aload_n (md := mX7_correctionOf) (pc := 19) 0 (kTab_at (pc := 19) tX7_correctionOf_ok 11 rfl) rfl ?_
      refine K_iload_n (md := mX7_correctionOf) (pc := 20) 1 (kTab_at (pc := 20) tX7_correctionOf_ok 12 rfl) rfl ?_
      refine K_iload_n (md := mX7_correctionOf) (pc := 21) 2 (kTab_at (pc := 21) tX7_correctionOf_ok 13 rfl) rfl ?_
      refine K_iload (md := mX7_correctionOf) (pc := 22) 6 (kTab_at (pc := 22) tX7_correctionOf_ok 14 rfl) rfl ?_
      refine Z_callV (md := mX7_correctionOf) (pc := 24) (st := [.ref (X.1 + (p0 + 3))]) (sv := (fun x1 => [.int (iI x1), .ref (X.1 + (p0 + 3))])) (kTab_at (pc := 24) tX7_correctionOf_ok 15 rfl) mv_X7_31 (lay_0 h0 rfl) rfl (Nat.le_of_ble_eq_true rfl) (by decide) rfl (c_X7_placeOf X p0 p1 p2 v6 h0 μ) (fun _ => rfl) h (fun μ x1 h => ?_) rfl
      refine Z_iald (md := mX7_correctionOf) (pc := 27) (kTab_at (pc := 27) tX7_correctionOf_ok 16 rfl) (lay_at h0 3 rfl) (by decide) h (fun x2 h => ?_)
      refine K_istore (md := mX7_correctionOf) (pc := 28) (l' := [(7, .int (iI x2)), (0, .ref (X.1 + p0)), (1, .int (iI p1)), (2, .int (iI p2)), (3, .int (iI p3)), (4, .int (iI v4)), (5, .int (iI v5)), (6, .int (iI v6))]) (kTab_at (pc := 28) tX7_correctionOf_ok 17 rfl) (Nat.le_of_ble_eq_true rfl) rfl ?_
      refine K_iload (md := mX7_correctionOf) (pc := 30) 0 (kTab_at (pc := 30) tX7_correctionOf_ok 18 rfl) rfl ?_
      refine K_iconst (md := mX7_correctionOf) (pc := 32) (x := -1) (kTab_at (pc := 32) tX7_correctionOf_ok 19 rfl) rfl ?_
      refine K_icmp_eq (md := mX7_correctionOf) (pc := 33) (kTab_at (pc := 33) tX7_correctionOf_ok 20 rfl) (tgt := 58) rfl h (fun h => ?_) (fun h => ?_)
      · refine K_sub [1, 2, 3, 4, 5, 6, 7] rfl ?_
        refine c_X7_correctionOf_58 X p0 p1 p2 p3 h0 _ ih v4 v5 v6 μ h
      · refine K_iinc (md := mX7_correctionOf) (pc := 36) (l' := [(4, .int (iI (v4 + 1))), (7, .int (iI x2)), (0, .ref (X.1 + p0)), (1, .int (iI p1)), (2, .int (iI p2)), (3, .int (iI p3)), (5, .int (iI v5)), (6, .int (iI v6))]) 5 (kTab_at (pc := 36) tX7_correctionOf_ok 21 rfl) rfl (Nat.le_of_ble_eq_true rfl) rfl ?_
        refine K_iload (md := mX7_correctionOf) (pc := 39) 6 (kTab_at (pc := 39) tX7_correctionOf_ok 22 rfl) rfl ?_
        refine K_iload (md := mX7_correctionOf) (pc := 41) 1 (kTab_at (pc := 41) tX7_correctionOf_ok 23 rfl) rfl ?_
        refine K_aload_n (md := mX7_correctionOf) (pc := 43) 2 (kTab_at (pc := 43) tX7_correctionOf_ok 24 rfl) rfl ?_
        refine K_getR (md := mX7_correctionOf) (pc := 44) (b := (p0 + 2)) (kTab_at (pc := 44) tX7_correctionOf_ok 25 rfl) fl_X7_15 (lay_0 h0 rfl) rfl rfl ?_
        refine K_iload_n (md := mX7_correctionOf) (pc := 47) 4 (kTab_at (pc := 47) tX7_correctionOf_ok 26 rfl) rfl ?_
        refine K_iconst (md := mX7_correctionOf) (pc := 48) (x := 5) (kTab_at (pc := 48) tX7_correctionOf_ok 27 rfl) rfl ?_
        refine K_imul (md := mX7_correctionOf) (pc := 49) (kTab_at (pc := 49) tX7_correctionOf_ok 28 rfl) ?_
        refine K_iload (md := mX7_correctionOf) (pc := 50) 7 (kTab_at (pc := 50) tX7_correctionOf_ok 29 rfl) rfl ?_
        refine K_iadd (md := mX7_correctionOf) (pc := 52) (kTab_at (pc := 52) tX7_correctionOf_ok 30 rfl) ?_
        refine Z_iald (md := mX7_correctionOf) (pc := 53) (kTab_at (pc := 53) tX7_correctionOf_ok 31 rfl) (lay_at h0 2 rfl) (by decide) h (fun x3 h => ?_)
        refine K_isub (md := mX7_correctionOf) (pc := 54) (kTab_at (pc := 54) tX7_correctionOf_ok 32 rfl) ?_
        refine K_iadd (md := mX7_correctionOf) (pc := 55) (kTab_at (pc := 55) tX7_correctionOf_ok 33 rfl) ?_
        refine Z_bnd (md := mX7_correctionOf) (pc := 56) h (fun x4 h => ?_)
        refine K_istore (md := mX7_correctionOf) (pc := 56) (l' := [(5, .int (iI x4)), (4, .int (iI (v4 + 1))), (7, .int (iI x2)), (0, .ref (X.1 + p0)), (1, .int (iI p1)), (2, .int (iI p2)), (3, .int (iI p3)), (6, .int (iI v6))]) (kTab_at (pc := 56) tX7_correctionOf_ok 34 rfl) (Nat.le_of_ble_eq_true rfl) rfl ?_
        refine K_sub [3, 4, 5, 6, 1, 0, 7] rfl ?_
        refine c_X7_correctionOf_58 X p0 p1 p2 p3 h0 _ ih (v4 + 1) x4 v6 μ h
def f_X7_correctionOf (p0 : Nat) (p1 : Int) (p2 : Int) (p3 : Int) (μ : Mu) : Option Res := f_X7_correctionOf_9 p0 p1 p2 p3 (fun v4 v5 μ => i_eq v4 0 (f_X7_correctionOf_81 p0 p1 p2 p3 μ) (i_abs v5 fun x1 => i_lt (v4 * p3) x1 (i_div 120 v4 fun x2 => some (μ, 0, ((-v5) * x2))) (f_X7_correctionOf_81 p0 p1 p2 p3 μ))) FU 0 0 0 μ
set_option maxRecDepth 100000 in
theorem c_X7_correctionOf (X : kX) (p0 : Nat) (p1 : Int) (p2 : Int) (p3 : Int) (h0 : Lay p0 (ksX7 p0)) (μ : Mu) : Cq X mX7_correctionOf 1 1 μ [.ref (X.1 + p0), .int (iI p1), .int (iI p2), .int (iI p3)] (f_X7_correctionOf p0 p1 p2 p3 μ) := by
  intro res h
  refine ct_of (by decide +kernel) rfl (Nat.le_of_ble_eq_true rfl) ?_
  show KK X mX7_correctionOf 1 1 res 0 [(0, .ref (X.1 + p0)), (1, .int (iI p1)), (2, .int (iI p2)), (3, .int (iI p3))] [] μ
  unfold f_X7_correctionOf at h
  refine K_iconst (md := mX7_correctionOf) (pc := 0) (x := 0) (kTab_at (pc := 0) tX7_correctionOf_ok 0 rfl) rfl ?_
  refine K_istore (md := mX7_correctionOf) (pc := 1) (l' := [(4, .int (iI 0)), (0, .ref (X.1 + p0)), (1, .int (iI p1)), (2, .int (iI p2)), (3, .int (iI p3))]) (kTab_at (pc := 1) tX7_correctionOf_ok 1 rfl) (Nat.le_of_ble_eq_true rfl) rfl ?_
  refine K_iconst (md := mX7_correctionOf) (pc := 3) (x := 0) (kTab_at (pc := 3) tX7_correctionOf_ok 2 rfl) rfl ?_
  refine K_istore (md := mX7_correctionOf) (pc := 4) (l' := [(5, .int (iI 0)), (4, .int (iI 0)), (0, .ref (X.1 + p0)), (1, .int (iI p1)), (2, .int (iI p2)), (3, .int (iI p3))]) (kTab_at (pc := 4) tX7_correctionOf_ok 3 rfl) (Nat.le_of_ble_eq_true rfl) rfl ?_
  refine K_iconst (md := mX7_correctionOf) (pc := 6) (x := 0) (kTab_at (pc := 6) tX7_correctionOf_ok 4 rfl) rfl ?_
  refine K_istore (md := mX7_correctionOf) (pc := 7) (l' := [(6, .int (iI 0)), (5, .int (iI 0)), (4, .int (iI 0)), (0, .ref (X.1 + p0)), (1, .int (iI p1)), (2, .int (iI p2)), (3, .int (iI p3))]) (kTab_at (pc := 7) tX7_correctionOf_ok 5 rfl) (Nat.le_of_ble_eq_true rfl) rfl ?_
  refine K_sub [3, 4, 5, 6, 2, 1, 0] rfl ?_
  refine c_X7_correctionOf_9 X p0 p1 p2 p3 h0 _ ?_ _ 0 0 0 μ h
  · intro v4 v5 μ h
    refine K_iload (md := mX7_correctionOf) (pc := 64) 1 (kTab_at (pc := 64) tX7_correctionOf_ok 37 rfl) rfl ?_
    refine K_if_eq (md := mX7_correctionOf) (pc := 66) (kTab_at (pc := 66) tX7_correctionOf_ok 38 rfl) (tgt := 81) rfl h (fun h => ?_) (fun h => ?_)
    · refine K_sub [] rfl ?_
      refine c_X7_correctionOf_81 X p0 p1 p2 p3 h0  μ h
    · refine K_iload (md := mX7_correctionOf) (pc := 69) 2 (kTab_at (pc := 69) tX7_correctionOf_ok 39 rfl) rfl ?_
      refine Z_mabs (md := mX7_correctionOf) (pc := 71) (kTab_at (pc := 71) tX7_correctionOf_ok 40 rfl) (inT3 174 (by decide +kernel) rfl) (inT3 175 (by decide +kernel) rfl) (inT1 22 (by decide +kernel) rfl) (inT3 176 (by decide +kernel) rfl) (Nat.le_of_ble_eq_true rfl) h (fun x1 h => ?_)
      refine K_iload (md := mX7_correctionOf) (pc := 74) 1 (kTab_at (pc := 74) tX7_correctionOf_ok 41 rfl) rfl ?_
      refine K_iload_n (md := mX7_correctionOf) (pc := 76) 0 (kTab_at (pc := 76) tX7_correctionOf_ok 42 rfl) rfl ?_
      refine K_imul (md := mX7_correctionOf) (pc := 77) (kTab_at (pc := 77) tX7_correctionOf_ok 43 rfl) ?_
      refine K_icmp_gt (md := mX7_correctionOf) (pc := 78) (kTab_at (pc := 78) tX7_correctionOf_ok 44 rfl) (tgt := 83) rfl h (fun h => ?_) (fun h => ?_)
      · refine K_iload (md := mX7_correctionOf) (pc := 83) 2 (kTab_at (pc := 83) tX7_correctionOf_ok 47 rfl) rfl ?_
        refine K_ineg (md := mX7_correctionOf) (pc := 85) (kTab_at (pc := 85) tX7_correctionOf_ok 48 rfl) ?_
        refine K_bipush (md := mX7_correctionOf) (pc := 86) (x := 120) (kTab_at (pc := 86) tX7_correctionOf_ok 49 rfl) (by decide) ?_
        refine K_iload (md := mX7_correctionOf) (pc := 88) 1 (kTab_at (pc := 88) tX7_correctionOf_ok 50 rfl) rfl ?_
        refine Z_idiv (md := mX7_correctionOf) (pc := 90) (kTab_at (pc := 90) tX7_correctionOf_ok 51 rfl) h (fun x2 h => ?_)
        refine K_imul (md := mX7_correctionOf) (pc := 91) (kTab_at (pc := 91) tX7_correctionOf_ok 52 rfl) ?_
        exact Z_iret (md := mX7_correctionOf) (pc := 92) (kTab_at (pc := 92) tX7_correctionOf_ok 53 rfl) rfl rfl rfl h
      · refine K_sub [] rfl ?_
        refine c_X7_correctionOf_81 X p0 p1 p2 p3 h0  μ h
def f_X1_valueOf_57 (p0 : Nat) (p1 : Int)  (v2 : Int) (v4 : Int) (μ : Mu) : Option Res := rdI μ (p0 + 1) 5 v2 fun x1 => i_min (x1 * 120) v4 fun x2 => i_max 0 x2 fun x3 => some (μ, 0, x3)
set_option maxRecDepth 100000 in
theorem c_X1_valueOf_57 (X : kX) (p0 : Nat) (p1 : Int) (h0 : Lay p0 (ksX1 p0)) {res : Res}  (v2 : Int) (v4 : Int) (μ : Mu) (h : f_X1_valueOf_57 p0 p1 v2 v4 μ = some res) : KK X mX1_valueOf 2 1 res 57 [(0, .ref (X.1 + p0)), (2, .int (iI v2)), (4, .int (iI v4))] [] μ := by
  unfold f_X1_valueOf_57 at h
  refine K_iconst (md := mX1_valueOf) (pc := 57) (x := 0) (kTab_at (pc := 57) tX1_valueOf_ok 33 rfl) rfl ?_
  refine K_aload_n (md := mX1_valueOf) (pc := 58) 0 (kTab_at (pc := 58) tX1_valueOf_ok 34 rfl) rfl ?_
  refine K_getR (md := mX1_valueOf) (pc := 59) (b := (p0 + 1)) (kTab_at (pc := 59) tX1_valueOf_ok 35 rfl) fl_X1_9 (lay_0 h0 rfl) rfl rfl ?_
  refine K_iload_n (md := mX1_valueOf) (pc := 62) 1 (kTab_at (pc := 62) tX1_valueOf_ok 36 rfl) rfl ?_
  refine Z_iald (md := mX1_valueOf) (pc := 63) (kTab_at (pc := 63) tX1_valueOf_ok 37 rfl) (lay_at h0 1 rfl) (by decide) h (fun x1 h => ?_)
  refine K_bipush (md := mX1_valueOf) (pc := 64) (x := 120) (kTab_at (pc := 64) tX1_valueOf_ok 38 rfl) (by decide) ?_
  refine K_imul (md := mX1_valueOf) (pc := 66) (kTab_at (pc := 66) tX1_valueOf_ok 39 rfl) ?_
  refine K_iload (md := mX1_valueOf) (pc := 67) 2 (kTab_at (pc := 67) tX1_valueOf_ok 40 rfl) rfl ?_
  refine Z_mmin (md := mX1_valueOf) (pc := 69) (kTab_at (pc := 69) tX1_valueOf_ok 41 rfl) (inT4 8 (by decide +kernel) rfl) (inT2 136 (by decide +kernel) rfl) (inT1 22 (by decide +kernel) rfl) (inT2 137 (by decide +kernel) rfl) (Nat.le_of_ble_eq_true rfl) h (fun x2 h => ?_)
  refine Z_mmax (md := mX1_valueOf) (pc := 72) (kTab_at (pc := 72) tX1_valueOf_ok 42 rfl) (inT3 92 (by decide +kernel) rfl) (inT3 81 (by decide +kernel) rfl) (inT1 22 (by decide +kernel) rfl) (inT3 82 (by decide +kernel) rfl) (Nat.le_of_ble_eq_true rfl) h (fun x3 h => ?_)
  exact Z_iret (md := mX1_valueOf) (pc := 75) (kTab_at (pc := 75) tX1_valueOf_ok 43 rfl) rfl rfl rfl h
def f_X1_valueOf (p0 : Nat) (p1 : Int) (μ : Mu) : Option Res := rb (f_X10_questionOf p1 μ) fun μ x1 => rdI μ ((p0 + 11) + 2) 120 p1 fun x2 => rdI μ ((p0 + 11) + 3) 120 p1 fun x3 => bnd (x3 * 120) fun x4 => rb (f_X10_isBelow x2 4 μ) fun μ x5 => i_eq x5 0 (f_X1_valueOf_57 p0 p1 x1 x4 μ) (rdI μ (p0 + 2) 5 0 fun x6 => rb (f_X7_correctionOf (p0 + 7) x2 x1 x6 μ) fun μ x7 => bnd (x4 + x7) fun x8 => f_X1_valueOf_57 p0 p1 x1 x8 μ)
set_option maxRecDepth 100000 in
theorem c_X1_valueOf (X : kX) (p0 : Nat) (p1 : Int) (h0 : Lay p0 (ksX1 p0)) (μ : Mu) : Cq X mX1_valueOf 2 1 μ [.ref (X.1 + p0), .int (iI p1)] (f_X1_valueOf p0 p1 μ) := by
  intro res h
  refine ct_of (by decide +kernel) rfl (Nat.le_of_ble_eq_true rfl) ?_
  show KK X mX1_valueOf 2 1 res 0 [(0, .ref (X.1 + p0)), (1, .int (iI p1))] [] μ
  unfold f_X1_valueOf at h
  refine K_iload_n (md := mX1_valueOf) (pc := 0) 1 (kTab_at (pc := 0) tX1_valueOf_ok 0 rfl) rfl ?_
  refine Z_callSN (md := mX1_valueOf) (pc := 1) (st := []) (sv := (fun x1 => [.int (iI x1)])) (kTab_at (pc := 1) tX1_valueOf_ok 1 rfl) mn_X1_118 rfl (Nat.le_of_ble_eq_true rfl) (by decide) (c_X10_questionOf X p1 μ) (n_X10_questionOf p1 μ) (fun _ => rfl) h (fun μ x1 h => ?_) rfl
  refine K_istore_n (md := mX1_valueOf) (pc := 4) (l' := [(2, .int (iI x1)), (0, .ref (X.1 + p0)), (1, .int (iI p1))]) (kTab_at (pc := 4) tX1_valueOf_ok 2 rfl) (Nat.le_of_ble_eq_true rfl) rfl ?_
  refine K_aload_n (md := mX1_valueOf) (pc := 5) 1 (kTab_at (pc := 5) tX1_valueOf_ok 3 rfl) rfl ?_
  refine K_getR (md := mX1_valueOf) (pc := 6) (b := (p0 + 11)) (kTab_at (pc := 6) tX1_valueOf_ok 4 rfl) fl_X1_40 (lay_0 h0 rfl) rfl rfl ?_
  refine K_getR (md := mX1_valueOf) (pc := 9) (b := ((p0 + 11) + 2)) (kTab_at (pc := 9) tX1_valueOf_ok 5 rfl) fl_X1_111 (lay_0 (lay_entries h0) rfl) rfl rfl ?_
  refine K_iload_n (md := mX1_valueOf) (pc := 12) 2 (kTab_at (pc := 12) tX1_valueOf_ok 6 rfl) rfl ?_
  refine Z_iald (md := mX1_valueOf) (pc := 13) (kTab_at (pc := 13) tX1_valueOf_ok 7 rfl) (lay_at (lay_entries h0) 2 rfl) (by decide) h (fun x2 h => ?_)
  refine K_istore_n (md := mX1_valueOf) (pc := 14) (l' := [(3, .int (iI x2)), (2, .int (iI x1)), (0, .ref (X.1 + p0)), (1, .int (iI p1))]) (kTab_at (pc := 14) tX1_valueOf_ok 8 rfl) (Nat.le_of_ble_eq_true rfl) rfl ?_
  refine K_aload_n (md := mX1_valueOf) (pc := 15) 2 (kTab_at (pc := 15) tX1_valueOf_ok 9 rfl) rfl ?_
  refine K_getR (md := mX1_valueOf) (pc := 16) (b := (p0 + 11)) (kTab_at (pc := 16) tX1_valueOf_ok 10 rfl) fl_X1_40 (lay_0 h0 rfl) rfl rfl ?_
  refine K_getR (md := mX1_valueOf) (pc := 19) (b := ((p0 + 11) + 3)) (kTab_at (pc := 19) tX1_valueOf_ok 11 rfl) fl_X1_125 (lay_0 (lay_entries h0) rfl) rfl rfl ?_
  refine K_iload_n (md := mX1_valueOf) (pc := 22) 3 (kTab_at (pc := 22) tX1_valueOf_ok 12 rfl) rfl ?_
  refine Z_iald (md := mX1_valueOf) (pc := 23) (kTab_at (pc := 23) tX1_valueOf_ok 13 rfl) (lay_at (lay_entries h0) 3 rfl) (by decide) h (fun x3 h => ?_)
  refine K_bipush (md := mX1_valueOf) (pc := 24) (x := 120) (kTab_at (pc := 24) tX1_valueOf_ok 14 rfl) (by decide) ?_
  refine K_imul (md := mX1_valueOf) (pc := 26) (kTab_at (pc := 26) tX1_valueOf_ok 15 rfl) ?_
  refine Z_bnd (md := mX1_valueOf) (pc := 27) h (fun x4 h => ?_)
  refine K_istore (md := mX1_valueOf) (pc := 27) (l' := [(4, .int (iI x4)), (3, .int (iI x2)), (2, .int (iI x1)), (0, .ref (X.1 + p0)), (1, .int (iI p1))]) (kTab_at (pc := 27) tX1_valueOf_ok 16 rfl) (Nat.le_of_ble_eq_true rfl) rfl ?_
  refine K_iload_n (md := mX1_valueOf) (pc := 29) 1 (kTab_at (pc := 29) tX1_valueOf_ok 17 rfl) rfl ?_
  refine K_iconst (md := mX1_valueOf) (pc := 30) (x := 4) (kTab_at (pc := 30) tX1_valueOf_ok 18 rfl) rfl ?_
  refine Z_callSN (md := mX1_valueOf) (pc := 31) (st := []) (sv := (fun x5 => [.int (iI x5)])) (kTab_at (pc := 31) tX1_valueOf_ok 19 rfl) mn_X1_114 rfl (Nat.le_of_ble_eq_true rfl) (by decide) (c_X10_isBelow X x2 4 μ) (n_X10_isBelow x2 4 μ) (fun _ => rfl) h (fun μ x5 h => ?_) rfl
  refine K_if_eq (md := mX1_valueOf) (pc := 34) (kTab_at (pc := 34) tX1_valueOf_ok 20 rfl) (tgt := 57) rfl h (fun h => ?_) (fun h => ?_)
  · refine K_sub [3, 2, 0] rfl ?_
    refine c_X1_valueOf_57 X p0 p1 h0  x1 x4 μ h
  · refine K_iload (md := mX1_valueOf) (pc := 37) 0 (kTab_at (pc := 37) tX1_valueOf_ok 21 rfl) rfl ?_
    refine K_aload_n (md := mX1_valueOf) (pc := 39) 3 (kTab_at (pc := 39) tX1_valueOf_ok 22 rfl) rfl ?_
    refine K_getR (md := mX1_valueOf) (pc := 40) (b := (p0 + 7)) (kTab_at (pc := 40) tX1_valueOf_ok 23 rfl) fl_X1_33 (lay_0 h0 rfl) rfl rfl ?_
    refine K_iload_n (md := mX1_valueOf) (pc := 43) 1 (kTab_at (pc := 43) tX1_valueOf_ok 24 rfl) rfl ?_
    refine K_iload_n (md := mX1_valueOf) (pc := 44) 2 (kTab_at (pc := 44) tX1_valueOf_ok 25 rfl) rfl ?_
    refine K_aload_n (md := mX1_valueOf) (pc := 45) 3 (kTab_at (pc := 45) tX1_valueOf_ok 26 rfl) rfl ?_
    refine K_getR (md := mX1_valueOf) (pc := 46) (b := (p0 + 2)) (kTab_at (pc := 46) tX1_valueOf_ok 27 rfl) fl_X1_15 (lay_0 h0 rfl) rfl rfl ?_
    refine K_iconst (md := mX1_valueOf) (pc := 49) (x := 0) (kTab_at (pc := 49) tX1_valueOf_ok 28 rfl) rfl ?_
    refine Z_iald (md := mX1_valueOf) (pc := 50) (kTab_at (pc := 50) tX1_valueOf_ok 29 rfl) (lay_at h0 2 rfl) (by decide) h (fun x6 h => ?_)
    refine Z_callV (md := mX1_valueOf) (pc := 51) (st := [.int (iI x4)]) (sv := (fun x7 => [.int (iI x7), .int (iI x4)])) (kTab_at (pc := 51) tX1_valueOf_ok 30 rfl) mv_X1_128 (lay_0 (lay_seeds h0) rfl) rfl (Nat.le_of_ble_eq_true rfl) (by decide) rfl (c_X7_correctionOf X (p0 + 7) x2 x1 x6 (lay_seeds h0) μ) (fun _ => rfl) h (fun μ x7 h => ?_) rfl
    refine K_iadd (md := mX1_valueOf) (pc := 54) (kTab_at (pc := 54) tX1_valueOf_ok 31 rfl) ?_
    refine Z_bnd (md := mX1_valueOf) (pc := 55) h (fun x8 h => ?_)
    refine K_istore (md := mX1_valueOf) (pc := 55) (l' := [(4, .int (iI x8)), (3, .int (iI x2)), (2, .int (iI x1)), (0, .ref (X.1 + p0)), (1, .int (iI p1))]) (kTab_at (pc := 55) tX1_valueOf_ok 32 rfl) (Nat.le_of_ble_eq_true rfl) rfl ?_
    refine K_sub [3, 2, 0] rfl ?_
    refine c_X1_valueOf_57 X p0 p1 h0  x1 x8 μ h
def f_X1_readValidValues_59 (p0 : Nat) (p1 : Int)  (v2 : Int) (μ : Mu) : Option Res := some (μ, 0, v2)
set_option maxRecDepth 100000 in
theorem c_X1_readValidValues_59 (X : kX) (p0 : Nat) (p1 : Int) (h0 : Lay p0 (ksX1 p0)) {res : Res}  (v2 : Int) (μ : Mu) (h : f_X1_readValidValues_59 p0 p1 v2 μ = some res) : KK X mX1_readValidValues 3 1 res 59 [(2, .int (iI v2))] [] μ := by
  unfold f_X1_readValidValues_59 at h
  refine K_iload_n (md := mX1_readValidValues) (pc := 59) 0 (kTab_at (pc := 59) tX1_readValidValues_ok 34 rfl) rfl ?_
  exact Z_iret (md := mX1_readValidValues) (pc := 60) (kTab_at (pc := 60) tX1_readValidValues_ok 35 rfl) rfl rfl rfl h
def f_X1_readValidValues_53 (p0 : Nat) (p1 : Int) (k4 : Int → Int → Mu → Option Res) (v2 : Int) (v3 : Int) (μ : Mu) : Option Res := k4 v2 (v3 + 1) μ
set_option maxRecDepth 100000 in
theorem c_X1_readValidValues_53 (X : kX) (p0 : Nat) (p1 : Int) (h0 : Lay p0 (ksX1 p0)) {res : Res} (k4 : Int → Int → Mu → Option Res) (hk4 : ∀ (v2 : Int), ∀ (v3 : Int), ∀ (μ : Mu), k4 v2 v3 μ = some res → KK X mX1_readValidValues 3 1 res 4 [(0, .ref (X.1 + p0)), (1, .int (iI p1)), (2, .int (iI v2)), (3, .int (iI v3))] [] μ) (v2 : Int) (v3 : Int) (μ : Mu) (h : f_X1_readValidValues_53 p0 p1 k4 v2 v3 μ = some res) : KK X mX1_readValidValues 3 1 res 53 [(0, .ref (X.1 + p0)), (1, .int (iI p1)), (2, .int (iI v2)), (3, .int (iI v3))] [] μ := by
  unfold f_X1_readValidValues_53 at h
  refine K_iinc (md := mX1_readValidValues) (pc := 53) (l' := [(3, .int (iI (v3 + 1))), (0, .ref (X.1 + p0)), (1, .int (iI p1)), (2, .int (iI v2))]) 3 (kTab_at (pc := 53) tX1_readValidValues_ok 32 rfl) rfl (Nat.le_of_ble_eq_true rfl) rfl ?_
  refine K_goto (md := mX1_readValidValues) (pc := 56) (tgt := 4) (kTab_at (pc := 56) tX1_readValidValues_ok 33 rfl) rfl ?_
  refine K_sub [1, 2, 3, 0] rfl ?_
  exact hk4 v2 (v3 + 1) μ h
def f_X1_readValidValues_4 (p0 : Nat) (p1 : Int) (k59 : Int → Mu → Option Res) : Nat → Int → Int → Mu → Option Res
  | 0, _, _, _ => none
  | fu + 1, v2, v3, μ => rdI μ ((p0 + 11) + 1) 40 p1 fun x1 => i_lt v3 x1 (i_lt v3 3 (bnd ((p1 * 3) + v3) fun x2 => rb (f_X1_isValid p0 x2 μ) fun μ x3 => i_eq x3 0 (f_X1_readValidValues_53 p0 p1 (f_X1_readValidValues_4 p0 p1 k59 fu) v2 v3 μ) (rb (f_X1_valueOf p0 x2 μ) fun μ x4 => wrI μ (p0 + 23) 3 v2 x4 fun μ => f_X1_readValidValues_53 p0 p1 (f_X1_readValidValues_4 p0 p1 k59 fu) (v2 + 1) v3 μ)) (k59 v2 μ)) (k59 v2 μ)
set_option maxRecDepth 100000 in
theorem c_X1_readValidValues_4 (X : kX) (p0 : Nat) (p1 : Int) (h0 : Lay p0 (ksX1 p0)) {res : Res} (k59 : Int → Mu → Option Res) (hk59 : ∀ (v2 : Int), ∀ (μ : Mu), k59 v2 μ = some res → KK X mX1_readValidValues 3 1 res 59 [(2, .int (iI v2))] [] μ) : ∀ (fu : Nat)  (v2 : Int) (v3 : Int) (μ : Mu), f_X1_readValidValues_4 p0 p1 k59 fu v2 v3 μ = some res → KK X mX1_readValidValues 3 1 res 4 [(0, .ref (X.1 + p0)), (1, .int (iI p1)), (2, .int (iI v2)), (3, .int (iI v3))] [] μ := by
  intro fu
  induction fu with
  | zero => intro v2 v3 μ h; exact nomatch h
  | succ fu ih =>
    intro v2 v3 μ h
    refine K_iload_n (md := mX1_readValidValues) (pc := 4) 3 (kTab_at (pc := 4) tX1_readValidValues_ok 4 rfl) rfl ?_
    refine K_aload_n (md := mX1_readValidValues) (pc := 5) 0 (kTab_at (pc := 5) tX1_readValidValues_ok 5 rfl) rfl ?_
    refine K_getR (md := mX1_readValidValues) (pc := 6) (b := (p0 + 11)) (kTab_at (pc := 6) tX1_readValidValues_ok 6 rfl) fl_X1_40 (lay_0 h0 rfl) rfl rfl ?_
    refine K_getR (md := mX1_readValidValues) (pc := 9) (b := ((p0 + 11) + 1)) (kTab_at (pc := 9) tX1_readValidValues_ok 7 rfl) fl_X1_134 (lay_0 (lay_entries h0) rfl) rfl rfl ?_
    refine K_iload_n (md := mX1_readValidValues) (pc := 12) 1 (kTab_at (pc := 12) tX1_readValidValues_ok 8 rfl) rfl ?_
    refine Z_iald (md := mX1_readValidValues) (pc := 13) (kTab_at (pc := 13) tX1_readValidValues_ok 9 rfl) (lay_at (lay_entries h0) 1 rfl) (by decide) h (fun x1 h => ?_)
    refine K_icmp_ge (md := mX1_readValidValues) (pc := 14) (kTab_at (pc := 14) tX1_readValidValues_ok 10 rfl) (tgt := 59) rfl h (fun h => ?_) (fun h => ?_)
    · refine K_sub [2] rfl ?_
      exact hk59 v2 μ h
    · refine K_iload_n (md := mX1_readValidValues) (pc := 17) 3 (kTab_at (pc := 17) tX1_readValidValues_ok 11 rfl) rfl ?_
      refine K_iconst (md := mX1_readValidValues) (pc := 18) (x := 3) (kTab_at (pc := 18) tX1_readValidValues_ok 12 rfl) rfl ?_
      refine K_icmp_ge (md := mX1_readValidValues) (pc := 19) (kTab_at (pc := 19) tX1_readValidValues_ok 13 rfl) (tgt := 59) rfl h (fun h => ?_) (fun h => ?_)
      · refine K_sub [2] rfl ?_
        exact hk59 v2 μ h
      · refine K_iload_n (md := mX1_readValidValues) (pc := 22) 1 (kTab_at (pc := 22) tX1_readValidValues_ok 14 rfl) rfl ?_
        refine K_iconst (md := mX1_readValidValues) (pc := 23) (x := 3) (kTab_at (pc := 23) tX1_readValidValues_ok 15 rfl) rfl ?_
        refine K_imul (md := mX1_readValidValues) (pc := 24) (kTab_at (pc := 24) tX1_readValidValues_ok 16 rfl) ?_
        refine K_iload_n (md := mX1_readValidValues) (pc := 25) 3 (kTab_at (pc := 25) tX1_readValidValues_ok 17 rfl) rfl ?_
        refine K_iadd (md := mX1_readValidValues) (pc := 26) (kTab_at (pc := 26) tX1_readValidValues_ok 18 rfl) ?_
        refine Z_bnd (md := mX1_readValidValues) (pc := 27) h (fun x2 h => ?_)
        refine K_istore (md := mX1_readValidValues) (pc := 27) (l' := [(4, .int (iI x2)), (0, .ref (X.1 + p0)), (1, .int (iI p1)), (2, .int (iI v2)), (3, .int (iI v3))]) (kTab_at (pc := 27) tX1_readValidValues_ok 19 rfl) (Nat.le_of_ble_eq_true rfl) rfl ?_
        refine K_aload_n (md := mX1_readValidValues) (pc := 29) 1 (kTab_at (pc := 29) tX1_readValidValues_ok 20 rfl) rfl ?_
        refine K_iload (md := mX1_readValidValues) (pc := 30) 0 (kTab_at (pc := 30) tX1_readValidValues_ok 21 rfl) rfl ?_
        refine Z_callV (md := mX1_readValidValues) (pc := 32) (st := []) (sv := (fun x3 => [.int (iI x3)])) (kTab_at (pc := 32) tX1_readValidValues_ok 22 rfl) mv_X1_137 (lay_0 h0 rfl) rfl (Nat.le_of_ble_eq_true rfl) (by decide) rfl (c_X1_isValid X p0 x2 h0 μ) (fun _ => rfl) h (fun μ x3 h => ?_) rfl
        refine K_if_eq (md := mX1_readValidValues) (pc := 35) (kTab_at (pc := 35) tX1_readValidValues_ok 23 rfl) (tgt := 53) rfl h (fun h => ?_) (fun h => ?_)
        · refine K_sub [1, 2, 3, 4] rfl ?_
          refine c_X1_readValidValues_53 X p0 p1 h0 _ ih v2 v3 μ h
        · refine K_aload_n (md := mX1_readValidValues) (pc := 38) 1 (kTab_at (pc := 38) tX1_readValidValues_ok 24 rfl) rfl ?_
          refine K_getR (md := mX1_readValidValues) (pc := 39) (b := (p0 + 23)) (kTab_at (pc := 39) tX1_readValidValues_ok 25 rfl) fl_X1_58 (lay_0 h0 rfl) rfl rfl ?_
          refine K_iload_n (md := mX1_readValidValues) (pc := 42) 3 (kTab_at (pc := 42) tX1_readValidValues_ok 26 rfl) rfl ?_
          refine K_aload_n (md := mX1_readValidValues) (pc := 43) 1 (kTab_at (pc := 43) tX1_readValidValues_ok 27 rfl) rfl ?_
          refine K_iload (md := mX1_readValidValues) (pc := 44) 0 (kTab_at (pc := 44) tX1_readValidValues_ok 28 rfl) rfl ?_
          refine Z_callV (md := mX1_readValidValues) (pc := 46) (st := [.int (iI v2), .ref (X.1 + (p0 + 23))]) (sv := (fun x4 => [.int (iI x4), .int (iI v2), .ref (X.1 + (p0 + 23))])) (kTab_at (pc := 46) tX1_readValidValues_ok 29 rfl) mv_X1_141 (lay_0 h0 rfl) rfl (Nat.le_of_ble_eq_true rfl) (by decide) rfl (c_X1_valueOf X p0 x2 h0 μ) (fun _ => rfl) h (fun μ x4 h => ?_) rfl
          refine Z_iast (md := mX1_readValidValues) (pc := 49) (kTab_at (pc := 49) tX1_readValidValues_ok 30 rfl) (lay_at h0 23 rfl) (by decide) h (fun μ h => ?_)
          refine K_iinc (md := mX1_readValidValues) (pc := 50) (l' := [(2, .int (iI (v2 + 1))), (4, .int (iI x2)), (0, .ref (X.1 + p0)), (1, .int (iI p1)), (3, .int (iI v3))]) 3 (kTab_at (pc := 50) tX1_readValidValues_ok 31 rfl) rfl (Nat.le_of_ble_eq_true rfl) rfl ?_
          refine K_sub [2, 3, 0, 4] rfl ?_
          refine c_X1_readValidValues_53 X p0 p1 h0 _ ih (v2 + 1) v3 μ h
def f_X1_readValidValues (p0 : Nat) (p1 : Int) (μ : Mu) : Option Res := f_X1_readValidValues_4 p0 p1 (fun v2 μ => f_X1_readValidValues_59 p0 p1 v2 μ) FU 0 0 μ
set_option maxRecDepth 100000 in
theorem c_X1_readValidValues (X : kX) (p0 : Nat) (p1 : Int) (h0 : Lay p0 (ksX1 p0)) (μ : Mu) : Cq X mX1_readValidValues 3 1 μ [.ref (X.1 + p0), .int (iI p1)] (f_X1_readValidValues p0 p1 μ) := by
  intro res h
  refine ct_of (by decide +kernel) rfl (Nat.le_of_ble_eq_true rfl) ?_
  show KK X mX1_readValidValues 3 1 res 0 [(0, .ref (X.1 + p0)), (1, .int (iI p1))] [] μ
  unfold f_X1_readValidValues at h
  refine K_iconst (md := mX1_readValidValues) (pc := 0) (x := 0) (kTab_at (pc := 0) tX1_readValidValues_ok 0 rfl) rfl ?_
  refine K_istore_n (md := mX1_readValidValues) (pc := 1) (l' := [(2, .int (iI 0)), (0, .ref (X.1 + p0)), (1, .int (iI p1))]) (kTab_at (pc := 1) tX1_readValidValues_ok 1 rfl) (Nat.le_of_ble_eq_true rfl) rfl ?_
  refine K_iconst (md := mX1_readValidValues) (pc := 2) (x := 0) (kTab_at (pc := 2) tX1_readValidValues_ok 2 rfl) rfl ?_
  refine K_istore_n (md := mX1_readValidValues) (pc := 3) (l' := [(3, .int (iI 0)), (2, .int (iI 0)), (0, .ref (X.1 + p0)), (1, .int (iI p1))]) (kTab_at (pc := 3) tX1_readValidValues_ok 3 rfl) (Nat.le_of_ble_eq_true rfl) rfl ?_
  refine K_sub [2, 3, 1, 0] rfl ?_
  refine c_X1_readValidValues_4 X p0 p1 h0 _ ?_ _ 0 0 μ h
  · intro v2 μ h
    refine c_X1_readValidValues_59 X p0 p1 h0  v2 μ h
def f_X1_agree_22 (p0 : Nat) (p1 : Int) (p2 : Int)  (s0 : Int) (μ : Mu) : Option Res := retZ μ s0
set_option maxRecDepth 100000 in
theorem c_X1_agree_22 (X : kX) (p0 : Nat) (p1 : Int) (p2 : Int) (h0 : Lay p0 (ksX1 p0)) {res : Res}  (s0 : Int) (μ : Mu) (h : f_X1_agree_22 p0 p1 p2 s0 μ = some res) : KK X mX1_agree 1 1 res 22 [] [.int (iI s0)] μ := by
  unfold f_X1_agree_22 at h
  exact Z_zret (md := mX1_agree) (pc := 22) (kTab_at (pc := 22) tX1_agree_ok 13 rfl) rfl rfl h
def f_X1_agree (p0 : Nat) (p1 : Int) (p2 : Int) (μ : Mu) : Option Res := rb (f_X10_distanceOf p1 p2 μ) fun μ x1 => rdI μ (p0 + 2) 5 2 fun x2 => i_lt (x2 * 120) x1 (f_X1_agree_22 p0 p1 p2 0 μ) (f_X1_agree_22 p0 p1 p2 1 μ)
set_option maxRecDepth 100000 in
theorem c_X1_agree (X : kX) (p0 : Nat) (p1 : Int) (p2 : Int) (h0 : Lay p0 (ksX1 p0)) (μ : Mu) : Cq X mX1_agree 1 1 μ [.ref (X.1 + p0), .int (iI p1), .int (iI p2)] (f_X1_agree p0 p1 p2 μ) := by
  intro res h
  refine ct_of (by decide +kernel) rfl (Nat.le_of_ble_eq_true rfl) ?_
  show KK X mX1_agree 1 1 res 0 [(0, .ref (X.1 + p0)), (1, .int (iI p1)), (2, .int (iI p2))] [] μ
  unfold f_X1_agree at h
  refine K_iload_n (md := mX1_agree) (pc := 0) 1 (kTab_at (pc := 0) tX1_agree_ok 0 rfl) rfl ?_
  refine K_iload_n (md := mX1_agree) (pc := 1) 2 (kTab_at (pc := 1) tX1_agree_ok 1 rfl) rfl ?_
  refine Z_callSN (md := mX1_agree) (pc := 2) (st := []) (sv := (fun x1 => [.int (iI x1)])) (kTab_at (pc := 2) tX1_agree_ok 2 rfl) mn_X1_144 rfl (Nat.le_of_ble_eq_true rfl) (by decide) (c_X10_distanceOf X p1 p2 μ) (n_X10_distanceOf p1 p2 μ) (fun _ => rfl) h (fun μ x1 h => ?_) rfl
  refine K_aload_n (md := mX1_agree) (pc := 5) 0 (kTab_at (pc := 5) tX1_agree_ok 3 rfl) rfl ?_
  refine K_getR (md := mX1_agree) (pc := 6) (b := (p0 + 2)) (kTab_at (pc := 6) tX1_agree_ok 4 rfl) fl_X1_15 (lay_0 h0 rfl) rfl rfl ?_
  refine K_iconst (md := mX1_agree) (pc := 9) (x := 2) (kTab_at (pc := 9) tX1_agree_ok 5 rfl) rfl ?_
  refine Z_iald (md := mX1_agree) (pc := 10) (kTab_at (pc := 10) tX1_agree_ok 6 rfl) (lay_at h0 2 rfl) (by decide) h (fun x2 h => ?_)
  refine K_bipush (md := mX1_agree) (pc := 11) (x := 120) (kTab_at (pc := 11) tX1_agree_ok 7 rfl) (by decide) ?_
  refine K_imul (md := mX1_agree) (pc := 13) (kTab_at (pc := 13) tX1_agree_ok 8 rfl) ?_
  refine K_icmp_gt (md := mX1_agree) (pc := 14) (kTab_at (pc := 14) tX1_agree_ok 9 rfl) (tgt := 21) rfl h (fun h => ?_) (fun h => ?_)
  · refine K_iconst (md := mX1_agree) (pc := 21) (x := 0) (kTab_at (pc := 21) tX1_agree_ok 12 rfl) rfl ?_
    refine K_sub [] rfl ?_
    refine c_X1_agree_22 X p0 p1 p2 h0  0 μ h
  · refine K_iconst (md := mX1_agree) (pc := 17) (x := 1) (kTab_at (pc := 17) tX1_agree_ok 10 rfl) rfl ?_
    refine K_goto (md := mX1_agree) (pc := 18) (tgt := 22) (kTab_at (pc := 18) tX1_agree_ok 11 rfl) rfl ?_
    refine K_sub [] rfl ?_
    refine c_X1_agree_22 X p0 p1 p2 h0  1 μ h
def f_X1_hasAgreement_33 (p0 : Nat) (p1 : Int)  (s0 : Int) (μ : Mu) : Option Res := retZ μ s0
set_option maxRecDepth 100000 in
theorem c_X1_hasAgreement_33 (X : kX) (p0 : Nat) (p1 : Int) (h0 : Lay p0 (ksX1 p0)) {res : Res}  (s0 : Int) (μ : Mu) (h : f_X1_hasAgreement_33 p0 p1 s0 μ = some res) : KK X mX1_hasAgreement 4 1 res 33 [] [.int (iI s0)] μ := by
  unfold f_X1_hasAgreement_33 at h
  exact Z_zret (md := mX1_hasAgreement) (pc := 33) (kTab_at (pc := 33) tX1_hasAgreement_ok 19 rfl) rfl rfl h
def f_X1_hasAgreement_32 (p0 : Nat) (p1 : Int)   (μ : Mu) : Option Res := f_X1_hasAgreement_33 p0 p1 0 μ
set_option maxRecDepth 100000 in
theorem c_X1_hasAgreement_32 (X : kX) (p0 : Nat) (p1 : Int) (h0 : Lay p0 (ksX1 p0)) {res : Res}  (μ : Mu) (h : f_X1_hasAgreement_32 p0 p1 μ = some res) : KK X mX1_hasAgreement 4 1 res 32 [] [] μ := by
  unfold f_X1_hasAgreement_32 at h
  refine K_iconst (md := mX1_hasAgreement) (pc := 32) (x := 0) (kTab_at (pc := 32) tX1_hasAgreement_ok 18 rfl) rfl ?_
  refine c_X1_hasAgreement_33 X p0 p1 h0  0 μ h
def f_X1_hasAgreement (p0 : Nat) (p1 : Int) (μ : Mu) : Option Res := rb (f_X1_readValidValues p0 p1 μ) fun μ x1 => i_eq x1 2 (rdI μ (p0 + 23) 3 0 fun x2 => rdI μ (p0 + 23) 3 1 fun x3 => rb (f_X1_agree p0 x2 x3 μ) fun μ x4 => i_eq x4 0 (f_X1_hasAgreement_32 p0 p1 μ) (f_X1_hasAgreement_33 p0 p1 1 μ)) (f_X1_hasAgreement_32 p0 p1 μ)
set_option maxRecDepth 100000 in
theorem c_X1_hasAgreement (X : kX) (p0 : Nat) (p1 : Int) (h0 : Lay p0 (ksX1 p0)) (μ : Mu) : Cq X mX1_hasAgreement 4 1 μ [.ref (X.1 + p0), .int (iI p1)] (f_X1_hasAgreement p0 p1 μ) := by
  intro res h
  refine ct_of (by decide +kernel) rfl (Nat.le_of_ble_eq_true rfl) ?_
  show KK X mX1_hasAgreement 4 1 res 0 [(0, .ref (X.1 + p0)), (1, .int (iI p1))] [] μ
  unfold f_X1_hasAgreement at h
  refine K_aload_n (md := mX1_hasAgreement) (pc := 0) 0 (kTab_at (pc := 0) tX1_hasAgreement_ok 0 rfl) rfl ?_
  refine K_iload_n (md := mX1_hasAgreement) (pc := 1) 1 (kTab_at (pc := 1) tX1_hasAgreement_ok 1 rfl) rfl ?_
  refine Z_callV (md := mX1_hasAgreement) (pc := 2) (st := []) (sv := (fun x1 => [.int (iI x1)])) (kTab_at (pc := 2) tX1_hasAgreement_ok 2 rfl) mv_X1_147 (lay_0 h0 rfl) rfl (Nat.le_of_ble_eq_true rfl) (by decide) rfl (c_X1_readValidValues X p0 p1 h0 μ) (fun _ => rfl) h (fun μ x1 h => ?_) rfl
  refine K_iconst (md := mX1_hasAgreement) (pc := 5) (x := 2) (kTab_at (pc := 5) tX1_hasAgreement_ok 3 rfl) rfl ?_
  refine K_icmp_ne (md := mX1_hasAgreement) (pc := 6) (kTab_at (pc := 6) tX1_hasAgreement_ok 4 rfl) (tgt := 32) rfl h (fun h => ?_) (fun h => ?_)
  · refine K_sub [] rfl ?_
    refine c_X1_hasAgreement_32 X p0 p1 h0  μ h
  · refine K_aload_n (md := mX1_hasAgreement) (pc := 9) 0 (kTab_at (pc := 9) tX1_hasAgreement_ok 5 rfl) rfl ?_
    refine K_aload_n (md := mX1_hasAgreement) (pc := 10) 0 (kTab_at (pc := 10) tX1_hasAgreement_ok 6 rfl) rfl ?_
    refine K_getR (md := mX1_hasAgreement) (pc := 11) (b := (p0 + 23)) (kTab_at (pc := 11) tX1_hasAgreement_ok 7 rfl) fl_X1_58 (lay_0 h0 rfl) rfl rfl ?_
    refine K_iconst (md := mX1_hasAgreement) (pc := 14) (x := 0) (kTab_at (pc := 14) tX1_hasAgreement_ok 8 rfl) rfl ?_
    refine Z_iald (md := mX1_hasAgreement) (pc := 15) (kTab_at (pc := 15) tX1_hasAgreement_ok 9 rfl) (lay_at h0 23 rfl) (by decide) h (fun x2 h => ?_)
    refine K_aload_n (md := mX1_hasAgreement) (pc := 16) 0 (kTab_at (pc := 16) tX1_hasAgreement_ok 10 rfl) rfl ?_
    refine K_getR (md := mX1_hasAgreement) (pc := 17) (b := (p0 + 23)) (kTab_at (pc := 17) tX1_hasAgreement_ok 11 rfl) fl_X1_58 (lay_0 h0 rfl) rfl rfl ?_
    refine K_iconst (md := mX1_hasAgreement) (pc := 20) (x := 1) (kTab_at (pc := 20) tX1_hasAgreement_ok 12 rfl) rfl ?_
    refine Z_iald (md := mX1_hasAgreement) (pc := 21) (kTab_at (pc := 21) tX1_hasAgreement_ok 13 rfl) (lay_at h0 23 rfl) (by decide) h (fun x3 h => ?_)
    refine Z_callV (md := mX1_hasAgreement) (pc := 22) (st := []) (sv := (fun x4 => [.int (iI x4)])) (kTab_at (pc := 22) tX1_hasAgreement_ok 14 rfl) mv_X1_150 (lay_0 h0 rfl) rfl (Nat.le_of_ble_eq_true rfl) (by decide) rfl (c_X1_agree X p0 x2 x3 h0 μ) (fun _ => rfl) h (fun μ x4 h => ?_) rfl
    refine K_if_eq (md := mX1_hasAgreement) (pc := 25) (kTab_at (pc := 25) tX1_hasAgreement_ok 15 rfl) (tgt := 32) rfl h (fun h => ?_) (fun h => ?_)
    · refine K_sub [] rfl ?_
      refine c_X1_hasAgreement_32 X p0 p1 h0  μ h
    · refine K_iconst (md := mX1_hasAgreement) (pc := 28) (x := 1) (kTab_at (pc := 28) tX1_hasAgreement_ok 16 rfl) rfl ?_
      refine K_goto (md := mX1_hasAgreement) (pc := 29) (tgt := 33) (kTab_at (pc := 29) tX1_hasAgreement_ok 17 rfl) rfl ?_
      refine K_sub [] rfl ?_
      refine c_X1_hasAgreement_33 X p0 p1 h0  1 μ h
def f_X10_halfWithNearer_39 (p0 : Int) (p1 : Int) (p2 : Int)  (v5 : Int) (μ : Mu) : Option Res := i_div (p0 + v5) 2 fun x1 => some (μ, 0, x1)
set_option maxRecDepth 100000 in
theorem n_X10_halfWithNearer_39 (p0 : Int) (p1 : Int) (p2 : Int)   (v5 : Int) (μ : Mu) : nth (f_X10_halfWithNearer_39 p0 p1 p2 v5 μ) := by
  unfold f_X10_halfWithNearer_39
  repeat (first | with_reducible exact nth_s _ _ | with_reducible exact nth_Z _ _ | with_reducible apply nth_ilt | with_reducible apply nth_ieq | with_reducible apply nth_llt | with_reducible apply nth_leq | (with_reducible apply nth_rdI; intro _) | (with_reducible apply nth_wrI; intro _) | (with_reducible apply nth_bnd; intro _) | (with_reducible apply nth_idiv; intro _) | (with_reducible apply nth_irem; intro _) | (with_reducible apply nth_ldiv; intro _) | (with_reducible apply nth_lrem; intro _) | (with_reducible apply nth_max; intro _) | (with_reducible apply nth_min; intro _) | (with_reducible apply nth_cpy; intro _) | with_reducible exact ih _ | with_reducible exact ih _ _ | with_reducible exact ih _ _ _ | with_reducible exact ih _ _ _ _ | (with_reducible refine nth_rb (n_X10_distanceOf _ _ _) ?_; intro _ _))
set_option maxRecDepth 100000 in
theorem c_X10_halfWithNearer_39 (X : kX) (p0 : Int) (p1 : Int) (p2 : Int)  {res : Res}  (v5 : Int) (μ : Mu) (h : f_X10_halfWithNearer_39 p0 p1 p2 v5 μ = some res) : KK X mX10_halfWithNearer 1 1 res 39 [(0, .int (iI p0)), (5, .int (iI v5))] [] μ := by
  unfold f_X10_halfWithNearer_39 at h
  refine K_iload_n (md := mX10_halfWithNearer) (pc := 39) 0 (kTab_at (pc := 39) tX10_halfWithNearer_ok 22 rfl) rfl ?_
  refine K_iload (md := mX10_halfWithNearer) (pc := 40) 1 (kTab_at (pc := 40) tX10_halfWithNearer_ok 23 rfl) rfl ?_
  refine K_iadd (md := mX10_halfWithNearer) (pc := 42) (kTab_at (pc := 42) tX10_halfWithNearer_ok 24 rfl) ?_
  refine K_iconst (md := mX10_halfWithNearer) (pc := 43) (x := 2) (kTab_at (pc := 43) tX10_halfWithNearer_ok 25 rfl) rfl ?_
  refine Z_idiv (md := mX10_halfWithNearer) (pc := 44) (kTab_at (pc := 44) tX10_halfWithNearer_ok 26 rfl) h (fun x1 h => ?_)
  exact Z_iret (md := mX10_halfWithNearer) (pc := 45) (kTab_at (pc := 45) tX10_halfWithNearer_ok 27 rfl) rfl rfl rfl h
def f_X10_halfWithNearer_24 (p0 : Int) (p1 : Int) (p2 : Int)  (v3 : Int) (v4 : Int) (s0 : Int) (μ : Mu) : Option Res := i_eq v3 v4 (i_max p1 p2 fun x1 => f_X10_halfWithNearer_39 p0 p1 p2 x1 μ) (f_X10_halfWithNearer_39 p0 p1 p2 s0 μ)
set_option maxRecDepth 100000 in
theorem n_X10_halfWithNearer_24 (p0 : Int) (p1 : Int) (p2 : Int)   (v3 : Int) (v4 : Int) (s0 : Int) (μ : Mu) : nth (f_X10_halfWithNearer_24 p0 p1 p2 v3 v4 s0 μ) := by
  unfold f_X10_halfWithNearer_24
  repeat (first | with_reducible exact nth_s _ _ | with_reducible exact nth_Z _ _ | with_reducible apply nth_ilt | with_reducible apply nth_ieq | with_reducible apply nth_llt | with_reducible apply nth_leq | (with_reducible apply nth_rdI; intro _) | (with_reducible apply nth_wrI; intro _) | (with_reducible apply nth_bnd; intro _) | (with_reducible apply nth_idiv; intro _) | (with_reducible apply nth_irem; intro _) | (with_reducible apply nth_ldiv; intro _) | (with_reducible apply nth_lrem; intro _) | (with_reducible apply nth_max; intro _) | (with_reducible apply nth_min; intro _) | (with_reducible apply nth_cpy; intro _) | with_reducible exact ih _ | with_reducible exact ih _ _ | with_reducible exact ih _ _ _ | with_reducible exact ih _ _ _ _ | (with_reducible refine n_X10_halfWithNearer_39 _ _ _ _ _; all_goals (try intros)) | (with_reducible refine nth_rb (n_X10_distanceOf _ _ _) ?_; intro _ _))
set_option maxRecDepth 100000 in
theorem c_X10_halfWithNearer_24 (X : kX) (p0 : Int) (p1 : Int) (p2 : Int)  {res : Res}  (v3 : Int) (v4 : Int) (s0 : Int) (μ : Mu) (h : f_X10_halfWithNearer_24 p0 p1 p2 v3 v4 s0 μ = some res) : KK X mX10_halfWithNearer 1 1 res 24 [(0, .int (iI p0)), (1, .int (iI p1)), (2, .int (iI p2)), (3, .int (iI v3)), (4, .int (iI v4))] [.int (iI s0)] μ := by
  unfold f_X10_halfWithNearer_24 at h
  refine K_istore (md := mX10_halfWithNearer) (pc := 24) (l' := [(5, .int (iI s0)), (0, .int (iI p0)), (1, .int (iI p1)), (2, .int (iI p2)), (3, .int (iI v3)), (4, .int (iI v4))]) (kTab_at (pc := 24) tX10_halfWithNearer_ok 14 rfl) (Nat.le_of_ble_eq_true rfl) rfl ?_
  refine K_iload_n (md := mX10_halfWithNearer) (pc := 26) 4 (kTab_at (pc := 26) tX10_halfWithNearer_ok 15 rfl) rfl ?_
  refine K_iload (md := mX10_halfWithNearer) (pc := 27) 5 (kTab_at (pc := 27) tX10_halfWithNearer_ok 16 rfl) rfl ?_
  refine K_icmp_ne (md := mX10_halfWithNearer) (pc := 29) (kTab_at (pc := 29) tX10_halfWithNearer_ok 17 rfl) (tgt := 39) rfl h (fun h => ?_) (fun h => ?_)
  · refine K_sub [1, 0] rfl ?_
    refine c_X10_halfWithNearer_39 X p0 p1 p2  s0 μ h
  · refine K_iload_n (md := mX10_halfWithNearer) (pc := 32) 2 (kTab_at (pc := 32) tX10_halfWithNearer_ok 18 rfl) rfl ?_
    refine K_iload_n (md := mX10_halfWithNearer) (pc := 33) 3 (kTab_at (pc := 33) tX10_halfWithNearer_ok 19 rfl) rfl ?_
    refine Z_mmax (md := mX10_halfWithNearer) (pc := 34) (kTab_at (pc := 34) tX10_halfWithNearer_ok 20 rfl) (inT4 111 (by decide +kernel) rfl) (inT3 81 (by decide +kernel) rfl) (inT1 22 (by decide +kernel) rfl) (inT3 82 (by decide +kernel) rfl) (Nat.le_of_ble_eq_true rfl) h (fun x1 h => ?_)
    refine K_istore (md := mX10_halfWithNearer) (pc := 37) (l' := [(5, .int (iI x1)), (0, .int (iI p0)), (1, .int (iI p1)), (2, .int (iI p2)), (3, .int (iI v3)), (4, .int (iI v4))]) (kTab_at (pc := 37) tX10_halfWithNearer_ok 21 rfl) (Nat.le_of_ble_eq_true rfl) rfl ?_
    refine K_sub [1, 0] rfl ?_
    refine c_X10_halfWithNearer_39 X p0 p1 p2  x1 μ h
def f_X10_halfWithNearer (p0 : Int) (p1 : Int) (p2 : Int) (μ : Mu) : Option Res := rb (f_X10_distanceOf p0 p1 μ) fun μ x1 => rb (f_X10_distanceOf p0 p2 μ) fun μ x2 => i_lt x1 x2 (f_X10_halfWithNearer_24 p0 p1 p2 x1 x2 p1 μ) (f_X10_halfWithNearer_24 p0 p1 p2 x1 x2 p2 μ)
set_option maxRecDepth 100000 in
theorem c_X10_halfWithNearer (X : kX) (p0 : Int) (p1 : Int) (p2 : Int)  (μ : Mu) : Cq X mX10_halfWithNearer 1 1 μ [.int (iI p0), .int (iI p1), .int (iI p2)] (f_X10_halfWithNearer p0 p1 p2 μ) := by
  intro res h
  refine ct_of (by decide +kernel) rfl (Nat.le_of_ble_eq_true rfl) ?_
  show KK X mX10_halfWithNearer 1 1 res 0 [(0, .int (iI p0)), (1, .int (iI p1)), (2, .int (iI p2))] [] μ
  unfold f_X10_halfWithNearer at h
  refine K_iload_n (md := mX10_halfWithNearer) (pc := 0) 0 (kTab_at (pc := 0) tX10_halfWithNearer_ok 0 rfl) rfl ?_
  refine K_iload_n (md := mX10_halfWithNearer) (pc := 1) 1 (kTab_at (pc := 1) tX10_halfWithNearer_ok 1 rfl) rfl ?_
  refine Z_callS (md := mX10_halfWithNearer) (pc := 2) (st := []) (sv := (fun x1 => [.int (iI x1)])) (kTab_at (pc := 2) tX10_halfWithNearer_ok 2 rfl) ms_X10_493 rfl (Nat.le_of_ble_eq_true rfl) (by decide) rfl (c_X10_distanceOf X p0 p1 μ) (fun _ => rfl) h (fun μ x1 h => ?_) rfl
  refine K_istore_n (md := mX10_halfWithNearer) (pc := 5) (l' := [(3, .int (iI x1)), (0, .int (iI p0)), (1, .int (iI p1)), (2, .int (iI p2))]) (kTab_at (pc := 5) tX10_halfWithNearer_ok 3 rfl) (Nat.le_of_ble_eq_true rfl) rfl ?_
  refine K_iload_n (md := mX10_halfWithNearer) (pc := 6) 1 (kTab_at (pc := 6) tX10_halfWithNearer_ok 4 rfl) rfl ?_
  refine K_iload_n (md := mX10_halfWithNearer) (pc := 7) 3 (kTab_at (pc := 7) tX10_halfWithNearer_ok 5 rfl) rfl ?_
  refine Z_callS (md := mX10_halfWithNearer) (pc := 8) (st := []) (sv := (fun x2 => [.int (iI x2)])) (kTab_at (pc := 8) tX10_halfWithNearer_ok 6 rfl) ms_X10_493 rfl (Nat.le_of_ble_eq_true rfl) (by decide) rfl (c_X10_distanceOf X p0 p2 μ) (fun _ => rfl) h (fun μ x2 h => ?_) rfl
  refine K_istore (md := mX10_halfWithNearer) (pc := 11) (l' := [(4, .int (iI x2)), (3, .int (iI x1)), (0, .int (iI p0)), (1, .int (iI p1)), (2, .int (iI p2))]) (kTab_at (pc := 11) tX10_halfWithNearer_ok 7 rfl) (Nat.le_of_ble_eq_true rfl) rfl ?_
  refine K_iload_n (md := mX10_halfWithNearer) (pc := 13) 1 (kTab_at (pc := 13) tX10_halfWithNearer_ok 8 rfl) rfl ?_
  refine K_iload (md := mX10_halfWithNearer) (pc := 14) 0 (kTab_at (pc := 14) tX10_halfWithNearer_ok 9 rfl) rfl ?_
  refine K_icmp_ge (md := mX10_halfWithNearer) (pc := 16) (kTab_at (pc := 16) tX10_halfWithNearer_ok 10 rfl) (tgt := 23) rfl h (fun h => ?_) (fun h => ?_)
  · refine K_iload_n (md := mX10_halfWithNearer) (pc := 23) 4 (kTab_at (pc := 23) tX10_halfWithNearer_ok 13 rfl) rfl ?_
    refine K_sub [2, 3, 4, 1, 0] rfl ?_
    refine c_X10_halfWithNearer_24 X p0 p1 p2  x1 x2 p2 μ h
  · refine K_iload_n (md := mX10_halfWithNearer) (pc := 19) 3 (kTab_at (pc := 19) tX10_halfWithNearer_ok 11 rfl) rfl ?_
    refine K_goto (md := mX10_halfWithNearer) (pc := 20) (tgt := 24) (kTab_at (pc := 20) tX10_halfWithNearer_ok 12 rfl) rfl ?_
    refine K_sub [2, 3, 4, 1, 0] rfl ?_
    refine c_X10_halfWithNearer_24 X p0 p1 p2  x1 x2 p1 μ h
set_option maxRecDepth 100000 in
theorem n_X10_halfWithNearer (p0 : Int) (p1 : Int) (p2 : Int) (μ : Mu) : nth (f_X10_halfWithNearer p0 p1 p2 μ) := by
  unfold f_X10_halfWithNearer
  repeat (first | with_reducible exact nth_s _ _ | with_reducible exact nth_Z _ _ | with_reducible apply nth_ilt | with_reducible apply nth_ieq | with_reducible apply nth_llt | with_reducible apply nth_leq | (with_reducible apply nth_rdI; intro _) | (with_reducible apply nth_wrI; intro _) | (with_reducible apply nth_bnd; intro _) | (with_reducible apply nth_idiv; intro _) | (with_reducible apply nth_irem; intro _) | (with_reducible apply nth_ldiv; intro _) | (with_reducible apply nth_lrem; intro _) | (with_reducible apply nth_max; intro _) | (with_reducible apply nth_min; intro _) | (with_reducible apply nth_cpy; intro _) | with_reducible exact ih _ | with_reducible exact ih _ _ | with_reducible exact ih _ _ _ | with_reducible exact ih _ _ _ _ | (with_reducible refine n_X10_halfWithNearer_39 _ _ _ _ _; all_goals (try intros)) | (with_reducible refine n_X10_halfWithNearer_24 _ _ _ _ _ _ _; all_goals (try intros)) | (with_reducible refine nth_rb (n_X10_distanceOf _ _ _) ?_; intro _ _))
def f_X1_settledOf (p0 : Nat) (p1 : Int) (μ : Mu) : Option Res := rdI μ ((p0 + 19) + 1) 40 p1 fun x1 => i_eq x1 3 (rdI μ ((p0 + 19) + 3) 40 p1 fun x17 => some (μ, 0, (x17 * 120))) (rb (f_X1_readValidValues p0 p1 μ) fun μ x2 => i_eq x2 0 (some (μ, 0, 0)) (i_eq x2 1 (rdI μ (p0 + 23) 3 0 fun x16 => some (μ, 0, x16)) (rdI μ (p0 + 23) 3 0 fun x3 => rdI μ (p0 + 23) 3 1 fun x4 => rb (f_X1_agree p0 x3 x4 μ) fun μ x5 => i_eq x5 0 (i_eq x2 2 (rdI μ (p0 + 23) 3 0 fun x10 => rdI μ (p0 + 23) 3 1 fun x11 => i_min x10 x11 fun x12 => some (μ, 0, x12)) (rdI μ (p0 + 23) 3 2 fun x6 => rdI μ (p0 + 23) 3 0 fun x7 => rdI μ (p0 + 23) 3 1 fun x8 => rb (f_X10_halfWithNearer x6 x7 x8 μ) fun μ x9 => some (μ, 0, x9))) (rdI μ (p0 + 23) 3 0 fun x13 => rdI μ (p0 + 23) 3 1 fun x14 => i_div (x13 + x14) 2 fun x15 => some (μ, 0, x15)))))
set_option maxRecDepth 100000 in
theorem c_X1_settledOf (X : kX) (p0 : Nat) (p1 : Int) (h0 : Lay p0 (ksX1 p0)) (μ : Mu) : Cq X mX1_settledOf 4 1 μ [.ref (X.1 + p0), .int (iI p1)] (f_X1_settledOf p0 p1 μ) := by
  intro res h
  refine ct_of (by decide +kernel) rfl (Nat.le_of_ble_eq_true rfl) ?_
  show KK X mX1_settledOf 4 1 res 0 [(0, .ref (X.1 + p0)), (1, .int (iI p1))] [] μ
  unfold f_X1_settledOf at h
  refine K_aload_n (md := mX1_settledOf) (pc := 0) 0 (kTab_at (pc := 0) tX1_settledOf_ok 0 rfl) rfl ?_
  refine K_getR (md := mX1_settledOf) (pc := 1) (b := (p0 + 19)) (kTab_at (pc := 1) tX1_settledOf_ok 1 rfl) fl_X1_54 (lay_0 h0 rfl) rfl rfl ?_
  refine K_getR (md := mX1_settledOf) (pc := 4) (b := ((p0 + 19) + 1)) (kTab_at (pc := 4) tX1_settledOf_ok 2 rfl) fl_X1_153 (lay_0 (lay_appeals h0) rfl) rfl rfl ?_
  refine K_iload_n (md := mX1_settledOf) (pc := 7) 1 (kTab_at (pc := 7) tX1_settledOf_ok 3 rfl) rfl ?_
  refine Z_iald (md := mX1_settledOf) (pc := 8) (kTab_at (pc := 8) tX1_settledOf_ok 4 rfl) (lay_at (lay_appeals h0) 1 rfl) (by decide) h (fun x1 h => ?_)
  refine K_iconst (md := mX1_settledOf) (pc := 9) (x := 3) (kTab_at (pc := 9) tX1_settledOf_ok 5 rfl) rfl ?_
  refine K_icmp_ne (md := mX1_settledOf) (pc := 10) (kTab_at (pc := 10) tX1_settledOf_ok 6 rfl) (tgt := 26) rfl h (fun h => ?_) (fun h => ?_)
  · refine K_aload_n (md := mX1_settledOf) (pc := 26) 0 (kTab_at (pc := 26) tX1_settledOf_ok 15 rfl) rfl ?_
    refine K_iload_n (md := mX1_settledOf) (pc := 27) 1 (kTab_at (pc := 27) tX1_settledOf_ok 16 rfl) rfl ?_
    refine Z_callV (md := mX1_settledOf) (pc := 28) (st := []) (sv := (fun x2 => [.int (iI x2)])) (kTab_at (pc := 28) tX1_settledOf_ok 17 rfl) mv_X1_147 (lay_0 h0 rfl) rfl (Nat.le_of_ble_eq_true rfl) (by decide) rfl (c_X1_readValidValues X p0 p1 h0 μ) (fun _ => rfl) h (fun μ x2 h => ?_) rfl
    refine K_istore_n (md := mX1_settledOf) (pc := 31) (l' := [(2, .int (iI x2)), (0, .ref (X.1 + p0)), (1, .int (iI p1))]) (kTab_at (pc := 31) tX1_settledOf_ok 18 rfl) (Nat.le_of_ble_eq_true rfl) rfl ?_
    refine K_iload_n (md := mX1_settledOf) (pc := 32) 0 (kTab_at (pc := 32) tX1_settledOf_ok 19 rfl) rfl ?_
    refine K_if_ne (md := mX1_settledOf) (pc := 33) (kTab_at (pc := 33) tX1_settledOf_ok 20 rfl) (tgt := 38) rfl h (fun h => ?_) (fun h => ?_)
    · refine K_iload_n (md := mX1_settledOf) (pc := 38) 0 (kTab_at (pc := 38) tX1_settledOf_ok 23 rfl) rfl ?_
      refine K_iconst (md := mX1_settledOf) (pc := 39) (x := 1) (kTab_at (pc := 39) tX1_settledOf_ok 24 rfl) rfl ?_
      refine K_icmp_ne (md := mX1_settledOf) (pc := 40) (kTab_at (pc := 40) tX1_settledOf_ok 25 rfl) (tgt := 50) rfl h (fun h => ?_) (fun h => ?_)
      · refine K_aload_n (md := mX1_settledOf) (pc := 50) 1 (kTab_at (pc := 50) tX1_settledOf_ok 31 rfl) rfl ?_
        refine K_aload_n (md := mX1_settledOf) (pc := 51) 1 (kTab_at (pc := 51) tX1_settledOf_ok 32 rfl) rfl ?_
        refine K_getR (md := mX1_settledOf) (pc := 52) (b := (p0 + 23)) (kTab_at (pc := 52) tX1_settledOf_ok 33 rfl) fl_X1_58 (lay_0 h0 rfl) rfl rfl ?_
        refine K_iconst (md := mX1_settledOf) (pc := 55) (x := 0) (kTab_at (pc := 55) tX1_settledOf_ok 34 rfl) rfl ?_
        refine Z_iald (md := mX1_settledOf) (pc := 56) (kTab_at (pc := 56) tX1_settledOf_ok 35 rfl) (lay_at h0 23 rfl) (by decide) h (fun x3 h => ?_)
        refine K_aload_n (md := mX1_settledOf) (pc := 57) 1 (kTab_at (pc := 57) tX1_settledOf_ok 36 rfl) rfl ?_
        refine K_getR (md := mX1_settledOf) (pc := 58) (b := (p0 + 23)) (kTab_at (pc := 58) tX1_settledOf_ok 37 rfl) fl_X1_58 (lay_0 h0 rfl) rfl rfl ?_
        refine K_iconst (md := mX1_settledOf) (pc := 61) (x := 1) (kTab_at (pc := 61) tX1_settledOf_ok 38 rfl) rfl ?_
        refine Z_iald (md := mX1_settledOf) (pc := 62) (kTab_at (pc := 62) tX1_settledOf_ok 39 rfl) (lay_at h0 23 rfl) (by decide) h (fun x4 h => ?_)
        refine Z_callV (md := mX1_settledOf) (pc := 63) (st := []) (sv := (fun x5 => [.int (iI x5)])) (kTab_at (pc := 63) tX1_settledOf_ok 40 rfl) mv_X1_150 (lay_0 h0 rfl) rfl (Nat.le_of_ble_eq_true rfl) (by decide) rfl (c_X1_agree X p0 x3 x4 h0 μ) (fun _ => rfl) h (fun μ x5 h => ?_) rfl
        refine K_if_eq (md := mX1_settledOf) (pc := 66) (kTab_at (pc := 66) tX1_settledOf_ok 41 rfl) (tgt := 85) rfl h (fun h => ?_) (fun h => ?_)
        · refine K_iload_n (md := mX1_settledOf) (pc := 85) 0 (kTab_at (pc := 85) tX1_settledOf_ok 54 rfl) rfl ?_
          refine K_iconst (md := mX1_settledOf) (pc := 86) (x := 2) (kTab_at (pc := 86) tX1_settledOf_ok 55 rfl) rfl ?_
          refine K_icmp_ne (md := mX1_settledOf) (pc := 87) (kTab_at (pc := 87) tX1_settledOf_ok 56 rfl) (tgt := 106) rfl h (fun h => ?_) (fun h => ?_)
          · refine K_aload_n (md := mX1_settledOf) (pc := 106) 1 (kTab_at (pc := 106) tX1_settledOf_ok 67 rfl) rfl ?_
            refine K_getR (md := mX1_settledOf) (pc := 107) (b := (p0 + 23)) (kTab_at (pc := 107) tX1_settledOf_ok 68 rfl) fl_X1_58 (lay_0 h0 rfl) rfl rfl ?_
            refine K_iconst (md := mX1_settledOf) (pc := 110) (x := 2) (kTab_at (pc := 110) tX1_settledOf_ok 69 rfl) rfl ?_
            refine Z_iald (md := mX1_settledOf) (pc := 111) (kTab_at (pc := 111) tX1_settledOf_ok 70 rfl) (lay_at h0 23 rfl) (by decide) h (fun x6 h => ?_)
            refine K_aload_n (md := mX1_settledOf) (pc := 112) 1 (kTab_at (pc := 112) tX1_settledOf_ok 71 rfl) rfl ?_
            refine K_getR (md := mX1_settledOf) (pc := 113) (b := (p0 + 23)) (kTab_at (pc := 113) tX1_settledOf_ok 72 rfl) fl_X1_58 (lay_0 h0 rfl) rfl rfl ?_
            refine K_iconst (md := mX1_settledOf) (pc := 116) (x := 0) (kTab_at (pc := 116) tX1_settledOf_ok 73 rfl) rfl ?_
            refine Z_iald (md := mX1_settledOf) (pc := 117) (kTab_at (pc := 117) tX1_settledOf_ok 74 rfl) (lay_at h0 23 rfl) (by decide) h (fun x7 h => ?_)
            refine K_aload_n (md := mX1_settledOf) (pc := 118) 1 (kTab_at (pc := 118) tX1_settledOf_ok 75 rfl) rfl ?_
            refine K_getR (md := mX1_settledOf) (pc := 119) (b := (p0 + 23)) (kTab_at (pc := 119) tX1_settledOf_ok 76 rfl) fl_X1_58 (lay_0 h0 rfl) rfl rfl ?_
            refine K_iconst (md := mX1_settledOf) (pc := 122) (x := 1) (kTab_at (pc := 122) tX1_settledOf_ok 77 rfl) rfl ?_
            refine Z_iald (md := mX1_settledOf) (pc := 123) (kTab_at (pc := 123) tX1_settledOf_ok 78 rfl) (lay_at h0 23 rfl) (by decide) h (fun x8 h => ?_)
            refine Z_callSN (md := mX1_settledOf) (pc := 124) (st := []) (sv := (fun x9 => [.int (iI x9)])) (kTab_at (pc := 124) tX1_settledOf_ok 79 rfl) mn_X1_157 rfl (Nat.le_of_ble_eq_true rfl) (by decide) (c_X10_halfWithNearer X x6 x7 x8 μ) (n_X10_halfWithNearer x6 x7 x8 μ) (fun _ => rfl) h (fun μ x9 h => ?_) rfl
            exact Z_iret (md := mX1_settledOf) (pc := 127) (kTab_at (pc := 127) tX1_settledOf_ok 80 rfl) rfl rfl rfl h
          · refine K_aload_n (md := mX1_settledOf) (pc := 90) 1 (kTab_at (pc := 90) tX1_settledOf_ok 57 rfl) rfl ?_
            refine K_getR (md := mX1_settledOf) (pc := 91) (b := (p0 + 23)) (kTab_at (pc := 91) tX1_settledOf_ok 58 rfl) fl_X1_58 (lay_0 h0 rfl) rfl rfl ?_
            refine K_iconst (md := mX1_settledOf) (pc := 94) (x := 0) (kTab_at (pc := 94) tX1_settledOf_ok 59 rfl) rfl ?_
            refine Z_iald (md := mX1_settledOf) (pc := 95) (kTab_at (pc := 95) tX1_settledOf_ok 60 rfl) (lay_at h0 23 rfl) (by decide) h (fun x10 h => ?_)
            refine K_aload_n (md := mX1_settledOf) (pc := 96) 1 (kTab_at (pc := 96) tX1_settledOf_ok 61 rfl) rfl ?_
            refine K_getR (md := mX1_settledOf) (pc := 97) (b := (p0 + 23)) (kTab_at (pc := 97) tX1_settledOf_ok 62 rfl) fl_X1_58 (lay_0 h0 rfl) rfl rfl ?_
            refine K_iconst (md := mX1_settledOf) (pc := 100) (x := 1) (kTab_at (pc := 100) tX1_settledOf_ok 63 rfl) rfl ?_
            refine Z_iald (md := mX1_settledOf) (pc := 101) (kTab_at (pc := 101) tX1_settledOf_ok 64 rfl) (lay_at h0 23 rfl) (by decide) h (fun x11 h => ?_)
            refine Z_mmin (md := mX1_settledOf) (pc := 102) (kTab_at (pc := 102) tX1_settledOf_ok 65 rfl) (inT4 8 (by decide +kernel) rfl) (inT2 136 (by decide +kernel) rfl) (inT1 22 (by decide +kernel) rfl) (inT2 137 (by decide +kernel) rfl) (Nat.le_of_ble_eq_true rfl) h (fun x12 h => ?_)
            exact Z_iret (md := mX1_settledOf) (pc := 105) (kTab_at (pc := 105) tX1_settledOf_ok 66 rfl) rfl rfl rfl h
        · refine K_aload_n (md := mX1_settledOf) (pc := 69) 1 (kTab_at (pc := 69) tX1_settledOf_ok 42 rfl) rfl ?_
          refine K_getR (md := mX1_settledOf) (pc := 70) (b := (p0 + 23)) (kTab_at (pc := 70) tX1_settledOf_ok 43 rfl) fl_X1_58 (lay_0 h0 rfl) rfl rfl ?_
          refine K_iconst (md := mX1_settledOf) (pc := 73) (x := 0) (kTab_at (pc := 73) tX1_settledOf_ok 44 rfl) rfl ?_
          refine Z_iald (md := mX1_settledOf) (pc := 74) (kTab_at (pc := 74) tX1_settledOf_ok 45 rfl) (lay_at h0 23 rfl) (by decide) h (fun x13 h => ?_)
          refine K_aload_n (md := mX1_settledOf) (pc := 75) 1 (kTab_at (pc := 75) tX1_settledOf_ok 46 rfl) rfl ?_
          refine K_getR (md := mX1_settledOf) (pc := 76) (b := (p0 + 23)) (kTab_at (pc := 76) tX1_settledOf_ok 47 rfl) fl_X1_58 (lay_0 h0 rfl) rfl rfl ?_
          refine K_iconst (md := mX1_settledOf) (pc := 79) (x := 1) (kTab_at (pc := 79) tX1_settledOf_ok 48 rfl) rfl ?_
          refine Z_iald (md := mX1_settledOf) (pc := 80) (kTab_at (pc := 80) tX1_settledOf_ok 49 rfl) (lay_at h0 23 rfl) (by decide) h (fun x14 h => ?_)
          refine K_iadd (md := mX1_settledOf) (pc := 81) (kTab_at (pc := 81) tX1_settledOf_ok 50 rfl) ?_
          refine K_iconst (md := mX1_settledOf) (pc := 82) (x := 2) (kTab_at (pc := 82) tX1_settledOf_ok 51 rfl) rfl ?_
          refine Z_idiv (md := mX1_settledOf) (pc := 83) (kTab_at (pc := 83) tX1_settledOf_ok 52 rfl) h (fun x15 h => ?_)
          exact Z_iret (md := mX1_settledOf) (pc := 84) (kTab_at (pc := 84) tX1_settledOf_ok 53 rfl) rfl rfl rfl h
      · refine K_aload_n (md := mX1_settledOf) (pc := 43) 1 (kTab_at (pc := 43) tX1_settledOf_ok 26 rfl) rfl ?_
        refine K_getR (md := mX1_settledOf) (pc := 44) (b := (p0 + 23)) (kTab_at (pc := 44) tX1_settledOf_ok 27 rfl) fl_X1_58 (lay_0 h0 rfl) rfl rfl ?_
        refine K_iconst (md := mX1_settledOf) (pc := 47) (x := 0) (kTab_at (pc := 47) tX1_settledOf_ok 28 rfl) rfl ?_
        refine Z_iald (md := mX1_settledOf) (pc := 48) (kTab_at (pc := 48) tX1_settledOf_ok 29 rfl) (lay_at h0 23 rfl) (by decide) h (fun x16 h => ?_)
        exact Z_iret (md := mX1_settledOf) (pc := 49) (kTab_at (pc := 49) tX1_settledOf_ok 30 rfl) rfl rfl rfl h
    · refine K_iconst (md := mX1_settledOf) (pc := 36) (x := 0) (kTab_at (pc := 36) tX1_settledOf_ok 21 rfl) rfl ?_
      exact Z_iret (md := mX1_settledOf) (pc := 37) (kTab_at (pc := 37) tX1_settledOf_ok 22 rfl) rfl rfl rfl h
  · refine K_aload_n (md := mX1_settledOf) (pc := 13) 0 (kTab_at (pc := 13) tX1_settledOf_ok 7 rfl) rfl ?_
    refine K_getR (md := mX1_settledOf) (pc := 14) (b := (p0 + 19)) (kTab_at (pc := 14) tX1_settledOf_ok 8 rfl) fl_X1_54 (lay_0 h0 rfl) rfl rfl ?_
    refine K_getR (md := mX1_settledOf) (pc := 17) (b := ((p0 + 19) + 3)) (kTab_at (pc := 17) tX1_settledOf_ok 9 rfl) fl_X1_156 (lay_0 (lay_appeals h0) rfl) rfl rfl ?_
    refine K_iload_n (md := mX1_settledOf) (pc := 20) 1 (kTab_at (pc := 20) tX1_settledOf_ok 10 rfl) rfl ?_
    refine Z_iald (md := mX1_settledOf) (pc := 21) (kTab_at (pc := 21) tX1_settledOf_ok 11 rfl) (lay_at (lay_appeals h0) 3 rfl) (by decide) h (fun x17 h => ?_)
    refine K_bipush (md := mX1_settledOf) (pc := 22) (x := 120) (kTab_at (pc := 22) tX1_settledOf_ok 12 rfl) (by decide) ?_
    refine K_imul (md := mX1_settledOf) (pc := 24) (kTab_at (pc := 24) tX1_settledOf_ok 13 rfl) ?_
    exact Z_iret (md := mX1_settledOf) (pc := 25) (kTab_at (pc := 25) tX1_settledOf_ok 14 rfl) rfl rfl rfl h
def f_X1_standingOf_56 (p0 : Nat) (p1 : Int)  (s0 : Int) (μ : Mu) : Option Res := some (μ, 0, s0)
set_option maxRecDepth 100000 in
theorem c_X1_standingOf_56 (X : kX) (p0 : Nat) (p1 : Int) (h0 : Lay p0 (ksX1 p0)) {res : Res}  (s0 : Int) (μ : Mu) (h : f_X1_standingOf_56 p0 p1 s0 μ = some res) : KK X mX1_standingOf 4 1 res 56 [] [.int (iI s0)] μ := by
  unfold f_X1_standingOf_56 at h
  exact Z_iret (md := mX1_standingOf) (pc := 56) (kTab_at (pc := 56) tX1_standingOf_ok 34 rfl) rfl rfl rfl h
def f_X1_standingOf_55 (p0 : Nat) (p1 : Int)   (μ : Mu) : Option Res := f_X1_standingOf_56 p0 p1 0 μ
set_option maxRecDepth 100000 in
theorem c_X1_standingOf_55 (X : kX) (p0 : Nat) (p1 : Int) (h0 : Lay p0 (ksX1 p0)) {res : Res}  (μ : Mu) (h : f_X1_standingOf_55 p0 p1 μ = some res) : KK X mX1_standingOf 4 1 res 55 [] [] μ := by
  unfold f_X1_standingOf_55 at h
  refine K_iconst (md := mX1_standingOf) (pc := 55) (x := 0) (kTab_at (pc := 55) tX1_standingOf_ok 33 rfl) rfl ?_
  refine c_X1_standingOf_56 X p0 p1 h0  0 μ h
def f_X1_standingOf (p0 : Nat) (p1 : Int) (μ : Mu) : Option Res := rdI μ ((p0 + 19) + 1) 40 p1 fun x1 => i_eq x1 3 (some (μ, 0, 0)) (rb (f_X1_readValidValues p0 p1 μ) fun μ x2 => i_eq x2 0 (some (μ, 0, 1)) (i_eq x2 2 (rdI μ (p0 + 23) 3 0 fun x3 => rdI μ (p0 + 23) 3 1 fun x4 => rb (f_X1_agree p0 x3 x4 μ) fun μ x5 => i_eq x5 0 (f_X1_standingOf_56 p0 p1 2 μ) (f_X1_standingOf_55 p0 p1 μ)) (f_X1_standingOf_55 p0 p1 μ)))
set_option maxRecDepth 100000 in
theorem c_X1_standingOf (X : kX) (p0 : Nat) (p1 : Int) (h0 : Lay p0 (ksX1 p0)) (μ : Mu) : Cq X mX1_standingOf 4 1 μ [.ref (X.1 + p0), .int (iI p1)] (f_X1_standingOf p0 p1 μ) := by
  intro res h
  refine ct_of (by decide +kernel) rfl (Nat.le_of_ble_eq_true rfl) ?_
  show KK X mX1_standingOf 4 1 res 0 [(0, .ref (X.1 + p0)), (1, .int (iI p1))] [] μ
  unfold f_X1_standingOf at h
  refine K_aload_n (md := mX1_standingOf) (pc := 0) 0 (kTab_at (pc := 0) tX1_standingOf_ok 0 rfl) rfl ?_
  refine K_getR (md := mX1_standingOf) (pc := 1) (b := (p0 + 19)) (kTab_at (pc := 1) tX1_standingOf_ok 1 rfl) fl_X1_54 (lay_0 h0 rfl) rfl rfl ?_
  refine K_getR (md := mX1_standingOf) (pc := 4) (b := ((p0 + 19) + 1)) (kTab_at (pc := 4) tX1_standingOf_ok 2 rfl) fl_X1_153 (lay_0 (lay_appeals h0) rfl) rfl rfl ?_
  refine K_iload_n (md := mX1_standingOf) (pc := 7) 1 (kTab_at (pc := 7) tX1_standingOf_ok 3 rfl) rfl ?_
  refine Z_iald (md := mX1_standingOf) (pc := 8) (kTab_at (pc := 8) tX1_standingOf_ok 4 rfl) (lay_at (lay_appeals h0) 1 rfl) (by decide) h (fun x1 h => ?_)
  refine K_iconst (md := mX1_standingOf) (pc := 9) (x := 3) (kTab_at (pc := 9) tX1_standingOf_ok 5 rfl) rfl ?_
  refine K_icmp_ne (md := mX1_standingOf) (pc := 10) (kTab_at (pc := 10) tX1_standingOf_ok 6 rfl) (tgt := 15) rfl h (fun h => ?_) (fun h => ?_)
  · refine K_aload_n (md := mX1_standingOf) (pc := 15) 0 (kTab_at (pc := 15) tX1_standingOf_ok 9 rfl) rfl ?_
    refine K_iload_n (md := mX1_standingOf) (pc := 16) 1 (kTab_at (pc := 16) tX1_standingOf_ok 10 rfl) rfl ?_
    refine Z_callV (md := mX1_standingOf) (pc := 17) (st := []) (sv := (fun x2 => [.int (iI x2)])) (kTab_at (pc := 17) tX1_standingOf_ok 11 rfl) mv_X1_147 (lay_0 h0 rfl) rfl (Nat.le_of_ble_eq_true rfl) (by decide) rfl (c_X1_readValidValues X p0 p1 h0 μ) (fun _ => rfl) h (fun μ x2 h => ?_) rfl
    refine K_istore_n (md := mX1_standingOf) (pc := 20) (l' := [(2, .int (iI x2)), (0, .ref (X.1 + p0)), (1, .int (iI p1))]) (kTab_at (pc := 20) tX1_standingOf_ok 12 rfl) (Nat.le_of_ble_eq_true rfl) rfl ?_
    refine K_iload_n (md := mX1_standingOf) (pc := 21) 0 (kTab_at (pc := 21) tX1_standingOf_ok 13 rfl) rfl ?_
    refine K_if_ne (md := mX1_standingOf) (pc := 22) (kTab_at (pc := 22) tX1_standingOf_ok 14 rfl) (tgt := 27) rfl h (fun h => ?_) (fun h => ?_)
    · refine K_iload_n (md := mX1_standingOf) (pc := 27) 0 (kTab_at (pc := 27) tX1_standingOf_ok 17 rfl) rfl ?_
      refine K_iconst (md := mX1_standingOf) (pc := 28) (x := 2) (kTab_at (pc := 28) tX1_standingOf_ok 18 rfl) rfl ?_
      refine K_icmp_ne (md := mX1_standingOf) (pc := 29) (kTab_at (pc := 29) tX1_standingOf_ok 19 rfl) (tgt := 55) rfl h (fun h => ?_) (fun h => ?_)
      · refine K_sub [] rfl ?_
        refine c_X1_standingOf_55 X p0 p1 h0  μ h
      · refine K_aload_n (md := mX1_standingOf) (pc := 32) 1 (kTab_at (pc := 32) tX1_standingOf_ok 20 rfl) rfl ?_
        refine K_aload_n (md := mX1_standingOf) (pc := 33) 1 (kTab_at (pc := 33) tX1_standingOf_ok 21 rfl) rfl ?_
        refine K_getR (md := mX1_standingOf) (pc := 34) (b := (p0 + 23)) (kTab_at (pc := 34) tX1_standingOf_ok 22 rfl) fl_X1_58 (lay_0 h0 rfl) rfl rfl ?_
        refine K_iconst (md := mX1_standingOf) (pc := 37) (x := 0) (kTab_at (pc := 37) tX1_standingOf_ok 23 rfl) rfl ?_
        refine Z_iald (md := mX1_standingOf) (pc := 38) (kTab_at (pc := 38) tX1_standingOf_ok 24 rfl) (lay_at h0 23 rfl) (by decide) h (fun x3 h => ?_)
        refine K_aload_n (md := mX1_standingOf) (pc := 39) 1 (kTab_at (pc := 39) tX1_standingOf_ok 25 rfl) rfl ?_
        refine K_getR (md := mX1_standingOf) (pc := 40) (b := (p0 + 23)) (kTab_at (pc := 40) tX1_standingOf_ok 26 rfl) fl_X1_58 (lay_0 h0 rfl) rfl rfl ?_
        refine K_iconst (md := mX1_standingOf) (pc := 43) (x := 1) (kTab_at (pc := 43) tX1_standingOf_ok 27 rfl) rfl ?_
        refine Z_iald (md := mX1_standingOf) (pc := 44) (kTab_at (pc := 44) tX1_standingOf_ok 28 rfl) (lay_at h0 23 rfl) (by decide) h (fun x4 h => ?_)
        refine Z_callV (md := mX1_standingOf) (pc := 45) (st := []) (sv := (fun x5 => [.int (iI x5)])) (kTab_at (pc := 45) tX1_standingOf_ok 29 rfl) mv_X1_150 (lay_0 h0 rfl) rfl (Nat.le_of_ble_eq_true rfl) (by decide) rfl (c_X1_agree X p0 x3 x4 h0 μ) (fun _ => rfl) h (fun μ x5 h => ?_) rfl
        refine K_if_ne (md := mX1_standingOf) (pc := 48) (kTab_at (pc := 48) tX1_standingOf_ok 30 rfl) (tgt := 55) rfl h (fun h => ?_) (fun h => ?_)
        · refine K_sub [] rfl ?_
          refine c_X1_standingOf_55 X p0 p1 h0  μ h
        · refine K_iconst (md := mX1_standingOf) (pc := 51) (x := 2) (kTab_at (pc := 51) tX1_standingOf_ok 31 rfl) rfl ?_
          refine K_goto (md := mX1_standingOf) (pc := 52) (tgt := 56) (kTab_at (pc := 52) tX1_standingOf_ok 32 rfl) rfl ?_
          refine K_sub [] rfl ?_
          refine c_X1_standingOf_56 X p0 p1 h0  2 μ h
    · refine K_iconst (md := mX1_standingOf) (pc := 25) (x := 1) (kTab_at (pc := 25) tX1_standingOf_ok 15 rfl) rfl ?_
      exact Z_iret (md := mX1_standingOf) (pc := 26) (kTab_at (pc := 26) tX1_standingOf_ok 16 rfl) rfl rfl rfl h
  · refine K_iconst (md := mX1_standingOf) (pc := 13) (x := 0) (kTab_at (pc := 13) tX1_standingOf_ok 7 rfl) rfl ?_
    exact Z_iret (md := mX1_standingOf) (pc := 14) (kTab_at (pc := 14) tX1_standingOf_ok 8 rfl) rfl rfl rfl h
def f_X1_isExcused_18 (p0 : Nat) (p1 : Int) (p2 : Int)  (s0 : Int) (μ : Mu) : Option Res := retZ μ s0
set_option maxRecDepth 100000 in
theorem c_X1_isExcused_18 (X : kX) (p0 : Nat) (p1 : Int) (p2 : Int) (h0 : Lay p0 (ksX1 p0)) {res : Res}  (s0 : Int) (μ : Mu) (h : f_X1_isExcused_18 p0 p1 p2 s0 μ = some res) : KK X mX1_isExcused 0 1 res 18 [] [.int (iI s0)] μ := by
  unfold f_X1_isExcused_18 at h
  exact Z_zret (md := mX1_isExcused) (pc := 18) (kTab_at (pc := 18) tX1_isExcused_ok 12 rfl) rfl rfl h
def f_X1_isExcused (p0 : Nat) (p1 : Int) (p2 : Int) (μ : Mu) : Option Res := rdI μ (p0 + 4) 8 p1 fun x1 => i_eq (andI (shrI x1 p2) 1) 0 (f_X1_isExcused_18 p0 p1 p2 0 μ) (f_X1_isExcused_18 p0 p1 p2 1 μ)
set_option maxRecDepth 100000 in
theorem c_X1_isExcused (X : kX) (p0 : Nat) (p1 : Int) (p2 : Int) (h0 : Lay p0 (ksX1 p0)) (μ : Mu) : Cq X mX1_isExcused 0 1 μ [.ref (X.1 + p0), .int (iI p1), .int (iI p2)] (f_X1_isExcused p0 p1 p2 μ) := by
  intro res h
  refine ct_of (by decide +kernel) rfl (Nat.le_of_ble_eq_true rfl) ?_
  show KK X mX1_isExcused 0 1 res 0 [(0, .ref (X.1 + p0)), (1, .int (iI p1)), (2, .int (iI p2))] [] μ
  unfold f_X1_isExcused at h
  refine K_aload_n (md := mX1_isExcused) (pc := 0) 0 (kTab_at (pc := 0) tX1_isExcused_ok 0 rfl) rfl ?_
  refine K_getR (md := mX1_isExcused) (pc := 1) (b := (p0 + 4)) (kTab_at (pc := 1) tX1_isExcused_ok 1 rfl) fl_X1_21 (lay_0 h0 rfl) rfl rfl ?_
  refine K_iload_n (md := mX1_isExcused) (pc := 4) 1 (kTab_at (pc := 4) tX1_isExcused_ok 2 rfl) rfl ?_
  refine Z_iald (md := mX1_isExcused) (pc := 5) (kTab_at (pc := 5) tX1_isExcused_ok 3 rfl) (lay_at h0 4 rfl) (by decide) h (fun x1 h => ?_)
  refine K_iload_n (md := mX1_isExcused) (pc := 6) 2 (kTab_at (pc := 6) tX1_isExcused_ok 4 rfl) rfl ?_
  refine K_ishr (md := mX1_isExcused) (pc := 7) (kTab_at (pc := 7) tX1_isExcused_ok 5 rfl) ?_
  refine K_iconst (md := mX1_isExcused) (pc := 8) (x := 1) (kTab_at (pc := 8) tX1_isExcused_ok 6 rfl) rfl ?_
  refine K_iand (md := mX1_isExcused) (pc := 9) (kTab_at (pc := 9) tX1_isExcused_ok 7 rfl) ?_
  refine K_if_eq (md := mX1_isExcused) (pc := 10) (kTab_at (pc := 10) tX1_isExcused_ok 8 rfl) (tgt := 17) rfl h (fun h => ?_) (fun h => ?_)
  · refine K_iconst (md := mX1_isExcused) (pc := 17) (x := 0) (kTab_at (pc := 17) tX1_isExcused_ok 11 rfl) rfl ?_
    refine K_sub [] rfl ?_
    refine c_X1_isExcused_18 X p0 p1 p2 h0  0 μ h
  · refine K_iconst (md := mX1_isExcused) (pc := 13) (x := 1) (kTab_at (pc := 13) tX1_isExcused_ok 9 rfl) rfl ?_
    refine K_goto (md := mX1_isExcused) (pc := 14) (tgt := 18) (kTab_at (pc := 14) tX1_isExcused_ok 10 rfl) rfl ?_
    refine K_sub [] rfl ?_
    refine c_X1_isExcused_18 X p0 p1 p2 h0  1 μ h
def f_X10_scriptOf (p0 : Int) (p1 : Int) (μ : Mu) : Option Res := some (μ, 0, ((p0 * 5) + p1))
set_option maxRecDepth 100000 in
theorem c_X10_scriptOf (X : kX) (p0 : Int) (p1 : Int)  (μ : Mu) : Cq X mX10_scriptOf 0 1 μ [.int (iI p0), .int (iI p1)] (f_X10_scriptOf p0 p1 μ) := by
  intro res h
  refine ct_of (by decide +kernel) rfl (Nat.le_of_ble_eq_true rfl) ?_
  show KK X mX10_scriptOf 0 1 res 0 [(0, .int (iI p0)), (1, .int (iI p1))] [] μ
  unfold f_X10_scriptOf at h
  refine K_iload_n (md := mX10_scriptOf) (pc := 0) 0 (kTab_at (pc := 0) tX10_scriptOf_ok 0 rfl) rfl ?_
  refine K_iconst (md := mX10_scriptOf) (pc := 1) (x := 5) (kTab_at (pc := 1) tX10_scriptOf_ok 1 rfl) rfl ?_
  refine K_imul (md := mX10_scriptOf) (pc := 2) (kTab_at (pc := 2) tX10_scriptOf_ok 2 rfl) ?_
  refine K_iload_n (md := mX10_scriptOf) (pc := 3) 1 (kTab_at (pc := 3) tX10_scriptOf_ok 3 rfl) rfl ?_
  refine K_iadd (md := mX10_scriptOf) (pc := 4) (kTab_at (pc := 4) tX10_scriptOf_ok 4 rfl) ?_
  exact Z_iret (md := mX10_scriptOf) (pc := 5) (kTab_at (pc := 5) tX10_scriptOf_ok 5 rfl) rfl rfl rfl h
set_option maxRecDepth 100000 in
theorem n_X10_scriptOf (p0 : Int) (p1 : Int) (μ : Mu) : nth (f_X10_scriptOf p0 p1 μ) := by
  unfold f_X10_scriptOf
  repeat (first | with_reducible exact nth_s _ _ | with_reducible exact nth_Z _ _ | with_reducible apply nth_ilt | with_reducible apply nth_ieq | with_reducible apply nth_llt | with_reducible apply nth_leq | (with_reducible apply nth_rdI; intro _) | (with_reducible apply nth_wrI; intro _) | (with_reducible apply nth_bnd; intro _) | (with_reducible apply nth_idiv; intro _) | (with_reducible apply nth_irem; intro _) | (with_reducible apply nth_ldiv; intro _) | (with_reducible apply nth_lrem; intro _) | (with_reducible apply nth_max; intro _) | (with_reducible apply nth_min; intro _) | (with_reducible apply nth_cpy; intro _) | with_reducible exact ih _ | with_reducible exact ih _ _ | with_reducible exact ih _ _ _ | with_reducible exact ih _ _ _ _)
def f_X1_hasGrade_2 (p0 : Nat) (p1 : Int) (k23 : Mu → Option Res) (k31 : Mu → Option Res) : Nat → Int → Mu → Option Res
  | 0, _, _ => none
  | fu + 1, v2, μ => i_lt v2 5 (rb (f_X10_scriptOf p1 v2 μ) fun μ x1 => rdI μ ((p0 + 11) + 1) 40 x1 fun x2 => i_lt 0 x2 (k23 μ) ((f_X1_hasGrade_2 p0 p1 k23 k31 fu) (v2 + 1) μ)) (k31 μ)
set_option maxRecDepth 100000 in
theorem c_X1_hasGrade_2 (X : kX) (p0 : Nat) (p1 : Int) (h0 : Lay p0 (ksX1 p0)) {res : Res} (k23 : Mu → Option Res) (hk23 : ∀ (μ : Mu), k23 μ = some res → KK X mX1_hasGrade 1 1 res 23 [] [] μ) (k31 : Mu → Option Res) (hk31 : ∀ (μ : Mu), k31 μ = some res → KK X mX1_hasGrade 1 1 res 31 [] [] μ) : ∀ (fu : Nat)  (v2 : Int) (μ : Mu), f_X1_hasGrade_2 p0 p1 k23 k31 fu v2 μ = some res → KK X mX1_hasGrade 1 1 res 2 [(0, .ref (X.1 + p0)), (1, .int (iI p1)), (2, .int (iI v2))] [] μ := by
  intro fu
  induction fu with
  | zero => intro v2 μ h; exact nomatch h
  | succ fu ih =>
    intro v2 μ h
    refine K_iload_n (md := mX1_hasGrade) (pc := 2) 2 (kTab_at (pc := 2) tX1_hasGrade_ok 2 rfl) rfl ?_
    refine K_iconst (md := mX1_hasGrade) (pc := 3) (x := 5) (kTab_at (pc := 3) tX1_hasGrade_ok 3 rfl) rfl ?_
    refine K_icmp_ge (md := mX1_hasGrade) (pc := 4) (kTab_at (pc := 4) tX1_hasGrade_ok 4 rfl) (tgt := 31) rfl h (fun h => ?_) (fun h => ?_)
    · refine K_sub [] rfl ?_
      exact hk31 μ h
    · refine K_aload_n (md := mX1_hasGrade) (pc := 7) 0 (kTab_at (pc := 7) tX1_hasGrade_ok 5 rfl) rfl ?_
      refine K_getR (md := mX1_hasGrade) (pc := 8) (b := (p0 + 11)) (kTab_at (pc := 8) tX1_hasGrade_ok 6 rfl) fl_X1_40 (lay_0 h0 rfl) rfl rfl ?_
      refine K_getR (md := mX1_hasGrade) (pc := 11) (b := ((p0 + 11) + 1)) (kTab_at (pc := 11) tX1_hasGrade_ok 7 rfl) fl_X1_134 (lay_0 (lay_entries h0) rfl) rfl rfl ?_
      refine K_iload_n (md := mX1_hasGrade) (pc := 14) 1 (kTab_at (pc := 14) tX1_hasGrade_ok 8 rfl) rfl ?_
      refine K_iload_n (md := mX1_hasGrade) (pc := 15) 2 (kTab_at (pc := 15) tX1_hasGrade_ok 9 rfl) rfl ?_
      refine Z_callSN (md := mX1_hasGrade) (pc := 16) (st := [.ref (X.1 + ((p0 + 11) + 1))]) (sv := (fun x1 => [.int (iI x1), .ref (X.1 + ((p0 + 11) + 1))])) (kTab_at (pc := 16) tX1_hasGrade_ok 10 rfl) mn_X1_160 rfl (Nat.le_of_ble_eq_true rfl) (by decide) (c_X10_scriptOf X p1 v2 μ) (n_X10_scriptOf p1 v2 μ) (fun _ => rfl) h (fun μ x1 h => ?_) rfl
      refine Z_iald (md := mX1_hasGrade) (pc := 19) (kTab_at (pc := 19) tX1_hasGrade_ok 11 rfl) (lay_at (lay_entries h0) 1 rfl) (by decide) h (fun x2 h => ?_)
      refine K_if_le (md := mX1_hasGrade) (pc := 20) (kTab_at (pc := 20) tX1_hasGrade_ok 12 rfl) (tgt := 25) rfl h (fun h => ?_) (fun h => ?_)
      · refine K_iinc (md := mX1_hasGrade) (pc := 25) (l' := [(2, .int (iI (v2 + 1))), (0, .ref (X.1 + p0)), (1, .int (iI p1))]) 2 (kTab_at (pc := 25) tX1_hasGrade_ok 15 rfl) rfl (Nat.le_of_ble_eq_true rfl) rfl ?_
        refine K_goto (md := mX1_hasGrade) (pc := 28) (tgt := 2) (kTab_at (pc := 28) tX1_hasGrade_ok 16 rfl) rfl ?_
        refine K_sub [1, 2, 0] rfl ?_
        exact ih (v2 + 1) μ h
      · refine K_sub [] rfl ?_
        exact hk23 μ h
def f_X1_hasGrade (p0 : Nat) (p1 : Int) (μ : Mu) : Option Res := f_X1_hasGrade_2 p0 p1 (fun μ => retZ μ 1) (fun μ => retZ μ 0) FU 0 μ
set_option maxRecDepth 100000 in
theorem c_X1_hasGrade (X : kX) (p0 : Nat) (p1 : Int) (h0 : Lay p0 (ksX1 p0)) (μ : Mu) : Cq X mX1_hasGrade 1 1 μ [.ref (X.1 + p0), .int (iI p1)] (f_X1_hasGrade p0 p1 μ) := by
  intro res h
  refine ct_of (by decide +kernel) rfl (Nat.le_of_ble_eq_true rfl) ?_
  show KK X mX1_hasGrade 1 1 res 0 [(0, .ref (X.1 + p0)), (1, .int (iI p1))] [] μ
  unfold f_X1_hasGrade at h
  refine K_iconst (md := mX1_hasGrade) (pc := 0) (x := 0) (kTab_at (pc := 0) tX1_hasGrade_ok 0 rfl) rfl ?_
  refine K_istore_n (md := mX1_hasGrade) (pc := 1) (l' := [(2, .int (iI 0)), (0, .ref (X.1 + p0)), (1, .int (iI p1))]) (kTab_at (pc := 1) tX1_hasGrade_ok 1 rfl) (Nat.le_of_ble_eq_true rfl) rfl ?_
  refine K_sub [1, 2, 0] rfl ?_
  refine c_X1_hasGrade_2 X p0 p1 h0 _ ?_ _ ?_ _ 0 μ h
  · intro  μ h
    refine K_iconst (md := mX1_hasGrade) (pc := 23) (x := 1) (kTab_at (pc := 23) tX1_hasGrade_ok 13 rfl) rfl ?_
    exact Z_zret (md := mX1_hasGrade) (pc := 24) (kTab_at (pc := 24) tX1_hasGrade_ok 14 rfl) rfl rfl h
  · intro  μ h
    refine K_iconst (md := mX1_hasGrade) (pc := 31) (x := 0) (kTab_at (pc := 31) tX1_hasGrade_ok 17 rfl) rfl ?_
    exact Z_zret (md := mX1_hasGrade) (pc := 32) (kTab_at (pc := 32) tX1_hasGrade_ok 18 rfl) rfl rfl h

def f_X10_copyRow (p0 n0 : Nat) (p1 n1 : Nat) (μ : Mu) : Option Res := i_min ((n0 : Nat) : Int) ((n1 : Nat) : Int) fun x1 => cpyI μ p0 n0 0 p1 n1 0 x1 fun μ => some (μ, 0, 0)
set_option maxRecDepth 100000 in
theorem c_X10_copyRow (X : kX) (p0 n0 : Nat) (p1 n1 : Nat) {r0 : Nat → Option Nat} (h0 : SK[p0]? = some (.inl (0, n0, r0))) (b0 : n0 < 2 ^ 31) {r1 : Nat → Option Nat} (h1 : SK[p1]? = some (.inl (0, n1, r1))) (b1 : n1 < 2 ^ 31) (μ : Mu) : Cq X mX10_copyRow 0 0 μ [.ref (X.1 + p0), .ref (X.1 + p1)] (f_X10_copyRow p0 n0 p1 n1 μ) := by
  intro res h
  refine ct_of (by decide +kernel) rfl (Nat.le_of_ble_eq_true rfl) ?_
  show KK X mX10_copyRow 0 0 res 0 [(0, .ref (X.1 + p0)), (1, .ref (X.1 + p1))] [] μ
  unfold f_X10_copyRow at h
  refine K_aload_n (md := mX10_copyRow) (pc := 0) 0 (kTab_at (pc := 0) tX10_copyRow_ok 0 rfl) rfl ?_
  refine K_iconst (md := mX10_copyRow) (pc := 1) (x := 0) (kTab_at (pc := 1) tX10_copyRow_ok 1 rfl) rfl ?_
  refine K_aload_n (md := mX10_copyRow) (pc := 2) 1 (kTab_at (pc := 2) tX10_copyRow_ok 2 rfl) rfl ?_
  refine K_iconst (md := mX10_copyRow) (pc := 3) (x := 0) (kTab_at (pc := 3) tX10_copyRow_ok 3 rfl) rfl ?_
  refine K_aload_n (md := mX10_copyRow) (pc := 4) 0 (kTab_at (pc := 4) tX10_copyRow_ok 4 rfl) rfl ?_
  refine K_alen (md := mX10_copyRow) (pc := 5) (kTab_at (pc := 5) tX10_copyRow_ok 5 rfl) h0 (by decide) ?_
  refine K_aload_n (md := mX10_copyRow) (pc := 6) 1 (kTab_at (pc := 6) tX10_copyRow_ok 6 rfl) rfl ?_
  refine K_alen (md := mX10_copyRow) (pc := 7) (kTab_at (pc := 7) tX10_copyRow_ok 7 rfl) h1 (by decide) ?_
  refine Z_mmin (md := mX10_copyRow) (pc := 8) (kTab_at (pc := 8) tX10_copyRow_ok 8 rfl) (inT2 135 (by decide +kernel) rfl) (inT2 136 (by decide +kernel) rfl) (inT1 22 (by decide +kernel) rfl) (inT2 137 (by decide +kernel) rfl) (Nat.le_of_ble_eq_true rfl) h (fun x1 h => ?_)
  refine Z_copy (md := mX10_copyRow) (pc := 11) (kTab_at (pc := 11) tX10_copyRow_ok 9 rfl) (inT2 138 (by decide +kernel) rfl) (inT2 140 (by decide +kernel) rfl) (inT2 139 (by decide +kernel) rfl) (inT1 24 (by decide +kernel) rfl) h0 h1 (Nat.le_of_ble_eq_true rfl) h (fun μ h => ?_)
  exact Z_vret (md := mX10_copyRow) (pc := 14) (kTab_at (pc := 14) tX10_copyRow_ok 10 rfl) rfl rfl h
set_option maxRecDepth 100000 in
theorem n_X10_copyRow (p0 n0 : Nat) (p1 n1 : Nat) (μ : Mu) : nth (f_X10_copyRow p0 n0 p1 n1 μ) := by
  unfold f_X10_copyRow
  repeat (first | with_reducible exact nth_s _ _ | with_reducible exact nth_Z _ _ | with_reducible apply nth_ilt | with_reducible apply nth_ieq | with_reducible apply nth_llt | with_reducible apply nth_leq | (with_reducible apply nth_rdI; intro _) | (with_reducible apply nth_wrI; intro _) | (with_reducible apply nth_bnd; intro _) | (with_reducible apply nth_idiv; intro _) | (with_reducible apply nth_irem; intro _) | (with_reducible apply nth_ldiv; intro _) | (with_reducible apply nth_lrem; intro _) | (with_reducible apply nth_max; intro _) | (with_reducible apply nth_min; intro _) | (with_reducible apply nth_cpy; intro _) | with_reducible exact ih _ | with_reducible exact ih _ _ | with_reducible exact ih _ _ _ | with_reducible exact ih _ _ _ _)
def f_X0_copyFrom (p0 : Nat) (p1 : Nat) (μ : Mu) : Option Res := rb (f_X10_copyRow (p1 + 1) 40 (p0 + 1) 40 μ) fun μ _ => rb (f_X10_copyRow (p1 + 2) 40 (p0 + 2) 40 μ) fun μ _ => rb (f_X10_copyRow (p1 + 3) 40 (p0 + 3) 40 μ) fun μ _ => rdF μ p1 3 fun x1 => wrF μ p0 3 x1 fun μ => some (μ, 0, 0)
set_option maxRecDepth 100000 in
theorem c_X0_copyFrom (X : kX) (p0 : Nat) (p1 : Nat) (h0 : Lay p0 (ksX0 p0)) (h1 : Lay p1 (ksX0 p1)) (μ : Mu) : Cq X mX0_copyFrom 1 0 μ [.ref (X.1 + p0), .ref (X.1 + p1)] (f_X0_copyFrom p0 p1 μ) := by
  intro res h
  refine ct_of (by decide +kernel) rfl (Nat.le_of_ble_eq_true rfl) ?_
  show KK X mX0_copyFrom 1 0 res 0 [(0, .ref (X.1 + p0)), (1, .ref (X.1 + p1))] [] μ
  unfold f_X0_copyFrom at h
  refine K_aload_n (md := mX0_copyFrom) (pc := 0) 1 (kTab_at (pc := 0) tX0_copyFrom_ok 0 rfl) rfl ?_
  refine K_getR (md := mX0_copyFrom) (pc := 1) (b := (p1 + 1)) (kTab_at (pc := 1) tX0_copyFrom_ok 1 rfl) fl_X0_9 (lay_0 h1 rfl) rfl rfl ?_
  refine K_aload_n (md := mX0_copyFrom) (pc := 4) 0 (kTab_at (pc := 4) tX0_copyFrom_ok 2 rfl) rfl ?_
  refine K_getR (md := mX0_copyFrom) (pc := 5) (b := (p0 + 1)) (kTab_at (pc := 5) tX0_copyFrom_ok 3 rfl) fl_X0_9 (lay_0 h0 rfl) rfl rfl ?_
  refine Z_callSN (md := mX0_copyFrom) (pc := 8) (st := []) (sv := (fun _ => [])) (kTab_at (pc := 8) tX0_copyFrom_ok 4 rfl) mn_X0_21 rfl (Nat.le_of_ble_eq_true rfl) (by decide) (c_X10_copyRow X (p1 + 1) 40 (p0 + 1) 40 (lay_at h1 1 rfl) (by decide) (lay_at h0 1 rfl) (by decide) μ) (n_X10_copyRow (p1 + 1) 40 (p0 + 1) 40 μ) (fun _ => rfl) h (fun μ _ h => ?_) rfl
  refine K_aload_n (md := mX0_copyFrom) (pc := 11) 1 (kTab_at (pc := 11) tX0_copyFrom_ok 5 rfl) rfl ?_
  refine K_getR (md := mX0_copyFrom) (pc := 12) (b := (p1 + 2)) (kTab_at (pc := 12) tX0_copyFrom_ok 6 rfl) fl_X0_15 (lay_0 h1 rfl) rfl rfl ?_
  refine K_aload_n (md := mX0_copyFrom) (pc := 15) 0 (kTab_at (pc := 15) tX0_copyFrom_ok 7 rfl) rfl ?_
  refine K_getR (md := mX0_copyFrom) (pc := 16) (b := (p0 + 2)) (kTab_at (pc := 16) tX0_copyFrom_ok 8 rfl) fl_X0_15 (lay_0 h0 rfl) rfl rfl ?_
  refine Z_callSN (md := mX0_copyFrom) (pc := 19) (st := []) (sv := (fun _ => [])) (kTab_at (pc := 19) tX0_copyFrom_ok 9 rfl) mn_X0_21 rfl (Nat.le_of_ble_eq_true rfl) (by decide) (c_X10_copyRow X (p1 + 2) 40 (p0 + 2) 40 (lay_at h1 2 rfl) (by decide) (lay_at h0 2 rfl) (by decide) μ) (n_X10_copyRow (p1 + 2) 40 (p0 + 2) 40 μ) (fun _ => rfl) h (fun μ _ h => ?_) rfl
  refine K_aload_n (md := mX0_copyFrom) (pc := 22) 1 (kTab_at (pc := 22) tX0_copyFrom_ok 10 rfl) rfl ?_
  refine K_getR (md := mX0_copyFrom) (pc := 23) (b := (p1 + 3)) (kTab_at (pc := 23) tX0_copyFrom_ok 11 rfl) fl_X0_18 (lay_0 h1 rfl) rfl rfl ?_
  refine K_aload_n (md := mX0_copyFrom) (pc := 26) 0 (kTab_at (pc := 26) tX0_copyFrom_ok 12 rfl) rfl ?_
  refine K_getR (md := mX0_copyFrom) (pc := 27) (b := (p0 + 3)) (kTab_at (pc := 27) tX0_copyFrom_ok 13 rfl) fl_X0_18 (lay_0 h0 rfl) rfl rfl ?_
  refine Z_callSN (md := mX0_copyFrom) (pc := 30) (st := []) (sv := (fun _ => [])) (kTab_at (pc := 30) tX0_copyFrom_ok 14 rfl) mn_X0_21 rfl (Nat.le_of_ble_eq_true rfl) (by decide) (c_X10_copyRow X (p1 + 3) 40 (p0 + 3) 40 (lay_at h1 3 rfl) (by decide) (lay_at h0 3 rfl) (by decide) μ) (n_X10_copyRow (p1 + 3) 40 (p0 + 3) 40 μ) (fun _ => rfl) h (fun μ _ h => ?_) rfl
  refine K_aload_n (md := mX0_copyFrom) (pc := 33) 0 (kTab_at (pc := 33) tX0_copyFrom_ok 15 rfl) rfl ?_
  refine K_aload_n (md := mX0_copyFrom) (pc := 34) 1 (kTab_at (pc := 34) tX0_copyFrom_ok 16 rfl) rfl ?_
  refine Z_getI (md := mX0_copyFrom) (pc := 35) (kTab_at (pc := 35) tX0_copyFrom_ok 17 rfl) fl_X0_25 (lay_0 h1 rfl) (Or.inl rfl) h (fun x1 h => ?_)
  refine Z_putI (md := mX0_copyFrom) (pc := 38) (kTab_at (pc := 38) tX0_copyFrom_ok 18 rfl) fl_X0_25 (lay_0 h0 rfl) rfl h (fun μ h => ?_)
  exact Z_vret (md := mX0_copyFrom) (pc := 41) (kTab_at (pc := 41) tX0_copyFrom_ok 19 rfl) rfl rfl h
def f_X0_inState_50 (p0 : Nat) (p1 : Int) (p2 : Int) (p3 : Int)  (v4 : Int) (μ : Mu) : Option Res := some (μ, 0, v4)
set_option maxRecDepth 100000 in
theorem c_X0_inState_50 (X : kX) (p0 : Nat) (p1 : Int) (p2 : Int) (p3 : Int) (h0 : Lay p0 (ksX0 p0)) {res : Res}  (v4 : Int) (μ : Mu) (h : f_X0_inState_50 p0 p1 p2 p3 v4 μ = some res) : KK X mX0_inState 0 1 res 50 [(4, .int (iI v4))] [] μ := by
  unfold f_X0_inState_50 at h
  refine K_iload (md := mX0_inState) (pc := 50) 0 (kTab_at (pc := 50) tX0_inState_ok 26 rfl) rfl ?_
  exact Z_iret (md := mX0_inState) (pc := 52) (kTab_at (pc := 52) tX0_inState_ok 27 rfl) rfl rfl rfl h
def f_X0_inState_41 (p0 : Nat) (p1 : Int) (p2 : Int) (p3 : Int) (k10 : Int → Int → Mu → Option Res) (v5 : Int) (s0 : Int) (s1 : Int) (μ : Mu) : Option Res := bnd (s0 + s1) fun x1 => k10 x1 (v5 + 1) μ
set_option maxRecDepth 100000 in
theorem c_X0_inState_41 (X : kX) (p0 : Nat) (p1 : Int) (p2 : Int) (p3 : Int) (h0 : Lay p0 (ksX0 p0)) {res : Res} (k10 : Int → Int → Mu → Option Res) (hk10 : ∀ (v4 : Int), ∀ (v5 : Int), ∀ (μ : Mu), k10 v4 v5 μ = some res → KK X mX0_inState 0 1 res 10 [(0, .ref (X.1 + p0)), (1, .int (iI p1)), (3, .int (iI p3)), (4, .int (iI v4)), (5, .int (iI v5))] [] μ) (v5 : Int) (s0 : Int) (s1 : Int) (μ : Mu) (h : f_X0_inState_41 p0 p1 p2 p3 k10 v5 s0 s1 μ = some res) : KK X mX0_inState 0 1 res 41 [(0, .ref (X.1 + p0)), (1, .int (iI p1)), (3, .int (iI p3)), (5, .int (iI v5))] [.int (iI s1), .int (iI s0)] μ := by
  unfold f_X0_inState_41 at h
  refine K_iadd (md := mX0_inState) (pc := 41) (kTab_at (pc := 41) tX0_inState_ok 22 rfl) ?_
  refine Z_bnd (md := mX0_inState) (pc := 42) h (fun x1 h => ?_)
  refine K_istore (md := mX0_inState) (pc := 42) (l' := [(4, .int (iI x1)), (0, .ref (X.1 + p0)), (1, .int (iI p1)), (3, .int (iI p3)), (5, .int (iI v5))]) (kTab_at (pc := 42) tX0_inState_ok 23 rfl) (Nat.le_of_ble_eq_true rfl) rfl ?_
  refine K_iinc (md := mX0_inState) (pc := 44) (l' := [(5, .int (iI (v5 + 1))), (4, .int (iI x1)), (0, .ref (X.1 + p0)), (1, .int (iI p1)), (3, .int (iI p3))]) 4 (kTab_at (pc := 44) tX0_inState_ok 24 rfl) rfl (Nat.le_of_ble_eq_true rfl) rfl ?_
  refine K_goto (md := mX0_inState) (pc := 47) (tgt := 10) (kTab_at (pc := 47) tX0_inState_ok 25 rfl) rfl ?_
  refine K_sub [2, 3, 4, 1, 0] rfl ?_
  exact hk10 x1 (v5 + 1) μ h
def f_X0_inState_10 (p0 : Nat) (p1 : Int) (p2 : Int) (p3 : Int) (k50 : Int → Mu → Option Res) : Nat → Int → Int → Mu → Option Res
  | 0, _, _, _ => none
  | fu + 1, v4, v5, μ => i_lt v5 p3 (i_lt v5 40 (rdI μ (p0 + 1) 40 v5 fun x1 => i_eq x1 p1 (f_X0_inState_41 p0 p1 p2 p3 (f_X0_inState_10 p0 p1 p2 p3 k50 fu) v5 v4 1 μ) (f_X0_inState_41 p0 p1 p2 p3 (f_X0_inState_10 p0 p1 p2 p3 k50 fu) v5 v4 0 μ)) (k50 v4 μ)) (k50 v4 μ)
set_option maxRecDepth 100000 in
theorem c_X0_inState_10 (X : kX) (p0 : Nat) (p1 : Int) (p2 : Int) (p3 : Int) (h0 : Lay p0 (ksX0 p0)) {res : Res} (k50 : Int → Mu → Option Res) (hk50 : ∀ (v4 : Int), ∀ (μ : Mu), k50 v4 μ = some res → KK X mX0_inState 0 1 res 50 [(4, .int (iI v4))] [] μ) : ∀ (fu : Nat)  (v4 : Int) (v5 : Int) (μ : Mu), f_X0_inState_10 p0 p1 p2 p3 k50 fu v4 v5 μ = some res → KK X mX0_inState 0 1 res 10 [(0, .ref (X.1 + p0)), (1, .int (iI p1)), (3, .int (iI p3)), (4, .int (iI v4)), (5, .int (iI v5))] [] μ := by
  intro fu
  induction fu with
  | zero => intro v4 v5 μ h; exact nomatch h
  | succ fu ih =>
    intro v4 v5 μ h
    refine K_iload (md := mX0_inState) (pc := 10) 4 (kTab_at (pc := 10) tX0_inState_ok 6 rfl) rfl ?_
    refine K_iload_n (md := mX0_inState) (pc := 12) 2 (kTab_at (pc := 12) tX0_inState_ok 7 rfl) rfl ?_
    refine K_icmp_ge (md := mX0_inState) (pc := 13) (kTab_at (pc := 13) tX0_inState_ok 8 rfl) (tgt := 50) rfl h (fun h => ?_) (fun h => ?_)
    · refine K_sub [3] rfl ?_
      exact hk50 v4 μ h
    · refine K_iload (md := mX0_inState) (pc := 16) 4 (kTab_at (pc := 16) tX0_inState_ok 9 rfl) rfl ?_
      refine K_bipush (md := mX0_inState) (pc := 18) (x := 40) (kTab_at (pc := 18) tX0_inState_ok 10 rfl) (by decide) ?_
      refine K_icmp_ge (md := mX0_inState) (pc := 20) (kTab_at (pc := 20) tX0_inState_ok 11 rfl) (tgt := 50) rfl h (fun h => ?_) (fun h => ?_)
      · refine K_sub [3] rfl ?_
        exact hk50 v4 μ h
      · refine K_iload (md := mX0_inState) (pc := 23) 3 (kTab_at (pc := 23) tX0_inState_ok 12 rfl) rfl ?_
        refine K_aload_n (md := mX0_inState) (pc := 25) 0 (kTab_at (pc := 25) tX0_inState_ok 13 rfl) rfl ?_
        refine K_getR (md := mX0_inState) (pc := 26) (b := (p0 + 1)) (kTab_at (pc := 26) tX0_inState_ok 14 rfl) fl_X0_9 (lay_0 h0 rfl) rfl rfl ?_
        refine K_iload (md := mX0_inState) (pc := 29) 4 (kTab_at (pc := 29) tX0_inState_ok 15 rfl) rfl ?_
        refine Z_iald (md := mX0_inState) (pc := 31) (kTab_at (pc := 31) tX0_inState_ok 16 rfl) (lay_at h0 1 rfl) (by decide) h (fun x1 h => ?_)
        refine K_iload_n (md := mX0_inState) (pc := 32) 1 (kTab_at (pc := 32) tX0_inState_ok 17 rfl) rfl ?_
        refine K_icmp_ne (md := mX0_inState) (pc := 33) (kTab_at (pc := 33) tX0_inState_ok 18 rfl) (tgt := 40) rfl h (fun h => ?_) (fun h => ?_)
        · refine K_iconst (md := mX0_inState) (pc := 40) (x := 0) (kTab_at (pc := 40) tX0_inState_ok 21 rfl) rfl ?_
          refine K_sub [0, 1, 2, 4] rfl ?_
          refine c_X0_inState_41 X p0 p1 p2 p3 h0 _ ih v5 v4 0 μ h
        · refine K_iconst (md := mX0_inState) (pc := 36) (x := 1) (kTab_at (pc := 36) tX0_inState_ok 19 rfl) rfl ?_
          refine K_goto (md := mX0_inState) (pc := 37) (tgt := 41) (kTab_at (pc := 37) tX0_inState_ok 20 rfl) rfl ?_
          refine K_sub [0, 1, 2, 4] rfl ?_
          refine c_X0_inState_41 X p0 p1 p2 p3 h0 _ ih v5 v4 1 μ h
def f_X0_inState (p0 : Nat) (p1 : Int) (p2 : Int) (p3 : Int) (μ : Mu) : Option Res := i_max 0 p2 fun x1 => f_X0_inState_10 p0 p1 p2 p3 (fun v4 μ => f_X0_inState_50 p0 p1 p2 p3 v4 μ) FU 0 x1 μ
set_option maxRecDepth 100000 in
theorem c_X0_inState (X : kX) (p0 : Nat) (p1 : Int) (p2 : Int) (p3 : Int) (h0 : Lay p0 (ksX0 p0)) (μ : Mu) : Cq X mX0_inState 0 1 μ [.ref (X.1 + p0), .int (iI p1), .int (iI p2), .int (iI p3)] (f_X0_inState p0 p1 p2 p3 μ) := by
  intro res h
  refine ct_of (by decide +kernel) rfl (Nat.le_of_ble_eq_true rfl) ?_
  show KK X mX0_inState 0 1 res 0 [(0, .ref (X.1 + p0)), (1, .int (iI p1)), (2, .int (iI p2)), (3, .int (iI p3))] [] μ
  unfold f_X0_inState at h
  refine K_iconst (md := mX0_inState) (pc := 0) (x := 0) (kTab_at (pc := 0) tX0_inState_ok 0 rfl) rfl ?_
  refine K_istore (md := mX0_inState) (pc := 1) (l' := [(4, .int (iI 0)), (0, .ref (X.1 + p0)), (1, .int (iI p1)), (2, .int (iI p2)), (3, .int (iI p3))]) (kTab_at (pc := 1) tX0_inState_ok 1 rfl) (Nat.le_of_ble_eq_true rfl) rfl ?_
  refine K_iconst (md := mX0_inState) (pc := 3) (x := 0) (kTab_at (pc := 3) tX0_inState_ok 2 rfl) rfl ?_
  refine K_iload_n (md := mX0_inState) (pc := 4) 3 (kTab_at (pc := 4) tX0_inState_ok 3 rfl) rfl ?_
  refine Z_mmax (md := mX0_inState) (pc := 5) (kTab_at (pc := 5) tX0_inState_ok 4 rfl) (inT5 162 (by decide +kernel) rfl) (inT3 81 (by decide +kernel) rfl) (inT1 22 (by decide +kernel) rfl) (inT3 82 (by decide +kernel) rfl) (Nat.le_of_ble_eq_true rfl) h (fun x1 h => ?_)
  refine K_istore (md := mX0_inState) (pc := 8) (l' := [(5, .int (iI x1)), (4, .int (iI 0)), (0, .ref (X.1 + p0)), (1, .int (iI p1)), (2, .int (iI p2)), (3, .int (iI p3))]) (kTab_at (pc := 8) tX0_inState_ok 5 rfl) (Nat.le_of_ble_eq_true rfl) rfl ?_
  refine K_sub [2, 3, 5, 1, 0] rfl ?_
  refine c_X0_inState_10 X p0 p1 p2 p3 h0 _ ?_ _ 0 x1 μ h
  · intro v4 μ h
    refine c_X0_inState_50 X p0 p1 p2 p3 h0  v4 μ h
def f_X0_made (p0 : Nat) (μ : Mu) : Option Res := rb (f_X0_inState p0 0 0 40 μ) fun μ x1 => some (μ, 0, (40 - x1))
set_option maxRecDepth 100000 in
theorem c_X0_made (X : kX) (p0 : Nat) (h0 : Lay p0 (ksX0 p0)) (μ : Mu) : Cq X mX0_made 1 1 μ [.ref (X.1 + p0)] (f_X0_made p0 μ) := by
  intro res h
  refine ct_of (by decide +kernel) rfl (Nat.le_of_ble_eq_true rfl) ?_
  show KK X mX0_made 1 1 res 0 [(0, .ref (X.1 + p0))] [] μ
  unfold f_X0_made at h
  refine K_bipush (md := mX0_made) (pc := 0) (x := 40) (kTab_at (pc := 0) tX0_made_ok 0 rfl) (by decide) ?_
  refine K_aload_n (md := mX0_made) (pc := 2) 0 (kTab_at (pc := 2) tX0_made_ok 1 rfl) rfl ?_
  refine K_iconst (md := mX0_made) (pc := 3) (x := 0) (kTab_at (pc := 3) tX0_made_ok 2 rfl) rfl ?_
  refine K_iconst (md := mX0_made) (pc := 4) (x := 0) (kTab_at (pc := 4) tX0_made_ok 3 rfl) rfl ?_
  refine K_bipush (md := mX0_made) (pc := 5) (x := 40) (kTab_at (pc := 5) tX0_made_ok 4 rfl) (by decide) ?_
  refine Z_callV (md := mX0_made) (pc := 7) (st := [.int (iI 40)]) (sv := (fun x1 => [.int (iI x1), .int (iI 40)])) (kTab_at (pc := 7) tX0_made_ok 5 rfl) mv_X0_35 (lay_0 h0 rfl) rfl (Nat.le_of_ble_eq_true rfl) (by decide) rfl (c_X0_inState X p0 0 0 40 h0 μ) (fun _ => rfl) h (fun μ x1 h => ?_) rfl
  refine K_isub (md := mX0_made) (pc := 10) (kTab_at (pc := 10) tX0_made_ok 6 rfl) ?_
  exact Z_iret (md := mX0_made) (pc := 11) (kTab_at (pc := 11) tX0_made_ok 7 rfl) rfl rfl rfl h
def f_X0_open (p0 : Nat) (p1 : Int) (p2 : Int) (μ : Mu) : Option Res := wrI μ (p0 + 1) 40 p1 1 fun μ => wrI μ (p0 + 2) 40 p1 p2 fun μ => some (μ, 0, 0)
set_option maxRecDepth 100000 in
theorem c_X0_open (X : kX) (p0 : Nat) (p1 : Int) (p2 : Int) (h0 : Lay p0 (ksX0 p0)) (μ : Mu) : Cq X mX0_open 0 0 μ [.ref (X.1 + p0), .int (iI p1), .int (iI p2)] (f_X0_open p0 p1 p2 μ) := by
  intro res h
  refine ct_of (by decide +kernel) rfl (Nat.le_of_ble_eq_true rfl) ?_
  show KK X mX0_open 0 0 res 0 [(0, .ref (X.1 + p0)), (1, .int (iI p1)), (2, .int (iI p2))] [] μ
  unfold f_X0_open at h
  refine K_aload_n (md := mX0_open) (pc := 0) 0 (kTab_at (pc := 0) tX0_open_ok 0 rfl) rfl ?_
  refine K_getR (md := mX0_open) (pc := 1) (b := (p0 + 1)) (kTab_at (pc := 1) tX0_open_ok 1 rfl) fl_X0_9 (lay_0 h0 rfl) rfl rfl ?_
  refine K_iload_n (md := mX0_open) (pc := 4) 1 (kTab_at (pc := 4) tX0_open_ok 2 rfl) rfl ?_
  refine K_iconst (md := mX0_open) (pc := 5) (x := 1) (kTab_at (pc := 5) tX0_open_ok 3 rfl) rfl ?_
  refine Z_iast (md := mX0_open) (pc := 6) (kTab_at (pc := 6) tX0_open_ok 4 rfl) (lay_at h0 1 rfl) (by decide) h (fun μ h => ?_)
  refine K_aload_n (md := mX0_open) (pc := 7) 0 (kTab_at (pc := 7) tX0_open_ok 5 rfl) rfl ?_
  refine K_getR (md := mX0_open) (pc := 8) (b := (p0 + 2)) (kTab_at (pc := 8) tX0_open_ok 6 rfl) fl_X0_15 (lay_0 h0 rfl) rfl rfl ?_
  refine K_iload_n (md := mX0_open) (pc := 11) 1 (kTab_at (pc := 11) tX0_open_ok 7 rfl) rfl ?_
  refine K_iload_n (md := mX0_open) (pc := 12) 2 (kTab_at (pc := 12) tX0_open_ok 8 rfl) rfl ?_
  refine Z_iast (md := mX0_open) (pc := 13) (kTab_at (pc := 13) tX0_open_ok 9 rfl) (lay_at h0 2 rfl) (by decide) h (fun μ h => ?_)
  exact Z_vret (md := mX0_open) (pc := 14) (kTab_at (pc := 14) tX0_open_ok 10 rfl) rfl rfl h
def f_X0_close_14 (p0 : Nat) (p1 : Int) (p2 : Int) (p3 : Int)  (s1 : Int) (s2 : Int) (μ : Mu) : Option Res := wrI μ (p0 + 1) 40 s1 s2 fun μ => wrI μ (p0 + 3) 40 p1 p2 fun μ => some (μ, 0, 0)
set_option maxRecDepth 100000 in
theorem c_X0_close_14 (X : kX) (p0 : Nat) (p1 : Int) (p2 : Int) (p3 : Int) (h0 : Lay p0 (ksX0 p0)) {res : Res}  (s1 : Int) (s2 : Int) (μ : Mu) (h : f_X0_close_14 p0 p1 p2 p3 s1 s2 μ = some res) : KK X mX0_close 0 0 res 14 [(0, .ref (X.1 + p0)), (1, .int (iI p1)), (2, .int (iI p2))] [.int (iI s2), .int (iI s1), .ref (X.1 + (p0 + 1))] μ := by
  unfold f_X0_close_14 at h
  refine Z_iast (md := mX0_close) (pc := 14) (kTab_at (pc := 14) tX0_close_ok 8 rfl) (lay_at h0 1 rfl) (by decide) h (fun μ h => ?_)
  refine K_aload_n (md := mX0_close) (pc := 15) 0 (kTab_at (pc := 15) tX0_close_ok 9 rfl) rfl ?_
  refine K_getR (md := mX0_close) (pc := 16) (b := (p0 + 3)) (kTab_at (pc := 16) tX0_close_ok 10 rfl) fl_X0_18 (lay_0 h0 rfl) rfl rfl ?_
  refine K_iload_n (md := mX0_close) (pc := 19) 1 (kTab_at (pc := 19) tX0_close_ok 11 rfl) rfl ?_
  refine K_iload_n (md := mX0_close) (pc := 20) 2 (kTab_at (pc := 20) tX0_close_ok 12 rfl) rfl ?_
  refine Z_iast (md := mX0_close) (pc := 21) (kTab_at (pc := 21) tX0_close_ok 13 rfl) (lay_at h0 3 rfl) (by decide) h (fun μ h => ?_)
  exact Z_vret (md := mX0_close) (pc := 22) (kTab_at (pc := 22) tX0_close_ok 14 rfl) rfl rfl h
def f_X0_close (p0 : Nat) (p1 : Int) (p2 : Int) (p3 : Int) (μ : Mu) : Option Res := i_eq p3 0 (f_X0_close_14 p0 p1 p2 p3 p1 2 μ) (f_X0_close_14 p0 p1 p2 p3 p1 3 μ)
set_option maxRecDepth 100000 in
theorem c_X0_close (X : kX) (p0 : Nat) (p1 : Int) (p2 : Int) (p3 : Int) (h0 : Lay p0 (ksX0 p0)) (μ : Mu) : Cq X mX0_close 0 0 μ [.ref (X.1 + p0), .int (iI p1), .int (iI p2), .int (iI p3)] (f_X0_close p0 p1 p2 p3 μ) := by
  intro res h
  refine ct_of (by decide +kernel) rfl (Nat.le_of_ble_eq_true rfl) ?_
  show KK X mX0_close 0 0 res 0 [(0, .ref (X.1 + p0)), (1, .int (iI p1)), (2, .int (iI p2)), (3, .int (iI p3))] [] μ
  unfold f_X0_close at h
  refine K_aload_n (md := mX0_close) (pc := 0) 0 (kTab_at (pc := 0) tX0_close_ok 0 rfl) rfl ?_
  refine K_getR (md := mX0_close) (pc := 1) (b := (p0 + 1)) (kTab_at (pc := 1) tX0_close_ok 1 rfl) fl_X0_9 (lay_0 h0 rfl) rfl rfl ?_
  refine K_iload_n (md := mX0_close) (pc := 4) 1 (kTab_at (pc := 4) tX0_close_ok 2 rfl) rfl ?_
  refine K_iload_n (md := mX0_close) (pc := 5) 3 (kTab_at (pc := 5) tX0_close_ok 3 rfl) rfl ?_
  refine K_if_eq (md := mX0_close) (pc := 6) (kTab_at (pc := 6) tX0_close_ok 4 rfl) (tgt := 13) rfl h (fun h => ?_) (fun h => ?_)
  · refine K_iconst (md := mX0_close) (pc := 13) (x := 2) (kTab_at (pc := 13) tX0_close_ok 7 rfl) rfl ?_
    refine K_sub [0, 1, 2] rfl ?_
    refine c_X0_close_14 X p0 p1 p2 p3 h0  p1 2 μ h
  · refine K_iconst (md := mX0_close) (pc := 9) (x := 3) (kTab_at (pc := 9) tX0_close_ok 5 rfl) rfl ?_
    refine K_goto (md := mX0_close) (pc := 10) (tgt := 14) (kTab_at (pc := 10) tX0_close_ok 6 rfl) rfl ?_
    refine K_sub [0, 1, 2] rfl ?_
    refine c_X0_close_14 X p0 p1 p2 p3 h0  p1 3 μ h
def f_X0_refund (p0 : Nat) (p1 : Int) (μ : Mu) : Option Res := rdF μ p0 3 fun x1 => rdI μ (p0 + 2) 40 p1 fun x2 => wrF μ p0 3 (x1 + x2) fun μ => rdI μ (p0 + 2) 40 p1 fun x3 => some (μ, 0, x3)
set_option maxRecDepth 100000 in
theorem c_X0_refund (X : kX) (p0 : Nat) (p1 : Int) (h0 : Lay p0 (ksX0 p0)) (μ : Mu) : Cq X mX0_refund 0 1 μ [.ref (X.1 + p0), .int (iI p1)] (f_X0_refund p0 p1 μ) := by
  intro res h
  refine ct_of (by decide +kernel) rfl (Nat.le_of_ble_eq_true rfl) ?_
  show KK X mX0_refund 0 1 res 0 [(0, .ref (X.1 + p0)), (1, .int (iI p1))] [] μ
  unfold f_X0_refund at h
  refine K_aload_n (md := mX0_refund) (pc := 0) 0 (kTab_at (pc := 0) tX0_refund_ok 0 rfl) rfl ?_
  refine K_dup (md := mX0_refund) (pc := 1) (kTab_at (pc := 1) tX0_refund_ok 1 rfl) rfl ?_
  refine Z_getI (md := mX0_refund) (pc := 2) (kTab_at (pc := 2) tX0_refund_ok 2 rfl) fl_X0_25 (lay_0 h0 rfl) (Or.inl rfl) h (fun x1 h => ?_)
  refine K_aload_n (md := mX0_refund) (pc := 5) 0 (kTab_at (pc := 5) tX0_refund_ok 3 rfl) rfl ?_
  refine K_getR (md := mX0_refund) (pc := 6) (b := (p0 + 2)) (kTab_at (pc := 6) tX0_refund_ok 4 rfl) fl_X0_15 (lay_0 h0 rfl) rfl rfl ?_
  refine K_iload_n (md := mX0_refund) (pc := 9) 1 (kTab_at (pc := 9) tX0_refund_ok 5 rfl) rfl ?_
  refine Z_iald (md := mX0_refund) (pc := 10) (kTab_at (pc := 10) tX0_refund_ok 6 rfl) (lay_at h0 2 rfl) (by decide) h (fun x2 h => ?_)
  refine K_iadd (md := mX0_refund) (pc := 11) (kTab_at (pc := 11) tX0_refund_ok 7 rfl) ?_
  refine Z_putI (md := mX0_refund) (pc := 12) (kTab_at (pc := 12) tX0_refund_ok 8 rfl) fl_X0_25 (lay_0 h0 rfl) rfl h (fun μ h => ?_)
  refine K_aload_n (md := mX0_refund) (pc := 15) 0 (kTab_at (pc := 15) tX0_refund_ok 9 rfl) rfl ?_
  refine K_getR (md := mX0_refund) (pc := 16) (b := (p0 + 2)) (kTab_at (pc := 16) tX0_refund_ok 10 rfl) fl_X0_15 (lay_0 h0 rfl) rfl rfl ?_
  refine K_iload_n (md := mX0_refund) (pc := 19) 1 (kTab_at (pc := 19) tX0_refund_ok 11 rfl) rfl ?_
  refine Z_iald (md := mX0_refund) (pc := 20) (kTab_at (pc := 20) tX0_refund_ok 12 rfl) (lay_at h0 2 rfl) (by decide) h (fun x3 h => ?_)
  exact Z_iret (md := mX0_refund) (pc := 21) (kTab_at (pc := 21) tX0_refund_ok 13 rfl) rfl rfl rfl h
def f_X7_copyFrom (p0 : Nat) (p1 : Nat) (μ : Mu) : Option Res := rb (f_X10_copyRow (p1 + 1) 5 (p0 + 1) 5 μ) fun μ _ => rb (f_X10_copyRow (p1 + 2) 25 (p0 + 2) 25 μ) fun μ _ => rb (f_X10_copyRow (p1 + 3) 100 (p0 + 3) 100 μ) fun μ _ => some (μ, 0, 0)
set_option maxRecDepth 100000 in
theorem c_X7_copyFrom (X : kX) (p0 : Nat) (p1 : Nat) (h0 : Lay p0 (ksX7 p0)) (h1 : Lay p1 (ksX7 p1)) (μ : Mu) : Cq X mX7_copyFrom 1 0 μ [.ref (X.1 + p0), .ref (X.1 + p1)] (f_X7_copyFrom p0 p1 μ) := by
  intro res h
  refine ct_of (by decide +kernel) rfl (Nat.le_of_ble_eq_true rfl) ?_
  show KK X mX7_copyFrom 1 0 res 0 [(0, .ref (X.1 + p0)), (1, .ref (X.1 + p1))] [] μ
  unfold f_X7_copyFrom at h
  refine K_aload_n (md := mX7_copyFrom) (pc := 0) 1 (kTab_at (pc := 0) tX7_copyFrom_ok 0 rfl) rfl ?_
  refine K_getR (md := mX7_copyFrom) (pc := 1) (b := (p1 + 1)) (kTab_at (pc := 1) tX7_copyFrom_ok 1 rfl) fl_X7_9 (lay_0 h1 rfl) rfl rfl ?_
  refine K_aload_n (md := mX7_copyFrom) (pc := 4) 0 (kTab_at (pc := 4) tX7_copyFrom_ok 2 rfl) rfl ?_
  refine K_getR (md := mX7_copyFrom) (pc := 5) (b := (p0 + 1)) (kTab_at (pc := 5) tX7_copyFrom_ok 3 rfl) fl_X7_9 (lay_0 h0 rfl) rfl rfl ?_
  refine Z_callSN (md := mX7_copyFrom) (pc := 8) (st := []) (sv := (fun _ => [])) (kTab_at (pc := 8) tX7_copyFrom_ok 4 rfl) mn_X7_27 rfl (Nat.le_of_ble_eq_true rfl) (by decide) (c_X10_copyRow X (p1 + 1) 5 (p0 + 1) 5 (lay_at h1 1 rfl) (by decide) (lay_at h0 1 rfl) (by decide) μ) (n_X10_copyRow (p1 + 1) 5 (p0 + 1) 5 μ) (fun _ => rfl) h (fun μ _ h => ?_) rfl
  refine K_aload_n (md := mX7_copyFrom) (pc := 11) 1 (kTab_at (pc := 11) tX7_copyFrom_ok 5 rfl) rfl ?_
  refine K_getR (md := mX7_copyFrom) (pc := 12) (b := (p1 + 2)) (kTab_at (pc := 12) tX7_copyFrom_ok 6 rfl) fl_X7_15 (lay_0 h1 rfl) rfl rfl ?_
  refine K_aload_n (md := mX7_copyFrom) (pc := 15) 0 (kTab_at (pc := 15) tX7_copyFrom_ok 7 rfl) rfl ?_
  refine K_getR (md := mX7_copyFrom) (pc := 16) (b := (p0 + 2)) (kTab_at (pc := 16) tX7_copyFrom_ok 8 rfl) fl_X7_15 (lay_0 h0 rfl) rfl rfl ?_
  refine Z_callSN (md := mX7_copyFrom) (pc := 19) (st := []) (sv := (fun _ => [])) (kTab_at (pc := 19) tX7_copyFrom_ok 9 rfl) mn_X7_27 rfl (Nat.le_of_ble_eq_true rfl) (by decide) (c_X10_copyRow X (p1 + 2) 25 (p0 + 2) 25 (lay_at h1 2 rfl) (by decide) (lay_at h0 2 rfl) (by decide) μ) (n_X10_copyRow (p1 + 2) 25 (p0 + 2) 25 μ) (fun _ => rfl) h (fun μ _ h => ?_) rfl
  refine K_aload_n (md := mX7_copyFrom) (pc := 22) 1 (kTab_at (pc := 22) tX7_copyFrom_ok 10 rfl) rfl ?_
  refine K_getR (md := mX7_copyFrom) (pc := 23) (b := (p1 + 3)) (kTab_at (pc := 23) tX7_copyFrom_ok 11 rfl) fl_X7_18 (lay_0 h1 rfl) rfl rfl ?_
  refine K_aload_n (md := mX7_copyFrom) (pc := 26) 0 (kTab_at (pc := 26) tX7_copyFrom_ok 12 rfl) rfl ?_
  refine K_getR (md := mX7_copyFrom) (pc := 27) (b := (p0 + 3)) (kTab_at (pc := 27) tX7_copyFrom_ok 13 rfl) fl_X7_18 (lay_0 h0 rfl) rfl rfl ?_
  refine Z_callSN (md := mX7_copyFrom) (pc := 30) (st := []) (sv := (fun _ => [])) (kTab_at (pc := 30) tX7_copyFrom_ok 14 rfl) mn_X7_27 rfl (Nat.le_of_ble_eq_true rfl) (by decide) (c_X10_copyRow X (p1 + 3) 100 (p0 + 3) 100 (lay_at h1 3 rfl) (by decide) (lay_at h0 3 rfl) (by decide) μ) (n_X10_copyRow (p1 + 3) 100 (p0 + 3) 100 μ) (fun _ => rfl) h (fun μ _ h => ?_) rfl
  exact Z_vret (md := mX7_copyFrom) (pc := 33) (kTab_at (pc := 33) tX7_copyFrom_ok 15 rfl) rfl rfl h
def f_X3_copyFrom (p0 : Nat) (p1 : Nat) (μ : Mu) : Option Res := rb (f_X10_copyRow (p1 + 1) 40 (p0 + 1) 40 μ) fun μ _ => rb (f_X10_copyRow (p1 + 2) 120 (p0 + 2) 120 μ) fun μ _ => rb (f_X10_copyRow (p1 + 3) 120 (p0 + 3) 120 μ) fun μ _ => rb (f_X10_copyRow (p1 + 4) 120 (p0 + 4) 120 μ) fun μ _ => rdF μ p1 4 fun x1 => wrF μ p0 4 x1 fun μ => some (μ, 0, 0)
set_option maxRecDepth 100000 in
theorem c_X3_copyFrom (X : kX) (p0 : Nat) (p1 : Nat) (h0 : Lay p0 (ksX3 p0)) (h1 : Lay p1 (ksX3 p1)) (μ : Mu) : Cq X mX3_copyFrom 1 0 μ [.ref (X.1 + p0), .ref (X.1 + p1)] (f_X3_copyFrom p0 p1 μ) := by
  intro res h
  refine ct_of (by decide +kernel) rfl (Nat.le_of_ble_eq_true rfl) ?_
  show KK X mX3_copyFrom 1 0 res 0 [(0, .ref (X.1 + p0)), (1, .ref (X.1 + p1))] [] μ
  unfold f_X3_copyFrom at h
  refine K_aload_n (md := mX3_copyFrom) (pc := 0) 1 (kTab_at (pc := 0) tX3_copyFrom_ok 0 rfl) rfl ?_
  refine K_getR (md := mX3_copyFrom) (pc := 1) (b := (p1 + 1)) (kTab_at (pc := 1) tX3_copyFrom_ok 1 rfl) fl_X3_9 (lay_0 h1 rfl) rfl rfl ?_
  refine K_aload_n (md := mX3_copyFrom) (pc := 4) 0 (kTab_at (pc := 4) tX3_copyFrom_ok 2 rfl) rfl ?_
  refine K_getR (md := mX3_copyFrom) (pc := 5) (b := (p0 + 1)) (kTab_at (pc := 5) tX3_copyFrom_ok 3 rfl) fl_X3_9 (lay_0 h0 rfl) rfl rfl ?_
  refine Z_callSN (md := mX3_copyFrom) (pc := 8) (st := []) (sv := (fun _ => [])) (kTab_at (pc := 8) tX3_copyFrom_ok 4 rfl) mn_X3_24 rfl (Nat.le_of_ble_eq_true rfl) (by decide) (c_X10_copyRow X (p1 + 1) 40 (p0 + 1) 40 (lay_at h1 1 rfl) (by decide) (lay_at h0 1 rfl) (by decide) μ) (n_X10_copyRow (p1 + 1) 40 (p0 + 1) 40 μ) (fun _ => rfl) h (fun μ _ h => ?_) rfl
  refine K_aload_n (md := mX3_copyFrom) (pc := 11) 1 (kTab_at (pc := 11) tX3_copyFrom_ok 5 rfl) rfl ?_
  refine K_getR (md := mX3_copyFrom) (pc := 12) (b := (p1 + 2)) (kTab_at (pc := 12) tX3_copyFrom_ok 6 rfl) fl_X3_15 (lay_0 h1 rfl) rfl rfl ?_
  refine K_aload_n (md := mX3_copyFrom) (pc := 15) 0 (kTab_at (pc := 15) tX3_copyFrom_ok 7 rfl) rfl ?_
  refine K_getR (md := mX3_copyFrom) (pc := 16) (b := (p0 + 2)) (kTab_at (pc := 16) tX3_copyFrom_ok 8 rfl) fl_X3_15 (lay_0 h0 rfl) rfl rfl ?_
  refine Z_callSN (md := mX3_copyFrom) (pc := 19) (st := []) (sv := (fun _ => [])) (kTab_at (pc := 19) tX3_copyFrom_ok 9 rfl) mn_X3_24 rfl (Nat.le_of_ble_eq_true rfl) (by decide) (c_X10_copyRow X (p1 + 2) 120 (p0 + 2) 120 (lay_at h1 2 rfl) (by decide) (lay_at h0 2 rfl) (by decide) μ) (n_X10_copyRow (p1 + 2) 120 (p0 + 2) 120 μ) (fun _ => rfl) h (fun μ _ h => ?_) rfl
  refine K_aload_n (md := mX3_copyFrom) (pc := 22) 1 (kTab_at (pc := 22) tX3_copyFrom_ok 10 rfl) rfl ?_
  refine K_getR (md := mX3_copyFrom) (pc := 23) (b := (p1 + 3)) (kTab_at (pc := 23) tX3_copyFrom_ok 11 rfl) fl_X3_18 (lay_0 h1 rfl) rfl rfl ?_
  refine K_aload_n (md := mX3_copyFrom) (pc := 26) 0 (kTab_at (pc := 26) tX3_copyFrom_ok 12 rfl) rfl ?_
  refine K_getR (md := mX3_copyFrom) (pc := 27) (b := (p0 + 3)) (kTab_at (pc := 27) tX3_copyFrom_ok 13 rfl) fl_X3_18 (lay_0 h0 rfl) rfl rfl ?_
  refine Z_callSN (md := mX3_copyFrom) (pc := 30) (st := []) (sv := (fun _ => [])) (kTab_at (pc := 30) tX3_copyFrom_ok 14 rfl) mn_X3_24 rfl (Nat.le_of_ble_eq_true rfl) (by decide) (c_X10_copyRow X (p1 + 3) 120 (p0 + 3) 120 (lay_at h1 3 rfl) (by decide) (lay_at h0 3 rfl) (by decide) μ) (n_X10_copyRow (p1 + 3) 120 (p0 + 3) 120 μ) (fun _ => rfl) h (fun μ _ h => ?_) rfl
  refine K_aload_n (md := mX3_copyFrom) (pc := 33) 1 (kTab_at (pc := 33) tX3_copyFrom_ok 15 rfl) rfl ?_
  refine K_getR (md := mX3_copyFrom) (pc := 34) (b := (p1 + 4)) (kTab_at (pc := 34) tX3_copyFrom_ok 16 rfl) fl_X3_21 (lay_0 h1 rfl) rfl rfl ?_
  refine K_aload_n (md := mX3_copyFrom) (pc := 37) 0 (kTab_at (pc := 37) tX3_copyFrom_ok 17 rfl) rfl ?_
  refine K_getR (md := mX3_copyFrom) (pc := 38) (b := (p0 + 4)) (kTab_at (pc := 38) tX3_copyFrom_ok 18 rfl) fl_X3_21 (lay_0 h0 rfl) rfl rfl ?_
  refine Z_callSN (md := mX3_copyFrom) (pc := 41) (st := []) (sv := (fun _ => [])) (kTab_at (pc := 41) tX3_copyFrom_ok 19 rfl) mn_X3_24 rfl (Nat.le_of_ble_eq_true rfl) (by decide) (c_X10_copyRow X (p1 + 4) 120 (p0 + 4) 120 (lay_at h1 4 rfl) (by decide) (lay_at h0 4 rfl) (by decide) μ) (n_X10_copyRow (p1 + 4) 120 (p0 + 4) 120 μ) (fun _ => rfl) h (fun μ _ h => ?_) rfl
  refine K_aload_n (md := mX3_copyFrom) (pc := 44) 0 (kTab_at (pc := 44) tX3_copyFrom_ok 20 rfl) rfl ?_
  refine K_aload_n (md := mX3_copyFrom) (pc := 45) 1 (kTab_at (pc := 45) tX3_copyFrom_ok 21 rfl) rfl ?_
  refine Z_getI (md := mX3_copyFrom) (pc := 46) (kTab_at (pc := 46) tX3_copyFrom_ok 22 rfl) fl_X3_28 (lay_0 h1 rfl) (Or.inl rfl) h (fun x1 h => ?_)
  refine Z_putI (md := mX3_copyFrom) (pc := 49) (kTab_at (pc := 49) tX3_copyFrom_ok 23 rfl) fl_X3_28 (lay_0 h0 rfl) rfl h (fun μ h => ?_)
  exact Z_vret (md := mX3_copyFrom) (pc := 52) (kTab_at (pc := 52) tX3_copyFrom_ok 24 rfl) rfl rfl h
def f_X2_copyFrom (p0 : Nat) (p1 : Nat) (μ : Mu) : Option Res := rb (f_X10_copyRow (p1 + 1) 5 (p0 + 1) 5 μ) fun μ _ => rb (f_X10_copyRow (p1 + 2) 5 (p0 + 2) 5 μ) fun μ _ => rdF μ p1 2 fun x1 => wrF μ p0 2 x1 fun μ => some (μ, 0, 0)
set_option maxRecDepth 100000 in
theorem c_X2_copyFrom (X : kX) (p0 : Nat) (p1 : Nat) (h0 : Lay p0 (ksX2 p0)) (h1 : Lay p1 (ksX2 p1)) (μ : Mu) : Cq X mX2_copyFrom 1 0 μ [.ref (X.1 + p0), .ref (X.1 + p1)] (f_X2_copyFrom p0 p1 μ) := by
  intro res h
  refine ct_of (by decide +kernel) rfl (Nat.le_of_ble_eq_true rfl) ?_
  show KK X mX2_copyFrom 1 0 res 0 [(0, .ref (X.1 + p0)), (1, .ref (X.1 + p1))] [] μ
  unfold f_X2_copyFrom at h
  refine K_aload_n (md := mX2_copyFrom) (pc := 0) 1 (kTab_at (pc := 0) tX2_copyFrom_ok 0 rfl) rfl ?_
  refine K_getR (md := mX2_copyFrom) (pc := 1) (b := (p1 + 1)) (kTab_at (pc := 1) tX2_copyFrom_ok 1 rfl) fl_X2_9 (lay_0 h1 rfl) rfl rfl ?_
  refine K_aload_n (md := mX2_copyFrom) (pc := 4) 0 (kTab_at (pc := 4) tX2_copyFrom_ok 2 rfl) rfl ?_
  refine K_getR (md := mX2_copyFrom) (pc := 5) (b := (p0 + 1)) (kTab_at (pc := 5) tX2_copyFrom_ok 3 rfl) fl_X2_9 (lay_0 h0 rfl) rfl rfl ?_
  refine Z_callSN (md := mX2_copyFrom) (pc := 8) (st := []) (sv := (fun _ => [])) (kTab_at (pc := 8) tX2_copyFrom_ok 4 rfl) mn_X2_18 rfl (Nat.le_of_ble_eq_true rfl) (by decide) (c_X10_copyRow X (p1 + 1) 5 (p0 + 1) 5 (lay_at h1 1 rfl) (by decide) (lay_at h0 1 rfl) (by decide) μ) (n_X10_copyRow (p1 + 1) 5 (p0 + 1) 5 μ) (fun _ => rfl) h (fun μ _ h => ?_) rfl
  refine K_aload_n (md := mX2_copyFrom) (pc := 11) 1 (kTab_at (pc := 11) tX2_copyFrom_ok 5 rfl) rfl ?_
  refine K_getR (md := mX2_copyFrom) (pc := 12) (b := (p1 + 2)) (kTab_at (pc := 12) tX2_copyFrom_ok 6 rfl) fl_X2_15 (lay_0 h1 rfl) rfl rfl ?_
  refine K_aload_n (md := mX2_copyFrom) (pc := 15) 0 (kTab_at (pc := 15) tX2_copyFrom_ok 7 rfl) rfl ?_
  refine K_getR (md := mX2_copyFrom) (pc := 16) (b := (p0 + 2)) (kTab_at (pc := 16) tX2_copyFrom_ok 8 rfl) fl_X2_15 (lay_0 h0 rfl) rfl rfl ?_
  refine Z_callSN (md := mX2_copyFrom) (pc := 19) (st := []) (sv := (fun _ => [])) (kTab_at (pc := 19) tX2_copyFrom_ok 9 rfl) mn_X2_18 rfl (Nat.le_of_ble_eq_true rfl) (by decide) (c_X10_copyRow X (p1 + 2) 5 (p0 + 2) 5 (lay_at h1 2 rfl) (by decide) (lay_at h0 2 rfl) (by decide) μ) (n_X10_copyRow (p1 + 2) 5 (p0 + 2) 5 μ) (fun _ => rfl) h (fun μ _ h => ?_) rfl
  refine K_aload_n (md := mX2_copyFrom) (pc := 22) 0 (kTab_at (pc := 22) tX2_copyFrom_ok 10 rfl) rfl ?_
  refine K_aload_n (md := mX2_copyFrom) (pc := 23) 1 (kTab_at (pc := 23) tX2_copyFrom_ok 11 rfl) rfl ?_
  refine Z_getI (md := mX2_copyFrom) (pc := 24) (kTab_at (pc := 24) tX2_copyFrom_ok 12 rfl) fl_X2_22 (lay_0 h1 rfl) (Or.inl rfl) h (fun x1 h => ?_)
  refine Z_putI (md := mX2_copyFrom) (pc := 27) (kTab_at (pc := 27) tX2_copyFrom_ok 13 rfl) fl_X2_22 (lay_0 h0 rfl) rfl h (fun μ h => ?_)
  exact Z_vret (md := mX2_copyFrom) (pc := 30) (kTab_at (pc := 30) tX2_copyFrom_ok 14 rfl) rfl rfl h
def f_X1_copyFrom (p0 : Nat) (p1 : Nat) (μ : Mu) : Option Res := rb (f_X10_copyRow (p1 + 1) 5 (p0 + 1) 5 μ) fun μ _ => rb (f_X10_copyRow (p1 + 2) 5 (p0 + 2) 5 μ) fun μ _ => rb (f_X10_copyRow (p1 + 3) 4 (p0 + 3) 4 μ) fun μ _ => rb (f_X10_copyRow (p1 + 4) 8 (p0 + 4) 8 μ) fun μ _ => rb (f_X10_copyRow (p1 + 5) 8 (p0 + 5) 8 μ) fun μ _ => rb (f_X10_copyRow (p1 + 6) 4 (p0 + 6) 4 μ) fun μ _ => rb (f_X7_copyFrom (p0 + 7) (p1 + 7) μ) fun μ _ => rb (f_X3_copyFrom (p0 + 11) (p1 + 11) μ) fun μ _ => rb (f_X2_copyFrom (p0 + 16) (p1 + 16) μ) fun μ _ => rb (f_X0_copyFrom (p0 + 19) (p1 + 19) μ) fun μ _ => rdF μ p1 10 fun x1 => wrZ μ p0 10 x1 fun μ => some (μ, 0, 0)
set_option maxRecDepth 100000 in
theorem c_X1_copyFrom (X : kX) (p0 : Nat) (p1 : Nat) (h0 : Lay p0 (ksX1 p0)) (h1 : Lay p1 (ksX1 p1)) (μ : Mu) : Cq X mX1_copyFrom 2 0 μ [.ref (X.1 + p0), .ref (X.1 + p1)] (f_X1_copyFrom p0 p1 μ) := by
  intro res h
  refine ct_of (by decide +kernel) rfl (Nat.le_of_ble_eq_true rfl) ?_
  show KK X mX1_copyFrom 2 0 res 0 [(0, .ref (X.1 + p0)), (1, .ref (X.1 + p1))] [] μ
  unfold f_X1_copyFrom at h
  refine K_aload_n (md := mX1_copyFrom) (pc := 0) 1 (kTab_at (pc := 0) tX1_copyFrom_ok 0 rfl) rfl ?_
  refine K_getR (md := mX1_copyFrom) (pc := 1) (b := (p1 + 1)) (kTab_at (pc := 1) tX1_copyFrom_ok 1 rfl) fl_X1_9 (lay_0 h1 rfl) rfl rfl ?_
  refine K_aload_n (md := mX1_copyFrom) (pc := 4) 0 (kTab_at (pc := 4) tX1_copyFrom_ok 2 rfl) rfl ?_
  refine K_getR (md := mX1_copyFrom) (pc := 5) (b := (p0 + 1)) (kTab_at (pc := 5) tX1_copyFrom_ok 3 rfl) fl_X1_9 (lay_0 h0 rfl) rfl rfl ?_
  refine Z_callSN (md := mX1_copyFrom) (pc := 8) (st := []) (sv := (fun _ => [])) (kTab_at (pc := 8) tX1_copyFrom_ok 4 rfl) mn_X1_67 rfl (Nat.le_of_ble_eq_true rfl) (by decide) (c_X10_copyRow X (p1 + 1) 5 (p0 + 1) 5 (lay_at h1 1 rfl) (by decide) (lay_at h0 1 rfl) (by decide) μ) (n_X10_copyRow (p1 + 1) 5 (p0 + 1) 5 μ) (fun _ => rfl) h (fun μ _ h => ?_) rfl
  refine K_aload_n (md := mX1_copyFrom) (pc := 11) 1 (kTab_at (pc := 11) tX1_copyFrom_ok 5 rfl) rfl ?_
  refine K_getR (md := mX1_copyFrom) (pc := 12) (b := (p1 + 2)) (kTab_at (pc := 12) tX1_copyFrom_ok 6 rfl) fl_X1_15 (lay_0 h1 rfl) rfl rfl ?_
  refine K_aload_n (md := mX1_copyFrom) (pc := 15) 0 (kTab_at (pc := 15) tX1_copyFrom_ok 7 rfl) rfl ?_
  refine K_getR (md := mX1_copyFrom) (pc := 16) (b := (p0 + 2)) (kTab_at (pc := 16) tX1_copyFrom_ok 8 rfl) fl_X1_15 (lay_0 h0 rfl) rfl rfl ?_
  refine Z_callSN (md := mX1_copyFrom) (pc := 19) (st := []) (sv := (fun _ => [])) (kTab_at (pc := 19) tX1_copyFrom_ok 9 rfl) mn_X1_67 rfl (Nat.le_of_ble_eq_true rfl) (by decide) (c_X10_copyRow X (p1 + 2) 5 (p0 + 2) 5 (lay_at h1 2 rfl) (by decide) (lay_at h0 2 rfl) (by decide) μ) (n_X10_copyRow (p1 + 2) 5 (p0 + 2) 5 μ) (fun _ => rfl) h (fun μ _ h => ?_) rfl
  refine K_aload_n (md := mX1_copyFrom) (pc := 22) 1 (kTab_at (pc := 22) tX1_copyFrom_ok 10 rfl) rfl ?_
  refine K_getR (md := mX1_copyFrom) (pc := 23) (b := (p1 + 3)) (kTab_at (pc := 23) tX1_copyFrom_ok 11 rfl) fl_X1_18 (lay_0 h1 rfl) rfl rfl ?_
  refine K_aload_n (md := mX1_copyFrom) (pc := 26) 0 (kTab_at (pc := 26) tX1_copyFrom_ok 12 rfl) rfl ?_
  refine K_getR (md := mX1_copyFrom) (pc := 27) (b := (p0 + 3)) (kTab_at (pc := 27) tX1_copyFrom_ok 13 rfl) fl_X1_18 (lay_0 h0 rfl) rfl rfl ?_
  refine Z_callSN (md := mX1_copyFrom) (pc := 30) (st := []) (sv := (fun _ => [])) (kTab_at (pc := 30) tX1_copyFrom_ok 14 rfl) mn_X1_67 rfl (Nat.le_of_ble_eq_true rfl) (by decide) (c_X10_copyRow X (p1 + 3) 4 (p0 + 3) 4 (lay_at h1 3 rfl) (by decide) (lay_at h0 3 rfl) (by decide) μ) (n_X10_copyRow (p1 + 3) 4 (p0 + 3) 4 μ) (fun _ => rfl) h (fun μ _ h => ?_) rfl
  refine K_aload_n (md := mX1_copyFrom) (pc := 33) 1 (kTab_at (pc := 33) tX1_copyFrom_ok 15 rfl) rfl ?_
  refine K_getR (md := mX1_copyFrom) (pc := 34) (b := (p1 + 4)) (kTab_at (pc := 34) tX1_copyFrom_ok 16 rfl) fl_X1_21 (lay_0 h1 rfl) rfl rfl ?_
  refine K_aload_n (md := mX1_copyFrom) (pc := 37) 0 (kTab_at (pc := 37) tX1_copyFrom_ok 17 rfl) rfl ?_
  refine K_getR (md := mX1_copyFrom) (pc := 38) (b := (p0 + 4)) (kTab_at (pc := 38) tX1_copyFrom_ok 18 rfl) fl_X1_21 (lay_0 h0 rfl) rfl rfl ?_
  refine Z_callSN (md := mX1_copyFrom) (pc := 41) (st := []) (sv := (fun _ => [])) (kTab_at (pc := 41) tX1_copyFrom_ok 19 rfl) mn_X1_67 rfl (Nat.le_of_ble_eq_true rfl) (by decide) (c_X10_copyRow X (p1 + 4) 8 (p0 + 4) 8 (lay_at h1 4 rfl) (by decide) (lay_at h0 4 rfl) (by decide) μ) (n_X10_copyRow (p1 + 4) 8 (p0 + 4) 8 μ) (fun _ => rfl) h (fun μ _ h => ?_) rfl
  refine K_aload_n (md := mX1_copyFrom) (pc := 44) 1 (kTab_at (pc := 44) tX1_copyFrom_ok 20 rfl) rfl ?_
  refine K_getR (md := mX1_copyFrom) (pc := 45) (b := (p1 + 5)) (kTab_at (pc := 45) tX1_copyFrom_ok 21 rfl) fl_X1_24 (lay_0 h1 rfl) rfl rfl ?_
  refine K_aload_n (md := mX1_copyFrom) (pc := 48) 0 (kTab_at (pc := 48) tX1_copyFrom_ok 22 rfl) rfl ?_
  refine K_getR (md := mX1_copyFrom) (pc := 49) (b := (p0 + 5)) (kTab_at (pc := 49) tX1_copyFrom_ok 23 rfl) fl_X1_24 (lay_0 h0 rfl) rfl rfl ?_
  refine Z_callSN (md := mX1_copyFrom) (pc := 52) (st := []) (sv := (fun _ => [])) (kTab_at (pc := 52) tX1_copyFrom_ok 24 rfl) mn_X1_67 rfl (Nat.le_of_ble_eq_true rfl) (by decide) (c_X10_copyRow X (p1 + 5) 8 (p0 + 5) 8 (lay_at h1 5 rfl) (by decide) (lay_at h0 5 rfl) (by decide) μ) (n_X10_copyRow (p1 + 5) 8 (p0 + 5) 8 μ) (fun _ => rfl) h (fun μ _ h => ?_) rfl
  refine K_aload_n (md := mX1_copyFrom) (pc := 55) 1 (kTab_at (pc := 55) tX1_copyFrom_ok 25 rfl) rfl ?_
  refine K_getR (md := mX1_copyFrom) (pc := 56) (b := (p1 + 6)) (kTab_at (pc := 56) tX1_copyFrom_ok 26 rfl) fl_X1_27 (lay_0 h1 rfl) rfl rfl ?_
  refine K_aload_n (md := mX1_copyFrom) (pc := 59) 0 (kTab_at (pc := 59) tX1_copyFrom_ok 27 rfl) rfl ?_
  refine K_getR (md := mX1_copyFrom) (pc := 60) (b := (p0 + 6)) (kTab_at (pc := 60) tX1_copyFrom_ok 28 rfl) fl_X1_27 (lay_0 h0 rfl) rfl rfl ?_
  refine Z_callSN (md := mX1_copyFrom) (pc := 63) (st := []) (sv := (fun _ => [])) (kTab_at (pc := 63) tX1_copyFrom_ok 29 rfl) mn_X1_67 rfl (Nat.le_of_ble_eq_true rfl) (by decide) (c_X10_copyRow X (p1 + 6) 4 (p0 + 6) 4 (lay_at h1 6 rfl) (by decide) (lay_at h0 6 rfl) (by decide) μ) (n_X10_copyRow (p1 + 6) 4 (p0 + 6) 4 μ) (fun _ => rfl) h (fun μ _ h => ?_) rfl
  refine K_aload_n (md := mX1_copyFrom) (pc := 66) 0 (kTab_at (pc := 66) tX1_copyFrom_ok 30 rfl) rfl ?_
  refine K_getR (md := mX1_copyFrom) (pc := 67) (b := (p0 + 7)) (kTab_at (pc := 67) tX1_copyFrom_ok 31 rfl) fl_X1_33 (lay_0 h0 rfl) rfl rfl ?_
  refine K_aload_n (md := mX1_copyFrom) (pc := 70) 1 (kTab_at (pc := 70) tX1_copyFrom_ok 32 rfl) rfl ?_
  refine K_getR (md := mX1_copyFrom) (pc := 71) (b := (p1 + 7)) (kTab_at (pc := 71) tX1_copyFrom_ok 33 rfl) fl_X1_33 (lay_0 h1 rfl) rfl rfl ?_
  refine Z_callV (md := mX1_copyFrom) (pc := 74) (st := []) (sv := (fun _ => [])) (kTab_at (pc := 74) tX1_copyFrom_ok 34 rfl) mv_X1_71 (lay_0 (lay_seeds h0) rfl) rfl (Nat.le_of_ble_eq_true rfl) (by decide) rfl (c_X7_copyFrom X (p0 + 7) (p1 + 7) (lay_seeds h0) (lay_seeds h1) μ) (fun _ => rfl) h (fun μ _ h => ?_) rfl
  refine K_aload_n (md := mX1_copyFrom) (pc := 77) 0 (kTab_at (pc := 77) tX1_copyFrom_ok 35 rfl) rfl ?_
  refine K_getR (md := mX1_copyFrom) (pc := 78) (b := (p0 + 11)) (kTab_at (pc := 78) tX1_copyFrom_ok 36 rfl) fl_X1_40 (lay_0 h0 rfl) rfl rfl ?_
  refine K_aload_n (md := mX1_copyFrom) (pc := 81) 1 (kTab_at (pc := 81) tX1_copyFrom_ok 37 rfl) rfl ?_
  refine K_getR (md := mX1_copyFrom) (pc := 82) (b := (p1 + 11)) (kTab_at (pc := 82) tX1_copyFrom_ok 38 rfl) fl_X1_40 (lay_0 h1 rfl) rfl rfl ?_
  refine Z_callV (md := mX1_copyFrom) (pc := 85) (st := []) (sv := (fun _ => [])) (kTab_at (pc := 85) tX1_copyFrom_ok 39 rfl) mv_X1_75 (lay_0 (lay_entries h0) rfl) rfl (Nat.le_of_ble_eq_true rfl) (by decide) rfl (c_X3_copyFrom X (p0 + 11) (p1 + 11) (lay_entries h0) (lay_entries h1) μ) (fun _ => rfl) h (fun μ _ h => ?_) rfl
  refine K_aload_n (md := mX1_copyFrom) (pc := 88) 0 (kTab_at (pc := 88) tX1_copyFrom_ok 40 rfl) rfl ?_
  refine K_getR (md := mX1_copyFrom) (pc := 89) (b := (p0 + 16)) (kTab_at (pc := 89) tX1_copyFrom_ok 41 rfl) fl_X1_47 (lay_0 h0 rfl) rfl rfl ?_
  refine K_aload_n (md := mX1_copyFrom) (pc := 92) 1 (kTab_at (pc := 92) tX1_copyFrom_ok 42 rfl) rfl ?_
  refine K_getR (md := mX1_copyFrom) (pc := 93) (b := (p1 + 16)) (kTab_at (pc := 93) tX1_copyFrom_ok 43 rfl) fl_X1_47 (lay_0 h1 rfl) rfl rfl ?_
  refine Z_callV (md := mX1_copyFrom) (pc := 96) (st := []) (sv := (fun _ => [])) (kTab_at (pc := 96) tX1_copyFrom_ok 44 rfl) mv_X1_78 (lay_0 (lay_curve h0) rfl) rfl (Nat.le_of_ble_eq_true rfl) (by decide) rfl (c_X2_copyFrom X (p0 + 16) (p1 + 16) (lay_curve h0) (lay_curve h1) μ) (fun _ => rfl) h (fun μ _ h => ?_) rfl
  refine K_aload_n (md := mX1_copyFrom) (pc := 99) 0 (kTab_at (pc := 99) tX1_copyFrom_ok 45 rfl) rfl ?_
  refine K_getR (md := mX1_copyFrom) (pc := 100) (b := (p0 + 19)) (kTab_at (pc := 100) tX1_copyFrom_ok 46 rfl) fl_X1_54 (lay_0 h0 rfl) rfl rfl ?_
  refine K_aload_n (md := mX1_copyFrom) (pc := 103) 1 (kTab_at (pc := 103) tX1_copyFrom_ok 47 rfl) rfl ?_
  refine K_getR (md := mX1_copyFrom) (pc := 104) (b := (p1 + 19)) (kTab_at (pc := 104) tX1_copyFrom_ok 48 rfl) fl_X1_54 (lay_0 h1 rfl) rfl rfl ?_
  refine Z_callV (md := mX1_copyFrom) (pc := 107) (st := []) (sv := (fun _ => [])) (kTab_at (pc := 107) tX1_copyFrom_ok 49 rfl) mv_X1_81 (lay_0 (lay_appeals h0) rfl) rfl (Nat.le_of_ble_eq_true rfl) (by decide) rfl (c_X0_copyFrom X (p0 + 19) (p1 + 19) (lay_appeals h0) (lay_appeals h1) μ) (fun _ => rfl) h (fun μ _ h => ?_) rfl
  refine K_aload_n (md := mX1_copyFrom) (pc := 110) 0 (kTab_at (pc := 110) tX1_copyFrom_ok 50 rfl) rfl ?_
  refine K_aload_n (md := mX1_copyFrom) (pc := 111) 1 (kTab_at (pc := 111) tX1_copyFrom_ok 51 rfl) rfl ?_
  refine Z_getI (md := mX1_copyFrom) (pc := 112) (kTab_at (pc := 112) tX1_copyFrom_ok 52 rfl) fl_X1_84 (lay_0 h1 rfl) (Or.inr rfl) h (fun x1 h => ?_)
  refine Z_putZ (md := mX1_copyFrom) (pc := 115) (kTab_at (pc := 115) tX1_copyFrom_ok 53 rfl) fl_X1_84 (lay_0 h0 rfl) rfl h (fun μ h => ?_)
  exact Z_vret (md := mX1_copyFrom) (pc := 118) (kTab_at (pc := 118) tX1_copyFrom_ok 54 rfl) rfl rfl h
def f_X10_sumOf_4 (p0 n0 : Nat) (k22 : Int → Mu → Option Res) : Nat → Int → Int → Mu → Option Res
  | 0, _, _, _ => none
  | fu + 1, v1, v2, μ => i_lt v2 ((n0 : Nat) : Int) (rdI μ p0 n0 v2 fun x1 => bnd (v1 + x1) fun x2 => (f_X10_sumOf_4 p0 n0 k22 fu) x2 (v2 + 1) μ) (k22 v1 μ)
set_option maxRecDepth 100000 in
theorem n_X10_sumOf_4 (p0 n0 : Nat) (k22 : Int → Mu → Option Res) (q22 : ∀ z0 μ, nth (k22 z0 μ)) : ∀ (fu : Nat) v1 v2 μ, nth (f_X10_sumOf_4 p0 n0 k22 fu v1 v2 μ) := by
  intro fu
  induction fu with
  | zero => intro v1 v2 μ; intro r h; exact nomatch h
  | succ fu ih =>
    intro v1 v2 μ
    unfold f_X10_sumOf_4
    repeat (first | with_reducible exact nth_s _ _ | with_reducible exact nth_Z _ _ | with_reducible apply nth_ilt | with_reducible apply nth_ieq | with_reducible apply nth_llt | with_reducible apply nth_leq | (with_reducible apply nth_rdI; intro _) | (with_reducible apply nth_wrI; intro _) | (with_reducible apply nth_bnd; intro _) | (with_reducible apply nth_idiv; intro _) | (with_reducible apply nth_irem; intro _) | (with_reducible apply nth_ldiv; intro _) | (with_reducible apply nth_lrem; intro _) | (with_reducible apply nth_max; intro _) | (with_reducible apply nth_min; intro _) | (with_reducible apply nth_cpy; intro _) | with_reducible exact q22 _ _ | with_reducible exact ih _ | with_reducible exact ih _ _ | with_reducible exact ih _ _ _ | with_reducible exact ih _ _ _ _)
set_option maxRecDepth 100000 in
theorem c_X10_sumOf_4 (X : kX) (p0 n0 : Nat) {r0 : Nat → Option Nat} (h0 : SK[p0]? = some (.inl (0, n0, r0))) (b0 : n0 < 2 ^ 31) {res : Res} (k22 : Int → Mu → Option Res) (hk22 : ∀ (v1 : Int), ∀ (μ : Mu), k22 v1 μ = some res → KK X mX10_sumOf 0 1 res 22 [(1, .int (iI v1))] [] μ) : ∀ (fu : Nat)  (v1 : Int) (v2 : Int) (μ : Mu), f_X10_sumOf_4 p0 n0 k22 fu v1 v2 μ = some res → KK X mX10_sumOf 0 1 res 4 [(0, .ref (X.1 + p0)), (1, .int (iI v1)), (2, .int (iI v2))] [] μ := by
  intro fu
  induction fu with
  | zero => intro v1 v2 μ h; exact nomatch h
  | succ fu ih =>
    intro v1 v2 μ h
    refine K_iload_n (md := mX10_sumOf) (pc := 4) 2 (kTab_at (pc := 4) tX10_sumOf_ok 4 rfl) rfl ?_
    refine K_aload_n (md := mX10_sumOf) (pc := 5) 0 (kTab_at (pc := 5) tX10_sumOf_ok 5 rfl) rfl ?_
    refine K_alen (md := mX10_sumOf) (pc := 6) (kTab_at (pc := 6) tX10_sumOf_ok 6 rfl) h0 (by decide) ?_
    refine K_icmp_ge (md := mX10_sumOf) (pc := 7) (kTab_at (pc := 7) tX10_sumOf_ok 7 rfl) (tgt := 22) rfl h (fun h => ?_) (fun h => ?_)
    · refine K_sub [1] rfl ?_
      exact hk22 v1 μ h
    · refine K_iload_n (md := mX10_sumOf) (pc := 10) 1 (kTab_at (pc := 10) tX10_sumOf_ok 8 rfl) rfl ?_
      refine K_aload_n (md := mX10_sumOf) (pc := 11) 0 (kTab_at (pc := 11) tX10_sumOf_ok 9 rfl) rfl ?_
      refine K_iload_n (md := mX10_sumOf) (pc := 12) 2 (kTab_at (pc := 12) tX10_sumOf_ok 10 rfl) rfl ?_
      refine Z_iald (md := mX10_sumOf) (pc := 13) (kTab_at (pc := 13) tX10_sumOf_ok 11 rfl) h0 b0 h (fun x1 h => ?_)
      refine K_iadd (md := mX10_sumOf) (pc := 14) (kTab_at (pc := 14) tX10_sumOf_ok 12 rfl) ?_
      refine Z_bnd (md := mX10_sumOf) (pc := 15) h (fun x2 h => ?_)
      refine K_istore_n (md := mX10_sumOf) (pc := 15) (l' := [(1, .int (iI x2)), (0, .ref (X.1 + p0)), (2, .int (iI v2))]) (kTab_at (pc := 15) tX10_sumOf_ok 13 rfl) (Nat.le_of_ble_eq_true rfl) rfl ?_
      refine K_iinc (md := mX10_sumOf) (pc := 16) (l' := [(2, .int (iI (v2 + 1))), (1, .int (iI x2)), (0, .ref (X.1 + p0))]) 2 (kTab_at (pc := 16) tX10_sumOf_ok 14 rfl) rfl (Nat.le_of_ble_eq_true rfl) rfl ?_
      refine K_goto (md := mX10_sumOf) (pc := 19) (tgt := 4) (kTab_at (pc := 19) tX10_sumOf_ok 15 rfl) rfl ?_
      refine K_sub [2, 1, 0] rfl ?_
      exact ih x2 (v2 + 1) μ h
def f_X10_sumOf (p0 n0 : Nat) (μ : Mu) : Option Res := f_X10_sumOf_4 p0 n0 (fun v1 μ => some (μ, 0, v1)) FU 0 0 μ
set_option maxRecDepth 100000 in
theorem c_X10_sumOf (X : kX) (p0 n0 : Nat) {r0 : Nat → Option Nat} (h0 : SK[p0]? = some (.inl (0, n0, r0))) (b0 : n0 < 2 ^ 31) (μ : Mu) : Cq X mX10_sumOf 0 1 μ [.ref (X.1 + p0)] (f_X10_sumOf p0 n0 μ) := by
  intro res h
  refine ct_of (by decide +kernel) rfl (Nat.le_of_ble_eq_true rfl) ?_
  show KK X mX10_sumOf 0 1 res 0 [(0, .ref (X.1 + p0))] [] μ
  unfold f_X10_sumOf at h
  refine K_iconst (md := mX10_sumOf) (pc := 0) (x := 0) (kTab_at (pc := 0) tX10_sumOf_ok 0 rfl) rfl ?_
  refine K_istore_n (md := mX10_sumOf) (pc := 1) (l' := [(1, .int (iI 0)), (0, .ref (X.1 + p0))]) (kTab_at (pc := 1) tX10_sumOf_ok 1 rfl) (Nat.le_of_ble_eq_true rfl) rfl ?_
  refine K_iconst (md := mX10_sumOf) (pc := 2) (x := 0) (kTab_at (pc := 2) tX10_sumOf_ok 2 rfl) rfl ?_
  refine K_istore_n (md := mX10_sumOf) (pc := 3) (l' := [(2, .int (iI 0)), (1, .int (iI 0)), (0, .ref (X.1 + p0))]) (kTab_at (pc := 3) tX10_sumOf_ok 3 rfl) (Nat.le_of_ble_eq_true rfl) rfl ?_
  refine K_sub [2, 1, 0] rfl ?_
  refine c_X10_sumOf_4 X p0 n0 h0 b0 _ ?_ _ 0 0 μ h
  · intro v1 μ h
    refine K_iload_n (md := mX10_sumOf) (pc := 22) 0 (kTab_at (pc := 22) tX10_sumOf_ok 16 rfl) rfl ?_
    exact Z_iret (md := mX10_sumOf) (pc := 23) (kTab_at (pc := 23) tX10_sumOf_ok 17 rfl) rfl rfl rfl h
set_option maxRecDepth 100000 in
theorem n_X10_sumOf (p0 n0 : Nat) (μ : Mu) : nth (f_X10_sumOf p0 n0 μ) := by
  unfold f_X10_sumOf
  repeat (first | with_reducible exact nth_s _ _ | with_reducible exact nth_Z _ _ | with_reducible apply nth_ilt | with_reducible apply nth_ieq | with_reducible apply nth_llt | with_reducible apply nth_leq | (with_reducible apply nth_rdI; intro _) | (with_reducible apply nth_wrI; intro _) | (with_reducible apply nth_bnd; intro _) | (with_reducible apply nth_idiv; intro _) | (with_reducible apply nth_irem; intro _) | (with_reducible apply nth_ldiv; intro _) | (with_reducible apply nth_lrem; intro _) | (with_reducible apply nth_max; intro _) | (with_reducible apply nth_min; intro _) | (with_reducible apply nth_cpy; intro _) | with_reducible exact ih _ | with_reducible exact ih _ _ | with_reducible exact ih _ _ _ | with_reducible exact ih _ _ _ _ | (with_reducible refine n_X10_sumOf_4 _ _ _ ?_ _ _ _ _; all_goals (try intros)))
def f_X1_fullMaximum (p0 : Nat) (μ : Mu) : Option Res := rb (f_X10_sumOf (p0 + 1) 5 μ) fun μ x1 => some (μ, 0, x1)
set_option maxRecDepth 100000 in
theorem c_X1_fullMaximum (X : kX) (p0 : Nat) (h0 : Lay p0 (ksX1 p0)) (μ : Mu) : Cq X mX1_fullMaximum 1 1 μ [.ref (X.1 + p0)] (f_X1_fullMaximum p0 μ) := by
  intro res h
  refine ct_of (by decide +kernel) rfl (Nat.le_of_ble_eq_true rfl) ?_
  show KK X mX1_fullMaximum 1 1 res 0 [(0, .ref (X.1 + p0))] [] μ
  unfold f_X1_fullMaximum at h
  refine K_aload_n (md := mX1_fullMaximum) (pc := 0) 0 (kTab_at (pc := 0) tX1_fullMaximum_ok 0 rfl) rfl ?_
  refine K_getR (md := mX1_fullMaximum) (pc := 1) (b := (p0 + 1)) (kTab_at (pc := 1) tX1_fullMaximum_ok 1 rfl) fl_X1_9 (lay_0 h0 rfl) rfl rfl ?_
  refine Z_callSN (md := mX1_fullMaximum) (pc := 4) (st := []) (sv := (fun x1 => [.int (iI x1)])) (kTab_at (pc := 4) tX1_fullMaximum_ok 2 rfl) mn_X1_88 rfl (Nat.le_of_ble_eq_true rfl) (by decide) (c_X10_sumOf X (p0 + 1) 5 (lay_at h0 1 rfl) (by decide) μ) (n_X10_sumOf (p0 + 1) 5 μ) (fun _ => rfl) h (fun μ x1 h => ?_) rfl
  exact Z_iret (md := mX1_fullMaximum) (pc := 7) (kTab_at (pc := 7) tX1_fullMaximum_ok 3 rfl) rfl rfl rfl h
def f_X10_questionOf (p0 : Int) (μ : Mu) : Option Res := i_div p0 3 fun x1 => i_rem x1 5 fun x2 => some (μ, 0, x2)
set_option maxRecDepth 100000 in
theorem c_X10_questionOf (X : kX) (p0 : Int)  (μ : Mu) : Cq X mX10_questionOf 0 1 μ [.int (iI p0)] (f_X10_questionOf p0 μ) := by
  intro res h
  refine ct_of (by decide +kernel) rfl (Nat.le_of_ble_eq_true rfl) ?_
  show KK X mX10_questionOf 0 1 res 0 [(0, .int (iI p0))] [] μ
  unfold f_X10_questionOf at h
  refine K_iload_n (md := mX10_questionOf) (pc := 0) 0 (kTab_at (pc := 0) tX10_questionOf_ok 0 rfl) rfl ?_
  refine K_iconst (md := mX10_questionOf) (pc := 1) (x := 3) (kTab_at (pc := 1) tX10_questionOf_ok 1 rfl) rfl ?_
  refine Z_idiv (md := mX10_questionOf) (pc := 2) (kTab_at (pc := 2) tX10_questionOf_ok 2 rfl) h (fun x1 h => ?_)
  refine K_iconst (md := mX10_questionOf) (pc := 3) (x := 5) (kTab_at (pc := 3) tX10_questionOf_ok 3 rfl) rfl ?_
  refine Z_irem (md := mX10_questionOf) (pc := 4) (kTab_at (pc := 4) tX10_questionOf_ok 4 rfl) h (fun x2 h => ?_)
  exact Z_iret (md := mX10_questionOf) (pc := 5) (kTab_at (pc := 5) tX10_questionOf_ok 5 rfl) rfl rfl rfl h
set_option maxRecDepth 100000 in
theorem n_X10_questionOf (p0 : Int) (μ : Mu) : nth (f_X10_questionOf p0 μ) := by
  unfold f_X10_questionOf
  repeat (first | with_reducible exact nth_s _ _ | with_reducible exact nth_Z _ _ | with_reducible apply nth_ilt | with_reducible apply nth_ieq | with_reducible apply nth_llt | with_reducible apply nth_leq | (with_reducible apply nth_rdI; intro _) | (with_reducible apply nth_wrI; intro _) | (with_reducible apply nth_bnd; intro _) | (with_reducible apply nth_idiv; intro _) | (with_reducible apply nth_irem; intro _) | (with_reducible apply nth_ldiv; intro _) | (with_reducible apply nth_lrem; intro _) | (with_reducible apply nth_max; intro _) | (with_reducible apply nth_min; intro _) | (with_reducible apply nth_cpy; intro _) | with_reducible exact ih _ | with_reducible exact ih _ _ | with_reducible exact ih _ _ _ | with_reducible exact ih _ _ _ _)
def f_X3_greatestMark_43 (p0 : Nat) (p1 : Int) (k4 : Int → Int → Mu → Option Res) (v2 : Int) (v3 : Int) (μ : Mu) : Option Res := k4 v2 (v3 + 1) μ
set_option maxRecDepth 100000 in
theorem c_X3_greatestMark_43 (X : kX) (p0 : Nat) (p1 : Int) (h0 : Lay p0 (ksX3 p0)) {res : Res} (k4 : Int → Int → Mu → Option Res) (hk4 : ∀ (v2 : Int), ∀ (v3 : Int), ∀ (μ : Mu), k4 v2 v3 μ = some res → KK X mX3_greatestMark 1 1 res 4 [(0, .ref (X.1 + p0)), (1, .int (iI p1)), (2, .int (iI v2)), (3, .int (iI v3))] [] μ) (v2 : Int) (v3 : Int) (μ : Mu) (h : f_X3_greatestMark_43 p0 p1 k4 v2 v3 μ = some res) : KK X mX3_greatestMark 1 1 res 43 [(0, .ref (X.1 + p0)), (1, .int (iI p1)), (2, .int (iI v2)), (3, .int (iI v3))] [] μ := by
  unfold f_X3_greatestMark_43 at h
  refine K_iinc (md := mX3_greatestMark) (pc := 43) (l' := [(3, .int (iI (v3 + 1))), (0, .ref (X.1 + p0)), (1, .int (iI p1)), (2, .int (iI v2))]) 3 (kTab_at (pc := 43) tX3_greatestMark_ok 28 rfl) rfl (Nat.le_of_ble_eq_true rfl) rfl ?_
  refine K_goto (md := mX3_greatestMark) (pc := 46) (tgt := 4) (kTab_at (pc := 46) tX3_greatestMark_ok 29 rfl) rfl ?_
  refine K_sub [1, 2, 3, 0] rfl ?_
  exact hk4 v2 (v3 + 1) μ h
def f_X3_greatestMark_4 (p0 : Nat) (p1 : Int) (k49 : Int → Mu → Option Res) : Nat → Int → Int → Mu → Option Res
  | 0, _, _, _ => none
  | fu + 1, v2, v3, μ => i_lt v3 120 (rb (f_X10_questionOf v3 μ) fun μ x1 => i_eq x1 p1 (i_rem v3 3 fun x2 => i_div v3 3 fun x3 => rdI μ (p0 + 1) 40 x3 fun x4 => i_lt x2 x4 (rdI μ (p0 + 3) 120 v3 fun x5 => i_max v2 x5 fun x6 => f_X3_greatestMark_43 p0 p1 (f_X3_greatestMark_4 p0 p1 k49 fu) x6 v3 μ) (f_X3_greatestMark_43 p0 p1 (f_X3_greatestMark_4 p0 p1 k49 fu) v2 v3 μ)) (f_X3_greatestMark_43 p0 p1 (f_X3_greatestMark_4 p0 p1 k49 fu) v2 v3 μ)) (k49 v2 μ)
set_option maxRecDepth 100000 in
theorem c_X3_greatestMark_4 (X : kX) (p0 : Nat) (p1 : Int) (h0 : Lay p0 (ksX3 p0)) {res : Res} (k49 : Int → Mu → Option Res) (hk49 : ∀ (v2 : Int), ∀ (μ : Mu), k49 v2 μ = some res → KK X mX3_greatestMark 1 1 res 49 [(2, .int (iI v2))] [] μ) : ∀ (fu : Nat)  (v2 : Int) (v3 : Int) (μ : Mu), f_X3_greatestMark_4 p0 p1 k49 fu v2 v3 μ = some res → KK X mX3_greatestMark 1 1 res 4 [(0, .ref (X.1 + p0)), (1, .int (iI p1)), (2, .int (iI v2)), (3, .int (iI v3))] [] μ := by
  intro fu
  induction fu with
  | zero => intro v2 v3 μ h; exact nomatch h
  | succ fu ih =>
    intro v2 v3 μ h
    refine K_iload_n (md := mX3_greatestMark) (pc := 4) 3 (kTab_at (pc := 4) tX3_greatestMark_ok 4 rfl) rfl ?_
    refine K_bipush (md := mX3_greatestMark) (pc := 5) (x := 120) (kTab_at (pc := 5) tX3_greatestMark_ok 5 rfl) (by decide) ?_
    refine K_icmp_ge (md := mX3_greatestMark) (pc := 7) (kTab_at (pc := 7) tX3_greatestMark_ok 6 rfl) (tgt := 49) rfl h (fun h => ?_) (fun h => ?_)
    · refine K_sub [2] rfl ?_
      exact hk49 v2 μ h
    · refine K_iload_n (md := mX3_greatestMark) (pc := 10) 3 (kTab_at (pc := 10) tX3_greatestMark_ok 7 rfl) rfl ?_
      refine Z_callSN (md := mX3_greatestMark) (pc := 11) (st := []) (sv := (fun x1 => [.int (iI x1)])) (kTab_at (pc := 11) tX3_greatestMark_ok 8 rfl) mn_X3_36 rfl (Nat.le_of_ble_eq_true rfl) (by decide) (c_X10_questionOf X v3 μ) (n_X10_questionOf v3 μ) (fun _ => rfl) h (fun μ x1 h => ?_) rfl
      refine K_iload_n (md := mX3_greatestMark) (pc := 14) 1 (kTab_at (pc := 14) tX3_greatestMark_ok 9 rfl) rfl ?_
      refine K_icmp_ne (md := mX3_greatestMark) (pc := 15) (kTab_at (pc := 15) tX3_greatestMark_ok 10 rfl) (tgt := 43) rfl h (fun h => ?_) (fun h => ?_)
      · refine c_X3_greatestMark_43 X p0 p1 h0 _ ih v2 v3 μ h
      · refine K_iload_n (md := mX3_greatestMark) (pc := 18) 3 (kTab_at (pc := 18) tX3_greatestMark_ok 11 rfl) rfl ?_
        refine K_iconst (md := mX3_greatestMark) (pc := 19) (x := 3) (kTab_at (pc := 19) tX3_greatestMark_ok 12 rfl) rfl ?_
        refine Z_irem (md := mX3_greatestMark) (pc := 20) (kTab_at (pc := 20) tX3_greatestMark_ok 13 rfl) h (fun x2 h => ?_)
        refine K_aload_n (md := mX3_greatestMark) (pc := 21) 0 (kTab_at (pc := 21) tX3_greatestMark_ok 14 rfl) rfl ?_
        refine K_getR (md := mX3_greatestMark) (pc := 22) (b := (p0 + 1)) (kTab_at (pc := 22) tX3_greatestMark_ok 15 rfl) fl_X3_9 (lay_0 h0 rfl) rfl rfl ?_
        refine K_iload_n (md := mX3_greatestMark) (pc := 25) 3 (kTab_at (pc := 25) tX3_greatestMark_ok 16 rfl) rfl ?_
        refine K_iconst (md := mX3_greatestMark) (pc := 26) (x := 3) (kTab_at (pc := 26) tX3_greatestMark_ok 17 rfl) rfl ?_
        refine Z_idiv (md := mX3_greatestMark) (pc := 27) (kTab_at (pc := 27) tX3_greatestMark_ok 18 rfl) h (fun x3 h => ?_)
        refine Z_iald (md := mX3_greatestMark) (pc := 28) (kTab_at (pc := 28) tX3_greatestMark_ok 19 rfl) (lay_at h0 1 rfl) (by decide) h (fun x4 h => ?_)
        refine K_icmp_ge (md := mX3_greatestMark) (pc := 29) (kTab_at (pc := 29) tX3_greatestMark_ok 20 rfl) (tgt := 43) rfl h (fun h => ?_) (fun h => ?_)
        · refine c_X3_greatestMark_43 X p0 p1 h0 _ ih v2 v3 μ h
        · refine K_iload_n (md := mX3_greatestMark) (pc := 32) 2 (kTab_at (pc := 32) tX3_greatestMark_ok 21 rfl) rfl ?_
          refine K_aload_n (md := mX3_greatestMark) (pc := 33) 0 (kTab_at (pc := 33) tX3_greatestMark_ok 22 rfl) rfl ?_
          refine K_getR (md := mX3_greatestMark) (pc := 34) (b := (p0 + 3)) (kTab_at (pc := 34) tX3_greatestMark_ok 23 rfl) fl_X3_18 (lay_0 h0 rfl) rfl rfl ?_
          refine K_iload_n (md := mX3_greatestMark) (pc := 37) 3 (kTab_at (pc := 37) tX3_greatestMark_ok 24 rfl) rfl ?_
          refine Z_iald (md := mX3_greatestMark) (pc := 38) (kTab_at (pc := 38) tX3_greatestMark_ok 25 rfl) (lay_at h0 3 rfl) (by decide) h (fun x5 h => ?_)
          refine Z_mmax (md := mX3_greatestMark) (pc := 39) (kTab_at (pc := 39) tX3_greatestMark_ok 26 rfl) (inT3 80 (by decide +kernel) rfl) (inT3 81 (by decide +kernel) rfl) (inT1 22 (by decide +kernel) rfl) (inT3 82 (by decide +kernel) rfl) (Nat.le_of_ble_eq_true rfl) h (fun x6 h => ?_)
          refine K_istore_n (md := mX3_greatestMark) (pc := 42) (l' := [(2, .int (iI x6)), (0, .ref (X.1 + p0)), (1, .int (iI p1)), (3, .int (iI v3))]) (kTab_at (pc := 42) tX3_greatestMark_ok 27 rfl) (Nat.le_of_ble_eq_true rfl) rfl ?_
          refine K_sub [1, 2, 0, 3] rfl ?_
          refine c_X3_greatestMark_43 X p0 p1 h0 _ ih x6 v3 μ h
def f_X3_greatestMark (p0 : Nat) (p1 : Int) (μ : Mu) : Option Res := f_X3_greatestMark_4 p0 p1 (fun v2 μ => some (μ, 0, v2)) FU 0 0 μ
set_option maxRecDepth 100000 in
theorem c_X3_greatestMark (X : kX) (p0 : Nat) (p1 : Int) (h0 : Lay p0 (ksX3 p0)) (μ : Mu) : Cq X mX3_greatestMark 1 1 μ [.ref (X.1 + p0), .int (iI p1)] (f_X3_greatestMark p0 p1 μ) := by
  intro res h
  refine ct_of (by decide +kernel) rfl (Nat.le_of_ble_eq_true rfl) ?_
  show KK X mX3_greatestMark 1 1 res 0 [(0, .ref (X.1 + p0)), (1, .int (iI p1))] [] μ
  unfold f_X3_greatestMark at h
  refine K_iconst (md := mX3_greatestMark) (pc := 0) (x := 0) (kTab_at (pc := 0) tX3_greatestMark_ok 0 rfl) rfl ?_
  refine K_istore_n (md := mX3_greatestMark) (pc := 1) (l' := [(2, .int (iI 0)), (0, .ref (X.1 + p0)), (1, .int (iI p1))]) (kTab_at (pc := 1) tX3_greatestMark_ok 1 rfl) (Nat.le_of_ble_eq_true rfl) rfl ?_
  refine K_iconst (md := mX3_greatestMark) (pc := 2) (x := 0) (kTab_at (pc := 2) tX3_greatestMark_ok 2 rfl) rfl ?_
  refine K_istore_n (md := mX3_greatestMark) (pc := 3) (l' := [(3, .int (iI 0)), (2, .int (iI 0)), (0, .ref (X.1 + p0)), (1, .int (iI p1))]) (kTab_at (pc := 3) tX3_greatestMark_ok 3 rfl) (Nat.le_of_ble_eq_true rfl) rfl ?_
  refine K_sub [2, 3, 1, 0] rfl ?_
  refine c_X3_greatestMark_4 X p0 p1 h0 _ ?_ _ 0 0 μ h
  · intro v2 μ h
    refine K_iload_n (md := mX3_greatestMark) (pc := 49) 0 (kTab_at (pc := 49) tX3_greatestMark_ok 30 rfl) rfl ?_
    exact Z_iret (md := mX3_greatestMark) (pc := 50) (kTab_at (pc := 50) tX3_greatestMark_ok 31 rfl) rfl rfl rfl h
def f_X7_placeOf (p0 : Nat) (p1 : Int) (p2 : Int) (p3 : Int) (μ : Mu) : Option Res := some (μ, 0, ((((p1 * 5) + p2) * 5) + p3))
set_option maxRecDepth 100000 in
theorem c_X7_placeOf (X : kX) (p0 : Nat) (p1 : Int) (p2 : Int) (p3 : Int) (h0 : Lay p0 (ksX7 p0)) (μ : Mu) : Cq X mX7_placeOf 0 1 μ [.ref (X.1 + p0), .int (iI p1), .int (iI p2), .int (iI p3)] (f_X7_placeOf p0 p1 p2 p3 μ) := by
  intro res h
  refine ct_of (by decide +kernel) rfl (Nat.le_of_ble_eq_true rfl) ?_
  show KK X mX7_placeOf 0 1 res 0 [(0, .ref (X.1 + p0)), (1, .int (iI p1)), (2, .int (iI p2)), (3, .int (iI p3))] [] μ
  unfold f_X7_placeOf at h
  refine K_iload_n (md := mX7_placeOf) (pc := 0) 1 (kTab_at (pc := 0) tX7_placeOf_ok 0 rfl) rfl ?_
  refine K_iconst (md := mX7_placeOf) (pc := 1) (x := 5) (kTab_at (pc := 1) tX7_placeOf_ok 1 rfl) rfl ?_
  refine K_imul (md := mX7_placeOf) (pc := 2) (kTab_at (pc := 2) tX7_placeOf_ok 2 rfl) ?_
  refine K_iload_n (md := mX7_placeOf) (pc := 3) 2 (kTab_at (pc := 3) tX7_placeOf_ok 3 rfl) rfl ?_
  refine K_iadd (md := mX7_placeOf) (pc := 4) (kTab_at (pc := 4) tX7_placeOf_ok 4 rfl) ?_
  refine K_iconst (md := mX7_placeOf) (pc := 5) (x := 5) (kTab_at (pc := 5) tX7_placeOf_ok 5 rfl) rfl ?_
  refine K_imul (md := mX7_placeOf) (pc := 6) (kTab_at (pc := 6) tX7_placeOf_ok 6 rfl) ?_
  refine K_iload_n (md := mX7_placeOf) (pc := 7) 3 (kTab_at (pc := 7) tX7_placeOf_ok 7 rfl) rfl ?_
  refine K_iadd (md := mX7_placeOf) (pc := 8) (kTab_at (pc := 8) tX7_placeOf_ok 8 rfl) ?_
  exact Z_iret (md := mX7_placeOf) (pc := 9) (kTab_at (pc := 9) tX7_placeOf_ok 9 rfl) rfl rfl rfl h
def f_X7_greatestMark_73 (p0 : Nat) (p1 : Int)  (v2 : Int) (μ : Mu) : Option Res := some (μ, 0, v2)
set_option maxRecDepth 100000 in
theorem c_X7_greatestMark_73 (X : kX) (p0 : Nat) (p1 : Int) (h0 : Lay p0 (ksX7 p0)) {res : Res}  (v2 : Int) (μ : Mu) (h : f_X7_greatestMark_73 p0 p1 v2 μ = some res) : KK X mX7_greatestMark 1 1 res 73 [(2, .int (iI v2))] [] μ := by
  unfold f_X7_greatestMark_73 at h
  refine K_iload_n (md := mX7_greatestMark) (pc := 73) 0 (kTab_at (pc := 73) tX7_greatestMark_ok 44 rfl) rfl ?_
  exact Z_iret (md := mX7_greatestMark) (pc := 74) (kTab_at (pc := 74) tX7_greatestMark_ok 45 rfl) rfl rfl rfl h
def f_X7_greatestMark_37 (p0 : Nat) (p1 : Int) (k67 : Int → Int → Mu → Option Res) : Nat → Int → Int → Int → Mu → Option Res
  | 0, _, _, _, _ => none
  | fu + 1, v2, v3, v4, μ => i_lt v4 4 (rb (f_X7_placeOf p0 v4 p1 v3 μ) fun μ x1 => rdI μ (p0 + 3) 100 x1 fun x2 => i_max v2 x2 fun x3 => (f_X7_greatestMark_37 p0 p1 k67 fu) x3 v3 (v4 + 1) μ) (k67 v2 v3 μ)
set_option maxRecDepth 100000 in
theorem c_X7_greatestMark_37 (X : kX) (p0 : Nat) (p1 : Int) (h0 : Lay p0 (ksX7 p0)) {res : Res} (k67 : Int → Int → Mu → Option Res) (hk67 : ∀ (v2 : Int), ∀ (v3 : Int), ∀ (μ : Mu), k67 v2 v3 μ = some res → KK X mX7_greatestMark 1 1 res 67 [(0, .ref (X.1 + p0)), (1, .int (iI p1)), (2, .int (iI v2)), (3, .int (iI v3))] [] μ) : ∀ (fu : Nat)  (v2 : Int) (v3 : Int) (v4 : Int) (μ : Mu), f_X7_greatestMark_37 p0 p1 k67 fu v2 v3 v4 μ = some res → KK X mX7_greatestMark 1 1 res 37 [(0, .ref (X.1 + p0)), (1, .int (iI p1)), (2, .int (iI v2)), (3, .int (iI v3)), (4, .int (iI v4))] [] μ := by
  intro fu
  induction fu with
  | zero => intro v2 v3 v4 μ h; exact nomatch h
  | succ fu ih =>
    intro v2 v3 v4 μ h
    refine K_iload (md := mX7_greatestMark) (pc := 37) 4 (kTab_at (pc := 37) tX7_greatestMark_ok 26 rfl) rfl ?_
    refine K_iconst (md := mX7_greatestMark) (pc := 39) (x := 4) (kTab_at (pc := 39) tX7_greatestMark_ok 27 rfl) rfl ?_
    refine K_icmp_ge (md := mX7_greatestMark) (pc := 40) (kTab_at (pc := 40) tX7_greatestMark_ok 28 rfl) (tgt := 67) rfl h (fun h => ?_) (fun h => ?_)
    · refine K_sub [0, 1, 2, 3] rfl ?_
      exact hk67 v2 v3 μ h
    · refine K_iload_n (md := mX7_greatestMark) (pc := 43) 2 (kTab_at (pc := 43) tX7_greatestMark_ok 29 rfl) rfl ?_
      refine K_aload_n (md := mX7_greatestMark) (pc := 44) 0 (kTab_at (pc := 44) tX7_greatestMark_ok 30 rfl) rfl ?_
      refine K_getR (md := mX7_greatestMark) (pc := 45) (b := (p0 + 3)) (kTab_at (pc := 45) tX7_greatestMark_ok 31 rfl) fl_X7_18 (lay_0 h0 rfl) rfl rfl ?_
      refine K_aload_n (md := mX7_greatestMark) (pc := 48) 0 (kTab_at (pc := 48) tX7_greatestMark_ok 32 rfl) rfl ?_
      refine K_iload (md := mX7_greatestMark) (pc := 49) 4 (kTab_at (pc := 49) tX7_greatestMark_ok 33 rfl) rfl ?_
      refine K_iload_n (md := mX7_greatestMark) (pc := 51) 1 (kTab_at (pc := 51) tX7_greatestMark_ok 34 rfl) rfl ?_
      refine K_iload_n (md := mX7_greatestMark) (pc := 52) 3 (kTab_at (pc := 52) tX7_greatestMark_ok 35 rfl) rfl ?_
      refine Z_callV (md := mX7_greatestMark) (pc := 53) (st := [.ref (X.1 + (p0 + 3)), .int (iI v2)]) (sv := (fun x1 => [.int (iI x1), .ref (X.1 + (p0 + 3)), .int (iI v2)])) (kTab_at (pc := 53) tX7_greatestMark_ok 36 rfl) mv_X7_31 (lay_0 h0 rfl) rfl (Nat.le_of_ble_eq_true rfl) (by decide) rfl (c_X7_placeOf X p0 v4 p1 v3 h0 μ) (fun _ => rfl) h (fun μ x1 h => ?_) rfl
      refine Z_iald (md := mX7_greatestMark) (pc := 56) (kTab_at (pc := 56) tX7_greatestMark_ok 37 rfl) (lay_at h0 3 rfl) (by decide) h (fun x2 h => ?_)
      refine Z_mmax (md := mX7_greatestMark) (pc := 57) (kTab_at (pc := 57) tX7_greatestMark_ok 38 rfl) (inT3 87 (by decide +kernel) rfl) (inT3 81 (by decide +kernel) rfl) (inT1 22 (by decide +kernel) rfl) (inT3 82 (by decide +kernel) rfl) (Nat.le_of_ble_eq_true rfl) h (fun x3 h => ?_)
      refine K_istore_n (md := mX7_greatestMark) (pc := 60) (l' := [(2, .int (iI x3)), (0, .ref (X.1 + p0)), (1, .int (iI p1)), (3, .int (iI v3)), (4, .int (iI v4))]) (kTab_at (pc := 60) tX7_greatestMark_ok 39 rfl) (Nat.le_of_ble_eq_true rfl) rfl ?_
      refine K_iinc (md := mX7_greatestMark) (pc := 61) (l' := [(4, .int (iI (v4 + 1))), (2, .int (iI x3)), (0, .ref (X.1 + p0)), (1, .int (iI p1)), (3, .int (iI v3))]) 4 (kTab_at (pc := 61) tX7_greatestMark_ok 40 rfl) rfl (Nat.le_of_ble_eq_true rfl) rfl ?_
      refine K_goto (md := mX7_greatestMark) (pc := 64) (tgt := 37) (kTab_at (pc := 64) tX7_greatestMark_ok 41 rfl) rfl ?_
      refine K_sub [2, 3, 1, 4, 0] rfl ?_
      exact ih x3 v3 (v4 + 1) μ h
def f_X7_greatestMark_4 (p0 : Nat) (p1 : Int) (k73 : Int → Mu → Option Res) : Nat → Int → Int → Mu → Option Res
  | 0, _, _, _ => none
  | fu + 1, v2, v3, μ => rdI μ (p0 + 1) 5 p1 fun x1 => i_lt v3 x1 (i_lt v3 5 (rdI μ (p0 + 2) 25 ((p1 * 5) + v3) fun x2 => i_max v2 x2 fun x3 => f_X7_greatestMark_37 p0 p1 (fun v2 v3 μ => (f_X7_greatestMark_4 p0 p1 k73 fu) v2 (v3 + 1) μ) FU x3 v3 0 μ) (k73 v2 μ)) (k73 v2 μ)
set_option maxRecDepth 100000 in
theorem c_X7_greatestMark_4 (X : kX) (p0 : Nat) (p1 : Int) (h0 : Lay p0 (ksX7 p0)) {res : Res} (k73 : Int → Mu → Option Res) (hk73 : ∀ (v2 : Int), ∀ (μ : Mu), k73 v2 μ = some res → KK X mX7_greatestMark 1 1 res 73 [(2, .int (iI v2))] [] μ) : ∀ (fu : Nat)  (v2 : Int) (v3 : Int) (μ : Mu), f_X7_greatestMark_4 p0 p1 k73 fu v2 v3 μ = some res → KK X mX7_greatestMark 1 1 res 4 [(0, .ref (X.1 + p0)), (1, .int (iI p1)), (2, .int (iI v2)), (3, .int (iI v3))] [] μ := by
  intro fu
  induction fu with
  | zero => intro v2 v3 μ h; exact nomatch h
  | succ fu ih =>
    intro v2 v3 μ h
    refine K_iload_n (md := mX7_greatestMark) (pc := 4) 3 (kTab_at (pc := 4) tX7_greatestMark_ok 4 rfl) rfl ?_
    refine K_aload_n (md := mX7_greatestMark) (pc := 5) 0 (kTab_at (pc := 5) tX7_greatestMark_ok 5 rfl) rfl ?_
    refine K_getR (md := mX7_greatestMark) (pc := 6) (b := (p0 + 1)) (kTab_at (pc := 6) tX7_greatestMark_ok 6 rfl) fl_X7_9 (lay_0 h0 rfl) rfl rfl ?_
    refine K_iload_n (md := mX7_greatestMark) (pc := 9) 1 (kTab_at (pc := 9) tX7_greatestMark_ok 7 rfl) rfl ?_
    refine Z_iald (md := mX7_greatestMark) (pc := 10) (kTab_at (pc := 10) tX7_greatestMark_ok 8 rfl) (lay_at h0 1 rfl) (by decide) h (fun x1 h => ?_)
    refine K_icmp_ge (md := mX7_greatestMark) (pc := 11) (kTab_at (pc := 11) tX7_greatestMark_ok 9 rfl) (tgt := 73) rfl h (fun h => ?_) (fun h => ?_)
    · refine K_sub [2] rfl ?_
      exact hk73 v2 μ h
    · refine K_iload_n (md := mX7_greatestMark) (pc := 14) 3 (kTab_at (pc := 14) tX7_greatestMark_ok 10 rfl) rfl ?_
      refine K_iconst (md := mX7_greatestMark) (pc := 15) (x := 5) (kTab_at (pc := 15) tX7_greatestMark_ok 11 rfl) rfl ?_
      refine K_icmp_ge (md := mX7_greatestMark) (pc := 16) (kTab_at (pc := 16) tX7_greatestMark_ok 12 rfl) (tgt := 73) rfl h (fun h => ?_) (fun h => ?_)
      · refine K_sub [2] rfl ?_
        exact hk73 v2 μ h
      · refine K_iload_n (md := mX7_greatestMark) (pc := 19) 2 (kTab_at (pc := 19) tX7_greatestMark_ok 13 rfl) rfl ?_
        refine K_aload_n (md := mX7_greatestMark) (pc := 20) 0 (kTab_at (pc := 20) tX7_greatestMark_ok 14 rfl) rfl ?_
        refine K_getR (md := mX7_greatestMark) (pc := 21) (b := (p0 + 2)) (kTab_at (pc := 21) tX7_greatestMark_ok 15 rfl) fl_X7_15 (lay_0 h0 rfl) rfl rfl ?_
        refine K_iload_n (md := mX7_greatestMark) (pc := 24) 1 (kTab_at (pc := 24) tX7_greatestMark_ok 16 rfl) rfl ?_
        refine K_iconst (md := mX7_greatestMark) (pc := 25) (x := 5) (kTab_at (pc := 25) tX7_greatestMark_ok 17 rfl) rfl ?_
        refine K_imul (md := mX7_greatestMark) (pc := 26) (kTab_at (pc := 26) tX7_greatestMark_ok 18 rfl) ?_
        refine K_iload_n (md := mX7_greatestMark) (pc := 27) 3 (kTab_at (pc := 27) tX7_greatestMark_ok 19 rfl) rfl ?_
        refine K_iadd (md := mX7_greatestMark) (pc := 28) (kTab_at (pc := 28) tX7_greatestMark_ok 20 rfl) ?_
        refine Z_iald (md := mX7_greatestMark) (pc := 29) (kTab_at (pc := 29) tX7_greatestMark_ok 21 rfl) (lay_at h0 2 rfl) (by decide) h (fun x2 h => ?_)
        refine Z_mmax (md := mX7_greatestMark) (pc := 30) (kTab_at (pc := 30) tX7_greatestMark_ok 22 rfl) (inT3 87 (by decide +kernel) rfl) (inT3 81 (by decide +kernel) rfl) (inT1 22 (by decide +kernel) rfl) (inT3 82 (by decide +kernel) rfl) (Nat.le_of_ble_eq_true rfl) h (fun x3 h => ?_)
        refine K_istore_n (md := mX7_greatestMark) (pc := 33) (l' := [(2, .int (iI x3)), (0, .ref (X.1 + p0)), (1, .int (iI p1)), (3, .int (iI v3))]) (kTab_at (pc := 33) tX7_greatestMark_ok 23 rfl) (Nat.le_of_ble_eq_true rfl) rfl ?_
        refine K_iconst (md := mX7_greatestMark) (pc := 34) (x := 0) (kTab_at (pc := 34) tX7_greatestMark_ok 24 rfl) rfl ?_
        refine K_istore (md := mX7_greatestMark) (pc := 35) (l' := [(4, .int (iI 0)), (2, .int (iI x3)), (0, .ref (X.1 + p0)), (1, .int (iI p1)), (3, .int (iI v3))]) (kTab_at (pc := 35) tX7_greatestMark_ok 25 rfl) (Nat.le_of_ble_eq_true rfl) rfl ?_
        refine K_sub [2, 3, 1, 4, 0] rfl ?_
        refine c_X7_greatestMark_37 X p0 p1 h0 _ ?_ _ x3 v3 0 μ h
        · intro v2 v3 μ h
          refine K_iinc (md := mX7_greatestMark) (pc := 67) (l' := [(3, .int (iI (v3 + 1))), (0, .ref (X.1 + p0)), (1, .int (iI p1)), (2, .int (iI v2))]) 3 (kTab_at (pc := 67) tX7_greatestMark_ok 42 rfl) rfl (Nat.le_of_ble_eq_true rfl) rfl ?_
          refine K_goto (md := mX7_greatestMark) (pc := 70) (tgt := 4) (kTab_at (pc := 70) tX7_greatestMark_ok 43 rfl) rfl ?_
          refine K_sub [1, 2, 3, 0] rfl ?_
          exact ih v2 (v3 + 1) μ h
def f_X7_greatestMark (p0 : Nat) (p1 : Int) (μ : Mu) : Option Res := f_X7_greatestMark_4 p0 p1 (fun v2 μ => f_X7_greatestMark_73 p0 p1 v2 μ) FU 0 0 μ
set_option maxRecDepth 100000 in
theorem c_X7_greatestMark (X : kX) (p0 : Nat) (p1 : Int) (h0 : Lay p0 (ksX7 p0)) (μ : Mu) : Cq X mX7_greatestMark 1 1 μ [.ref (X.1 + p0), .int (iI p1)] (f_X7_greatestMark p0 p1 μ) := by
  intro res h
  refine ct_of (by decide +kernel) rfl (Nat.le_of_ble_eq_true rfl) ?_
  show KK X mX7_greatestMark 1 1 res 0 [(0, .ref (X.1 + p0)), (1, .int (iI p1))] [] μ
  unfold f_X7_greatestMark at h
  refine K_iconst (md := mX7_greatestMark) (pc := 0) (x := 0) (kTab_at (pc := 0) tX7_greatestMark_ok 0 rfl) rfl ?_
  refine K_istore_n (md := mX7_greatestMark) (pc := 1) (l' := [(2, .int (iI 0)), (0, .ref (X.1 + p0)), (1, .int (iI p1))]) (kTab_at (pc := 1) tX7_greatestMark_ok 1 rfl) (Nat.le_of_ble_eq_true rfl) rfl ?_
  refine K_iconst (md := mX7_greatestMark) (pc := 2) (x := 0) (kTab_at (pc := 2) tX7_greatestMark_ok 2 rfl) rfl ?_
  refine K_istore_n (md := mX7_greatestMark) (pc := 3) (l' := [(3, .int (iI 0)), (2, .int (iI 0)), (0, .ref (X.1 + p0)), (1, .int (iI p1))]) (kTab_at (pc := 3) tX7_greatestMark_ok 3 rfl) (Nat.le_of_ble_eq_true rfl) rfl ?_
  refine K_sub [2, 3, 1, 0] rfl ?_
  refine c_X7_greatestMark_4 X p0 p1 h0 _ ?_ _ 0 0 μ h
  · intro v2 μ h
    refine c_X7_greatestMark_73 X p0 p1 h0  v2 μ h
def f_X1_greatestMark (p0 : Nat) (p1 : Int) (μ : Mu) : Option Res := rb (f_X3_greatestMark (p0 + 11) p1 μ) fun μ x1 => rb (f_X7_greatestMark (p0 + 7) p1 μ) fun μ x2 => i_max x1 x2 fun x3 => some (μ, 0, x3)
set_option maxRecDepth 100000 in
theorem c_X1_greatestMark (X : kX) (p0 : Nat) (p1 : Int) (h0 : Lay p0 (ksX1 p0)) (μ : Mu) : Cq X mX1_greatestMark 2 1 μ [.ref (X.1 + p0), .int (iI p1)] (f_X1_greatestMark p0 p1 μ) := by
  intro res h
  refine ct_of (by decide +kernel) rfl (Nat.le_of_ble_eq_true rfl) ?_
  show KK X mX1_greatestMark 2 1 res 0 [(0, .ref (X.1 + p0)), (1, .int (iI p1))] [] μ
  unfold f_X1_greatestMark at h
  refine K_aload_n (md := mX1_greatestMark) (pc := 0) 0 (kTab_at (pc := 0) tX1_greatestMark_ok 0 rfl) rfl ?_
  refine K_getR (md := mX1_greatestMark) (pc := 1) (b := (p0 + 11)) (kTab_at (pc := 1) tX1_greatestMark_ok 1 rfl) fl_X1_40 (lay_0 h0 rfl) rfl rfl ?_
  refine K_iload_n (md := mX1_greatestMark) (pc := 4) 1 (kTab_at (pc := 4) tX1_greatestMark_ok 2 rfl) rfl ?_
  refine Z_callV (md := mX1_greatestMark) (pc := 5) (st := []) (sv := (fun x1 => [.int (iI x1)])) (kTab_at (pc := 5) tX1_greatestMark_ok 3 rfl) mv_X1_92 (lay_0 (lay_entries h0) rfl) rfl (Nat.le_of_ble_eq_true rfl) (by decide) rfl (c_X3_greatestMark X (p0 + 11) p1 (lay_entries h0) μ) (fun _ => rfl) h (fun μ x1 h => ?_) rfl
  refine K_aload_n (md := mX1_greatestMark) (pc := 8) 0 (kTab_at (pc := 8) tX1_greatestMark_ok 4 rfl) rfl ?_
  refine K_getR (md := mX1_greatestMark) (pc := 9) (b := (p0 + 7)) (kTab_at (pc := 9) tX1_greatestMark_ok 5 rfl) fl_X1_33 (lay_0 h0 rfl) rfl rfl ?_
  refine K_iload_n (md := mX1_greatestMark) (pc := 12) 1 (kTab_at (pc := 12) tX1_greatestMark_ok 6 rfl) rfl ?_
  refine Z_callV (md := mX1_greatestMark) (pc := 13) (st := [.int (iI x1)]) (sv := (fun x2 => [.int (iI x2), .int (iI x1)])) (kTab_at (pc := 13) tX1_greatestMark_ok 7 rfl) mv_X1_96 (lay_0 (lay_seeds h0) rfl) rfl (Nat.le_of_ble_eq_true rfl) (by decide) rfl (c_X7_greatestMark X (p0 + 7) p1 (lay_seeds h0) μ) (fun _ => rfl) h (fun μ x2 h => ?_) rfl
  refine Z_mmax (md := mX1_greatestMark) (pc := 16) (kTab_at (pc := 16) tX1_greatestMark_ok 8 rfl) (inT3 92 (by decide +kernel) rfl) (inT3 81 (by decide +kernel) rfl) (inT1 22 (by decide +kernel) rfl) (inT3 82 (by decide +kernel) rfl) (Nat.le_of_ble_eq_true rfl) h (fun x3 h => ?_)
  exact Z_iret (md := mX1_greatestMark) (pc := 19) (kTab_at (pc := 19) tX1_greatestMark_ok 9 rfl) rfl rfl rfl h
def f_X1_earn (p0 : Nat) (p1 : Int) (p2 : Int) (μ : Mu) : Option Res := rdI μ (p0 + 6) 4 p1 fun x1 => rdI μ (p0 + 1) 5 p2 fun x2 => wrI μ (p0 + 6) 4 p1 (x1 + (10 + x2)) fun μ => some (μ, 0, 0)
set_option maxRecDepth 100000 in
theorem c_X1_earn (X : kX) (p0 : Nat) (p1 : Int) (p2 : Int) (h0 : Lay p0 (ksX1 p0)) (μ : Mu) : Cq X mX1_earn 0 0 μ [.ref (X.1 + p0), .int (iI p1), .int (iI p2)] (f_X1_earn p0 p1 p2 μ) := by
  intro res h
  refine ct_of (by decide +kernel) rfl (Nat.le_of_ble_eq_true rfl) ?_
  show KK X mX1_earn 0 0 res 0 [(0, .ref (X.1 + p0)), (1, .int (iI p1)), (2, .int (iI p2))] [] μ
  unfold f_X1_earn at h
  refine K_aload_n (md := mX1_earn) (pc := 0) 0 (kTab_at (pc := 0) tX1_earn_ok 0 rfl) rfl ?_
  refine K_getR (md := mX1_earn) (pc := 1) (b := (p0 + 6)) (kTab_at (pc := 1) tX1_earn_ok 1 rfl) fl_X1_27 (lay_0 h0 rfl) rfl rfl ?_
  refine K_iload_n (md := mX1_earn) (pc := 4) 1 (kTab_at (pc := 4) tX1_earn_ok 2 rfl) rfl ?_
  refine K_dup2 (md := mX1_earn) (pc := 5) (kTab_at (pc := 5) tX1_earn_ok 3 rfl) rfl rfl ?_
  refine Z_iald (md := mX1_earn) (pc := 6) (kTab_at (pc := 6) tX1_earn_ok 4 rfl) (lay_at h0 6 rfl) (by decide) h (fun x1 h => ?_)
  refine K_bipush (md := mX1_earn) (pc := 7) (x := 10) (kTab_at (pc := 7) tX1_earn_ok 5 rfl) (by decide) ?_
  refine K_aload_n (md := mX1_earn) (pc := 9) 0 (kTab_at (pc := 9) tX1_earn_ok 6 rfl) rfl ?_
  refine K_getR (md := mX1_earn) (pc := 10) (b := (p0 + 1)) (kTab_at (pc := 10) tX1_earn_ok 7 rfl) fl_X1_9 (lay_0 h0 rfl) rfl rfl ?_
  refine K_iload_n (md := mX1_earn) (pc := 13) 2 (kTab_at (pc := 13) tX1_earn_ok 8 rfl) rfl ?_
  refine Z_iald (md := mX1_earn) (pc := 14) (kTab_at (pc := 14) tX1_earn_ok 9 rfl) (lay_at h0 1 rfl) (by decide) h (fun x2 h => ?_)
  refine K_iadd (md := mX1_earn) (pc := 15) (kTab_at (pc := 15) tX1_earn_ok 10 rfl) ?_
  refine K_iadd (md := mX1_earn) (pc := 16) (kTab_at (pc := 16) tX1_earn_ok 11 rfl) ?_
  refine Z_iast (md := mX1_earn) (pc := 17) (kTab_at (pc := 17) tX1_earn_ok 12 rfl) (lay_at h0 6 rfl) (by decide) h (fun μ h => ?_)
  exact Z_vret (md := mX1_earn) (pc := 18) (kTab_at (pc := 18) tX1_earn_ok 13 rfl) rfl rfl h
def f_X3_put_78 (p0 : Nat) (p1 : Int) (p2 : Int) (p3 : Int)   (μ : Mu) : Option Res := rdI μ (p0 + 1) 40 p2 fun x1 => some (μ, 0, x1)
set_option maxRecDepth 100000 in
theorem c_X3_put_78 (X : kX) (p0 : Nat) (p1 : Int) (p2 : Int) (p3 : Int) (h0 : Lay p0 (ksX3 p0)) {res : Res}  (μ : Mu) (h : f_X3_put_78 p0 p1 p2 p3 μ = some res) : KK X mX3_put 0 1 res 78 [(0, .ref (X.1 + p0)), (2, .int (iI p2))] [] μ := by
  unfold f_X3_put_78 at h
  refine K_aload_n (md := mX3_put) (pc := 78) 0 (kTab_at (pc := 78) tX3_put_ok 47 rfl) rfl ?_
  refine K_getR (md := mX3_put) (pc := 79) (b := (p0 + 1)) (kTab_at (pc := 79) tX3_put_ok 48 rfl) fl_X3_9 (lay_0 h0 rfl) rfl rfl ?_
  refine K_iload_n (md := mX3_put) (pc := 82) 1 (kTab_at (pc := 82) tX3_put_ok 49 rfl) rfl ?_
  refine Z_iald (md := mX3_put) (pc := 83) (kTab_at (pc := 83) tX3_put_ok 50 rfl) (lay_at h0 1 rfl) (by decide) h (fun x1 h => ?_)
  exact Z_iret (md := mX3_put) (pc := 84) (kTab_at (pc := 84) tX3_put_ok 51 rfl) rfl rfl rfl h
def f_X3_put (p0 : Nat) (p1 : Int) (p2 : Int) (p3 : Int) (μ : Mu) : Option Res := rdI μ (p0 + 1) 40 p2 fun x1 => i_lt x1 3 (rdF μ p0 4 fun x2 => i_lt x2 120 (bnd ((p2 * 3) + x1) fun x3 => wrI μ (p0 + 2) 120 x3 p1 fun μ => wrI μ (p0 + 3) 120 x3 p3 fun μ => rdF μ p0 4 fun x4 => wrI μ (p0 + 4) 120 x4 x3 fun μ => rdF μ p0 4 fun x5 => wrF μ p0 4 (x5 + 1) fun μ => wrI μ (p0 + 1) 40 p2 (x1 + 1) fun μ => f_X3_put_78 p0 p1 p2 p3 μ) (f_X3_put_78 p0 p1 p2 p3 μ)) (f_X3_put_78 p0 p1 p2 p3 μ)
set_option maxRecDepth 100000 in
theorem c_X3_put (X : kX) (p0 : Nat) (p1 : Int) (p2 : Int) (p3 : Int) (h0 : Lay p0 (ksX3 p0)) (μ : Mu) : Cq X mX3_put 0 1 μ [.ref (X.1 + p0), .int (iI p1), .int (iI p2), .int (iI p3)] (f_X3_put p0 p1 p2 p3 μ) := by
  intro res h
  refine ct_of (by decide +kernel) rfl (Nat.le_of_ble_eq_true rfl) ?_
  show KK X mX3_put 0 1 res 0 [(0, .ref (X.1 + p0)), (1, .int (iI p1)), (2, .int (iI p2)), (3, .int (iI p3))] [] μ
  unfold f_X3_put at h
  refine K_aload_n (md := mX3_put) (pc := 0) 0 (kTab_at (pc := 0) tX3_put_ok 0 rfl) rfl ?_
  refine K_getR (md := mX3_put) (pc := 1) (b := (p0 + 1)) (kTab_at (pc := 1) tX3_put_ok 1 rfl) fl_X3_9 (lay_0 h0 rfl) rfl rfl ?_
  refine K_iload_n (md := mX3_put) (pc := 4) 2 (kTab_at (pc := 4) tX3_put_ok 2 rfl) rfl ?_
  refine Z_iald (md := mX3_put) (pc := 5) (kTab_at (pc := 5) tX3_put_ok 3 rfl) (lay_at h0 1 rfl) (by decide) h (fun x1 h => ?_)
  refine K_istore (md := mX3_put) (pc := 6) (l' := [(4, .int (iI x1)), (0, .ref (X.1 + p0)), (1, .int (iI p1)), (2, .int (iI p2)), (3, .int (iI p3))]) (kTab_at (pc := 6) tX3_put_ok 4 rfl) (Nat.le_of_ble_eq_true rfl) rfl ?_
  refine K_iload (md := mX3_put) (pc := 8) 0 (kTab_at (pc := 8) tX3_put_ok 5 rfl) rfl ?_
  refine K_iconst (md := mX3_put) (pc := 10) (x := 3) (kTab_at (pc := 10) tX3_put_ok 6 rfl) rfl ?_
  refine K_icmp_ge (md := mX3_put) (pc := 11) (kTab_at (pc := 11) tX3_put_ok 7 rfl) (tgt := 78) rfl h (fun h => ?_) (fun h => ?_)
  · refine K_sub [1, 3] rfl ?_
    refine c_X3_put_78 X p0 p1 p2 p3 h0  μ h
  · refine K_aload_n (md := mX3_put) (pc := 14) 1 (kTab_at (pc := 14) tX3_put_ok 8 rfl) rfl ?_
    refine Z_getI (md := mX3_put) (pc := 15) (kTab_at (pc := 15) tX3_put_ok 9 rfl) fl_X3_28 (lay_0 h0 rfl) (Or.inl rfl) h (fun x2 h => ?_)
    refine K_bipush (md := mX3_put) (pc := 18) (x := 120) (kTab_at (pc := 18) tX3_put_ok 10 rfl) (by decide) ?_
    refine K_icmp_ge (md := mX3_put) (pc := 20) (kTab_at (pc := 20) tX3_put_ok 11 rfl) (tgt := 78) rfl h (fun h => ?_) (fun h => ?_)
    · refine K_sub [1, 3] rfl ?_
      refine c_X3_put_78 X p0 p1 p2 p3 h0  μ h
    · refine K_iload_n (md := mX3_put) (pc := 23) 3 (kTab_at (pc := 23) tX3_put_ok 12 rfl) rfl ?_
      refine K_iconst (md := mX3_put) (pc := 24) (x := 3) (kTab_at (pc := 24) tX3_put_ok 13 rfl) rfl ?_
      refine K_imul (md := mX3_put) (pc := 25) (kTab_at (pc := 25) tX3_put_ok 14 rfl) ?_
      refine K_iload (md := mX3_put) (pc := 26) 0 (kTab_at (pc := 26) tX3_put_ok 15 rfl) rfl ?_
      refine K_iadd (md := mX3_put) (pc := 28) (kTab_at (pc := 28) tX3_put_ok 16 rfl) ?_
      refine Z_bnd (md := mX3_put) (pc := 29) h (fun x3 h => ?_)
      refine K_istore (md := mX3_put) (pc := 29) (l' := [(5, .int (iI x3)), (4, .int (iI x1)), (0, .ref (X.1 + p0)), (1, .int (iI p1)), (2, .int (iI p2)), (3, .int (iI p3))]) (kTab_at (pc := 29) tX3_put_ok 17 rfl) (Nat.le_of_ble_eq_true rfl) rfl ?_
      refine K_aload_n (md := mX3_put) (pc := 31) 2 (kTab_at (pc := 31) tX3_put_ok 18 rfl) rfl ?_
      refine K_getR (md := mX3_put) (pc := 32) (b := (p0 + 2)) (kTab_at (pc := 32) tX3_put_ok 19 rfl) fl_X3_15 (lay_0 h0 rfl) rfl rfl ?_
      refine K_iload (md := mX3_put) (pc := 35) 0 (kTab_at (pc := 35) tX3_put_ok 20 rfl) rfl ?_
      refine K_iload_n (md := mX3_put) (pc := 37) 3 (kTab_at (pc := 37) tX3_put_ok 21 rfl) rfl ?_
      refine Z_iast (md := mX3_put) (pc := 38) (kTab_at (pc := 38) tX3_put_ok 22 rfl) (lay_at h0 2 rfl) (by decide) h (fun μ h => ?_)
      refine K_aload_n (md := mX3_put) (pc := 39) 2 (kTab_at (pc := 39) tX3_put_ok 23 rfl) rfl ?_
      refine K_getR (md := mX3_put) (pc := 40) (b := (p0 + 3)) (kTab_at (pc := 40) tX3_put_ok 24 rfl) fl_X3_18 (lay_0 h0 rfl) rfl rfl ?_
      refine K_iload (md := mX3_put) (pc := 43) 0 (kTab_at (pc := 43) tX3_put_ok 25 rfl) rfl ?_
      refine K_iload_n (md := mX3_put) (pc := 45) 5 (kTab_at (pc := 45) tX3_put_ok 26 rfl) rfl ?_
      refine Z_iast (md := mX3_put) (pc := 46) (kTab_at (pc := 46) tX3_put_ok 27 rfl) (lay_at h0 3 rfl) (by decide) h (fun μ h => ?_)
      refine K_aload_n (md := mX3_put) (pc := 47) 2 (kTab_at (pc := 47) tX3_put_ok 28 rfl) rfl ?_
      refine K_getR (md := mX3_put) (pc := 48) (b := (p0 + 4)) (kTab_at (pc := 48) tX3_put_ok 29 rfl) fl_X3_21 (lay_0 h0 rfl) rfl rfl ?_
      refine K_aload_n (md := mX3_put) (pc := 51) 2 (kTab_at (pc := 51) tX3_put_ok 30 rfl) rfl ?_
      refine Z_getI (md := mX3_put) (pc := 52) (kTab_at (pc := 52) tX3_put_ok 31 rfl) fl_X3_28 (lay_0 h0 rfl) (Or.inl rfl) h (fun x4 h => ?_)
      refine K_iload (md := mX3_put) (pc := 55) 0 (kTab_at (pc := 55) tX3_put_ok 32 rfl) rfl ?_
      refine Z_iast (md := mX3_put) (pc := 57) (kTab_at (pc := 57) tX3_put_ok 33 rfl) (lay_at h0 4 rfl) (by decide) h (fun μ h => ?_)
      refine K_aload_n (md := mX3_put) (pc := 58) 2 (kTab_at (pc := 58) tX3_put_ok 34 rfl) rfl ?_
      refine K_dup (md := mX3_put) (pc := 59) (kTab_at (pc := 59) tX3_put_ok 35 rfl) rfl ?_
      refine Z_getI (md := mX3_put) (pc := 60) (kTab_at (pc := 60) tX3_put_ok 36 rfl) fl_X3_28 (lay_0 h0 rfl) (Or.inl rfl) h (fun x5 h => ?_)
      refine K_iconst (md := mX3_put) (pc := 63) (x := 1) (kTab_at (pc := 63) tX3_put_ok 37 rfl) rfl ?_
      refine K_iadd (md := mX3_put) (pc := 64) (kTab_at (pc := 64) tX3_put_ok 38 rfl) ?_
      refine Z_putI (md := mX3_put) (pc := 65) (kTab_at (pc := 65) tX3_put_ok 39 rfl) fl_X3_28 (lay_0 h0 rfl) rfl h (fun μ h => ?_)
      refine K_aload_n (md := mX3_put) (pc := 68) 2 (kTab_at (pc := 68) tX3_put_ok 40 rfl) rfl ?_
      refine K_getR (md := mX3_put) (pc := 69) (b := (p0 + 1)) (kTab_at (pc := 69) tX3_put_ok 41 rfl) fl_X3_9 (lay_0 h0 rfl) rfl rfl ?_
      refine K_iload_n (md := mX3_put) (pc := 72) 4 (kTab_at (pc := 72) tX3_put_ok 42 rfl) rfl ?_
      refine K_iload (md := mX3_put) (pc := 73) 1 (kTab_at (pc := 73) tX3_put_ok 43 rfl) rfl ?_
      refine K_iconst (md := mX3_put) (pc := 75) (x := 1) (kTab_at (pc := 75) tX3_put_ok 44 rfl) rfl ?_
      refine K_iadd (md := mX3_put) (pc := 76) (kTab_at (pc := 76) tX3_put_ok 45 rfl) ?_
      refine Z_iast (md := mX3_put) (pc := 77) (kTab_at (pc := 77) tX3_put_ok 46 rfl) (lay_at h0 1 rfl) (by decide) h (fun μ h => ?_)
      refine K_sub [2, 4] rfl ?_
      refine c_X3_put_78 X p0 p1 p2 p3 h0  μ h
def f_X1_makeEntry (p0 : Nat) (p1 : Int) (p2 : Int) (p3 : Int) (μ : Mu) : Option Res := i_rem p2 5 fun x1 => rb (f_X1_earn p0 p1 x1 μ) fun μ _ => rb (f_X3_put (p0 + 11) p1 p2 p3 μ) fun μ x2 => some (μ, 0, x2)
set_option maxRecDepth 100000 in
theorem c_X1_makeEntry (X : kX) (p0 : Nat) (p1 : Int) (p2 : Int) (p3 : Int) (h0 : Lay p0 (ksX1 p0)) (μ : Mu) : Cq X mX1_makeEntry 1 1 μ [.ref (X.1 + p0), .int (iI p1), .int (iI p2), .int (iI p3)] (f_X1_makeEntry p0 p1 p2 p3 μ) := by
  intro res h
  refine ct_of (by decide +kernel) rfl (Nat.le_of_ble_eq_true rfl) ?_
  show KK X mX1_makeEntry 1 1 res 0 [(0, .ref (X.1 + p0)), (1, .int (iI p1)), (2, .int (iI p2)), (3, .int (iI p3))] [] μ
  unfold f_X1_makeEntry at h
  refine K_aload_n (md := mX1_makeEntry) (pc := 0) 0 (kTab_at (pc := 0) tX1_makeEntry_ok 0 rfl) rfl ?_
  refine K_iload_n (md := mX1_makeEntry) (pc := 1) 1 (kTab_at (pc := 1) tX1_makeEntry_ok 1 rfl) rfl ?_
  refine K_iload_n (md := mX1_makeEntry) (pc := 2) 2 (kTab_at (pc := 2) tX1_makeEntry_ok 2 rfl) rfl ?_
  refine K_iconst (md := mX1_makeEntry) (pc := 3) (x := 5) (kTab_at (pc := 3) tX1_makeEntry_ok 3 rfl) rfl ?_
  refine Z_irem (md := mX1_makeEntry) (pc := 4) (kTab_at (pc := 4) tX1_makeEntry_ok 4 rfl) h (fun x1 h => ?_)
  refine Z_callV (md := mX1_makeEntry) (pc := 5) (st := []) (sv := (fun _ => [])) (kTab_at (pc := 5) tX1_makeEntry_ok 5 rfl) mv_X1_103 (lay_0 h0 rfl) rfl (Nat.le_of_ble_eq_true rfl) (by decide) rfl (c_X1_earn X p0 p1 x1 h0 μ) (fun _ => rfl) h (fun μ _ h => ?_) rfl
  refine K_aload_n (md := mX1_makeEntry) (pc := 8) 0 (kTab_at (pc := 8) tX1_makeEntry_ok 6 rfl) rfl ?_
  refine K_getR (md := mX1_makeEntry) (pc := 9) (b := (p0 + 11)) (kTab_at (pc := 9) tX1_makeEntry_ok 7 rfl) fl_X1_40 (lay_0 h0 rfl) rfl rfl ?_
  refine K_iload_n (md := mX1_makeEntry) (pc := 12) 1 (kTab_at (pc := 12) tX1_makeEntry_ok 8 rfl) rfl ?_
  refine K_iload_n (md := mX1_makeEntry) (pc := 13) 2 (kTab_at (pc := 13) tX1_makeEntry_ok 9 rfl) rfl ?_
  refine K_iload_n (md := mX1_makeEntry) (pc := 14) 3 (kTab_at (pc := 14) tX1_makeEntry_ok 10 rfl) rfl ?_
  refine Z_callV (md := mX1_makeEntry) (pc := 15) (st := []) (sv := (fun x2 => [.int (iI x2)])) (kTab_at (pc := 15) tX1_makeEntry_ok 11 rfl) mv_X1_107 (lay_0 (lay_entries h0) rfl) rfl (Nat.le_of_ble_eq_true rfl) (by decide) rfl (c_X3_put X (p0 + 11) p1 p2 p3 (lay_entries h0) μ) (fun _ => rfl) h (fun μ x2 h => ?_) rfl
  exact Z_iret (md := mX1_makeEntry) (pc := 18) (kTab_at (pc := 18) tX1_makeEntry_ok 12 rfl) rfl rfl rfl h
def f_X10_isBelow_14 (p0 : Int) (p1 : Int)  (s0 : Int) (μ : Mu) : Option Res := retZ μ s0
set_option maxRecDepth 100000 in
theorem n_X10_isBelow_14 (p0 : Int) (p1 : Int)   (s0 : Int) (μ : Mu) : nth (f_X10_isBelow_14 p0 p1 s0 μ) := by
  unfold f_X10_isBelow_14
  repeat (first | with_reducible exact nth_s _ _ | with_reducible exact nth_Z _ _ | with_reducible apply nth_ilt | with_reducible apply nth_ieq | with_reducible apply nth_llt | with_reducible apply nth_leq | (with_reducible apply nth_rdI; intro _) | (with_reducible apply nth_wrI; intro _) | (with_reducible apply nth_bnd; intro _) | (with_reducible apply nth_idiv; intro _) | (with_reducible apply nth_irem; intro _) | (with_reducible apply nth_ldiv; intro _) | (with_reducible apply nth_lrem; intro _) | (with_reducible apply nth_max; intro _) | (with_reducible apply nth_min; intro _) | (with_reducible apply nth_cpy; intro _) | with_reducible exact ih _ | with_reducible exact ih _ _ | with_reducible exact ih _ _ _ | with_reducible exact ih _ _ _ _)
set_option maxRecDepth 100000 in
theorem c_X10_isBelow_14 (X : kX) (p0 : Int) (p1 : Int)  {res : Res}  (s0 : Int) (μ : Mu) (h : f_X10_isBelow_14 p0 p1 s0 μ = some res) : KK X mX10_isBelow 0 1 res 14 [] [.int (iI s0)] μ := by
  unfold f_X10_isBelow_14 at h
  exact Z_zret (md := mX10_isBelow) (pc := 14) (kTab_at (pc := 14) tX10_isBelow_ok 8 rfl) rfl rfl h
def f_X10_isBelow_13 (p0 : Int) (p1 : Int)   (μ : Mu) : Option Res := f_X10_isBelow_14 p0 p1 0 μ
set_option maxRecDepth 100000 in
theorem n_X10_isBelow_13 (p0 : Int) (p1 : Int)    (μ : Mu) : nth (f_X10_isBelow_13 p0 p1 μ) := by
  unfold f_X10_isBelow_13
  repeat (first | with_reducible exact nth_s _ _ | with_reducible exact nth_Z _ _ | with_reducible apply nth_ilt | with_reducible apply nth_ieq | with_reducible apply nth_llt | with_reducible apply nth_leq | (with_reducible apply nth_rdI; intro _) | (with_reducible apply nth_wrI; intro _) | (with_reducible apply nth_bnd; intro _) | (with_reducible apply nth_idiv; intro _) | (with_reducible apply nth_irem; intro _) | (with_reducible apply nth_ldiv; intro _) | (with_reducible apply nth_lrem; intro _) | (with_reducible apply nth_max; intro _) | (with_reducible apply nth_min; intro _) | (with_reducible apply nth_cpy; intro _) | with_reducible exact ih _ | with_reducible exact ih _ _ | with_reducible exact ih _ _ _ | with_reducible exact ih _ _ _ _ | (with_reducible refine n_X10_isBelow_14 _ _ _ _; all_goals (try intros)))
set_option maxRecDepth 100000 in
theorem c_X10_isBelow_13 (X : kX) (p0 : Int) (p1 : Int)  {res : Res}  (μ : Mu) (h : f_X10_isBelow_13 p0 p1 μ = some res) : KK X mX10_isBelow 0 1 res 13 [] [] μ := by
  unfold f_X10_isBelow_13 at h
  refine K_iconst (md := mX10_isBelow) (pc := 13) (x := 0) (kTab_at (pc := 13) tX10_isBelow_ok 7 rfl) rfl ?_
  refine c_X10_isBelow_14 X p0 p1  0 μ h
def f_X10_isBelow (p0 : Int) (p1 : Int) (μ : Mu) : Option Res := i_lt p0 0 (f_X10_isBelow_13 p0 p1 μ) (i_lt p0 p1 (f_X10_isBelow_14 p0 p1 1 μ) (f_X10_isBelow_13 p0 p1 μ))
set_option maxRecDepth 100000 in
theorem c_X10_isBelow (X : kX) (p0 : Int) (p1 : Int)  (μ : Mu) : Cq X mX10_isBelow 0 1 μ [.int (iI p0), .int (iI p1)] (f_X10_isBelow p0 p1 μ) := by
  intro res h
  refine ct_of (by decide +kernel) rfl (Nat.le_of_ble_eq_true rfl) ?_
  show KK X mX10_isBelow 0 1 res 0 [(0, .int (iI p0)), (1, .int (iI p1))] [] μ
  unfold f_X10_isBelow at h
  refine K_iload_n (md := mX10_isBelow) (pc := 0) 0 (kTab_at (pc := 0) tX10_isBelow_ok 0 rfl) rfl ?_
  refine K_if_lt (md := mX10_isBelow) (pc := 1) (kTab_at (pc := 1) tX10_isBelow_ok 1 rfl) (tgt := 13) rfl h (fun h => ?_) (fun h => ?_)
  · refine K_sub [] rfl ?_
    refine c_X10_isBelow_13 X p0 p1  μ h
  · refine K_iload_n (md := mX10_isBelow) (pc := 4) 0 (kTab_at (pc := 4) tX10_isBelow_ok 2 rfl) rfl ?_
    refine K_iload_n (md := mX10_isBelow) (pc := 5) 1 (kTab_at (pc := 5) tX10_isBelow_ok 3 rfl) rfl ?_
    refine K_icmp_ge (md := mX10_isBelow) (pc := 6) (kTab_at (pc := 6) tX10_isBelow_ok 4 rfl) (tgt := 13) rfl h (fun h => ?_) (fun h => ?_)
    · refine K_sub [] rfl ?_
      refine c_X10_isBelow_13 X p0 p1  μ h
    · refine K_iconst (md := mX10_isBelow) (pc := 9) (x := 1) (kTab_at (pc := 9) tX10_isBelow_ok 5 rfl) rfl ?_
      refine K_goto (md := mX10_isBelow) (pc := 10) (tgt := 14) (kTab_at (pc := 10) tX10_isBelow_ok 6 rfl) rfl ?_
      refine K_sub [] rfl ?_
      refine c_X10_isBelow_14 X p0 p1  1 μ h
set_option maxRecDepth 100000 in
theorem n_X10_isBelow (p0 : Int) (p1 : Int) (μ : Mu) : nth (f_X10_isBelow p0 p1 μ) := by
  unfold f_X10_isBelow
  repeat (first | with_reducible exact nth_s _ _ | with_reducible exact nth_Z _ _ | with_reducible apply nth_ilt | with_reducible apply nth_ieq | with_reducible apply nth_llt | with_reducible apply nth_leq | (with_reducible apply nth_rdI; intro _) | (with_reducible apply nth_wrI; intro _) | (with_reducible apply nth_bnd; intro _) | (with_reducible apply nth_idiv; intro _) | (with_reducible apply nth_irem; intro _) | (with_reducible apply nth_ldiv; intro _) | (with_reducible apply nth_lrem; intro _) | (with_reducible apply nth_max; intro _) | (with_reducible apply nth_min; intro _) | (with_reducible apply nth_cpy; intro _) | with_reducible exact ih _ | with_reducible exact ih _ _ | with_reducible exact ih _ _ _ | with_reducible exact ih _ _ _ _ | (with_reducible refine n_X10_isBelow_14 _ _ _ _; all_goals (try intros)) | (with_reducible refine n_X10_isBelow_13 _ _ _; all_goals (try intros)))

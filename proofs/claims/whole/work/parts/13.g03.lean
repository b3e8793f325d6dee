def f_X1_gradedCandidates_24 (p0 : Nat) (k4 : Int → Int → Mu → Option Res) (v2 : Int) (s0 : Int) (s1 : Int) (μ : Mu) : Option Res := bnd (s0 + s1) fun x1 => k4 x1 (v2 + 1) μ
set_option maxRecDepth 100000 in
theorem c_X1_gradedCandidates_24 (X : kX) (p0 : Nat) (h0 : Lay p0 (ksX1 p0)) {res : Res} (k4 : Int → Int → Mu → Option Res) (hk4 : ∀ (v1 : Int), ∀ (v2 : Int), ∀ (μ : Mu), k4 v1 v2 μ = some res → KK X mX1_gradedCandidates 2 1 res 4 [(0, .ref (X.1 + p0)), (1, .int (iI v1)), (2, .int (iI v2))] [] μ) (v2 : Int) (s0 : Int) (s1 : Int) (μ : Mu) (h : f_X1_gradedCandidates_24 p0 k4 v2 s0 s1 μ = some res) : KK X mX1_gradedCandidates 2 1 res 24 [(0, .ref (X.1 + p0)), (2, .int (iI v2))] [.int (iI s1), .int (iI s0)] μ := by
  unfold f_X1_gradedCandidates_24 at h
  refine K_iadd (md := mX1_gradedCandidates) (pc := 24) (kTab_at (pc := 24) tX1_gradedCandidates_ok 15 rfl) ?_
  refine Z_bnd (md := mX1_gradedCandidates) (pc := 25) h (fun x1 h => ?_)
  refine K_istore_n (md := mX1_gradedCandidates) (pc := 25) (l' := [(1, .int (iI x1)), (0, .ref (X.1 + p0)), (2, .int (iI v2))]) (kTab_at (pc := 25) tX1_gradedCandidates_ok 16 rfl) (Nat.le_of_ble_eq_true rfl) rfl ?_
  refine K_iinc (md := mX1_gradedCandidates) (pc := 26) (l' := [(2, .int (iI (v2 + 1))), (1, .int (iI x1)), (0, .ref (X.1 + p0))]) 2 (kTab_at (pc := 26) tX1_gradedCandidates_ok 17 rfl) rfl (Nat.le_of_ble_eq_true rfl) rfl ?_
  refine K_goto (md := mX1_gradedCandidates) (pc := 29) (tgt := 4) (kTab_at (pc := 29) tX1_gradedCandidates_ok 18 rfl) rfl ?_
  refine K_sub [2, 1, 0] rfl ?_
  exact hk4 x1 (v2 + 1) μ h
def f_X1_gradedCandidates_4 (p0 : Nat) (k32 : Int → Mu → Option Res) : Nat → Int → Int → Mu → Option Res
  | 0, _, _, _ => none
  | fu + 1, v1, v2, μ => i_lt v2 8 (rb (f_X1_hasGrade p0 v2 μ) fun μ x1 => i_eq x1 0 (f_X1_gradedCandidates_24 p0 (f_X1_gradedCandidates_4 p0 k32 fu) v2 v1 0 μ) (f_X1_gradedCandidates_24 p0 (f_X1_gradedCandidates_4 p0 k32 fu) v2 v1 1 μ)) (k32 v1 μ)
set_option maxRecDepth 100000 in
theorem c_X1_gradedCandidates_4 (X : kX) (p0 : Nat) (h0 : Lay p0 (ksX1 p0)) {res : Res} (k32 : Int → Mu → Option Res) (hk32 : ∀ (v1 : Int), ∀ (μ : Mu), k32 v1 μ = some res → KK X mX1_gradedCandidates 2 1 res 32 [(1, .int (iI v1))] [] μ) : ∀ (fu : Nat)  (v1 : Int) (v2 : Int) (μ : Mu), f_X1_gradedCandidates_4 p0 k32 fu v1 v2 μ = some res → KK X mX1_gradedCandidates 2 1 res 4 [(0, .ref (X.1 + p0)), (1, .int (iI v1)), (2, .int (iI v2))] [] μ := by
  intro fu
  induction fu with
  | zero => intro v1 v2 μ h; exact nomatch h
  | succ fu ih =>
    intro v1 v2 μ h
    refine K_iload_n (md := mX1_gradedCandidates) (pc := 4) 2 (kTab_at (pc := 4) tX1_gradedCandidates_ok 4 rfl) rfl ?_
    refine K_bipush (md := mX1_gradedCandidates) (pc := 5) (x := 8) (kTab_at (pc := 5) tX1_gradedCandidates_ok 5 rfl) (by decide) ?_
    refine K_icmp_ge (md := mX1_gradedCandidates) (pc := 7) (kTab_at (pc := 7) tX1_gradedCandidates_ok 6 rfl) (tgt := 32) rfl h (fun h => ?_) (fun h => ?_)
    · refine K_sub [1] rfl ?_
      exact hk32 v1 μ h
    · refine K_iload_n (md := mX1_gradedCandidates) (pc := 10) 1 (kTab_at (pc := 10) tX1_gradedCandidates_ok 7 rfl) rfl ?_
      refine K_aload_n (md := mX1_gradedCandidates) (pc := 11) 0 (kTab_at (pc := 11) tX1_gradedCandidates_ok 8 rfl) rfl ?_
      refine K_iload_n (md := mX1_gradedCandidates) (pc := 12) 2 (kTab_at (pc := 12) tX1_gradedCandidates_ok 9 rfl) rfl ?_
      refine Z_callV (md := mX1_gradedCandidates) (pc := 13) (st := [.int (iI v1)]) (sv := (fun x1 => [.int (iI x1), .int (iI v1)])) (kTab_at (pc := 13) tX1_gradedCandidates_ok 10 rfl) mv_X1_163 (lay_0 h0 rfl) rfl (Nat.le_of_ble_eq_true rfl) (by decide) rfl (c_X1_hasGrade X p0 v2 h0 μ) (fun _ => rfl) h (fun μ x1 h => ?_) rfl
      refine K_if_eq (md := mX1_gradedCandidates) (pc := 16) (kTab_at (pc := 16) tX1_gradedCandidates_ok 11 rfl) (tgt := 23) rfl h (fun h => ?_) (fun h => ?_)
      · refine K_iconst (md := mX1_gradedCandidates) (pc := 23) (x := 0) (kTab_at (pc := 23) tX1_gradedCandidates_ok 14 rfl) rfl ?_
        refine K_sub [0, 2] rfl ?_
        refine c_X1_gradedCandidates_24 X p0 h0 _ ih v2 v1 0 μ h
      · refine K_iconst (md := mX1_gradedCandidates) (pc := 19) (x := 1) (kTab_at (pc := 19) tX1_gradedCandidates_ok 12 rfl) rfl ?_
        refine K_goto (md := mX1_gradedCandidates) (pc := 20) (tgt := 24) (kTab_at (pc := 20) tX1_gradedCandidates_ok 13 rfl) rfl ?_
        refine K_sub [0, 2] rfl ?_
        refine c_X1_gradedCandidates_24 X p0 h0 _ ih v2 v1 1 μ h
def f_X1_gradedCandidates (p0 : Nat) (μ : Mu) : Option Res := f_X1_gradedCandidates_4 p0 (fun v1 μ => some (μ, 0, v1)) FU 0 0 μ
set_option maxRecDepth 100000 in
theorem c_X1_gradedCandidates (X : kX) (p0 : Nat) (h0 : Lay p0 (ksX1 p0)) (μ : Mu) : Cq X mX1_gradedCandidates 2 1 μ [.ref (X.1 + p0)] (f_X1_gradedCandidates p0 μ) := by
  intro res h
  refine ct_of (by decide +kernel) rfl (Nat.le_of_ble_eq_true rfl) ?_
  show KK X mX1_gradedCandidates 2 1 res 0 [(0, .ref (X.1 + p0))] [] μ
  unfold f_X1_gradedCandidates at h
  refine K_iconst (md := mX1_gradedCandidates) (pc := 0) (x := 0) (kTab_at (pc := 0) tX1_gradedCandidates_ok 0 rfl) rfl ?_
  refine K_istore_n (md := mX1_gradedCandidates) (pc := 1) (l' := [(1, .int (iI 0)), (0, .ref (X.1 + p0))]) (kTab_at (pc := 1) tX1_gradedCandidates_ok 1 rfl) (Nat.le_of_ble_eq_true rfl) rfl ?_
  refine K_iconst (md := mX1_gradedCandidates) (pc := 2) (x := 0) (kTab_at (pc := 2) tX1_gradedCandidates_ok 2 rfl) rfl ?_
  refine K_istore_n (md := mX1_gradedCandidates) (pc := 3) (l' := [(2, .int (iI 0)), (1, .int (iI 0)), (0, .ref (X.1 + p0))]) (kTab_at (pc := 3) tX1_gradedCandidates_ok 3 rfl) (Nat.le_of_ble_eq_true rfl) rfl ?_
  refine K_sub [2, 1, 0] rfl ?_
  refine c_X1_gradedCandidates_4 X p0 h0 _ ?_ _ 0 0 μ h
  · intro v1 μ h
    refine K_iload_n (md := mX1_gradedCandidates) (pc := 32) 0 (kTab_at (pc := 32) tX1_gradedCandidates_ok 19 rfl) rfl ?_
    exact Z_iret (md := mX1_gradedCandidates) (pc := 33) (kTab_at (pc := 33) tX1_gradedCandidates_ok 20 rfl) rfl rfl rfl h
def f_X1_disputedScripts_35 (p0 : Nat) (k4 : Int → Int → Mu → Option Res) (v1 : Int) (v2 : Int) (μ : Mu) : Option Res := k4 v1 (v2 + 1) μ
set_option maxRecDepth 100000 in
theorem c_X1_disputedScripts_35 (X : kX) (p0 : Nat) (h0 : Lay p0 (ksX1 p0)) {res : Res} (k4 : Int → Int → Mu → Option Res) (hk4 : ∀ (v1 : Int), ∀ (v2 : Int), ∀ (μ : Mu), k4 v1 v2 μ = some res → KK X mX1_disputedScripts 5 1 res 4 [(0, .ref (X.1 + p0)), (1, .int (iI v1)), (2, .int (iI v2))] [] μ) (v1 : Int) (v2 : Int) (μ : Mu) (h : f_X1_disputedScripts_35 p0 k4 v1 v2 μ = some res) : KK X mX1_disputedScripts 5 1 res 35 [(0, .ref (X.1 + p0)), (1, .int (iI v1)), (2, .int (iI v2))] [] μ := by
  unfold f_X1_disputedScripts_35 at h
  refine K_iinc (md := mX1_disputedScripts) (pc := 35) (l' := [(2, .int (iI (v2 + 1))), (0, .ref (X.1 + p0)), (1, .int (iI v1))]) 2 (kTab_at (pc := 35) tX1_disputedScripts_ok 22 rfl) rfl (Nat.le_of_ble_eq_true rfl) rfl ?_
  refine K_goto (md := mX1_disputedScripts) (pc := 38) (tgt := 4) (kTab_at (pc := 38) tX1_disputedScripts_ok 23 rfl) rfl ?_
  refine K_sub [1, 2, 0] rfl ?_
  exact hk4 v1 (v2 + 1) μ h
def f_X1_disputedScripts_4 (p0 : Nat) (k41 : Int → Mu → Option Res) : Nat → Int → Int → Mu → Option Res
  | 0, _, _, _ => none
  | fu + 1, v1, v2, μ => i_lt v2 40 (rb (f_X1_standingOf p0 v2 μ) fun μ x1 => i_eq x1 2 (i_div v2 5 fun x2 => i_rem v2 5 fun x3 => rb (f_X1_isExcused p0 x2 x3 μ) fun μ x4 => i_eq x4 0 (f_X1_disputedScripts_35 p0 (f_X1_disputedScripts_4 p0 k41 fu) (v1 + 1) v2 μ) (f_X1_disputedScripts_35 p0 (f_X1_disputedScripts_4 p0 k41 fu) v1 v2 μ)) (f_X1_disputedScripts_35 p0 (f_X1_disputedScripts_4 p0 k41 fu) v1 v2 μ)) (k41 v1 μ)
set_option maxRecDepth 100000 in
theorem c_X1_disputedScripts_4 (X : kX) (p0 : Nat) (h0 : Lay p0 (ksX1 p0)) {res : Res} (k41 : Int → Mu → Option Res) (hk41 : ∀ (v1 : Int), ∀ (μ : Mu), k41 v1 μ = some res → KK X mX1_disputedScripts 5 1 res 41 [(1, .int (iI v1))] [] μ) : ∀ (fu : Nat)  (v1 : Int) (v2 : Int) (μ : Mu), f_X1_disputedScripts_4 p0 k41 fu v1 v2 μ = some res → KK X mX1_disputedScripts 5 1 res 4 [(0, .ref (X.1 + p0)), (1, .int (iI v1)), (2, .int (iI v2))] [] μ := by
  intro fu
  induction fu with
  | zero => intro v1 v2 μ h; exact nomatch h
  | succ fu ih =>
    intro v1 v2 μ h
    refine K_iload_n (md := mX1_disputedScripts) (pc := 4) 2 (kTab_at (pc := 4) tX1_disputedScripts_ok 4 rfl) rfl ?_
    refine K_bipush (md := mX1_disputedScripts) (pc := 5) (x := 40) (kTab_at (pc := 5) tX1_disputedScripts_ok 5 rfl) (by decide) ?_
    refine K_icmp_ge (md := mX1_disputedScripts) (pc := 7) (kTab_at (pc := 7) tX1_disputedScripts_ok 6 rfl) (tgt := 41) rfl h (fun h => ?_) (fun h => ?_)
    · refine K_sub [1] rfl ?_
      exact hk41 v1 μ h
    · refine K_aload_n (md := mX1_disputedScripts) (pc := 10) 0 (kTab_at (pc := 10) tX1_disputedScripts_ok 7 rfl) rfl ?_
      refine K_iload_n (md := mX1_disputedScripts) (pc := 11) 2 (kTab_at (pc := 11) tX1_disputedScripts_ok 8 rfl) rfl ?_
      refine Z_callV (md := mX1_disputedScripts) (pc := 12) (st := []) (sv := (fun x1 => [.int (iI x1)])) (kTab_at (pc := 12) tX1_disputedScripts_ok 9 rfl) mv_X1_166 (lay_0 h0 rfl) rfl (Nat.le_of_ble_eq_true rfl) (by decide) rfl (c_X1_standingOf X p0 v2 h0 μ) (fun _ => rfl) h (fun μ x1 h => ?_) rfl
      refine K_iconst (md := mX1_disputedScripts) (pc := 15) (x := 2) (kTab_at (pc := 15) tX1_disputedScripts_ok 10 rfl) rfl ?_
      refine K_icmp_ne (md := mX1_disputedScripts) (pc := 16) (kTab_at (pc := 16) tX1_disputedScripts_ok 11 rfl) (tgt := 35) rfl h (fun h => ?_) (fun h => ?_)
      · refine c_X1_disputedScripts_35 X p0 h0 _ ih v1 v2 μ h
      · refine K_aload_n (md := mX1_disputedScripts) (pc := 19) 0 (kTab_at (pc := 19) tX1_disputedScripts_ok 12 rfl) rfl ?_
        refine K_iload_n (md := mX1_disputedScripts) (pc := 20) 2 (kTab_at (pc := 20) tX1_disputedScripts_ok 13 rfl) rfl ?_
        refine K_iconst (md := mX1_disputedScripts) (pc := 21) (x := 5) (kTab_at (pc := 21) tX1_disputedScripts_ok 14 rfl) rfl ?_
        refine Z_idiv (md := mX1_disputedScripts) (pc := 22) (kTab_at (pc := 22) tX1_disputedScripts_ok 15 rfl) h (fun x2 h => ?_)
        refine K_iload_n (md := mX1_disputedScripts) (pc := 23) 2 (kTab_at (pc := 23) tX1_disputedScripts_ok 16 rfl) rfl ?_
        refine K_iconst (md := mX1_disputedScripts) (pc := 24) (x := 5) (kTab_at (pc := 24) tX1_disputedScripts_ok 17 rfl) rfl ?_
        refine Z_irem (md := mX1_disputedScripts) (pc := 25) (kTab_at (pc := 25) tX1_disputedScripts_ok 18 rfl) h (fun x3 h => ?_)
        refine Z_callV (md := mX1_disputedScripts) (pc := 26) (st := []) (sv := (fun x4 => [.int (iI x4)])) (kTab_at (pc := 26) tX1_disputedScripts_ok 19 rfl) mv_X1_169 (lay_0 h0 rfl) rfl (Nat.le_of_ble_eq_true rfl) (by decide) rfl (c_X1_isExcused X p0 x2 x3 h0 μ) (fun _ => rfl) h (fun μ x4 h => ?_) rfl
        refine K_if_ne (md := mX1_disputedScripts) (pc := 29) (kTab_at (pc := 29) tX1_disputedScripts_ok 20 rfl) (tgt := 35) rfl h (fun h => ?_) (fun h => ?_)
        · refine c_X1_disputedScripts_35 X p0 h0 _ ih v1 v2 μ h
        · refine K_iinc (md := mX1_disputedScripts) (pc := 32) (l' := [(1, .int (iI (v1 + 1))), (0, .ref (X.1 + p0)), (2, .int (iI v2))]) 1 (kTab_at (pc := 32) tX1_disputedScripts_ok 21 rfl) rfl (Nat.le_of_ble_eq_true rfl) rfl ?_
          refine K_sub [1, 0, 2] rfl ?_
          refine c_X1_disputedScripts_35 X p0 h0 _ ih (v1 + 1) v2 μ h
def f_X1_disputedScripts (p0 : Nat) (μ : Mu) : Option Res := f_X1_disputedScripts_4 p0 (fun v1 μ => some (μ, 0, v1)) FU 0 0 μ
set_option maxRecDepth 100000 in
theorem c_X1_disputedScripts (X : kX) (p0 : Nat) (h0 : Lay p0 (ksX1 p0)) (μ : Mu) : Cq X mX1_disputedScripts 5 1 μ [.ref (X.1 + p0)] (f_X1_disputedScripts p0 μ) := by
  intro res h
  refine ct_of (by decide +kernel) rfl (Nat.le_of_ble_eq_true rfl) ?_
  show KK X mX1_disputedScripts 5 1 res 0 [(0, .ref (X.1 + p0))] [] μ
  unfold f_X1_disputedScripts at h
  refine K_iconst (md := mX1_disputedScripts) (pc := 0) (x := 0) (kTab_at (pc := 0) tX1_disputedScripts_ok 0 rfl) rfl ?_
  refine K_istore_n (md := mX1_disputedScripts) (pc := 1) (l' := [(1, .int (iI 0)), (0, .ref (X.1 + p0))]) (kTab_at (pc := 1) tX1_disputedScripts_ok 1 rfl) (Nat.le_of_ble_eq_true rfl) rfl ?_
  refine K_iconst (md := mX1_disputedScripts) (pc := 2) (x := 0) (kTab_at (pc := 2) tX1_disputedScripts_ok 2 rfl) rfl ?_
  refine K_istore_n (md := mX1_disputedScripts) (pc := 3) (l' := [(2, .int (iI 0)), (1, .int (iI 0)), (0, .ref (X.1 + p0))]) (kTab_at (pc := 3) tX1_disputedScripts_ok 3 rfl) (Nat.le_of_ble_eq_true rfl) rfl ?_
  refine K_sub [2, 1, 0] rfl ?_
  refine c_X1_disputedScripts_4 X p0 h0 _ ?_ _ 0 0 μ h
  · intro v1 μ h
    refine K_iload_n (md := mX1_disputedScripts) (pc := 41) 0 (kTab_at (pc := 41) tX1_disputedScripts_ok 24 rfl) rfl ?_
    exact Z_iret (md := mX1_disputedScripts) (pc := 42) (kTab_at (pc := 42) tX1_disputedScripts_ok 25 rfl) rfl rfl rfl h
def f_X1_plainGradeOf_2 (p0 : Nat) (p1 : Int) (k17 : Int → Mu → Option Res) (k25 : Mu → Option Res) : Nat → Int → Mu → Option Res
  | 0, _, _ => none
  | fu + 1, v2, μ => i_lt v2 4 (rdI μ (p0 + 3) 4 v2 fun x1 => i_lt p1 x1 ((f_X1_plainGradeOf_2 p0 p1 k17 k25 fu) (v2 + 1) μ) (k17 v2 μ)) (k25 μ)
set_option maxRecDepth 100000 in
theorem c_X1_plainGradeOf_2 (X : kX) (p0 : Nat) (p1 : Int) (h0 : Lay p0 (ksX1 p0)) {res : Res} (k17 : Int → Mu → Option Res) (hk17 : ∀ (v2 : Int), ∀ (μ : Mu), k17 v2 μ = some res → KK X mX1_plainGradeOf 0 1 res 17 [(2, .int (iI v2))] [] μ) (k25 : Mu → Option Res) (hk25 : ∀ (μ : Mu), k25 μ = some res → KK X mX1_plainGradeOf 0 1 res 25 [] [] μ) : ∀ (fu : Nat)  (v2 : Int) (μ : Mu), f_X1_plainGradeOf_2 p0 p1 k17 k25 fu v2 μ = some res → KK X mX1_plainGradeOf 0 1 res 2 [(0, .ref (X.1 + p0)), (1, .int (iI p1)), (2, .int (iI v2))] [] μ := by
  intro fu
  induction fu with
  | zero => intro v2 μ h; exact nomatch h
  | succ fu ih =>
    intro v2 μ h
    refine K_iload_n (md := mX1_plainGradeOf) (pc := 2) 2 (kTab_at (pc := 2) tX1_plainGradeOf_ok 2 rfl) rfl ?_
    refine K_iconst (md := mX1_plainGradeOf) (pc := 3) (x := 4) (kTab_at (pc := 3) tX1_plainGradeOf_ok 3 rfl) rfl ?_
    refine K_icmp_ge (md := mX1_plainGradeOf) (pc := 4) (kTab_at (pc := 4) tX1_plainGradeOf_ok 4 rfl) (tgt := 25) rfl h (fun h => ?_) (fun h => ?_)
    · refine K_sub [] rfl ?_
      exact hk25 μ h
    · refine K_aload_n (md := mX1_plainGradeOf) (pc := 7) 0 (kTab_at (pc := 7) tX1_plainGradeOf_ok 5 rfl) rfl ?_
      refine K_getR (md := mX1_plainGradeOf) (pc := 8) (b := (p0 + 3)) (kTab_at (pc := 8) tX1_plainGradeOf_ok 6 rfl) fl_X1_18 (lay_0 h0 rfl) rfl rfl ?_
      refine K_iload_n (md := mX1_plainGradeOf) (pc := 11) 2 (kTab_at (pc := 11) tX1_plainGradeOf_ok 7 rfl) rfl ?_
      refine Z_iald (md := mX1_plainGradeOf) (pc := 12) (kTab_at (pc := 12) tX1_plainGradeOf_ok 8 rfl) (lay_at h0 3 rfl) (by decide) h (fun x1 h => ?_)
      refine K_iload_n (md := mX1_plainGradeOf) (pc := 13) 1 (kTab_at (pc := 13) tX1_plainGradeOf_ok 9 rfl) rfl ?_
      refine K_icmp_gt (md := mX1_plainGradeOf) (pc := 14) (kTab_at (pc := 14) tX1_plainGradeOf_ok 10 rfl) (tgt := 19) rfl h (fun h => ?_) (fun h => ?_)
      · refine K_iinc (md := mX1_plainGradeOf) (pc := 19) (l' := [(2, .int (iI (v2 + 1))), (0, .ref (X.1 + p0)), (1, .int (iI p1))]) 2 (kTab_at (pc := 19) tX1_plainGradeOf_ok 13 rfl) rfl (Nat.le_of_ble_eq_true rfl) rfl ?_
        refine K_goto (md := mX1_plainGradeOf) (pc := 22) (tgt := 2) (kTab_at (pc := 22) tX1_plainGradeOf_ok 14 rfl) rfl ?_
        refine K_sub [1, 2, 0] rfl ?_
        exact ih (v2 + 1) μ h
      · refine K_sub [2] rfl ?_
        exact hk17 v2 μ h
def f_X1_plainGradeOf (p0 : Nat) (p1 : Int) (μ : Mu) : Option Res := f_X1_plainGradeOf_2 p0 p1 (fun v2 μ => some (μ, 0, v2)) (fun μ => some (μ, 0, 4)) FU 0 μ
set_option maxRecDepth 100000 in
theorem c_X1_plainGradeOf (X : kX) (p0 : Nat) (p1 : Int) (h0 : Lay p0 (ksX1 p0)) (μ : Mu) : Cq X mX1_plainGradeOf 0 1 μ [.ref (X.1 + p0), .int (iI p1)] (f_X1_plainGradeOf p0 p1 μ) := by
  intro res h
  refine ct_of (by decide +kernel) rfl (Nat.le_of_ble_eq_true rfl) ?_
  show KK X mX1_plainGradeOf 0 1 res 0 [(0, .ref (X.1 + p0)), (1, .int (iI p1))] [] μ
  unfold f_X1_plainGradeOf at h
  refine K_iconst (md := mX1_plainGradeOf) (pc := 0) (x := 0) (kTab_at (pc := 0) tX1_plainGradeOf_ok 0 rfl) rfl ?_
  refine K_istore_n (md := mX1_plainGradeOf) (pc := 1) (l' := [(2, .int (iI 0)), (0, .ref (X.1 + p0)), (1, .int (iI p1))]) (kTab_at (pc := 1) tX1_plainGradeOf_ok 1 rfl) (Nat.le_of_ble_eq_true rfl) rfl ?_
  refine K_sub [1, 2, 0] rfl ?_
  refine c_X1_plainGradeOf_2 X p0 p1 h0 _ ?_ _ ?_ _ 0 μ h
  · intro v2 μ h
    refine K_iload_n (md := mX1_plainGradeOf) (pc := 17) 0 (kTab_at (pc := 17) tX1_plainGradeOf_ok 11 rfl) rfl ?_
    exact Z_iret (md := mX1_plainGradeOf) (pc := 18) (kTab_at (pc := 18) tX1_plainGradeOf_ok 12 rfl) rfl rfl rfl h
  · intro  μ h
    refine K_iconst (md := mX1_plainGradeOf) (pc := 25) (x := 4) (kTab_at (pc := 25) tX1_plainGradeOf_ok 15 rfl) rfl ?_
    exact Z_iret (md := mX1_plainGradeOf) (pc := 26) (kTab_at (pc := 26) tX1_plainGradeOf_ok 16 rfl) rfl rfl rfl h
def f_X2_indexOf_33 (p0 : Nat) (p1 : Int)   (μ : Mu) : Option Res := some (μ, 0, (-1))
set_option maxRecDepth 100000 in
theorem c_X2_indexOf_33 (X : kX) (p0 : Nat) (p1 : Int) (h0 : Lay p0 (ksX2 p0)) {res : Res}  (μ : Mu) (h : f_X2_indexOf_33 p0 p1 μ = some res) : KK X mX2_indexOf 0 1 res 33 [] [] μ := by
  unfold f_X2_indexOf_33 at h
  refine K_iconst (md := mX2_indexOf) (pc := 33) (x := -1) (kTab_at (pc := 33) tX2_indexOf_ok 19 rfl) rfl ?_
  exact Z_iret (md := mX2_indexOf) (pc := 34) (kTab_at (pc := 34) tX2_indexOf_ok 20 rfl) rfl rfl rfl h
def f_X2_indexOf_2 (p0 : Nat) (p1 : Int) (k25 : Int → Mu → Option Res) (k33 : Mu → Option Res) : Nat → Int → Mu → Option Res
  | 0, _, _ => none
  | fu + 1, v2, μ => rdF μ p0 2 fun x1 => i_lt v2 x1 (i_lt v2 5 (rdI μ (p0 + 1) 5 v2 fun x2 => i_eq x2 p1 (k25 v2 μ) ((f_X2_indexOf_2 p0 p1 k25 k33 fu) (v2 + 1) μ)) (k33 μ)) (k33 μ)
set_option maxRecDepth 100000 in
theorem c_X2_indexOf_2 (X : kX) (p0 : Nat) (p1 : Int) (h0 : Lay p0 (ksX2 p0)) {res : Res} (k25 : Int → Mu → Option Res) (hk25 : ∀ (v2 : Int), ∀ (μ : Mu), k25 v2 μ = some res → KK X mX2_indexOf 0 1 res 25 [(2, .int (iI v2))] [] μ) (k33 : Mu → Option Res) (hk33 : ∀ (μ : Mu), k33 μ = some res → KK X mX2_indexOf 0 1 res 33 [] [] μ) : ∀ (fu : Nat)  (v2 : Int) (μ : Mu), f_X2_indexOf_2 p0 p1 k25 k33 fu v2 μ = some res → KK X mX2_indexOf 0 1 res 2 [(0, .ref (X.1 + p0)), (1, .int (iI p1)), (2, .int (iI v2))] [] μ := by
  intro fu
  induction fu with
  | zero => intro v2 μ h; exact nomatch h
  | succ fu ih =>
    intro v2 μ h
    refine K_iload_n (md := mX2_indexOf) (pc := 2) 2 (kTab_at (pc := 2) tX2_indexOf_ok 2 rfl) rfl ?_
    refine K_aload_n (md := mX2_indexOf) (pc := 3) 0 (kTab_at (pc := 3) tX2_indexOf_ok 3 rfl) rfl ?_
    refine Z_getI (md := mX2_indexOf) (pc := 4) (kTab_at (pc := 4) tX2_indexOf_ok 4 rfl) fl_X2_22 (lay_0 h0 rfl) (Or.inl rfl) h (fun x1 h => ?_)
    refine K_icmp_ge (md := mX2_indexOf) (pc := 7) (kTab_at (pc := 7) tX2_indexOf_ok 5 rfl) (tgt := 33) rfl h (fun h => ?_) (fun h => ?_)
    · refine K_sub [] rfl ?_
      exact hk33 μ h
    · refine K_iload_n (md := mX2_indexOf) (pc := 10) 2 (kTab_at (pc := 10) tX2_indexOf_ok 6 rfl) rfl ?_
      refine K_iconst (md := mX2_indexOf) (pc := 11) (x := 5) (kTab_at (pc := 11) tX2_indexOf_ok 7 rfl) rfl ?_
      refine K_icmp_ge (md := mX2_indexOf) (pc := 12) (kTab_at (pc := 12) tX2_indexOf_ok 8 rfl) (tgt := 33) rfl h (fun h => ?_) (fun h => ?_)
      · refine K_sub [] rfl ?_
        exact hk33 μ h
      · refine K_aload_n (md := mX2_indexOf) (pc := 15) 0 (kTab_at (pc := 15) tX2_indexOf_ok 9 rfl) rfl ?_
        refine K_getR (md := mX2_indexOf) (pc := 16) (b := (p0 + 1)) (kTab_at (pc := 16) tX2_indexOf_ok 10 rfl) fl_X2_9 (lay_0 h0 rfl) rfl rfl ?_
        refine K_iload_n (md := mX2_indexOf) (pc := 19) 2 (kTab_at (pc := 19) tX2_indexOf_ok 11 rfl) rfl ?_
        refine Z_iald (md := mX2_indexOf) (pc := 20) (kTab_at (pc := 20) tX2_indexOf_ok 12 rfl) (lay_at h0 1 rfl) (by decide) h (fun x2 h => ?_)
        refine K_iload_n (md := mX2_indexOf) (pc := 21) 1 (kTab_at (pc := 21) tX2_indexOf_ok 13 rfl) rfl ?_
        refine K_icmp_ne (md := mX2_indexOf) (pc := 22) (kTab_at (pc := 22) tX2_indexOf_ok 14 rfl) (tgt := 27) rfl h (fun h => ?_) (fun h => ?_)
        · refine K_iinc (md := mX2_indexOf) (pc := 27) (l' := [(2, .int (iI (v2 + 1))), (0, .ref (X.1 + p0)), (1, .int (iI p1))]) 2 (kTab_at (pc := 27) tX2_indexOf_ok 17 rfl) rfl (Nat.le_of_ble_eq_true rfl) rfl ?_
          refine K_goto (md := mX2_indexOf) (pc := 30) (tgt := 2) (kTab_at (pc := 30) tX2_indexOf_ok 18 rfl) rfl ?_
          refine K_sub [1, 2, 0] rfl ?_
          exact ih (v2 + 1) μ h
        · refine K_sub [2] rfl ?_
          exact hk25 v2 μ h
def f_X2_indexOf (p0 : Nat) (p1 : Int) (μ : Mu) : Option Res := f_X2_indexOf_2 p0 p1 (fun v2 μ => some (μ, 0, v2)) (fun μ => f_X2_indexOf_33 p0 p1 μ) FU 0 μ
set_option maxRecDepth 100000 in
theorem c_X2_indexOf (X : kX) (p0 : Nat) (p1 : Int) (h0 : Lay p0 (ksX2 p0)) (μ : Mu) : Cq X mX2_indexOf 0 1 μ [.ref (X.1 + p0), .int (iI p1)] (f_X2_indexOf p0 p1 μ) := by
  intro res h
  refine ct_of (by decide +kernel) rfl (Nat.le_of_ble_eq_true rfl) ?_
  show KK X mX2_indexOf 0 1 res 0 [(0, .ref (X.1 + p0)), (1, .int (iI p1))] [] μ
  unfold f_X2_indexOf at h
  refine K_iconst (md := mX2_indexOf) (pc := 0) (x := 0) (kTab_at (pc := 0) tX2_indexOf_ok 0 rfl) rfl ?_
  refine K_istore_n (md := mX2_indexOf) (pc := 1) (l' := [(2, .int (iI 0)), (0, .ref (X.1 + p0)), (1, .int (iI p1))]) (kTab_at (pc := 1) tX2_indexOf_ok 1 rfl) (Nat.le_of_ble_eq_true rfl) rfl ?_
  refine K_sub [1, 2, 0] rfl ?_
  refine c_X2_indexOf_2 X p0 p1 h0 _ ?_ _ ?_ _ 0 μ h
  · intro v2 μ h
    refine K_iload_n (md := mX2_indexOf) (pc := 25) 0 (kTab_at (pc := 25) tX2_indexOf_ok 15 rfl) rfl ?_
    exact Z_iret (md := mX2_indexOf) (pc := 26) (kTab_at (pc := 26) tX2_indexOf_ok 16 rfl) rfl rfl rfl h
  · intro  μ h
    refine c_X2_indexOf_33 X p0 p1 h0  μ h
def f_X2_put_101 (p0 : Nat) (p1 : Int) (p2 : Int)   (μ : Mu) : Option Res := rdF μ p0 2 fun x1 => some (μ, 0, x1)
set_option maxRecDepth 100000 in
theorem c_X2_put_101 (X : kX) (p0 : Nat) (p1 : Int) (p2 : Int) (h0 : Lay p0 (ksX2 p0)) {res : Res}  (μ : Mu) (h : f_X2_put_101 p0 p1 p2 μ = some res) : KK X mX2_put 1 1 res 101 [(0, .ref (X.1 + p0))] [] μ := by
  unfold f_X2_put_101 at h
  refine K_aload_n (md := mX2_put) (pc := 101) 0 (kTab_at (pc := 101) tX2_put_ok 63 rfl) rfl ?_
  refine Z_getI (md := mX2_put) (pc := 102) (kTab_at (pc := 102) tX2_put_ok 64 rfl) fl_X2_22 (lay_0 h0 rfl) (Or.inl rfl) h (fun x1 h => ?_)
  exact Z_iret (md := mX2_put) (pc := 105) (kTab_at (pc := 105) tX2_put_ok 65 rfl) rfl rfl rfl h
def f_X2_put_83 (p0 : Nat) (p1 : Int) (p2 : Int)  (v3 : Int) (μ : Mu) : Option Res := i_lt v3 0 (f_X2_put_101 p0 p1 p2 μ) (wrI μ (p0 + 1) 5 v3 p1 fun μ => wrI μ (p0 + 2) 5 v3 p2 fun μ => f_X2_put_101 p0 p1 p2 μ)
set_option maxRecDepth 100000 in
theorem c_X2_put_83 (X : kX) (p0 : Nat) (p1 : Int) (p2 : Int) (h0 : Lay p0 (ksX2 p0)) {res : Res}  (v3 : Int) (μ : Mu) (h : f_X2_put_83 p0 p1 p2 v3 μ = some res) : KK X mX2_put 1 1 res 83 [(0, .ref (X.1 + p0)), (1, .int (iI p1)), (2, .int (iI p2)), (3, .int (iI v3))] [] μ := by
  unfold f_X2_put_83 at h
  refine K_iload_n (md := mX2_put) (pc := 83) 3 (kTab_at (pc := 83) tX2_put_ok 51 rfl) rfl ?_
  refine K_if_lt (md := mX2_put) (pc := 84) (kTab_at (pc := 84) tX2_put_ok 52 rfl) (tgt := 101) rfl h (fun h => ?_) (fun h => ?_)
  · refine K_sub [0] rfl ?_
    refine c_X2_put_101 X p0 p1 p2 h0  μ h
  · refine K_aload_n (md := mX2_put) (pc := 87) 0 (kTab_at (pc := 87) tX2_put_ok 53 rfl) rfl ?_
    refine K_getR (md := mX2_put) (pc := 88) (b := (p0 + 1)) (kTab_at (pc := 88) tX2_put_ok 54 rfl) fl_X2_9 (lay_0 h0 rfl) rfl rfl ?_
    refine K_iload_n (md := mX2_put) (pc := 91) 3 (kTab_at (pc := 91) tX2_put_ok 55 rfl) rfl ?_
    refine K_iload_n (md := mX2_put) (pc := 92) 1 (kTab_at (pc := 92) tX2_put_ok 56 rfl) rfl ?_
    refine Z_iast (md := mX2_put) (pc := 93) (kTab_at (pc := 93) tX2_put_ok 57 rfl) (lay_at h0 1 rfl) (by decide) h (fun μ h => ?_)
    refine K_aload_n (md := mX2_put) (pc := 94) 0 (kTab_at (pc := 94) tX2_put_ok 58 rfl) rfl ?_
    refine K_getR (md := mX2_put) (pc := 95) (b := (p0 + 2)) (kTab_at (pc := 95) tX2_put_ok 59 rfl) fl_X2_15 (lay_0 h0 rfl) rfl rfl ?_
    refine K_iload_n (md := mX2_put) (pc := 98) 3 (kTab_at (pc := 98) tX2_put_ok 60 rfl) rfl ?_
    refine K_iload_n (md := mX2_put) (pc := 99) 2 (kTab_at (pc := 99) tX2_put_ok 61 rfl) rfl ?_
    refine Z_iast (md := mX2_put) (pc := 100) (kTab_at (pc := 100) tX2_put_ok 62 rfl) (lay_at h0 2 rfl) (by decide) h (fun μ h => ?_)
    refine K_sub [0] rfl ?_
    refine c_X2_put_101 X p0 p1 p2 h0  μ h
def f_X2_put_73 (p0 : Nat) (p1 : Int) (p2 : Int)  (v3 : Int) (μ : Mu) : Option Res := rdF μ p0 2 fun x1 => wrF μ p0 2 (x1 + 1) fun μ => f_X2_put_83 p0 p1 p2 v3 μ
set_option maxRecDepth 100000 in
theorem c_X2_put_73 (X : kX) (p0 : Nat) (p1 : Int) (p2 : Int) (h0 : Lay p0 (ksX2 p0)) {res : Res}  (v3 : Int) (μ : Mu) (h : f_X2_put_73 p0 p1 p2 v3 μ = some res) : KK X mX2_put 1 1 res 73 [(0, .ref (X.1 + p0)), (1, .int (iI p1)), (2, .int (iI p2)), (3, .int (iI v3))] [] μ := by
  unfold f_X2_put_73 at h
  refine K_aload_n (md := mX2_put) (pc := 73) 0 (kTab_at (pc := 73) tX2_put_ok 45 rfl) rfl ?_
  refine K_dup (md := mX2_put) (pc := 74) (kTab_at (pc := 74) tX2_put_ok 46 rfl) rfl ?_
  refine Z_getI (md := mX2_put) (pc := 75) (kTab_at (pc := 75) tX2_put_ok 47 rfl) fl_X2_22 (lay_0 h0 rfl) (Or.inl rfl) h (fun x1 h => ?_)
  refine K_iconst (md := mX2_put) (pc := 78) (x := 1) (kTab_at (pc := 78) tX2_put_ok 48 rfl) rfl ?_
  refine K_iadd (md := mX2_put) (pc := 79) (kTab_at (pc := 79) tX2_put_ok 49 rfl) ?_
  refine Z_putI (md := mX2_put) (pc := 80) (kTab_at (pc := 80) tX2_put_ok 50 rfl) fl_X2_22 (lay_0 h0 rfl) rfl h (fun μ h => ?_)
  refine c_X2_put_83 X p0 p1 p2 h0  v3 μ h
def f_X2_put_23 (p0 : Nat) (p1 : Int) (p2 : Int) (k73 : Int → Mu → Option Res) : Nat → Int → Mu → Option Res
  | 0, _, _ => none
  | fu + 1, v3, μ => i_lt 0 v3 (rdI μ (p0 + 1) 5 (v3 - 1) fun x1 => i_lt p1 x1 (rdI μ (p0 + 1) 5 (v3 - 1) fun x2 => wrI μ (p0 + 1) 5 v3 x2 fun μ => rdI μ (p0 + 2) 5 (v3 - 1) fun x3 => wrI μ (p0 + 2) 5 v3 x3 fun μ => (f_X2_put_23 p0 p1 p2 k73 fu) (v3 + (-1)) μ) (k73 v3 μ)) (k73 v3 μ)
set_option maxRecDepth 100000 in
theorem c_X2_put_23 (X : kX) (p0 : Nat) (p1 : Int) (p2 : Int) (h0 : Lay p0 (ksX2 p0)) {res : Res} (k73 : Int → Mu → Option Res) (hk73 : ∀ (v3 : Int), ∀ (μ : Mu), k73 v3 μ = some res → KK X mX2_put 1 1 res 73 [(0, .ref (X.1 + p0)), (1, .int (iI p1)), (2, .int (iI p2)), (3, .int (iI v3))] [] μ) : ∀ (fu : Nat)  (v3 : Int) (μ : Mu), f_X2_put_23 p0 p1 p2 k73 fu v3 μ = some res → KK X mX2_put 1 1 res 23 [(0, .ref (X.1 + p0)), (1, .int (iI p1)), (2, .int (iI p2)), (3, .int (iI v3))] [] μ := by
  intro fu
  induction fu with
  | zero => intro v3 μ h; exact nomatch h
  | succ fu ih =>
    intro v3 μ h
    refine K_iload_n (md := mX2_put) (pc := 23) 3 (kTab_at (pc := 23) tX2_put_ok 13 rfl) rfl ?_
    refine K_if_le (md := mX2_put) (pc := 24) (kTab_at (pc := 24) tX2_put_ok 14 rfl) (tgt := 73) rfl h (fun h => ?_) (fun h => ?_)
    · exact hk73 v3 μ h
    · refine K_aload_n (md := mX2_put) (pc := 27) 0 (kTab_at (pc := 27) tX2_put_ok 15 rfl) rfl ?_
      refine K_getR (md := mX2_put) (pc := 28) (b := (p0 + 1)) (kTab_at (pc := 28) tX2_put_ok 16 rfl) fl_X2_9 (lay_0 h0 rfl) rfl rfl ?_
      refine K_iload_n (md := mX2_put) (pc := 31) 3 (kTab_at (pc := 31) tX2_put_ok 17 rfl) rfl ?_
      refine K_iconst (md := mX2_put) (pc := 32) (x := 1) (kTab_at (pc := 32) tX2_put_ok 18 rfl) rfl ?_
      refine K_isub (md := mX2_put) (pc := 33) (kTab_at (pc := 33) tX2_put_ok 19 rfl) ?_
      refine Z_iald (md := mX2_put) (pc := 34) (kTab_at (pc := 34) tX2_put_ok 20 rfl) (lay_at h0 1 rfl) (by decide) h (fun x1 h => ?_)
      refine K_iload_n (md := mX2_put) (pc := 35) 1 (kTab_at (pc := 35) tX2_put_ok 21 rfl) rfl ?_
      refine K_icmp_le (md := mX2_put) (pc := 36) (kTab_at (pc := 36) tX2_put_ok 22 rfl) (tgt := 73) rfl h (fun h => ?_) (fun h => ?_)
      · exact hk73 v3 μ h
      · refine K_aload_n (md := mX2_put) (pc := 39) 0 (kTab_at (pc := 39) tX2_put_ok 23 rfl) rfl ?_
        refine K_getR (md := mX2_put) (pc := 40) (b := (p0 + 1)) (kTab_at (pc := 40) tX2_put_ok 24 rfl) fl_X2_9 (lay_0 h0 rfl) rfl rfl ?_
        refine K_iload_n (md := mX2_put) (pc := 43) 3 (kTab_at (pc := 43) tX2_put_ok 25 rfl) rfl ?_
        refine K_aload_n (md := mX2_put) (pc := 44) 0 (kTab_at (pc := 44) tX2_put_ok 26 rfl) rfl ?_
        refine K_getR (md := mX2_put) (pc := 45) (b := (p0 + 1)) (kTab_at (pc := 45) tX2_put_ok 27 rfl) fl_X2_9 (lay_0 h0 rfl) rfl rfl ?_
        refine K_iload_n (md := mX2_put) (pc := 48) 3 (kTab_at (pc := 48) tX2_put_ok 28 rfl) rfl ?_
        refine K_iconst (md := mX2_put) (pc := 49) (x := 1) (kTab_at (pc := 49) tX2_put_ok 29 rfl) rfl ?_
        refine K_isub (md := mX2_put) (pc := 50) (kTab_at (pc := 50) tX2_put_ok 30 rfl) ?_
        refine Z_iald (md := mX2_put) (pc := 51) (kTab_at (pc := 51) tX2_put_ok 31 rfl) (lay_at h0 1 rfl) (by decide) h (fun x2 h => ?_)
        refine Z_iast (md := mX2_put) (pc := 52) (kTab_at (pc := 52) tX2_put_ok 32 rfl) (lay_at h0 1 rfl) (by decide) h (fun μ h => ?_)
        refine K_aload_n (md := mX2_put) (pc := 53) 0 (kTab_at (pc := 53) tX2_put_ok 33 rfl) rfl ?_
        refine K_getR (md := mX2_put) (pc := 54) (b := (p0 + 2)) (kTab_at (pc := 54) tX2_put_ok 34 rfl) fl_X2_15 (lay_0 h0 rfl) rfl rfl ?_
        refine K_iload_n (md := mX2_put) (pc := 57) 3 (kTab_at (pc := 57) tX2_put_ok 35 rfl) rfl ?_
        refine K_aload_n (md := mX2_put) (pc := 58) 0 (kTab_at (pc := 58) tX2_put_ok 36 rfl) rfl ?_
        refine K_getR (md := mX2_put) (pc := 59) (b := (p0 + 2)) (kTab_at (pc := 59) tX2_put_ok 37 rfl) fl_X2_15 (lay_0 h0 rfl) rfl rfl ?_
        refine K_iload_n (md := mX2_put) (pc := 62) 3 (kTab_at (pc := 62) tX2_put_ok 38 rfl) rfl ?_
        refine K_iconst (md := mX2_put) (pc := 63) (x := 1) (kTab_at (pc := 63) tX2_put_ok 39 rfl) rfl ?_
        refine K_isub (md := mX2_put) (pc := 64) (kTab_at (pc := 64) tX2_put_ok 40 rfl) ?_
        refine Z_iald (md := mX2_put) (pc := 65) (kTab_at (pc := 65) tX2_put_ok 41 rfl) (lay_at h0 2 rfl) (by decide) h (fun x3 h => ?_)
        refine Z_iast (md := mX2_put) (pc := 66) (kTab_at (pc := 66) tX2_put_ok 42 rfl) (lay_at h0 2 rfl) (by decide) h (fun μ h => ?_)
        refine K_iinc (md := mX2_put) (pc := 67) (l' := [(3, .int (iI (v3 + (-1)))), (0, .ref (X.1 + p0)), (1, .int (iI p1)), (2, .int (iI p2))]) 3 (kTab_at (pc := 67) tX2_put_ok 43 rfl) rfl (Nat.le_of_ble_eq_true rfl) rfl ?_
        refine K_goto (md := mX2_put) (pc := 70) (tgt := 23) (kTab_at (pc := 70) tX2_put_ok 44 rfl) rfl ?_
        refine K_sub [1, 2, 3, 0] rfl ?_
        exact ih (v3 + (-1)) μ h
def f_X2_put (p0 : Nat) (p1 : Int) (p2 : Int) (μ : Mu) : Option Res := rb (f_X2_indexOf p0 p1 μ) fun μ x1 => i_lt x1 0 (rdF μ p0 2 fun x2 => i_lt x2 5 (rdF μ p0 2 fun x3 => f_X2_put_23 p0 p1 p2 (fun v3 μ => f_X2_put_73 p0 p1 p2 v3 μ) FU x3 μ) (f_X2_put_83 p0 p1 p2 x1 μ)) (f_X2_put_83 p0 p1 p2 x1 μ)
set_option maxRecDepth 100000 in
theorem c_X2_put (X : kX) (p0 : Nat) (p1 : Int) (p2 : Int) (h0 : Lay p0 (ksX2 p0)) (μ : Mu) : Cq X mX2_put 1 1 μ [.ref (X.1 + p0), .int (iI p1), .int (iI p2)] (f_X2_put p0 p1 p2 μ) := by
  intro res h
  refine ct_of (by decide +kernel) rfl (Nat.le_of_ble_eq_true rfl) ?_
  show KK X mX2_put 1 1 res 0 [(0, .ref (X.1 + p0)), (1, .int (iI p1)), (2, .int (iI p2))] [] μ
  unfold f_X2_put at h
  refine K_aload_n (md := mX2_put) (pc := 0) 0 (kTab_at (pc := 0) tX2_put_ok 0 rfl) rfl ?_
  refine K_iload_n (md := mX2_put) (pc := 1) 1 (kTab_at (pc := 1) tX2_put_ok 1 rfl) rfl ?_
  refine Z_callV (md := mX2_put) (pc := 2) (st := []) (sv := (fun x1 => [.int (iI x1)])) (kTab_at (pc := 2) tX2_put_ok 2 rfl) mv_X2_26 (lay_0 h0 rfl) rfl (Nat.le_of_ble_eq_true rfl) (by decide) rfl (c_X2_indexOf X p0 p1 h0 μ) (fun _ => rfl) h (fun μ x1 h => ?_) rfl
  refine K_istore_n (md := mX2_put) (pc := 5) (l' := [(3, .int (iI x1)), (0, .ref (X.1 + p0)), (1, .int (iI p1)), (2, .int (iI p2))]) (kTab_at (pc := 5) tX2_put_ok 3 rfl) (Nat.le_of_ble_eq_true rfl) rfl ?_
  refine K_iload_n (md := mX2_put) (pc := 6) 0 (kTab_at (pc := 6) tX2_put_ok 4 rfl) rfl ?_
  refine K_if_ge (md := mX2_put) (pc := 7) (kTab_at (pc := 7) tX2_put_ok 5 rfl) (tgt := 83) rfl h (fun h => ?_) (fun h => ?_)
  · refine K_sub [1, 2, 3, 0] rfl ?_
    refine c_X2_put_83 X p0 p1 p2 h0  x1 μ h
  · refine K_aload_n (md := mX2_put) (pc := 10) 1 (kTab_at (pc := 10) tX2_put_ok 6 rfl) rfl ?_
    refine Z_getI (md := mX2_put) (pc := 11) (kTab_at (pc := 11) tX2_put_ok 7 rfl) fl_X2_22 (lay_0 h0 rfl) (Or.inl rfl) h (fun x2 h => ?_)
    refine K_iconst (md := mX2_put) (pc := 14) (x := 5) (kTab_at (pc := 14) tX2_put_ok 8 rfl) rfl ?_
    refine K_icmp_ge (md := mX2_put) (pc := 15) (kTab_at (pc := 15) tX2_put_ok 9 rfl) (tgt := 83) rfl h (fun h => ?_) (fun h => ?_)
    · refine K_sub [1, 2, 3, 0] rfl ?_
      refine c_X2_put_83 X p0 p1 p2 h0  x1 μ h
    · refine K_aload_n (md := mX2_put) (pc := 18) 1 (kTab_at (pc := 18) tX2_put_ok 10 rfl) rfl ?_
      refine Z_getI (md := mX2_put) (pc := 19) (kTab_at (pc := 19) tX2_put_ok 11 rfl) fl_X2_22 (lay_0 h0 rfl) (Or.inl rfl) h (fun x3 h => ?_)
      refine K_istore_n (md := mX2_put) (pc := 22) (l' := [(3, .int (iI x3)), (0, .ref (X.1 + p0)), (1, .int (iI p1)), (2, .int (iI p2))]) (kTab_at (pc := 22) tX2_put_ok 12 rfl) (Nat.le_of_ble_eq_true rfl) rfl ?_
      refine K_sub [1, 2, 3, 0] rfl ?_
      refine c_X2_put_23 X p0 p1 p2 h0 _ ?_ _ x3 μ h
      · intro v3 μ h
        refine c_X2_put_73 X p0 p1 p2 h0  v3 μ h
def f_X2_takeAway_60 (p0 : Nat) (p1 : Int)  (v2 : Int) (μ : Mu) : Option Res := rdF μ p0 2 fun x1 => wrF μ p0 2 (x1 - 1) fun μ => some (μ, 0, v2)
set_option maxRecDepth 100000 in
theorem c_X2_takeAway_60 (X : kX) (p0 : Nat) (p1 : Int) (h0 : Lay p0 (ksX2 p0)) {res : Res}  (v2 : Int) (μ : Mu) (h : f_X2_takeAway_60 p0 p1 v2 μ = some res) : KK X mX2_takeAway 0 1 res 60 [(0, .ref (X.1 + p0)), (2, .int (iI v2))] [] μ := by
  unfold f_X2_takeAway_60 at h
  refine K_aload_n (md := mX2_takeAway) (pc := 60) 0 (kTab_at (pc := 60) tX2_takeAway_ok 40 rfl) rfl ?_
  refine K_dup (md := mX2_takeAway) (pc := 61) (kTab_at (pc := 61) tX2_takeAway_ok 41 rfl) rfl ?_
  refine Z_getI (md := mX2_takeAway) (pc := 62) (kTab_at (pc := 62) tX2_takeAway_ok 42 rfl) fl_X2_22 (lay_0 h0 rfl) (Or.inl rfl) h (fun x1 h => ?_)
  refine K_iconst (md := mX2_takeAway) (pc := 65) (x := 1) (kTab_at (pc := 65) tX2_takeAway_ok 43 rfl) rfl ?_
  refine K_isub (md := mX2_takeAway) (pc := 66) (kTab_at (pc := 66) tX2_takeAway_ok 44 rfl) ?_
  refine Z_putI (md := mX2_takeAway) (pc := 67) (kTab_at (pc := 67) tX2_takeAway_ok 45 rfl) fl_X2_22 (lay_0 h0 rfl) rfl h (fun μ h => ?_)
  refine K_iload_n (md := mX2_takeAway) (pc := 70) 1 (kTab_at (pc := 70) tX2_takeAway_ok 46 rfl) rfl ?_
  exact Z_iret (md := mX2_takeAway) (pc := 71) (kTab_at (pc := 71) tX2_takeAway_ok 47 rfl) rfl rfl rfl h
def f_X2_takeAway_9 (p0 : Nat) (p1 : Int) (k60 : Int → Mu → Option Res) : Nat → Int → Int → Mu → Option Res
  | 0, _, _, _ => none
  | fu + 1, v2, v3, μ => rdF μ p0 2 fun x1 => i_lt (v3 + 1) x1 (i_lt (v3 + 1) 5 (rdI μ (p0 + 1) 5 (v3 + 1) fun x2 => wrI μ (p0 + 1) 5 v3 x2 fun μ => rdI μ (p0 + 2) 5 (v3 + 1) fun x3 => wrI μ (p0 + 2) 5 v3 x3 fun μ => (f_X2_takeAway_9 p0 p1 k60 fu) v2 (v3 + 1) μ) (k60 v2 μ)) (k60 v2 μ)
set_option maxRecDepth 100000 in
theorem c_X2_takeAway_9 (X : kX) (p0 : Nat) (p1 : Int) (h0 : Lay p0 (ksX2 p0)) {res : Res} (k60 : Int → Mu → Option Res) (hk60 : ∀ (v2 : Int), ∀ (μ : Mu), k60 v2 μ = some res → KK X mX2_takeAway 0 1 res 60 [(0, .ref (X.1 + p0)), (2, .int (iI v2))] [] μ) : ∀ (fu : Nat)  (v2 : Int) (v3 : Int) (μ : Mu), f_X2_takeAway_9 p0 p1 k60 fu v2 v3 μ = some res → KK X mX2_takeAway 0 1 res 9 [(0, .ref (X.1 + p0)), (2, .int (iI v2)), (3, .int (iI v3))] [] μ := by
  intro fu
  induction fu with
  | zero => intro v2 v3 μ h; exact nomatch h
  | succ fu ih =>
    intro v2 v3 μ h
    refine K_iload_n (md := mX2_takeAway) (pc := 9) 2 (kTab_at (pc := 9) tX2_takeAway_ok 7 rfl) rfl ?_
    refine K_iconst (md := mX2_takeAway) (pc := 10) (x := 1) (kTab_at (pc := 10) tX2_takeAway_ok 8 rfl) rfl ?_
    refine K_iadd (md := mX2_takeAway) (pc := 11) (kTab_at (pc := 11) tX2_takeAway_ok 9 rfl) ?_
    refine K_aload_n (md := mX2_takeAway) (pc := 12) 0 (kTab_at (pc := 12) tX2_takeAway_ok 10 rfl) rfl ?_
    refine Z_getI (md := mX2_takeAway) (pc := 13) (kTab_at (pc := 13) tX2_takeAway_ok 11 rfl) fl_X2_22 (lay_0 h0 rfl) (Or.inl rfl) h (fun x1 h => ?_)
    refine K_icmp_ge (md := mX2_takeAway) (pc := 16) (kTab_at (pc := 16) tX2_takeAway_ok 12 rfl) (tgt := 60) rfl h (fun h => ?_) (fun h => ?_)
    · refine K_sub [0, 1] rfl ?_
      exact hk60 v2 μ h
    · refine K_iload_n (md := mX2_takeAway) (pc := 19) 2 (kTab_at (pc := 19) tX2_takeAway_ok 13 rfl) rfl ?_
      refine K_iconst (md := mX2_takeAway) (pc := 20) (x := 1) (kTab_at (pc := 20) tX2_takeAway_ok 14 rfl) rfl ?_
      refine K_iadd (md := mX2_takeAway) (pc := 21) (kTab_at (pc := 21) tX2_takeAway_ok 15 rfl) ?_
      refine K_iconst (md := mX2_takeAway) (pc := 22) (x := 5) (kTab_at (pc := 22) tX2_takeAway_ok 16 rfl) rfl ?_
      refine K_icmp_ge (md := mX2_takeAway) (pc := 23) (kTab_at (pc := 23) tX2_takeAway_ok 17 rfl) (tgt := 60) rfl h (fun h => ?_) (fun h => ?_)
      · refine K_sub [0, 1] rfl ?_
        exact hk60 v2 μ h
      · refine K_aload_n (md := mX2_takeAway) (pc := 26) 0 (kTab_at (pc := 26) tX2_takeAway_ok 18 rfl) rfl ?_
        refine K_getR (md := mX2_takeAway) (pc := 27) (b := (p0 + 1)) (kTab_at (pc := 27) tX2_takeAway_ok 19 rfl) fl_X2_9 (lay_0 h0 rfl) rfl rfl ?_
        refine K_iload_n (md := mX2_takeAway) (pc := 30) 2 (kTab_at (pc := 30) tX2_takeAway_ok 20 rfl) rfl ?_
        refine K_aload_n (md := mX2_takeAway) (pc := 31) 0 (kTab_at (pc := 31) tX2_takeAway_ok 21 rfl) rfl ?_
        refine K_getR (md := mX2_takeAway) (pc := 32) (b := (p0 + 1)) (kTab_at (pc := 32) tX2_takeAway_ok 22 rfl) fl_X2_9 (lay_0 h0 rfl) rfl rfl ?_
        refine K_iload_n (md := mX2_takeAway) (pc := 35) 2 (kTab_at (pc := 35) tX2_takeAway_ok 23 rfl) rfl ?_
        refine K_iconst (md := mX2_takeAway) (pc := 36) (x := 1) (kTab_at (pc := 36) tX2_takeAway_ok 24 rfl) rfl ?_
        refine K_iadd (md := mX2_takeAway) (pc := 37) (kTab_at (pc := 37) tX2_takeAway_ok 25 rfl) ?_
        refine Z_iald (md := mX2_takeAway) (pc := 38) (kTab_at (pc := 38) tX2_takeAway_ok 26 rfl) (lay_at h0 1 rfl) (by decide) h (fun x2 h => ?_)
        refine Z_iast (md := mX2_takeAway) (pc := 39) (kTab_at (pc := 39) tX2_takeAway_ok 27 rfl) (lay_at h0 1 rfl) (by decide) h (fun μ h => ?_)
        refine K_aload_n (md := mX2_takeAway) (pc := 40) 0 (kTab_at (pc := 40) tX2_takeAway_ok 28 rfl) rfl ?_
        refine K_getR (md := mX2_takeAway) (pc := 41) (b := (p0 + 2)) (kTab_at (pc := 41) tX2_takeAway_ok 29 rfl) fl_X2_15 (lay_0 h0 rfl) rfl rfl ?_
        refine K_iload_n (md := mX2_takeAway) (pc := 44) 2 (kTab_at (pc := 44) tX2_takeAway_ok 30 rfl) rfl ?_
        refine K_aload_n (md := mX2_takeAway) (pc := 45) 0 (kTab_at (pc := 45) tX2_takeAway_ok 31 rfl) rfl ?_
        refine K_getR (md := mX2_takeAway) (pc := 46) (b := (p0 + 2)) (kTab_at (pc := 46) tX2_takeAway_ok 32 rfl) fl_X2_15 (lay_0 h0 rfl) rfl rfl ?_
        refine K_iload_n (md := mX2_takeAway) (pc := 49) 2 (kTab_at (pc := 49) tX2_takeAway_ok 33 rfl) rfl ?_
        refine K_iconst (md := mX2_takeAway) (pc := 50) (x := 1) (kTab_at (pc := 50) tX2_takeAway_ok 34 rfl) rfl ?_
        refine K_iadd (md := mX2_takeAway) (pc := 51) (kTab_at (pc := 51) tX2_takeAway_ok 35 rfl) ?_
        refine Z_iald (md := mX2_takeAway) (pc := 52) (kTab_at (pc := 52) tX2_takeAway_ok 36 rfl) (lay_at h0 2 rfl) (by decide) h (fun x3 h => ?_)
        refine Z_iast (md := mX2_takeAway) (pc := 53) (kTab_at (pc := 53) tX2_takeAway_ok 37 rfl) (lay_at h0 2 rfl) (by decide) h (fun μ h => ?_)
        refine K_iinc (md := mX2_takeAway) (pc := 54) (l' := [(3, .int (iI (v3 + 1))), (0, .ref (X.1 + p0)), (2, .int (iI v2))]) 2 (kTab_at (pc := 54) tX2_takeAway_ok 38 rfl) rfl (Nat.le_of_ble_eq_true rfl) rfl ?_
        refine K_goto (md := mX2_takeAway) (pc := 57) (tgt := 9) (kTab_at (pc := 57) tX2_takeAway_ok 39 rfl) rfl ?_
        refine K_sub [1, 2, 0] rfl ?_
        exact ih v2 (v3 + 1) μ h
def f_X2_takeAway (p0 : Nat) (p1 : Int) (μ : Mu) : Option Res := rdI μ (p0 + 2) 5 p1 fun x1 => f_X2_takeAway_9 p0 p1 (fun v2 μ => f_X2_takeAway_60 p0 p1 v2 μ) FU x1 p1 μ
set_option maxRecDepth 100000 in
theorem c_X2_takeAway (X : kX) (p0 : Nat) (p1 : Int) (h0 : Lay p0 (ksX2 p0)) (μ : Mu) : Cq X mX2_takeAway 0 1 μ [.ref (X.1 + p0), .int (iI p1)] (f_X2_takeAway p0 p1 μ) := by
  intro res h
  refine ct_of (by decide +kernel) rfl (Nat.le_of_ble_eq_true rfl) ?_
  show KK X mX2_takeAway 0 1 res 0 [(0, .ref (X.1 + p0)), (1, .int (iI p1))] [] μ
  unfold f_X2_takeAway at h
  refine K_aload_n (md := mX2_takeAway) (pc := 0) 0 (kTab_at (pc := 0) tX2_takeAway_ok 0 rfl) rfl ?_
  refine K_getR (md := mX2_takeAway) (pc := 1) (b := (p0 + 2)) (kTab_at (pc := 1) tX2_takeAway_ok 1 rfl) fl_X2_15 (lay_0 h0 rfl) rfl rfl ?_
  refine K_iload_n (md := mX2_takeAway) (pc := 4) 1 (kTab_at (pc := 4) tX2_takeAway_ok 2 rfl) rfl ?_
  refine Z_iald (md := mX2_takeAway) (pc := 5) (kTab_at (pc := 5) tX2_takeAway_ok 3 rfl) (lay_at h0 2 rfl) (by decide) h (fun x1 h => ?_)
  refine K_istore_n (md := mX2_takeAway) (pc := 6) (l' := [(2, .int (iI x1)), (0, .ref (X.1 + p0)), (1, .int (iI p1))]) (kTab_at (pc := 6) tX2_takeAway_ok 4 rfl) (Nat.le_of_ble_eq_true rfl) rfl ?_
  refine K_iload_n (md := mX2_takeAway) (pc := 7) 2 (kTab_at (pc := 7) tX2_takeAway_ok 5 rfl) rfl ?_
  refine K_istore_n (md := mX2_takeAway) (pc := 8) (l' := [(3, .int (iI p1)), (2, .int (iI x1)), (0, .ref (X.1 + p0)), (1, .int (iI p1))]) (kTab_at (pc := 8) tX2_takeAway_ok 6 rfl) (Nat.le_of_ble_eq_true rfl) rfl ?_
  refine K_sub [2, 1, 0] rfl ?_
  refine c_X2_takeAway_9 X p0 p1 h0 _ ?_ _ x1 p1 μ h
  · intro v2 μ h
    refine c_X2_takeAway_60 X p0 p1 h0  v2 μ h
def f_J9_floorDiv_f86c9_27 (p0 : Int) (p2 : Int)  (v4 : Int) (μ : Mu) : Option Res := some (μ, 0, v4)
set_option maxRecDepth 100000 in
theorem c_J9_floorDiv_f86c9_27 (X : kX) (p0 : Int) (p2 : Int)  {res : Res}  (v4 : Int) (μ : Mu) (h : f_J9_floorDiv_f86c9_27 p0 p2 v4 μ = some res) : KK X mJ9_floorDiv_f86c9 0 2 res 27 [(4, .long (iL v4))] [] μ := by
  unfold f_J9_floorDiv_f86c9_27 at h
  refine K_lload (md := mJ9_floorDiv_f86c9) (pc := 27) 0 (kTab_at (pc := 27) tJ9_floorDiv_f86c9_ok 20 rfl) rfl ?_
  exact Z_lret (md := mJ9_floorDiv_f86c9) (pc := 29) (kTab_at (pc := 29) tJ9_floorDiv_f86c9_ok 21 rfl) rfl rfl h
def f_J9_floorDiv_f86c9 (p0 : Int) (p2 : Int) (μ : Mu) : Option Res := l_div p0 p2 fun x1 => l_lt (xorL p0 p2) 0 (l_eq (x1 * p2) p0 (f_J9_floorDiv_f86c9_27 p0 p2 x1 μ) (some (μ, 0, (x1 - 1)))) (f_J9_floorDiv_f86c9_27 p0 p2 x1 μ)
set_option maxRecDepth 100000 in
theorem c_J9_floorDiv_f86c9 (X : kX) (p0 : Int) (p2 : Int)  (μ : Mu) : Cq X mJ9_floorDiv_f86c9 0 2 μ [.long (iL p0), .long (iL p2)] (f_J9_floorDiv_f86c9 p0 p2 μ) := by
  intro res h
  refine ct_ofF (by decide +kernel) rfl (Nat.le_of_ble_eq_true rfl) ?_
  show KK X mJ9_floorDiv_f86c9 0 2 res 0 [(0, .long (iL p0)), (2, .long (iL p2))] [] μ
  unfold f_J9_floorDiv_f86c9 at h
  refine K_lload_n (md := mJ9_floorDiv_f86c9) (pc := 0) 0 (kTab_at (pc := 0) tJ9_floorDiv_f86c9_ok 0 rfl) rfl ?_
  refine K_lload_n (md := mJ9_floorDiv_f86c9) (pc := 1) 1 (kTab_at (pc := 1) tJ9_floorDiv_f86c9_ok 1 rfl) rfl ?_
  refine Z_ldiv (md := mJ9_floorDiv_f86c9) (pc := 2) (kTab_at (pc := 2) tJ9_floorDiv_f86c9_ok 2 rfl) h (fun x1 h => ?_)
  refine K_lstore (md := mJ9_floorDiv_f86c9) (pc := 3) (l' := [(4, .long (iL x1)), (0, .long (iL p0)), (2, .long (iL p2))]) (kTab_at (pc := 3) tJ9_floorDiv_f86c9_ok 3 rfl) (Nat.le_of_ble_eq_true rfl) rfl ?_
  refine K_lload_n (md := mJ9_floorDiv_f86c9) (pc := 5) 1 (kTab_at (pc := 5) tJ9_floorDiv_f86c9_ok 4 rfl) rfl ?_
  refine K_lload_n (md := mJ9_floorDiv_f86c9) (pc := 6) 2 (kTab_at (pc := 6) tJ9_floorDiv_f86c9_ok 5 rfl) rfl ?_
  refine K_lxor (md := mJ9_floorDiv_f86c9) (pc := 7) (kTab_at (pc := 7) tJ9_floorDiv_f86c9_ok 6 rfl) ?_
  refine K_lconst (md := mJ9_floorDiv_f86c9) (pc := 8) (x := 0) (kTab_at (pc := 8) tJ9_floorDiv_f86c9_ok 7 rfl) rfl ?_
  refine K_lcmp_ge (md := mJ9_floorDiv_f86c9) (pc := 9) (kTab_at (pc := 9) tJ9_floorDiv_f86c9_ok 8 rfl) (kTab_at (pc := 10) tJ9_floorDiv_f86c9_ok 9 rfl) (tgt := 27) rfl h (fun h => ?_) (fun h => ?_)
  · refine K_sub [0] rfl ?_
    refine c_J9_floorDiv_f86c9_27 X p0 p2  x1 μ h
  · refine K_lload (md := mJ9_floorDiv_f86c9) (pc := 13) 0 (kTab_at (pc := 13) tJ9_floorDiv_f86c9_ok 10 rfl) rfl ?_
    refine K_lload_n (md := mJ9_floorDiv_f86c9) (pc := 15) 2 (kTab_at (pc := 15) tJ9_floorDiv_f86c9_ok 11 rfl) rfl ?_
    refine K_lmul (md := mJ9_floorDiv_f86c9) (pc := 16) (kTab_at (pc := 16) tJ9_floorDiv_f86c9_ok 12 rfl) ?_
    refine K_lload_n (md := mJ9_floorDiv_f86c9) (pc := 17) 1 (kTab_at (pc := 17) tJ9_floorDiv_f86c9_ok 13 rfl) rfl ?_
    refine K_lcmp_eq (md := mJ9_floorDiv_f86c9) (pc := 18) (kTab_at (pc := 18) tJ9_floorDiv_f86c9_ok 14 rfl) (kTab_at (pc := 19) tJ9_floorDiv_f86c9_ok 15 rfl) (tgt := 27) rfl h (fun h => ?_) (fun h => ?_)
    · refine K_sub [0] rfl ?_
      refine c_J9_floorDiv_f86c9_27 X p0 p2  x1 μ h
    · refine K_lload (md := mJ9_floorDiv_f86c9) (pc := 22) 0 (kTab_at (pc := 22) tJ9_floorDiv_f86c9_ok 16 rfl) rfl ?_
      refine K_lconst (md := mJ9_floorDiv_f86c9) (pc := 24) (x := 1) (kTab_at (pc := 24) tJ9_floorDiv_f86c9_ok 17 rfl) rfl ?_
      refine K_lsub (md := mJ9_floorDiv_f86c9) (pc := 25) (kTab_at (pc := 25) tJ9_floorDiv_f86c9_ok 18 rfl) ?_
      exact Z_lret (md := mJ9_floorDiv_f86c9) (pc := 26) (kTab_at (pc := 26) tJ9_floorDiv_f86c9_ok 19 rfl) rfl rfl h
def f_X2_round_26 (p0 : Int) (p2 : Int)  (s0 : Int) (μ : Mu) : Option Res := some (μ, 0, s0)
set_option maxRecDepth 100000 in
theorem c_X2_round_26 (X : kX) (p0 : Int) (p2 : Int)  {res : Res}  (s0 : Int) (μ : Mu) (h : f_X2_round_26 p0 p2 s0 μ = some res) : KK X mX2_round 1 1 res 26 [] [.int (iI s0)] μ := by
  unfold f_X2_round_26 at h
  exact Z_iret (md := mX2_round) (pc := 26) (kTab_at (pc := 26) tX2_round_ok 16 rfl) rfl rfl rfl h
def f_X2_round (p0 : Int) (p2 : Int) (μ : Mu) : Option Res := l_lt 0 p2 (rb (f_J9_floorDiv_f86c9 ((2 * p0) + p2) (2 * p2) μ) fun μ x1 => f_X2_round_26 p0 p2 x1 μ) (f_X2_round_26 p0 p2 0 μ)
set_option maxRecDepth 100000 in
theorem c_X2_round (X : kX) (p0 : Int) (p2 : Int)  (μ : Mu) : Cq X mX2_round 1 1 μ [.long (iL p0), .long (iL p2)] (f_X2_round p0 p2 μ) := by
  intro res h
  refine ct_of (by decide +kernel) rfl (Nat.le_of_ble_eq_true rfl) ?_
  show KK X mX2_round 1 1 res 0 [(0, .long (iL p0)), (2, .long (iL p2))] [] μ
  unfold f_X2_round at h
  refine K_lload_n (md := mX2_round) (pc := 0) 1 (kTab_at (pc := 0) tX2_round_ok 0 rfl) rfl ?_
  refine K_lconst (md := mX2_round) (pc := 1) (x := 0) (kTab_at (pc := 1) tX2_round_ok 1 rfl) rfl ?_
  refine K_lcmp_gt (md := mX2_round) (pc := 2) (kTab_at (pc := 2) tX2_round_ok 2 rfl) (kTab_at (pc := 3) tX2_round_ok 3 rfl) (tgt := 10) rfl h (fun h => ?_) (fun h => ?_)
  · refine K_ldc2 (md := mX2_round) (pc := 10) (x := 2) (v := 2) (kTab_at (pc := 10) tX2_round_ok 6 rfl) (inT4 193 (by decide +kernel) rfl) (by decide) ?_
    refine K_lload_n (md := mX2_round) (pc := 13) 0 (kTab_at (pc := 13) tX2_round_ok 7 rfl) rfl ?_
    refine K_lmul (md := mX2_round) (pc := 14) (kTab_at (pc := 14) tX2_round_ok 8 rfl) ?_
    refine K_lload_n (md := mX2_round) (pc := 15) 1 (kTab_at (pc := 15) tX2_round_ok 9 rfl) rfl ?_
    refine K_ladd (md := mX2_round) (pc := 16) (kTab_at (pc := 16) tX2_round_ok 10 rfl) ?_
    refine K_ldc2 (md := mX2_round) (pc := 17) (x := 2) (v := 2) (kTab_at (pc := 17) tX2_round_ok 11 rfl) (inT4 193 (by decide +kernel) rfl) (by decide) ?_
    refine K_lload_n (md := mX2_round) (pc := 20) 1 (kTab_at (pc := 20) tX2_round_ok 12 rfl) rfl ?_
    refine K_lmul (md := mX2_round) (pc := 21) (kTab_at (pc := 21) tX2_round_ok 13 rfl) ?_
    refine Z_callS (md := mX2_round) (pc := 22) (st := []) (sv := (fun x1 => [.long (iL x1)])) (kTab_at (pc := 22) tX2_round_ok 14 rfl) ms_X2_38 rfl (Nat.le_of_ble_eq_true rfl) (by decide) rfl (c_J9_floorDiv_f86c9 X ((2 * p0) + p2) (2 * p2) μ) (fun _ => rfl) h (fun μ x1 h => ?_) rfl
    refine K_l2i (md := mX2_round) (pc := 25) (kTab_at (pc := 25) tX2_round_ok 15 rfl) ?_
    refine K_sub [] rfl ?_
    refine c_X2_round_26 X p0 p2  x1 μ h
  · refine K_iconst (md := mX2_round) (pc := 6) (x := 0) (kTab_at (pc := 6) tX2_round_ok 4 rfl) rfl ?_
    refine K_goto (md := mX2_round) (pc := 7) (tgt := 26) (kTab_at (pc := 7) tX2_round_ok 5 rfl) rfl ?_
    refine K_sub [] rfl ?_
    refine c_X2_round_26 X p0 p2  0 μ h
def f_X2_scale_16 (p0 : Nat) (p1 : Int) (p3 : Int) (p5 : Int)   (μ : Mu) : Option Res := i_2l p5 (rb (f_X2_round (100 * p1) (p3 * p5) μ) fun μ x1 => some (μ, 0, x1))
set_option maxRecDepth 100000 in
theorem c_X2_scale_16 (X : kX) (p0 : Nat) (p1 : Int) (p3 : Int) (p5 : Int) (h0 : Lay p0 (ksX2 p0)) {res : Res}  (μ : Mu) (h : f_X2_scale_16 p0 p1 p3 p5 μ = some res) : KK X mX2_scale 2 1 res 16 [(1, .long (iL p1)), (3, .long (iL p3)), (5, .int (iI p5))] [] μ := by
  unfold f_X2_scale_16 at h
  refine K_ldc2 (md := mX2_scale) (pc := 16) (x := 100) (v := 100) (kTab_at (pc := 16) tX2_scale_ok 8 rfl) (inT4 189 (by decide +kernel) rfl) (by decide) ?_
  refine K_lload_n (md := mX2_scale) (pc := 19) 0 (kTab_at (pc := 19) tX2_scale_ok 9 rfl) rfl ?_
  refine K_lmul (md := mX2_scale) (pc := 20) (kTab_at (pc := 20) tX2_scale_ok 10 rfl) ?_
  refine K_lload_n (md := mX2_scale) (pc := 21) 1 (kTab_at (pc := 21) tX2_scale_ok 11 rfl) rfl ?_
  refine K_iload (md := mX2_scale) (pc := 22) 2 (kTab_at (pc := 22) tX2_scale_ok 12 rfl) rfl ?_
  refine K_i2l (md := mX2_scale) (pc := 24) (kTab_at (pc := 24) tX2_scale_ok 13 rfl) h (fun h => ?_)
  refine K_lmul (md := mX2_scale) (pc := 25) (kTab_at (pc := 25) tX2_scale_ok 14 rfl) ?_
  refine Z_callS (md := mX2_scale) (pc := 26) (st := []) (sv := (fun x1 => [.int (iI x1)])) (kTab_at (pc := 26) tX2_scale_ok 15 rfl) ms_X2_32 rfl (Nat.le_of_ble_eq_true rfl) (by decide) rfl (c_X2_round X (100 * p1) (p3 * p5) μ) (fun _ => rfl) h (fun μ x1 h => ?_) rfl
  exact Z_iret (md := mX2_scale) (pc := 29) (kTab_at (pc := 29) tX2_scale_ok 16 rfl) rfl rfl rfl h
def f_X2_scale_54 (p0 : Nat) (p1 : Int) (p3 : Int) (p5 : Int) (k78 : Int → Mu → Option Res) (k169 : Mu → Option Res) : Nat → Int → Mu → Option Res
  | 0, _, _ => none
  | fu + 1, v6, μ => rdF μ p0 2 fun x1 => i_lt v6 x1 (rdI μ (p0 + 1) 5 v6 fun x2 => i_2l x2 (l_lt p1 (x2 * p3) (k78 v6 μ) ((f_X2_scale_54 p0 p1 p3 p5 k78 k169 fu) (v6 + 1) μ))) (k169 μ)
set_option maxRecDepth 100000 in
theorem c_X2_scale_54 (X : kX) (p0 : Nat) (p1 : Int) (p3 : Int) (p5 : Int) (h0 : Lay p0 (ksX2 p0)) {res : Res} (k78 : Int → Mu → Option Res) (hk78 : ∀ (v6 : Int), ∀ (μ : Mu), k78 v6 μ = some res → KK X mX2_scale 2 1 res 78 [(0, .ref (X.1 + p0)), (1, .long (iL p1)), (3, .long (iL p3)), (6, .int (iI v6))] [] μ) (k169 : Mu → Option Res) (hk169 : ∀ (μ : Mu), k169 μ = some res → KK X mX2_scale 2 1 res 169 [(0, .ref (X.1 + p0))] [] μ) : ∀ (fu : Nat)  (v6 : Int) (μ : Mu), f_X2_scale_54 p0 p1 p3 p5 k78 k169 fu v6 μ = some res → KK X mX2_scale 2 1 res 54 [(0, .ref (X.1 + p0)), (1, .long (iL p1)), (3, .long (iL p3)), (6, .int (iI v6))] [] μ := by
  intro fu
  induction fu with
  | zero => intro v6 μ h; exact nomatch h
  | succ fu ih =>
    intro v6 μ h
    refine K_iload (md := mX2_scale) (pc := 54) 3 (kTab_at (pc := 54) tX2_scale_ok 34 rfl) rfl ?_
    refine K_aload_n (md := mX2_scale) (pc := 56) 0 (kTab_at (pc := 56) tX2_scale_ok 35 rfl) rfl ?_
    refine Z_getI (md := mX2_scale) (pc := 57) (kTab_at (pc := 57) tX2_scale_ok 36 rfl) fl_X2_22 (lay_0 h0 rfl) (Or.inl rfl) h (fun x1 h => ?_)
    refine K_icmp_ge (md := mX2_scale) (pc := 60) (kTab_at (pc := 60) tX2_scale_ok 37 rfl) (tgt := 169) rfl h (fun h => ?_) (fun h => ?_)
    · refine K_sub [0] rfl ?_
      exact hk169 μ h
    · refine K_lload_n (md := mX2_scale) (pc := 63) 1 (kTab_at (pc := 63) tX2_scale_ok 38 rfl) rfl ?_
      refine K_aload_n (md := mX2_scale) (pc := 64) 0 (kTab_at (pc := 64) tX2_scale_ok 39 rfl) rfl ?_
      refine K_getR (md := mX2_scale) (pc := 65) (b := (p0 + 1)) (kTab_at (pc := 65) tX2_scale_ok 40 rfl) fl_X2_9 (lay_0 h0 rfl) rfl rfl ?_
      refine K_iload (md := mX2_scale) (pc := 68) 3 (kTab_at (pc := 68) tX2_scale_ok 41 rfl) rfl ?_
      refine Z_iald (md := mX2_scale) (pc := 70) (kTab_at (pc := 70) tX2_scale_ok 42 rfl) (lay_at h0 1 rfl) (by decide) h (fun x2 h => ?_)
      refine K_i2l (md := mX2_scale) (pc := 71) (kTab_at (pc := 71) tX2_scale_ok 43 rfl) h (fun h => ?_)
      refine K_lload_n (md := mX2_scale) (pc := 72) 2 (kTab_at (pc := 72) tX2_scale_ok 44 rfl) rfl ?_
      refine K_lmul (md := mX2_scale) (pc := 73) (kTab_at (pc := 73) tX2_scale_ok 45 rfl) ?_
      refine K_lcmp_ge (md := mX2_scale) (pc := 74) (kTab_at (pc := 74) tX2_scale_ok 46 rfl) (kTab_at (pc := 75) tX2_scale_ok 47 rfl) (tgt := 163) rfl h (fun h => ?_) (fun h => ?_)
      · refine K_iinc (md := mX2_scale) (pc := 163) (l' := [(6, .int (iI (v6 + 1))), (0, .ref (X.1 + p0)), (1, .long (iL p1)), (3, .long (iL p3))]) 3 (kTab_at (pc := 163) tX2_scale_ok 106 rfl) rfl (Nat.le_of_ble_eq_true rfl) rfl ?_
        refine K_goto (md := mX2_scale) (pc := 166) (tgt := 54) (kTab_at (pc := 166) tX2_scale_ok 107 rfl) rfl ?_
        refine K_sub [1, 2, 3, 0] rfl ?_
        exact ih (v6 + 1) μ h
      · exact hk78 v6 μ h
def f_X2_scale (p0 : Nat) (p1 : Int) (p3 : Int) (p5 : Int) (μ : Mu) : Option Res := rdF μ p0 2 fun x1 => i_lt x1 2 (f_X2_scale_16 p0 p1 p3 p5 μ) (rdF μ p0 2 fun x2 => i_lt 5 x2 (f_X2_scale_16 p0 p1 p3 p5 μ) (rdI μ (p0 + 1) 5 0 fun x3 => i_2l x3 (l_lt (x3 * p3) p1 (f_X2_scale_54 p0 p1 p3 p5 (fun v6 μ => rdI μ (p0 + 1) 5 v6 fun x4 => rdI μ (p0 + 1) 5 (v6 - 1) fun x5 => i_2l (x4 - x5) (bnd (x4 - x5) fun x6 => rdI μ (p0 + 2) 5 (v6 - 1) fun x7 => i_2l x7 (bnd ((x7 * x6) * p3) fun x8 => rdI μ (p0 + 1) 5 (v6 - 1) fun x9 => i_2l x9 (bnd (p1 - (x9 * p3)) fun x10 => rdI μ (p0 + 2) 5 v6 fun x11 => rdI μ (p0 + 2) 5 (v6 - 1) fun x12 => i_2l (x11 - x12) (rb (f_X2_round (x8 + ((x11 - x12) * x10)) (x6 * p3) μ) fun μ x13 => some (μ, 0, x13)))))) (fun μ => rdF μ p0 2 fun x14 => rdI μ (p0 + 2) 5 (x14 - 1) fun x15 => some (μ, 0, x15)) FU 1 μ) (rdI μ (p0 + 2) 5 0 fun x16 => some (μ, 0, x16)))))
set_option maxRecDepth 100000 in
theorem c_X2_scale (X : kX) (p0 : Nat) (p1 : Int) (p3 : Int) (p5 : Int) (h0 : Lay p0 (ksX2 p0)) (μ : Mu) : Cq X mX2_scale 2 1 μ [.ref (X.1 + p0), .long (iL p1), .long (iL p3), .int (iI p5)] (f_X2_scale p0 p1 p3 p5 μ) := by
  intro res h
  refine ct_of (by decide +kernel) rfl (Nat.le_of_ble_eq_true rfl) ?_
  show KK X mX2_scale 2 1 res 0 [(0, .ref (X.1 + p0)), (1, .long (iL p1)), (3, .long (iL p3)), (5, .int (iI p5))] [] μ
  unfold f_X2_scale at h
  refine K_aload_n (md := mX2_scale) (pc := 0) 0 (kTab_at (pc := 0) tX2_scale_ok 0 rfl) rfl ?_
  refine Z_getI (md := mX2_scale) (pc := 1) (kTab_at (pc := 1) tX2_scale_ok 1 rfl) fl_X2_22 (lay_0 h0 rfl) (Or.inl rfl) h (fun x1 h => ?_)
  refine K_iconst (md := mX2_scale) (pc := 4) (x := 2) (kTab_at (pc := 4) tX2_scale_ok 2 rfl) rfl ?_
  refine K_icmp_lt (md := mX2_scale) (pc := 5) (kTab_at (pc := 5) tX2_scale_ok 3 rfl) (tgt := 16) rfl h (fun h => ?_) (fun h => ?_)
  · refine K_sub [1, 2, 3] rfl ?_
    refine c_X2_scale_16 X p0 p1 p3 p5 h0  μ h
  · refine K_aload_n (md := mX2_scale) (pc := 8) 0 (kTab_at (pc := 8) tX2_scale_ok 4 rfl) rfl ?_
    refine Z_getI (md := mX2_scale) (pc := 9) (kTab_at (pc := 9) tX2_scale_ok 5 rfl) fl_X2_22 (lay_0 h0 rfl) (Or.inl rfl) h (fun x2 h => ?_)
    refine K_iconst (md := mX2_scale) (pc := 12) (x := 5) (kTab_at (pc := 12) tX2_scale_ok 6 rfl) rfl ?_
    refine K_icmp_le (md := mX2_scale) (pc := 13) (kTab_at (pc := 13) tX2_scale_ok 7 rfl) (tgt := 30) rfl h (fun h => ?_) (fun h => ?_)
    · refine K_lload_n (md := mX2_scale) (pc := 30) 1 (kTab_at (pc := 30) tX2_scale_ok 17 rfl) rfl ?_
      refine K_aload_n (md := mX2_scale) (pc := 31) 0 (kTab_at (pc := 31) tX2_scale_ok 18 rfl) rfl ?_
      refine K_getR (md := mX2_scale) (pc := 32) (b := (p0 + 1)) (kTab_at (pc := 32) tX2_scale_ok 19 rfl) fl_X2_9 (lay_0 h0 rfl) rfl rfl ?_
      refine K_iconst (md := mX2_scale) (pc := 35) (x := 0) (kTab_at (pc := 35) tX2_scale_ok 20 rfl) rfl ?_
      refine Z_iald (md := mX2_scale) (pc := 36) (kTab_at (pc := 36) tX2_scale_ok 21 rfl) (lay_at h0 1 rfl) (by decide) h (fun x3 h => ?_)
      refine K_i2l (md := mX2_scale) (pc := 37) (kTab_at (pc := 37) tX2_scale_ok 22 rfl) h (fun h => ?_)
      refine K_lload_n (md := mX2_scale) (pc := 38) 2 (kTab_at (pc := 38) tX2_scale_ok 23 rfl) rfl ?_
      refine K_lmul (md := mX2_scale) (pc := 39) (kTab_at (pc := 39) tX2_scale_ok 24 rfl) ?_
      refine K_lcmp_gt (md := mX2_scale) (pc := 40) (kTab_at (pc := 40) tX2_scale_ok 25 rfl) (kTab_at (pc := 41) tX2_scale_ok 26 rfl) (tgt := 51) rfl h (fun h => ?_) (fun h => ?_)
      · refine K_iconst (md := mX2_scale) (pc := 51) (x := 1) (kTab_at (pc := 51) tX2_scale_ok 32 rfl) rfl ?_
        refine K_istore (md := mX2_scale) (pc := 52) (l' := [(6, .int (iI 1)), (0, .ref (X.1 + p0)), (1, .long (iL p1)), (3, .long (iL p3)), (5, .int (iI p5))]) (kTab_at (pc := 52) tX2_scale_ok 33 rfl) (Nat.le_of_ble_eq_true rfl) rfl ?_
        refine K_sub [1, 2, 3, 0] rfl ?_
        refine c_X2_scale_54 X p0 p1 p3 p5 h0 _ ?_ _ ?_ _ 1 μ h
        · intro v6 μ h
          refine K_aload_n (md := mX2_scale) (pc := 78) 0 (kTab_at (pc := 78) tX2_scale_ok 48 rfl) rfl ?_
          refine K_getR (md := mX2_scale) (pc := 79) (b := (p0 + 1)) (kTab_at (pc := 79) tX2_scale_ok 49 rfl) fl_X2_9 (lay_0 h0 rfl) rfl rfl ?_
          refine K_iload (md := mX2_scale) (pc := 82) 3 (kTab_at (pc := 82) tX2_scale_ok 50 rfl) rfl ?_
          refine Z_iald (md := mX2_scale) (pc := 84) (kTab_at (pc := 84) tX2_scale_ok 51 rfl) (lay_at h0 1 rfl) (by decide) h (fun x4 h => ?_)
          refine K_aload_n (md := mX2_scale) (pc := 85) 0 (kTab_at (pc := 85) tX2_scale_ok 52 rfl) rfl ?_
          refine K_getR (md := mX2_scale) (pc := 86) (b := (p0 + 1)) (kTab_at (pc := 86) tX2_scale_ok 53 rfl) fl_X2_9 (lay_0 h0 rfl) rfl rfl ?_
          refine K_iload (md := mX2_scale) (pc := 89) 3 (kTab_at (pc := 89) tX2_scale_ok 54 rfl) rfl ?_
          refine K_iconst (md := mX2_scale) (pc := 91) (x := 1) (kTab_at (pc := 91) tX2_scale_ok 55 rfl) rfl ?_
          refine K_isub (md := mX2_scale) (pc := 92) (kTab_at (pc := 92) tX2_scale_ok 56 rfl) ?_
          refine Z_iald (md := mX2_scale) (pc := 93) (kTab_at (pc := 93) tX2_scale_ok 57 rfl) (lay_at h0 1 rfl) (by decide) h (fun x5 h => ?_)
          refine K_isub (md := mX2_scale) (pc := 94) (kTab_at (pc := 94) tX2_scale_ok 58 rfl) ?_
          refine K_i2l (md := mX2_scale) (pc := 95) (kTab_at (pc := 95) tX2_scale_ok 59 rfl) h (fun h => ?_)
          refine Z_bndL (md := mX2_scale) (pc := 96) h (fun x6 h => ?_)
          refine K_lstore (md := mX2_scale) (pc := 96) (l' := [(7, .long (iL x6)), (0, .ref (X.1 + p0)), (1, .long (iL p1)), (3, .long (iL p3)), (6, .int (iI v6))]) (kTab_at (pc := 96) tX2_scale_ok 60 rfl) (Nat.le_of_ble_eq_true rfl) rfl ?_
          refine K_aload_n (md := mX2_scale) (pc := 98) 1 (kTab_at (pc := 98) tX2_scale_ok 61 rfl) rfl ?_
          refine K_getR (md := mX2_scale) (pc := 99) (b := (p0 + 2)) (kTab_at (pc := 99) tX2_scale_ok 62 rfl) fl_X2_15 (lay_0 h0 rfl) rfl rfl ?_
          refine K_iload (md := mX2_scale) (pc := 102) 4 (kTab_at (pc := 102) tX2_scale_ok 63 rfl) rfl ?_
          refine K_iconst (md := mX2_scale) (pc := 104) (x := 1) (kTab_at (pc := 104) tX2_scale_ok 64 rfl) rfl ?_
          refine K_isub (md := mX2_scale) (pc := 105) (kTab_at (pc := 105) tX2_scale_ok 65 rfl) ?_
          refine Z_iald (md := mX2_scale) (pc := 106) (kTab_at (pc := 106) tX2_scale_ok 66 rfl) (lay_at h0 2 rfl) (by decide) h (fun x7 h => ?_)
          refine K_i2l (md := mX2_scale) (pc := 107) (kTab_at (pc := 107) tX2_scale_ok 67 rfl) h (fun h => ?_)
          refine K_lload (md := mX2_scale) (pc := 108) 0 (kTab_at (pc := 108) tX2_scale_ok 68 rfl) rfl ?_
          refine K_lmul (md := mX2_scale) (pc := 110) (kTab_at (pc := 110) tX2_scale_ok 69 rfl) ?_
          refine K_lload_n (md := mX2_scale) (pc := 111) 3 (kTab_at (pc := 111) tX2_scale_ok 70 rfl) rfl ?_
          refine K_lmul (md := mX2_scale) (pc := 112) (kTab_at (pc := 112) tX2_scale_ok 71 rfl) ?_
          refine Z_bndL (md := mX2_scale) (pc := 113) h (fun x8 h => ?_)
          refine K_lstore (md := mX2_scale) (pc := 113) (l' := [(9, .long (iL x8)), (7, .long (iL x6)), (0, .ref (X.1 + p0)), (1, .long (iL p1)), (3, .long (iL p3)), (6, .int (iI v6))]) (kTab_at (pc := 113) tX2_scale_ok 72 rfl) (Nat.le_of_ble_eq_true rfl) rfl ?_
          refine K_lload_n (md := mX2_scale) (pc := 115) 3 (kTab_at (pc := 115) tX2_scale_ok 73 rfl) rfl ?_
          refine K_aload_n (md := mX2_scale) (pc := 116) 2 (kTab_at (pc := 116) tX2_scale_ok 74 rfl) rfl ?_
          refine K_getR (md := mX2_scale) (pc := 117) (b := (p0 + 1)) (kTab_at (pc := 117) tX2_scale_ok 75 rfl) fl_X2_9 (lay_0 h0 rfl) rfl rfl ?_
          refine K_iload (md := mX2_scale) (pc := 120) 5 (kTab_at (pc := 120) tX2_scale_ok 76 rfl) rfl ?_
          refine K_iconst (md := mX2_scale) (pc := 122) (x := 1) (kTab_at (pc := 122) tX2_scale_ok 77 rfl) rfl ?_
          refine K_isub (md := mX2_scale) (pc := 123) (kTab_at (pc := 123) tX2_scale_ok 78 rfl) ?_
          refine Z_iald (md := mX2_scale) (pc := 124) (kTab_at (pc := 124) tX2_scale_ok 79 rfl) (lay_at h0 1 rfl) (by decide) h (fun x9 h => ?_)
          refine K_i2l (md := mX2_scale) (pc := 125) (kTab_at (pc := 125) tX2_scale_ok 80 rfl) h (fun h => ?_)
          refine K_lload_n (md := mX2_scale) (pc := 126) 4 (kTab_at (pc := 126) tX2_scale_ok 81 rfl) rfl ?_
          refine K_lmul (md := mX2_scale) (pc := 127) (kTab_at (pc := 127) tX2_scale_ok 82 rfl) ?_
          refine K_lsub (md := mX2_scale) (pc := 128) (kTab_at (pc := 128) tX2_scale_ok 83 rfl) ?_
          refine Z_bndL (md := mX2_scale) (pc := 129) h (fun x10 h => ?_)
          refine K_lstore (md := mX2_scale) (pc := 129) (l' := [(11, .long (iL x10)), (9, .long (iL x8)), (7, .long (iL x6)), (0, .ref (X.1 + p0)), (1, .long (iL p1)), (3, .long (iL p3)), (6, .int (iI v6))]) (kTab_at (pc := 129) tX2_scale_ok 84 rfl) (Nat.le_of_ble_eq_true rfl) rfl ?_
          refine K_lload (md := mX2_scale) (pc := 131) 1 (kTab_at (pc := 131) tX2_scale_ok 85 rfl) rfl ?_
          refine K_aload_n (md := mX2_scale) (pc := 133) 3 (kTab_at (pc := 133) tX2_scale_ok 86 rfl) rfl ?_
          refine K_getR (md := mX2_scale) (pc := 134) (b := (p0 + 2)) (kTab_at (pc := 134) tX2_scale_ok 87 rfl) fl_X2_15 (lay_0 h0 rfl) rfl rfl ?_
          refine K_iload (md := mX2_scale) (pc := 137) 6 (kTab_at (pc := 137) tX2_scale_ok 88 rfl) rfl ?_
          refine Z_iald (md := mX2_scale) (pc := 139) (kTab_at (pc := 139) tX2_scale_ok 89 rfl) (lay_at h0 2 rfl) (by decide) h (fun x11 h => ?_)
          refine K_aload_n (md := mX2_scale) (pc := 140) 3 (kTab_at (pc := 140) tX2_scale_ok 90 rfl) rfl ?_
          refine K_getR (md := mX2_scale) (pc := 141) (b := (p0 + 2)) (kTab_at (pc := 141) tX2_scale_ok 91 rfl) fl_X2_15 (lay_0 h0 rfl) rfl rfl ?_
          refine K_iload (md := mX2_scale) (pc := 144) 6 (kTab_at (pc := 144) tX2_scale_ok 92 rfl) rfl ?_
          refine K_iconst (md := mX2_scale) (pc := 146) (x := 1) (kTab_at (pc := 146) tX2_scale_ok 93 rfl) rfl ?_
          refine K_isub (md := mX2_scale) (pc := 147) (kTab_at (pc := 147) tX2_scale_ok 94 rfl) ?_
          refine Z_iald (md := mX2_scale) (pc := 148) (kTab_at (pc := 148) tX2_scale_ok 95 rfl) (lay_at h0 2 rfl) (by decide) h (fun x12 h => ?_)
          refine K_isub (md := mX2_scale) (pc := 149) (kTab_at (pc := 149) tX2_scale_ok 96 rfl) ?_
          refine K_i2l (md := mX2_scale) (pc := 150) (kTab_at (pc := 150) tX2_scale_ok 97 rfl) h (fun h => ?_)
          refine K_lload (md := mX2_scale) (pc := 151) 0 (kTab_at (pc := 151) tX2_scale_ok 98 rfl) rfl ?_
          refine K_lmul (md := mX2_scale) (pc := 153) (kTab_at (pc := 153) tX2_scale_ok 99 rfl) ?_
          refine K_ladd (md := mX2_scale) (pc := 154) (kTab_at (pc := 154) tX2_scale_ok 100 rfl) ?_
          refine K_lload (md := mX2_scale) (pc := 155) 2 (kTab_at (pc := 155) tX2_scale_ok 101 rfl) rfl ?_
          refine K_lload_n (md := mX2_scale) (pc := 157) 5 (kTab_at (pc := 157) tX2_scale_ok 102 rfl) rfl ?_
          refine K_lmul (md := mX2_scale) (pc := 158) (kTab_at (pc := 158) tX2_scale_ok 103 rfl) ?_
          refine Z_callS (md := mX2_scale) (pc := 159) (st := []) (sv := (fun x13 => [.int (iI x13)])) (kTab_at (pc := 159) tX2_scale_ok 104 rfl) ms_X2_32 rfl (Nat.le_of_ble_eq_true rfl) (by decide) rfl (c_X2_round X (x8 + ((x11 - x12) * x10)) (x6 * p3) μ) (fun _ => rfl) h (fun μ x13 h => ?_) rfl
          exact Z_iret (md := mX2_scale) (pc := 162) (kTab_at (pc := 162) tX2_scale_ok 105 rfl) rfl rfl rfl h
        · intro  μ h
          refine K_aload_n (md := mX2_scale) (pc := 169) 0 (kTab_at (pc := 169) tX2_scale_ok 108 rfl) rfl ?_
          refine K_getR (md := mX2_scale) (pc := 170) (b := (p0 + 2)) (kTab_at (pc := 170) tX2_scale_ok 109 rfl) fl_X2_15 (lay_0 h0 rfl) rfl rfl ?_
          refine K_aload_n (md := mX2_scale) (pc := 173) 0 (kTab_at (pc := 173) tX2_scale_ok 110 rfl) rfl ?_
          refine Z_getI (md := mX2_scale) (pc := 174) (kTab_at (pc := 174) tX2_scale_ok 111 rfl) fl_X2_22 (lay_0 h0 rfl) (Or.inl rfl) h (fun x14 h => ?_)
          refine K_iconst (md := mX2_scale) (pc := 177) (x := 1) (kTab_at (pc := 177) tX2_scale_ok 112 rfl) rfl ?_
          refine K_isub (md := mX2_scale) (pc := 178) (kTab_at (pc := 178) tX2_scale_ok 113 rfl) ?_
          refine Z_iald (md := mX2_scale) (pc := 179) (kTab_at (pc := 179) tX2_scale_ok 114 rfl) (lay_at h0 2 rfl) (by decide) h (fun x15 h => ?_)
          exact Z_iret (md := mX2_scale) (pc := 180) (kTab_at (pc := 180) tX2_scale_ok 115 rfl) rfl rfl rfl h
      · refine K_aload_n (md := mX2_scale) (pc := 44) 0 (kTab_at (pc := 44) tX2_scale_ok 27 rfl) rfl ?_
        refine K_getR (md := mX2_scale) (pc := 45) (b := (p0 + 2)) (kTab_at (pc := 45) tX2_scale_ok 28 rfl) fl_X2_15 (lay_0 h0 rfl) rfl rfl ?_
        refine K_iconst (md := mX2_scale) (pc := 48) (x := 0) (kTab_at (pc := 48) tX2_scale_ok 29 rfl) rfl ?_
        refine Z_iald (md := mX2_scale) (pc := 49) (kTab_at (pc := 49) tX2_scale_ok 30 rfl) (lay_at h0 2 rfl) (by decide) h (fun x16 h => ?_)
        exact Z_iret (md := mX2_scale) (pc := 50) (kTab_at (pc := 50) tX2_scale_ok 31 rfl) rfl rfl rfl h
    · refine K_sub [1, 2, 3] rfl ?_
      refine c_X2_scale_16 X p0 p1 p3 p5 h0  μ h
def f_X3_isBy_29 (p0 : Nat) (p1 : Int) (p2 : Int)  (s0 : Int) (μ : Mu) : Option Res := retZ μ s0
set_option maxRecDepth 100000 in
theorem c_X3_isBy_29 (X : kX) (p0 : Nat) (p1 : Int) (p2 : Int) (h0 : Lay p0 (ksX3 p0)) {res : Res}  (s0 : Int) (μ : Mu) (h : f_X3_isBy_29 p0 p1 p2 s0 μ = some res) : KK X mX3_isBy 0 1 res 29 [] [.int (iI s0)] μ := by
  unfold f_X3_isBy_29 at h
  exact Z_zret (md := mX3_isBy) (pc := 29) (kTab_at (pc := 29) tX3_isBy_ok 19 rfl) rfl rfl h
def f_X3_isBy_28 (p0 : Nat) (p1 : Int) (p2 : Int)   (μ : Mu) : Option Res := f_X3_isBy_29 p0 p1 p2 0 μ
set_option maxRecDepth 100000 in
theorem c_X3_isBy_28 (X : kX) (p0 : Nat) (p1 : Int) (p2 : Int) (h0 : Lay p0 (ksX3 p0)) {res : Res}  (μ : Mu) (h : f_X3_isBy_28 p0 p1 p2 μ = some res) : KK X mX3_isBy 0 1 res 28 [] [] μ := by
  unfold f_X3_isBy_28 at h
  refine K_iconst (md := mX3_isBy) (pc := 28) (x := 0) (kTab_at (pc := 28) tX3_isBy_ok 18 rfl) rfl ?_
  refine c_X3_isBy_29 X p0 p1 p2 h0  0 μ h
def f_X3_isBy (p0 : Nat) (p1 : Int) (p2 : Int) (μ : Mu) : Option Res := i_rem p2 3 fun x1 => i_div p2 3 fun x2 => rdI μ (p0 + 1) 40 x2 fun x3 => i_lt x1 x3 (rdI μ (p0 + 2) 120 p2 fun x4 => i_eq x4 p1 (f_X3_isBy_29 p0 p1 p2 1 μ) (f_X3_isBy_28 p0 p1 p2 μ)) (f_X3_isBy_28 p0 p1 p2 μ)
set_option maxRecDepth 100000 in
theorem c_X3_isBy (X : kX) (p0 : Nat) (p1 : Int) (p2 : Int) (h0 : Lay p0 (ksX3 p0)) (μ : Mu) : Cq X mX3_isBy 0 1 μ [.ref (X.1 + p0), .int (iI p1), .int (iI p2)] (f_X3_isBy p0 p1 p2 μ) := by
  intro res h
  refine ct_of (by decide +kernel) rfl (Nat.le_of_ble_eq_true rfl) ?_
  show KK X mX3_isBy 0 1 res 0 [(0, .ref (X.1 + p0)), (1, .int (iI p1)), (2, .int (iI p2))] [] μ
  unfold f_X3_isBy at h
  refine K_iload_n (md := mX3_isBy) (pc := 0) 2 (kTab_at (pc := 0) tX3_isBy_ok 0 rfl) rfl ?_
  refine K_iconst (md := mX3_isBy) (pc := 1) (x := 3) (kTab_at (pc := 1) tX3_isBy_ok 1 rfl) rfl ?_
  refine Z_irem (md := mX3_isBy) (pc := 2) (kTab_at (pc := 2) tX3_isBy_ok 2 rfl) h (fun x1 h => ?_)
  refine K_aload_n (md := mX3_isBy) (pc := 3) 0 (kTab_at (pc := 3) tX3_isBy_ok 3 rfl) rfl ?_
  refine K_getR (md := mX3_isBy) (pc := 4) (b := (p0 + 1)) (kTab_at (pc := 4) tX3_isBy_ok 4 rfl) fl_X3_9 (lay_0 h0 rfl) rfl rfl ?_
  refine K_iload_n (md := mX3_isBy) (pc := 7) 2 (kTab_at (pc := 7) tX3_isBy_ok 5 rfl) rfl ?_
  refine K_iconst (md := mX3_isBy) (pc := 8) (x := 3) (kTab_at (pc := 8) tX3_isBy_ok 6 rfl) rfl ?_
  refine Z_idiv (md := mX3_isBy) (pc := 9) (kTab_at (pc := 9) tX3_isBy_ok 7 rfl) h (fun x2 h => ?_)
  refine Z_iald (md := mX3_isBy) (pc := 10) (kTab_at (pc := 10) tX3_isBy_ok 8 rfl) (lay_at h0 1 rfl) (by decide) h (fun x3 h => ?_)
  refine K_icmp_ge (md := mX3_isBy) (pc := 11) (kTab_at (pc := 11) tX3_isBy_ok 9 rfl) (tgt := 28) rfl h (fun h => ?_) (fun h => ?_)
  · refine K_sub [] rfl ?_
    refine c_X3_isBy_28 X p0 p1 p2 h0  μ h
  · refine K_aload_n (md := mX3_isBy) (pc := 14) 0 (kTab_at (pc := 14) tX3_isBy_ok 10 rfl) rfl ?_
    refine K_getR (md := mX3_isBy) (pc := 15) (b := (p0 + 2)) (kTab_at (pc := 15) tX3_isBy_ok 11 rfl) fl_X3_15 (lay_0 h0 rfl) rfl rfl ?_
    refine K_iload_n (md := mX3_isBy) (pc := 18) 2 (kTab_at (pc := 18) tX3_isBy_ok 12 rfl) rfl ?_
    refine Z_iald (md := mX3_isBy) (pc := 19) (kTab_at (pc := 19) tX3_isBy_ok 13 rfl) (lay_at h0 2 rfl) (by decide) h (fun x4 h => ?_)
    refine K_iload_n (md := mX3_isBy) (pc := 20) 1 (kTab_at (pc := 20) tX3_isBy_ok 14 rfl) rfl ?_
    refine K_icmp_ne (md := mX3_isBy) (pc := 21) (kTab_at (pc := 21) tX3_isBy_ok 15 rfl) (tgt := 28) rfl h (fun h => ?_) (fun h => ?_)
    · refine K_sub [] rfl ?_
      refine c_X3_isBy_28 X p0 p1 p2 h0  μ h
    · refine K_iconst (md := mX3_isBy) (pc := 24) (x := 1) (kTab_at (pc := 24) tX3_isBy_ok 16 rfl) rfl ?_
      refine K_goto (md := mX3_isBy) (pc := 25) (tgt := 29) (kTab_at (pc := 25) tX3_isBy_ok 17 rfl) rfl ?_
      refine K_sub [] rfl ?_
      refine c_X3_isBy_29 X p0 p1 p2 h0  1 μ h
def f_X3_hasEntryBy_2 (p0 : Nat) (p1 : Int) (p2 : Int) (k20 : Mu → Option Res) (k28 : Mu → Option Res) : Nat → Int → Mu → Option Res
  | 0, _, _ => none
  | fu + 1, v3, μ => i_lt v3 3 (rb (f_X3_isBy p0 p1 ((p2 * 3) + v3) μ) fun μ x1 => i_eq x1 0 ((f_X3_hasEntryBy_2 p0 p1 p2 k20 k28 fu) (v3 + 1) μ) (k20 μ)) (k28 μ)
set_option maxRecDepth 100000 in
theorem c_X3_hasEntryBy_2 (X : kX) (p0 : Nat) (p1 : Int) (p2 : Int) (h0 : Lay p0 (ksX3 p0)) {res : Res} (k20 : Mu → Option Res) (hk20 : ∀ (μ : Mu), k20 μ = some res → KK X mX3_hasEntryBy 1 1 res 20 [] [] μ) (k28 : Mu → Option Res) (hk28 : ∀ (μ : Mu), k28 μ = some res → KK X mX3_hasEntryBy 1 1 res 28 [] [] μ) : ∀ (fu : Nat)  (v3 : Int) (μ : Mu), f_X3_hasEntryBy_2 p0 p1 p2 k20 k28 fu v3 μ = some res → KK X mX3_hasEntryBy 1 1 res 2 [(0, .ref (X.1 + p0)), (1, .int (iI p1)), (2, .int (iI p2)), (3, .int (iI v3))] [] μ := by
  intro fu
  induction fu with
  | zero => intro v3 μ h; exact nomatch h
  | succ fu ih =>
    intro v3 μ h
    refine K_iload_n (md := mX3_hasEntryBy) (pc := 2) 3 (kTab_at (pc := 2) tX3_hasEntryBy_ok 2 rfl) rfl ?_
    refine K_iconst (md := mX3_hasEntryBy) (pc := 3) (x := 3) (kTab_at (pc := 3) tX3_hasEntryBy_ok 3 rfl) rfl ?_
    refine K_icmp_ge (md := mX3_hasEntryBy) (pc := 4) (kTab_at (pc := 4) tX3_hasEntryBy_ok 4 rfl) (tgt := 28) rfl h (fun h => ?_) (fun h => ?_)
    · refine K_sub [] rfl ?_
      exact hk28 μ h
    · refine K_aload_n (md := mX3_hasEntryBy) (pc := 7) 0 (kTab_at (pc := 7) tX3_hasEntryBy_ok 5 rfl) rfl ?_
      refine K_iload_n (md := mX3_hasEntryBy) (pc := 8) 1 (kTab_at (pc := 8) tX3_hasEntryBy_ok 6 rfl) rfl ?_
      refine K_iload_n (md := mX3_hasEntryBy) (pc := 9) 2 (kTab_at (pc := 9) tX3_hasEntryBy_ok 7 rfl) rfl ?_
      refine K_iconst (md := mX3_hasEntryBy) (pc := 10) (x := 3) (kTab_at (pc := 10) tX3_hasEntryBy_ok 8 rfl) rfl ?_
      refine K_imul (md := mX3_hasEntryBy) (pc := 11) (kTab_at (pc := 11) tX3_hasEntryBy_ok 9 rfl) ?_
      refine K_iload_n (md := mX3_hasEntryBy) (pc := 12) 3 (kTab_at (pc := 12) tX3_hasEntryBy_ok 10 rfl) rfl ?_
      refine K_iadd (md := mX3_hasEntryBy) (pc := 13) (kTab_at (pc := 13) tX3_hasEntryBy_ok 11 rfl) ?_
      refine Z_callV (md := mX3_hasEntryBy) (pc := 14) (st := []) (sv := (fun x1 => [.int (iI x1)])) (kTab_at (pc := 14) tX3_hasEntryBy_ok 12 rfl) mv_X3_32 (lay_0 h0 rfl) rfl (Nat.le_of_ble_eq_true rfl) (by decide) rfl (c_X3_isBy X p0 p1 ((p2 * 3) + v3) h0 μ) (fun _ => rfl) h (fun μ x1 h => ?_) rfl
      refine K_if_eq (md := mX3_hasEntryBy) (pc := 17) (kTab_at (pc := 17) tX3_hasEntryBy_ok 13 rfl) (tgt := 22) rfl h (fun h => ?_) (fun h => ?_)
      · refine K_iinc (md := mX3_hasEntryBy) (pc := 22) (l' := [(3, .int (iI (v3 + 1))), (0, .ref (X.1 + p0)), (1, .int (iI p1)), (2, .int (iI p2))]) 3 (kTab_at (pc := 22) tX3_hasEntryBy_ok 16 rfl) rfl (Nat.le_of_ble_eq_true rfl) rfl ?_
        refine K_goto (md := mX3_hasEntryBy) (pc := 25) (tgt := 2) (kTab_at (pc := 25) tX3_hasEntryBy_ok 17 rfl) rfl ?_
        refine K_sub [1, 2, 3, 0] rfl ?_
        exact ih (v3 + 1) μ h
      · refine K_sub [] rfl ?_
        exact hk20 μ h
def f_X3_hasEntryBy (p0 : Nat) (p1 : Int) (p2 : Int) (μ : Mu) : Option Res := f_X3_hasEntryBy_2 p0 p1 p2 (fun μ => retZ μ 1) (fun μ => retZ μ 0) FU 0 μ
set_option maxRecDepth 100000 in
theorem c_X3_hasEntryBy (X : kX) (p0 : Nat) (p1 : Int) (p2 : Int) (h0 : Lay p0 (ksX3 p0)) (μ : Mu) : Cq X mX3_hasEntryBy 1 1 μ [.ref (X.1 + p0), .int (iI p1), .int (iI p2)] (f_X3_hasEntryBy p0 p1 p2 μ) := by
  intro res h
  refine ct_of (by decide +kernel) rfl (Nat.le_of_ble_eq_true rfl) ?_
  show KK X mX3_hasEntryBy 1 1 res 0 [(0, .ref (X.1 + p0)), (1, .int (iI p1)), (2, .int (iI p2))] [] μ
  unfold f_X3_hasEntryBy at h
  refine K_iconst (md := mX3_hasEntryBy) (pc := 0) (x := 0) (kTab_at (pc := 0) tX3_hasEntryBy_ok 0 rfl) rfl ?_
  refine K_istore_n (md := mX3_hasEntryBy) (pc := 1) (l' := [(3, .int (iI 0)), (0, .ref (X.1 + p0)), (1, .int (iI p1)), (2, .int (iI p2))]) (kTab_at (pc := 1) tX3_hasEntryBy_ok 1 rfl) (Nat.le_of_ble_eq_true rfl) rfl ?_
  refine K_sub [1, 2, 3, 0] rfl ?_
  refine c_X3_hasEntryBy_2 X p0 p1 p2 h0 _ ?_ _ ?_ _ 0 μ h
  · intro  μ h
    refine K_iconst (md := mX3_hasEntryBy) (pc := 20) (x := 1) (kTab_at (pc := 20) tX3_hasEntryBy_ok 14 rfl) rfl ?_
    exact Z_zret (md := mX3_hasEntryBy) (pc := 21) (kTab_at (pc := 21) tX3_hasEntryBy_ok 15 rfl) rfl rfl h
  · intro  μ h
    refine K_iconst (md := mX3_hasEntryBy) (pc := 28) (x := 0) (kTab_at (pc := 28) tX3_hasEntryBy_ok 18 rfl) rfl ?_
    exact Z_zret (md := mX3_hasEntryBy) (pc := 29) (kTab_at (pc := 29) tX3_hasEntryBy_ok 19 rfl) rfl rfl h
def f_X4_keep_56 (p1 : Nat)   (μ : Mu) : Option Res := some (μ, 0, 0)
set_option maxRecDepth 100000 in
theorem c_X4_keep_56 (X : kX) (p1 : Nat) (h1 : Lay p1 (ksX1 p1)) {res : Res}  (μ : Mu) (h : f_X4_keep_56 p1 μ = some res) : KK X mX4_keep 3 0 res 56 [] [] μ := by
  unfold f_X4_keep_56 at h
  exact Z_vret (md := mX4_keep) (pc := 56) (kTab_at (pc := 56) tX4_keep_ok 31 rfl) rfl rfl h
def f_X4_keep (p1 : Nat) (μ : Mu) : Option Res := rdF μ 73 1 fun x1 => rdF μ 73 2 fun x2 => i_rem (x1 + x2) 6 fun x3 => rdA 6 x3 (fun j => 75 + 24 * j) fun x4 => rb (f_X1_copyFrom x4 p1 μ) fun μ _ => rdF μ 73 2 fun x5 => i_lt x5 6 (rdF μ 73 2 fun x8 => wrF μ 73 2 (x8 + 1) fun μ => f_X4_keep_56 p1 μ) (rdF μ 73 1 fun x6 => i_rem (x6 + 1) 6 fun x7 => wrF μ 73 1 x7 fun μ => f_X4_keep_56 p1 μ)
set_option maxRecDepth 100000 in
theorem c_X4_keep (X : kX) (p1 : Nat) (h1 : Lay p1 (ksX1 p1)) (μ : Mu) : Cq X mX4_keep 3 0 μ [.ref (X.1 + 73), .ref (X.1 + p1)] (f_X4_keep p1 μ) := by
  intro res h
  refine ct_of (by decide +kernel) rfl (Nat.le_of_ble_eq_true rfl) ?_
  show KK X mX4_keep 3 0 res 0 [(0, .ref (X.1 + 73)), (1, .ref (X.1 + p1))] [] μ
  unfold f_X4_keep at h
  refine K_aload_n (md := mX4_keep) (pc := 0) 0 (kTab_at (pc := 0) tX4_keep_ok 0 rfl) rfl ?_
  refine K_getR (md := mX4_keep) (pc := 1) (b := 74) (kTab_at (pc := 1) tX4_keep_ok 1 rfl) fl_X4_11 sk_73 rfl rfl ?_
  refine K_aload_n (md := mX4_keep) (pc := 4) 0 (kTab_at (pc := 4) tX4_keep_ok 2 rfl) rfl ?_
  refine Z_getI (md := mX4_keep) (pc := 5) (kTab_at (pc := 5) tX4_keep_ok 3 rfl) fl_X4_18 sk_73 (Or.inl rfl) h (fun x1 h => ?_)
  refine K_aload_n (md := mX4_keep) (pc := 8) 0 (kTab_at (pc := 8) tX4_keep_ok 4 rfl) rfl ?_
  refine Z_getI (md := mX4_keep) (pc := 9) (kTab_at (pc := 9) tX4_keep_ok 5 rfl) fl_X4_22 sk_73 (Or.inl rfl) h (fun x2 h => ?_)
  refine K_iadd (md := mX4_keep) (pc := 12) (kTab_at (pc := 12) tX4_keep_ok 6 rfl) ?_
  refine K_bipush (md := mX4_keep) (pc := 13) (x := 6) (kTab_at (pc := 13) tX4_keep_ok 7 rfl) (by decide) ?_
  refine Z_irem (md := mX4_keep) (pc := 15) (kTab_at (pc := 15) tX4_keep_ok 8 rfl) h (fun x3 h => ?_)
  refine Z_aaldL (md := mX4_keep) (pc := 16) (ks := ksX1) (kTab_at (pc := 16) tX4_keep_ok 9 rfl) sk_74 (Or.inl rfl) (by decide) lay_past h (fun x4 hx4 h => ?_)
  refine K_aload_n (md := mX4_keep) (pc := 17) 1 (kTab_at (pc := 17) tX4_keep_ok 10 rfl) rfl ?_
  refine Z_callV (md := mX4_keep) (pc := 18) (st := []) (sv := (fun _ => [])) (kTab_at (pc := 18) tX4_keep_ok 11 rfl) mv_X4_25 (lay_0 hx4 rfl) rfl (Nat.le_of_ble_eq_true rfl) (by decide) rfl (c_X1_copyFrom X x4 p1 hx4 h1 μ) (fun _ => rfl) h (fun μ _ h => ?_) rfl
  refine K_aload_n (md := mX4_keep) (pc := 21) 0 (kTab_at (pc := 21) tX4_keep_ok 12 rfl) rfl ?_
  refine Z_getI (md := mX4_keep) (pc := 22) (kTab_at (pc := 22) tX4_keep_ok 13 rfl) fl_X4_22 sk_73 (Or.inl rfl) h (fun x5 h => ?_)
  refine K_bipush (md := mX4_keep) (pc := 25) (x := 6) (kTab_at (pc := 25) tX4_keep_ok 14 rfl) (by decide) ?_
  refine K_icmp_ge (md := mX4_keep) (pc := 27) (kTab_at (pc := 27) tX4_keep_ok 15 rfl) (tgt := 43) rfl h (fun h => ?_) (fun h => ?_)
  · refine K_aload_n (md := mX4_keep) (pc := 43) 0 (kTab_at (pc := 43) tX4_keep_ok 23 rfl) rfl ?_
    refine K_aload_n (md := mX4_keep) (pc := 44) 0 (kTab_at (pc := 44) tX4_keep_ok 24 rfl) rfl ?_
    refine Z_getI (md := mX4_keep) (pc := 45) (kTab_at (pc := 45) tX4_keep_ok 25 rfl) fl_X4_18 sk_73 (Or.inl rfl) h (fun x6 h => ?_)
    refine K_iconst (md := mX4_keep) (pc := 48) (x := 1) (kTab_at (pc := 48) tX4_keep_ok 26 rfl) rfl ?_
    refine K_iadd (md := mX4_keep) (pc := 49) (kTab_at (pc := 49) tX4_keep_ok 27 rfl) ?_
    refine K_bipush (md := mX4_keep) (pc := 50) (x := 6) (kTab_at (pc := 50) tX4_keep_ok 28 rfl) (by decide) ?_
    refine Z_irem (md := mX4_keep) (pc := 52) (kTab_at (pc := 52) tX4_keep_ok 29 rfl) h (fun x7 h => ?_)
    refine Z_putI (md := mX4_keep) (pc := 53) (kTab_at (pc := 53) tX4_keep_ok 30 rfl) fl_X4_18 sk_73 rfl h (fun μ h => ?_)
    refine K_sub [] rfl ?_
    refine c_X4_keep_56 X p1 h1  μ h
  · refine K_aload_n (md := mX4_keep) (pc := 30) 0 (kTab_at (pc := 30) tX4_keep_ok 16 rfl) rfl ?_
    refine K_dup (md := mX4_keep) (pc := 31) (kTab_at (pc := 31) tX4_keep_ok 17 rfl) rfl ?_
    refine Z_getI (md := mX4_keep) (pc := 32) (kTab_at (pc := 32) tX4_keep_ok 18 rfl) fl_X4_22 sk_73 (Or.inl rfl) h (fun x8 h => ?_)
    refine K_iconst (md := mX4_keep) (pc := 35) (x := 1) (kTab_at (pc := 35) tX4_keep_ok 19 rfl) rfl ?_
    refine K_iadd (md := mX4_keep) (pc := 36) (kTab_at (pc := 36) tX4_keep_ok 20 rfl) ?_
    refine Z_putI (md := mX4_keep) (pc := 37) (kTab_at (pc := 37) tX4_keep_ok 21 rfl) fl_X4_22 sk_73 rfl h (fun μ h => ?_)
    refine K_goto (md := mX4_keep) (pc := 40) (tgt := 56) (kTab_at (pc := 40) tX4_keep_ok 22 rfl) rfl ?_
    refine K_sub [] rfl ?_
    refine c_X4_keep_56 X p1 h1  μ h
def f_X4_takeBack_38 (p1 : Nat)   (μ : Mu) : Option Res := some (μ, 0, 0)
set_option maxRecDepth 100000 in
theorem c_X4_takeBack_38 (X : kX) (p1 : Nat) (h1 : Lay p1 (ksX1 p1)) {res : Res}  (μ : Mu) (h : f_X4_takeBack_38 p1 μ = some res) : KK X mX4_takeBack 3 0 res 38 [] [] μ := by
  unfold f_X4_takeBack_38 at h
  exact Z_vret (md := mX4_takeBack) (pc := 38) (kTab_at (pc := 38) tX4_takeBack_ok 21 rfl) rfl rfl h
def f_X4_takeBack (p1 : Nat) (μ : Mu) : Option Res := rdF μ 73 2 fun x1 => i_lt 0 x1 (rdF μ 73 2 fun x2 => wrF μ 73 2 (x2 - 1) fun μ => rdF μ 73 1 fun x3 => rdF μ 73 2 fun x4 => i_rem (x3 + x4) 6 fun x5 => rdA 6 x5 (fun j => 75 + 24 * j) fun x6 => rb (f_X1_copyFrom p1 x6 μ) fun μ _ => f_X4_takeBack_38 p1 μ) (f_X4_takeBack_38 p1 μ)
set_option maxRecDepth 100000 in
theorem c_X4_takeBack (X : kX) (p1 : Nat) (h1 : Lay p1 (ksX1 p1)) (μ : Mu) : Cq X mX4_takeBack 3 0 μ [.ref (X.1 + 73), .ref (X.1 + p1)] (f_X4_takeBack p1 μ) := by
  intro res h
  refine ct_of (by decide +kernel) rfl (Nat.le_of_ble_eq_true rfl) ?_
  show KK X mX4_takeBack 3 0 res 0 [(0, .ref (X.1 + 73)), (1, .ref (X.1 + p1))] [] μ
  unfold f_X4_takeBack at h
  refine K_aload_n (md := mX4_takeBack) (pc := 0) 0 (kTab_at (pc := 0) tX4_takeBack_ok 0 rfl) rfl ?_
  refine Z_getI (md := mX4_takeBack) (pc := 1) (kTab_at (pc := 1) tX4_takeBack_ok 1 rfl) fl_X4_22 sk_73 (Or.inl rfl) h (fun x1 h => ?_)
  refine K_if_le (md := mX4_takeBack) (pc := 4) (kTab_at (pc := 4) tX4_takeBack_ok 2 rfl) (tgt := 38) rfl h (fun h => ?_) (fun h => ?_)
  · refine K_sub [] rfl ?_
    refine c_X4_takeBack_38 X p1 h1  μ h
  · refine K_aload_n (md := mX4_takeBack) (pc := 7) 0 (kTab_at (pc := 7) tX4_takeBack_ok 3 rfl) rfl ?_
    refine K_dup (md := mX4_takeBack) (pc := 8) (kTab_at (pc := 8) tX4_takeBack_ok 4 rfl) rfl ?_
    refine Z_getI (md := mX4_takeBack) (pc := 9) (kTab_at (pc := 9) tX4_takeBack_ok 5 rfl) fl_X4_22 sk_73 (Or.inl rfl) h (fun x2 h => ?_)
    refine K_iconst (md := mX4_takeBack) (pc := 12) (x := 1) (kTab_at (pc := 12) tX4_takeBack_ok 6 rfl) rfl ?_
    refine K_isub (md := mX4_takeBack) (pc := 13) (kTab_at (pc := 13) tX4_takeBack_ok 7 rfl) ?_
    refine Z_putI (md := mX4_takeBack) (pc := 14) (kTab_at (pc := 14) tX4_takeBack_ok 8 rfl) fl_X4_22 sk_73 rfl h (fun μ h => ?_)
    refine K_aload_n (md := mX4_takeBack) (pc := 17) 1 (kTab_at (pc := 17) tX4_takeBack_ok 9 rfl) rfl ?_
    refine K_aload_n (md := mX4_takeBack) (pc := 18) 0 (kTab_at (pc := 18) tX4_takeBack_ok 10 rfl) rfl ?_
    refine K_getR (md := mX4_takeBack) (pc := 19) (b := 74) (kTab_at (pc := 19) tX4_takeBack_ok 11 rfl) fl_X4_11 sk_73 rfl rfl ?_
    refine K_aload_n (md := mX4_takeBack) (pc := 22) 0 (kTab_at (pc := 22) tX4_takeBack_ok 12 rfl) rfl ?_
    refine Z_getI (md := mX4_takeBack) (pc := 23) (kTab_at (pc := 23) tX4_takeBack_ok 13 rfl) fl_X4_18 sk_73 (Or.inl rfl) h (fun x3 h => ?_)
    refine K_aload_n (md := mX4_takeBack) (pc := 26) 0 (kTab_at (pc := 26) tX4_takeBack_ok 14 rfl) rfl ?_
    refine Z_getI (md := mX4_takeBack) (pc := 27) (kTab_at (pc := 27) tX4_takeBack_ok 15 rfl) fl_X4_22 sk_73 (Or.inl rfl) h (fun x4 h => ?_)
    refine K_iadd (md := mX4_takeBack) (pc := 30) (kTab_at (pc := 30) tX4_takeBack_ok 16 rfl) ?_
    refine K_bipush (md := mX4_takeBack) (pc := 31) (x := 6) (kTab_at (pc := 31) tX4_takeBack_ok 17 rfl) (by decide) ?_
    refine Z_irem (md := mX4_takeBack) (pc := 33) (kTab_at (pc := 33) tX4_takeBack_ok 18 rfl) h (fun x5 h => ?_)
    refine Z_aaldL (md := mX4_takeBack) (pc := 34) (ks := ksX1) (kTab_at (pc := 34) tX4_takeBack_ok 19 rfl) sk_74 (Or.inl rfl) (by decide) lay_past h (fun x6 hx6 h => ?_)
    refine Z_callV (md := mX4_takeBack) (pc := 35) (st := []) (sv := (fun _ => [])) (kTab_at (pc := 35) tX4_takeBack_ok 20 rfl) mv_X4_25 (lay_0 h1 rfl) rfl (Nat.le_of_ble_eq_true rfl) (by decide) rfl (c_X1_copyFrom X p1 x6 h1 hx6 μ) (fun _ => rfl) h (fun μ _ h => ?_) rfl
    refine K_sub [] rfl ?_
    refine c_X4_takeBack_38 X p1 h1  μ h
def f_X10_greatestCommonDivisor_45 (p0 : Int) (p2 : Int)  (v4 : Int) (μ : Mu) : Option Res := some (μ, 0, v4)
set_option maxRecDepth 100000 in
theorem n_X10_greatestCommonDivisor_45 (p0 : Int) (p2 : Int)   (v4 : Int) (μ : Mu) : nth (f_X10_greatestCommonDivisor_45 p0 p2 v4 μ) := by
  unfold f_X10_greatestCommonDivisor_45
  repeat (first | with_reducible exact nth_s _ _ | with_reducible exact nth_Z _ _ | with_reducible apply nth_ilt | with_reducible apply nth_ieq | with_reducible apply nth_llt | with_reducible apply nth_leq | (with_reducible apply nth_rdI; intro _) | (with_reducible apply nth_wrI; intro _) | (with_reducible apply nth_bnd; intro _) | (with_reducible apply nth_idiv; intro _) | (with_reducible apply nth_irem; intro _) | (with_reducible apply nth_ldiv; intro _) | (with_reducible apply nth_lrem; intro _) | (with_reducible apply nth_max; intro _) | (with_reducible apply nth_min; intro _) | (with_reducible apply nth_cpy; intro _) | with_reducible exact ih _ | with_reducible exact ih _ _ | with_reducible exact ih _ _ _ | with_reducible exact ih _ _ _ _)
set_option maxRecDepth 100000 in
theorem c_X10_greatestCommonDivisor_45 (X : kX) (p0 : Int) (p2 : Int)  {res : Res}  (v4 : Int) (μ : Mu) (h : f_X10_greatestCommonDivisor_45 p0 p2 v4 μ = some res) : KK X mX10_greatestCommonDivisor 0 2 res 45 [(4, .long (iL v4))] [] μ := by
  unfold f_X10_greatestCommonDivisor_45 at h
  refine K_lload (md := mX10_greatestCommonDivisor) (pc := 45) 0 (kTab_at (pc := 45) tX10_greatestCommonDivisor_ok 23 rfl) rfl ?_
  exact Z_lret (md := mX10_greatestCommonDivisor) (pc := 47) (kTab_at (pc := 47) tX10_greatestCommonDivisor_ok 24 rfl) rfl rfl h
def f_X10_greatestCommonDivisor_9 (p0 : Int) (p2 : Int) (k45 : Int → Mu → Option Res) : Nat → Int → Int → Int → Mu → Option Res
  | 0, _, _, _, _ => none
  | fu + 1, v4, v6, v8, μ => i_lt v8 200 (l_eq v6 0 (k45 v4 μ) (l_rem v4 v6 fun x1 => (f_X10_greatestCommonDivisor_9 p0 p2 k45 fu) v6 x1 (v8 + 1) μ)) (k45 v4 μ)
set_option maxRecDepth 100000 in
theorem n_X10_greatestCommonDivisor_9 (p0 : Int) (p2 : Int) (k45 : Int → Mu → Option Res) (q45 : ∀ z0 μ, nth (k45 z0 μ)) : ∀ (fu : Nat) v4 v6 v8 μ, nth (f_X10_greatestCommonDivisor_9 p0 p2 k45 fu v4 v6 v8 μ) := by
  intro fu
  induction fu with
  | zero => intro v4 v6 v8 μ; intro r h; exact nomatch h
  | succ fu ih =>
    intro v4 v6 v8 μ
    unfold f_X10_greatestCommonDivisor_9
    repeat (first | with_reducible exact nth_s _ _ | with_reducible exact nth_Z _ _ | with_reducible apply nth_ilt | with_reducible apply nth_ieq | with_reducible apply nth_llt | with_reducible apply nth_leq | (with_reducible apply nth_rdI; intro _) | (with_reducible apply nth_wrI; intro _) | (with_reducible apply nth_bnd; intro _) | (with_reducible apply nth_idiv; intro _) | (with_reducible apply nth_irem; intro _) | (with_reducible apply nth_ldiv; intro _) | (with_reducible apply nth_lrem; intro _) | (with_reducible apply nth_max; intro _) | (with_reducible apply nth_min; intro _) | (with_reducible apply nth_cpy; intro _) | with_reducible exact q45 _ _ | with_reducible exact ih _ | with_reducible exact ih _ _ | with_reducible exact ih _ _ _ | with_reducible exact ih _ _ _ _ | (with_reducible refine n_X10_greatestCommonDivisor_45 _ _ _ _; all_goals (try intros)))
set_option maxRecDepth 100000 in
theorem c_X10_greatestCommonDivisor_9 (X : kX) (p0 : Int) (p2 : Int)  {res : Res} (k45 : Int → Mu → Option Res) (hk45 : ∀ (v4 : Int), ∀ (μ : Mu), k45 v4 μ = some res → KK X mX10_greatestCommonDivisor 0 2 res 45 [(4, .long (iL v4))] [] μ) : ∀ (fu : Nat)  (v4 : Int) (v6 : Int) (v8 : Int) (μ : Mu), f_X10_greatestCommonDivisor_9 p0 p2 k45 fu v4 v6 v8 μ = some res → KK X mX10_greatestCommonDivisor 0 2 res 9 [(4, .long (iL v4)), (6, .long (iL v6)), (8, .int (iI v8))] [] μ := by
  intro fu
  induction fu with
  | zero => intro v4 v6 v8 μ h; exact nomatch h
  | succ fu ih =>
    intro v4 v6 v8 μ h
    refine K_iload (md := mX10_greatestCommonDivisor) (pc := 9) 2 (kTab_at (pc := 9) tX10_greatestCommonDivisor_ok 6 rfl) rfl ?_
    refine K_sipush (md := mX10_greatestCommonDivisor) (pc := 11) (x := 200) (kTab_at (pc := 11) tX10_greatestCommonDivisor_ok 7 rfl) (by decide) ?_
    refine K_icmp_ge (md := mX10_greatestCommonDivisor) (pc := 14) (kTab_at (pc := 14) tX10_greatestCommonDivisor_ok 8 rfl) (tgt := 45) rfl h (fun h => ?_) (fun h => ?_)
    · refine K_sub [0] rfl ?_
      exact hk45 v4 μ h
    · refine K_lload (md := mX10_greatestCommonDivisor) (pc := 17) 1 (kTab_at (pc := 17) tX10_greatestCommonDivisor_ok 9 rfl) rfl ?_
      refine K_lconst (md := mX10_greatestCommonDivisor) (pc := 19) (x := 0) (kTab_at (pc := 19) tX10_greatestCommonDivisor_ok 10 rfl) rfl ?_
      refine K_lcmp_eq (md := mX10_greatestCommonDivisor) (pc := 20) (kTab_at (pc := 20) tX10_greatestCommonDivisor_ok 11 rfl) (kTab_at (pc := 21) tX10_greatestCommonDivisor_ok 12 rfl) (tgt := 45) rfl h (fun h => ?_) (fun h => ?_)
      · refine K_sub [0] rfl ?_
        exact hk45 v4 μ h
      · refine K_lload (md := mX10_greatestCommonDivisor) (pc := 24) 0 (kTab_at (pc := 24) tX10_greatestCommonDivisor_ok 13 rfl) rfl ?_
        refine K_lload (md := mX10_greatestCommonDivisor) (pc := 26) 1 (kTab_at (pc := 26) tX10_greatestCommonDivisor_ok 14 rfl) rfl ?_
        refine Z_lrem (md := mX10_greatestCommonDivisor) (pc := 28) (kTab_at (pc := 28) tX10_greatestCommonDivisor_ok 15 rfl) h (fun x1 h => ?_)
        refine K_lstore (md := mX10_greatestCommonDivisor) (pc := 29) (l' := [(9, .long (iL x1)), (4, .long (iL v4)), (6, .long (iL v6)), (8, .int (iI v8))]) (kTab_at (pc := 29) tX10_greatestCommonDivisor_ok 16 rfl) (Nat.le_of_ble_eq_true rfl) rfl ?_
        refine K_lload (md := mX10_greatestCommonDivisor) (pc := 31) 2 (kTab_at (pc := 31) tX10_greatestCommonDivisor_ok 17 rfl) rfl ?_
        refine K_lstore (md := mX10_greatestCommonDivisor) (pc := 33) (l' := [(4, .long (iL v6)), (9, .long (iL x1)), (6, .long (iL v6)), (8, .int (iI v8))]) (kTab_at (pc := 33) tX10_greatestCommonDivisor_ok 18 rfl) (Nat.le_of_ble_eq_true rfl) rfl ?_
        refine K_lload (md := mX10_greatestCommonDivisor) (pc := 35) 1 (kTab_at (pc := 35) tX10_greatestCommonDivisor_ok 19 rfl) rfl ?_
        refine K_lstore (md := mX10_greatestCommonDivisor) (pc := 37) (l' := [(6, .long (iL x1)), (4, .long (iL v6)), (9, .long (iL x1)), (8, .int (iI v8))]) (kTab_at (pc := 37) tX10_greatestCommonDivisor_ok 20 rfl) (Nat.le_of_ble_eq_true rfl) rfl ?_
        refine K_iinc (md := mX10_greatestCommonDivisor) (pc := 39) (l' := [(8, .int (iI (v8 + 1))), (6, .long (iL x1)), (4, .long (iL v6)), (9, .long (iL x1))]) 3 (kTab_at (pc := 39) tX10_greatestCommonDivisor_ok 21 rfl) rfl (Nat.le_of_ble_eq_true rfl) rfl ?_
        refine K_goto (md := mX10_greatestCommonDivisor) (pc := 42) (tgt := 9) (kTab_at (pc := 42) tX10_greatestCommonDivisor_ok 22 rfl) rfl ?_
        refine K_sub [2, 1, 0] rfl ?_
        exact ih v6 x1 (v8 + 1) μ h
def f_X10_greatestCommonDivisor (p0 : Int) (p2 : Int) (μ : Mu) : Option Res := f_X10_greatestCommonDivisor_9 p0 p2 (fun v4 μ => f_X10_greatestCommonDivisor_45 p0 p2 v4 μ) FU p0 p2 0 μ
set_option maxRecDepth 100000 in
theorem c_X10_greatestCommonDivisor (X : kX) (p0 : Int) (p2 : Int)  (μ : Mu) : Cq X mX10_greatestCommonDivisor 0 2 μ [.long (iL p0), .long (iL p2)] (f_X10_greatestCommonDivisor p0 p2 μ) := by
  intro res h
  refine ct_of (by decide +kernel) rfl (Nat.le_of_ble_eq_true rfl) ?_
  show KK X mX10_greatestCommonDivisor 0 2 res 0 [(0, .long (iL p0)), (2, .long (iL p2))] [] μ
  unfold f_X10_greatestCommonDivisor at h
  refine K_lload_n (md := mX10_greatestCommonDivisor) (pc := 0) 0 (kTab_at (pc := 0) tX10_greatestCommonDivisor_ok 0 rfl) rfl ?_
  refine K_lstore (md := mX10_greatestCommonDivisor) (pc := 1) (l' := [(4, .long (iL p0)), (0, .long (iL p0)), (2, .long (iL p2))]) (kTab_at (pc := 1) tX10_greatestCommonDivisor_ok 1 rfl) (Nat.le_of_ble_eq_true rfl) rfl ?_
  refine K_lload_n (md := mX10_greatestCommonDivisor) (pc := 3) 2 (kTab_at (pc := 3) tX10_greatestCommonDivisor_ok 2 rfl) rfl ?_
  refine K_lstore (md := mX10_greatestCommonDivisor) (pc := 4) (l' := [(6, .long (iL p2)), (4, .long (iL p0)), (0, .long (iL p0)), (2, .long (iL p2))]) (kTab_at (pc := 4) tX10_greatestCommonDivisor_ok 3 rfl) (Nat.le_of_ble_eq_true rfl) rfl ?_
  refine K_iconst (md := mX10_greatestCommonDivisor) (pc := 6) (x := 0) (kTab_at (pc := 6) tX10_greatestCommonDivisor_ok 4 rfl) rfl ?_
  refine K_istore (md := mX10_greatestCommonDivisor) (pc := 7) (l' := [(8, .int (iI 0)), (6, .long (iL p2)), (4, .long (iL p0)), (0, .long (iL p0)), (2, .long (iL p2))]) (kTab_at (pc := 7) tX10_greatestCommonDivisor_ok 5 rfl) (Nat.le_of_ble_eq_true rfl) rfl ?_
  refine K_sub [2, 1, 0] rfl ?_
  refine c_X10_greatestCommonDivisor_9 X p0 p2 _ ?_ _ p0 p2 0 μ h
  · intro v4 μ h
    refine c_X10_greatestCommonDivisor_45 X p0 p2  v4 μ h
set_option maxRecDepth 100000 in
theorem n_X10_greatestCommonDivisor (p0 : Int) (p2 : Int) (μ : Mu) : nth (f_X10_greatestCommonDivisor p0 p2 μ) := by
  unfold f_X10_greatestCommonDivisor
  repeat (first | with_reducible exact nth_s _ _ | with_reducible exact nth_Z _ _ | with_reducible apply nth_ilt | with_reducible apply nth_ieq | with_reducible apply nth_llt | with_reducible apply nth_leq | (with_reducible apply nth_rdI; intro _) | (with_reducible apply nth_wrI; intro _) | (with_reducible apply nth_bnd; intro _) | (with_reducible apply nth_idiv; intro _) | (with_reducible apply nth_irem; intro _) | (with_reducible apply nth_ldiv; intro _) | (with_reducible apply nth_lrem; intro _) | (with_reducible apply nth_max; intro _) | (with_reducible apply nth_min; intro _) | (with_reducible apply nth_cpy; intro _) | with_reducible exact ih _ | with_reducible exact ih _ _ | with_reducible exact ih _ _ _ | with_reducible exact ih _ _ _ _ | (with_reducible refine n_X10_greatestCommonDivisor_45 _ _ _ _; all_goals (try intros)) | (with_reducible refine n_X10_greatestCommonDivisor_9 _ _ _ ?_ _ _ _ _ _; all_goals (try intros)))

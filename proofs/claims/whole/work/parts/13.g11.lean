def f_X11_isExcused_23 (p1 : Int) (p2 : Int)  (s0 : Int) (μ : Mu) : Option Res := retZ μ s0
set_option maxRecDepth 100000 in
theorem c_X11_isExcused_23 (X : kX) (p1 : Int) (p2 : Int)  {res : Res}  (s0 : Int) (μ : Mu) (h : f_X11_isExcused_23 p1 p2 s0 μ = some res) : KK X mX11_isExcused 0 1 res 23 [] [.int (iI s0)] μ := by
  unfold f_X11_isExcused_23 at h
  exact Z_zret (md := mX11_isExcused) (pc := 23) (kTab_at (pc := 23) tX11_isExcused_ok 15 rfl) rfl rfl h
def f_X11_isExcused (p1 : Int) (p2 : Int) (μ : Mu) : Option Res := rdI μ 249 779 (625 + p1) fun x1 => i_eq (andI (shrI x1 p2) 1) 1 (f_X11_isExcused_23 p1 p2 1 μ) (f_X11_isExcused_23 p1 p2 0 μ)
set_option maxRecDepth 100000 in
theorem c_X11_isExcused (X : kX) (p1 : Int) (p2 : Int)  (μ : Mu) : Cq X mX11_isExcused 0 1 μ [.ref (X.1 + 248), .int (iI p1), .int (iI p2)] (f_X11_isExcused p1 p2 μ) := by
  intro res h
  refine ct_of (by decide +kernel) rfl (Nat.le_of_ble_eq_true rfl) ?_
  show KK X mX11_isExcused 0 1 res 0 [(0, .ref (X.1 + 248)), (1, .int (iI p1)), (2, .int (iI p2))] [] μ
  unfold f_X11_isExcused at h
  refine K_aload_n (md := mX11_isExcused) (pc := 0) 0 (kTab_at (pc := 0) tX11_isExcused_ok 0 rfl) rfl ?_
  refine K_getR (md := mX11_isExcused) (pc := 1) (b := 249) (kTab_at (pc := 1) tX11_isExcused_ok 1 rfl) fl_X11_7 sk_248 rfl rfl ?_
  refine K_sipush (md := mX11_isExcused) (pc := 4) (x := 625) (kTab_at (pc := 4) tX11_isExcused_ok 2 rfl) (by decide) ?_
  refine K_iload_n (md := mX11_isExcused) (pc := 7) 1 (kTab_at (pc := 7) tX11_isExcused_ok 3 rfl) rfl ?_
  refine K_iadd (md := mX11_isExcused) (pc := 8) (kTab_at (pc := 8) tX11_isExcused_ok 4 rfl) ?_
  refine Z_iald (md := mX11_isExcused) (pc := 9) (kTab_at (pc := 9) tX11_isExcused_ok 5 rfl) sk_249 (by decide) h (fun x1 h => ?_)
  refine K_iload_n (md := mX11_isExcused) (pc := 10) 2 (kTab_at (pc := 10) tX11_isExcused_ok 6 rfl) rfl ?_
  refine K_ishr (md := mX11_isExcused) (pc := 11) (kTab_at (pc := 11) tX11_isExcused_ok 7 rfl) ?_
  refine K_iconst (md := mX11_isExcused) (pc := 12) (x := 1) (kTab_at (pc := 12) tX11_isExcused_ok 8 rfl) rfl ?_
  refine K_iand (md := mX11_isExcused) (pc := 13) (kTab_at (pc := 13) tX11_isExcused_ok 9 rfl) ?_
  refine K_iconst (md := mX11_isExcused) (pc := 14) (x := 1) (kTab_at (pc := 14) tX11_isExcused_ok 10 rfl) rfl ?_
  refine K_icmp_ne (md := mX11_isExcused) (pc := 15) (kTab_at (pc := 15) tX11_isExcused_ok 11 rfl) (tgt := 22) rfl h (fun h => ?_) (fun h => ?_)
  · refine K_iconst (md := mX11_isExcused) (pc := 22) (x := 0) (kTab_at (pc := 22) tX11_isExcused_ok 14 rfl) rfl ?_
    refine K_sub [] rfl ?_
    refine c_X11_isExcused_23 X p1 p2  0 μ h
  · refine K_iconst (md := mX11_isExcused) (pc := 18) (x := 1) (kTab_at (pc := 18) tX11_isExcused_ok 12 rfl) rfl ?_
    refine K_goto (md := mX11_isExcused) (pc := 19) (tgt := 23) (kTab_at (pc := 19) tX11_isExcused_ok 13 rfl) rfl ?_
    refine K_sub [] rfl ?_
    refine c_X11_isExcused_23 X p1 p2  1 μ h
def f_X11_marksOf_2 (p1 : Int) (k25 : Mu → Option Res) : Nat → Int → Mu → Option Res
  | 0, _, _ => none
  | fu + 1, v2, μ => i_lt v2 5 (rb (f_X11_settled p1 v2 μ) fun μ x1 => wrI μ 256 5 v2 x1 fun μ => (f_X11_marksOf_2 p1 k25 fu) (v2 + 1) μ) (k25 μ)
set_option maxRecDepth 100000 in
theorem c_X11_marksOf_2 (X : kX) (p1 : Int)  {res : Res} (k25 : Mu → Option Res) (hk25 : ∀ (μ : Mu), k25 μ = some res → KK X mX11_marksOf 6 0 res 25 [] [] μ) : ∀ (fu : Nat)  (v2 : Int) (μ : Mu), f_X11_marksOf_2 p1 k25 fu v2 μ = some res → KK X mX11_marksOf 6 0 res 2 [(0, .ref (X.1 + 248)), (1, .int (iI p1)), (2, .int (iI v2))] [] μ := by
  intro fu
  induction fu with
  | zero => intro v2 μ h; exact nomatch h
  | succ fu ih =>
    intro v2 μ h
    refine K_iload_n (md := mX11_marksOf) (pc := 2) 2 (kTab_at (pc := 2) tX11_marksOf_ok 2 rfl) rfl ?_
    refine K_iconst (md := mX11_marksOf) (pc := 3) (x := 5) (kTab_at (pc := 3) tX11_marksOf_ok 3 rfl) rfl ?_
    refine K_icmp_ge (md := mX11_marksOf) (pc := 4) (kTab_at (pc := 4) tX11_marksOf_ok 4 rfl) (tgt := 25) rfl h (fun h => ?_) (fun h => ?_)
    · refine K_sub [] rfl ?_
      exact hk25 μ h
    · refine K_aload_n (md := mX11_marksOf) (pc := 7) 0 (kTab_at (pc := 7) tX11_marksOf_ok 5 rfl) rfl ?_
      refine K_getR (md := mX11_marksOf) (pc := 8) (b := 256) (kTab_at (pc := 8) tX11_marksOf_ok 6 rfl) fl_X11_35 sk_248 rfl rfl ?_
      refine K_iload_n (md := mX11_marksOf) (pc := 11) 2 (kTab_at (pc := 11) tX11_marksOf_ok 7 rfl) rfl ?_
      refine K_aload_n (md := mX11_marksOf) (pc := 12) 0 (kTab_at (pc := 12) tX11_marksOf_ok 8 rfl) rfl ?_
      refine K_iload_n (md := mX11_marksOf) (pc := 13) 1 (kTab_at (pc := 13) tX11_marksOf_ok 9 rfl) rfl ?_
      refine K_iload_n (md := mX11_marksOf) (pc := 14) 2 (kTab_at (pc := 14) tX11_marksOf_ok 10 rfl) rfl ?_
      refine Z_callV (md := mX11_marksOf) (pc := 15) (st := [.int (iI v2), .ref (X.1 + 256)]) (sv := (fun x1 => [.int (iI x1), .int (iI v2), .ref (X.1 + 256)])) (kTab_at (pc := 15) tX11_marksOf_ok 11 rfl) mv_X11_118 sk_248 rfl (Nat.le_of_ble_eq_true rfl) (by decide) rfl (c_X11_settled X p1 v2 μ) (fun _ => rfl) h (fun μ x1 h => ?_) rfl
      refine Z_iast (md := mX11_marksOf) (pc := 18) (kTab_at (pc := 18) tX11_marksOf_ok 12 rfl) sk_256 (by decide) h (fun μ h => ?_)
      refine K_iinc (md := mX11_marksOf) (pc := 19) (l' := [(2, .int (iI (v2 + 1))), (0, .ref (X.1 + 248)), (1, .int (iI p1))]) 2 (kTab_at (pc := 19) tX11_marksOf_ok 13 rfl) rfl (Nat.le_of_ble_eq_true rfl) rfl ?_
      refine K_goto (md := mX11_marksOf) (pc := 22) (tgt := 2) (kTab_at (pc := 22) tX11_marksOf_ok 14 rfl) rfl ?_
      refine K_sub [1, 2, 0] rfl ?_
      exact ih (v2 + 1) μ h
def f_X11_marksOf (p1 : Int) (μ : Mu) : Option Res := f_X11_marksOf_2 p1 (fun μ => some (μ, 0, 0)) FU 0 μ
set_option maxRecDepth 100000 in
theorem c_X11_marksOf (X : kX) (p1 : Int)  (μ : Mu) : Cq X mX11_marksOf 6 0 μ [.ref (X.1 + 248), .int (iI p1)] (f_X11_marksOf p1 μ) := by
  intro res h
  refine ct_of (by decide +kernel) rfl (Nat.le_of_ble_eq_true rfl) ?_
  show KK X mX11_marksOf 6 0 res 0 [(0, .ref (X.1 + 248)), (1, .int (iI p1))] [] μ
  unfold f_X11_marksOf at h
  refine K_iconst (md := mX11_marksOf) (pc := 0) (x := 0) (kTab_at (pc := 0) tX11_marksOf_ok 0 rfl) rfl ?_
  refine K_istore_n (md := mX11_marksOf) (pc := 1) (l' := [(2, .int (iI 0)), (0, .ref (X.1 + 248)), (1, .int (iI p1))]) (kTab_at (pc := 1) tX11_marksOf_ok 1 rfl) (Nat.le_of_ble_eq_true rfl) rfl ?_
  refine K_sub [1, 2, 0] rfl ?_
  refine c_X11_marksOf_2 X p1 _ ?_ _ 0 μ h
  · intro  μ h
    exact Z_vret (md := mX11_marksOf) (pc := 25) (kTab_at (pc := 25) tX11_marksOf_ok 15 rfl) rfl rfl h
def f_X11_divisor_6 (p0 : Int) (p2 : Int) (k31 : Int → Mu → Option Res) : Nat → Int → Int → Mu → Option Res
  | 0, _, _, _ => none
  | fu + 1, v4, v6, μ => l_eq v6 0 (k31 v4 μ) (l_rem v4 v6 fun x1 => (f_X11_divisor_6 p0 p2 k31 fu) v6 x1 μ)
set_option maxRecDepth 100000 in
theorem c_X11_divisor_6 (X : kX) (p0 : Int) (p2 : Int)  {res : Res} (k31 : Int → Mu → Option Res) (hk31 : ∀ (v4 : Int), ∀ (μ : Mu), k31 v4 μ = some res → KK X mX11_divisor 0 2 res 31 [(4, .long (iL v4))] [] μ) : ∀ (fu : Nat)  (v4 : Int) (v6 : Int) (μ : Mu), f_X11_divisor_6 p0 p2 k31 fu v4 v6 μ = some res → KK X mX11_divisor 0 2 res 6 [(4, .long (iL v4)), (6, .long (iL v6))] [] μ := by
  intro fu
  induction fu with
  | zero => intro v4 v6 μ h; exact nomatch h
  | succ fu ih =>
    intro v4 v6 μ h
    refine K_lload (md := mX11_divisor) (pc := 6) 1 (kTab_at (pc := 6) tX11_divisor_ok 4 rfl) rfl ?_
    refine K_lconst (md := mX11_divisor) (pc := 8) (x := 0) (kTab_at (pc := 8) tX11_divisor_ok 5 rfl) rfl ?_
    refine K_lcmp_eq (md := mX11_divisor) (pc := 9) (kTab_at (pc := 9) tX11_divisor_ok 6 rfl) (kTab_at (pc := 10) tX11_divisor_ok 7 rfl) (tgt := 31) rfl h (fun h => ?_) (fun h => ?_)
    · refine K_sub [0] rfl ?_
      exact hk31 v4 μ h
    · refine K_lload (md := mX11_divisor) (pc := 13) 0 (kTab_at (pc := 13) tX11_divisor_ok 8 rfl) rfl ?_
      refine K_lload (md := mX11_divisor) (pc := 15) 1 (kTab_at (pc := 15) tX11_divisor_ok 9 rfl) rfl ?_
      refine Z_lrem (md := mX11_divisor) (pc := 17) (kTab_at (pc := 17) tX11_divisor_ok 10 rfl) h (fun x1 h => ?_)
      refine K_lstore (md := mX11_divisor) (pc := 18) (l' := [(8, .long (iL x1)), (4, .long (iL v4)), (6, .long (iL v6))]) (kTab_at (pc := 18) tX11_divisor_ok 11 rfl) (Nat.le_of_ble_eq_true rfl) rfl ?_
      refine K_lload (md := mX11_divisor) (pc := 20) 2 (kTab_at (pc := 20) tX11_divisor_ok 12 rfl) rfl ?_
      refine K_lstore (md := mX11_divisor) (pc := 22) (l' := [(4, .long (iL v6)), (8, .long (iL x1)), (6, .long (iL v6))]) (kTab_at (pc := 22) tX11_divisor_ok 13 rfl) (Nat.le_of_ble_eq_true rfl) rfl ?_
      refine K_lload (md := mX11_divisor) (pc := 24) 1 (kTab_at (pc := 24) tX11_divisor_ok 14 rfl) rfl ?_
      refine K_lstore (md := mX11_divisor) (pc := 26) (l' := [(6, .long (iL x1)), (4, .long (iL v6)), (8, .long (iL x1))]) (kTab_at (pc := 26) tX11_divisor_ok 15 rfl) (Nat.le_of_ble_eq_true rfl) rfl ?_
      refine K_goto (md := mX11_divisor) (pc := 28) (tgt := 6) (kTab_at (pc := 28) tX11_divisor_ok 16 rfl) rfl ?_
      refine K_sub [1, 0] rfl ?_
      exact ih v6 x1 μ h
def f_X11_divisor (p0 : Int) (p2 : Int) (μ : Mu) : Option Res := f_X11_divisor_6 p0 p2 (fun v4 μ => some (μ, 0, v4)) FU p0 p2 μ
set_option maxRecDepth 100000 in
theorem c_X11_divisor (X : kX) (p0 : Int) (p2 : Int)  (μ : Mu) : Cq X mX11_divisor 0 2 μ [.long (iL p0), .long (iL p2)] (f_X11_divisor p0 p2 μ) := by
  intro res h
  refine ct_of (by decide +kernel) rfl (Nat.le_of_ble_eq_true rfl) ?_
  show KK X mX11_divisor 0 2 res 0 [(0, .long (iL p0)), (2, .long (iL p2))] [] μ
  unfold f_X11_divisor at h
  refine K_lload_n (md := mX11_divisor) (pc := 0) 0 (kTab_at (pc := 0) tX11_divisor_ok 0 rfl) rfl ?_
  refine K_lstore (md := mX11_divisor) (pc := 1) (l' := [(4, .long (iL p0)), (0, .long (iL p0)), (2, .long (iL p2))]) (kTab_at (pc := 1) tX11_divisor_ok 1 rfl) (Nat.le_of_ble_eq_true rfl) rfl ?_
  refine K_lload_n (md := mX11_divisor) (pc := 3) 2 (kTab_at (pc := 3) tX11_divisor_ok 2 rfl) rfl ?_
  refine K_lstore (md := mX11_divisor) (pc := 4) (l' := [(6, .long (iL p2)), (4, .long (iL p0)), (0, .long (iL p0)), (2, .long (iL p2))]) (kTab_at (pc := 4) tX11_divisor_ok 3 rfl) (Nat.le_of_ble_eq_true rfl) rfl ?_
  refine K_sub [1, 0] rfl ?_
  refine c_X11_divisor_6 X p0 p2 _ ?_ _ p0 p2 μ h
  · intro v4 μ h
    refine K_lload (md := mX11_divisor) (pc := 31) 0 (kTab_at (pc := 31) tX11_divisor_ok 17 rfl) rfl ?_
    exact Z_lret (md := mX11_divisor) (pc := 33) (kTab_at (pc := 33) tX11_divisor_ok 18 rfl) rfl rfl h
def f_X11_raws_65 (p1 : Int) (k8 : Int → Int → Int → Mu → Option Res) (v2 : Int) (v6 : Int) (s0 : Int) (s1 : Int) (μ : Mu) : Option Res := bnd (s0 + s1) fun x1 => k8 v2 x1 (v6 + 1) μ
set_option maxRecDepth 100000 in
theorem c_X11_raws_65 (X : kX) (p1 : Int)  {res : Res} (k8 : Int → Int → Int → Mu → Option Res) (hk8 : ∀ (v2 : Int), ∀ (v4 : Int), ∀ (v6 : Int), ∀ (μ : Mu), k8 v2 v4 v6 μ = some res → KK X mX11_raws 1 0 res 8 [(0, .ref (X.1 + 248)), (1, .int (iI p1)), (2, .long (iL v2)), (4, .long (iL v4)), (6, .int (iI v6))] [] μ) (v2 : Int) (v6 : Int) (s0 : Int) (s1 : Int) (μ : Mu) (h : f_X11_raws_65 p1 k8 v2 v6 s0 s1 μ = some res) : KK X mX11_raws 1 0 res 65 [(0, .ref (X.1 + 248)), (1, .int (iI p1)), (2, .long (iL v2)), (6, .int (iI v6))] [.long (iL s1), .long (iL s0)] μ := by
  unfold f_X11_raws_65 at h
  refine K_ladd (md := mX11_raws) (pc := 65) (kTab_at (pc := 65) tX11_raws_ok 39 rfl) ?_
  refine Z_bndL (md := mX11_raws) (pc := 66) h (fun x1 h => ?_)
  refine K_lstore (md := mX11_raws) (pc := 66) (l' := [(4, .long (iL x1)), (0, .ref (X.1 + 248)), (1, .int (iI p1)), (2, .long (iL v2)), (6, .int (iI v6))]) (kTab_at (pc := 66) tX11_raws_ok 40 rfl) (Nat.le_of_ble_eq_true rfl) rfl ?_
  refine K_iinc (md := mX11_raws) (pc := 68) (l' := [(6, .int (iI (v6 + 1))), (4, .long (iL x1)), (0, .ref (X.1 + 248)), (1, .int (iI p1)), (2, .long (iL v2))]) 4 (kTab_at (pc := 68) tX11_raws_ok 41 rfl) rfl (Nat.le_of_ble_eq_true rfl) rfl ?_
  refine K_goto (md := mX11_raws) (pc := 71) (tgt := 8) (kTab_at (pc := 71) tX11_raws_ok 42 rfl) rfl ?_
  refine K_sub [2, 3, 4, 1, 0] rfl ?_
  exact hk8 v2 x1 (v6 + 1) μ h
def f_X11_raws_37 (p1 : Int) (k8 : Int → Int → Int → Mu → Option Res) (v4 : Int) (v6 : Int) (s0 : Int) (s1 : Int) (μ : Mu) : Option Res := bnd (s0 + s1) fun x1 => rb (f_X11_isExcused p1 v6 μ) fun μ x2 => i_eq x2 0 (rdI μ 249 779 (0 + v6) fun x3 => i_2l x3 (f_X11_raws_65 p1 k8 x1 v6 v4 x3 μ)) (f_X11_raws_65 p1 k8 x1 v6 v4 0 μ)
set_option maxRecDepth 100000 in
theorem c_X11_raws_37 (X : kX) (p1 : Int)  {res : Res} (k8 : Int → Int → Int → Mu → Option Res) (hk8 : ∀ (v2 : Int), ∀ (v4 : Int), ∀ (v6 : Int), ∀ (μ : Mu), k8 v2 v4 v6 μ = some res → KK X mX11_raws 1 0 res 8 [(0, .ref (X.1 + 248)), (1, .int (iI p1)), (2, .long (iL v2)), (4, .long (iL v4)), (6, .int (iI v6))] [] μ) (v4 : Int) (v6 : Int) (s0 : Int) (s1 : Int) (μ : Mu) (h : f_X11_raws_37 p1 k8 v4 v6 s0 s1 μ = some res) : KK X mX11_raws 1 0 res 37 [(0, .ref (X.1 + 248)), (1, .int (iI p1)), (4, .long (iL v4)), (6, .int (iI v6))] [.long (iL s1), .long (iL s0)] μ := by
  unfold f_X11_raws_37 at h
  refine K_ladd (md := mX11_raws) (pc := 37) (kTab_at (pc := 37) tX11_raws_ok 22 rfl) ?_
  refine Z_bndL (md := mX11_raws) (pc := 38) h (fun x1 h => ?_)
  refine K_lstore_n (md := mX11_raws) (pc := 38) (l' := [(2, .long (iL x1)), (0, .ref (X.1 + 248)), (1, .int (iI p1)), (4, .long (iL v4)), (6, .int (iI v6))]) (kTab_at (pc := 38) tX11_raws_ok 23 rfl) (Nat.le_of_ble_eq_true rfl) rfl ?_
  refine K_lload (md := mX11_raws) (pc := 39) 3 (kTab_at (pc := 39) tX11_raws_ok 24 rfl) rfl ?_
  refine K_aload_n (md := mX11_raws) (pc := 41) 1 (kTab_at (pc := 41) tX11_raws_ok 25 rfl) rfl ?_
  refine K_iload_n (md := mX11_raws) (pc := 42) 2 (kTab_at (pc := 42) tX11_raws_ok 26 rfl) rfl ?_
  refine K_iload (md := mX11_raws) (pc := 43) 4 (kTab_at (pc := 43) tX11_raws_ok 27 rfl) rfl ?_
  refine Z_callV (md := mX11_raws) (pc := 45) (st := [.long (iL v4)]) (sv := (fun x2 => [.int (iI x2), .long (iL v4)])) (kTab_at (pc := 45) tX11_raws_ok 28 rfl) mv_X11_121 sk_248 rfl (Nat.le_of_ble_eq_true rfl) (by decide) rfl (c_X11_isExcused X p1 v6 μ) (fun _ => rfl) h (fun μ x2 h => ?_) rfl
  refine K_if_eq (md := mX11_raws) (pc := 48) (kTab_at (pc := 48) tX11_raws_ok 29 rfl) (tgt := 55) rfl h (fun h => ?_) (fun h => ?_)
  · refine K_aload_n (md := mX11_raws) (pc := 55) 1 (kTab_at (pc := 55) tX11_raws_ok 32 rfl) rfl ?_
    refine K_getR (md := mX11_raws) (pc := 56) (b := 249) (kTab_at (pc := 56) tX11_raws_ok 33 rfl) fl_X11_7 sk_248 rfl rfl ?_
    refine K_iconst (md := mX11_raws) (pc := 59) (x := 0) (kTab_at (pc := 59) tX11_raws_ok 34 rfl) rfl ?_
    refine K_iload (md := mX11_raws) (pc := 60) 4 (kTab_at (pc := 60) tX11_raws_ok 35 rfl) rfl ?_
    refine K_iadd (md := mX11_raws) (pc := 62) (kTab_at (pc := 62) tX11_raws_ok 36 rfl) ?_
    refine Z_iald (md := mX11_raws) (pc := 63) (kTab_at (pc := 63) tX11_raws_ok 37 rfl) sk_249 (by decide) h (fun x3 h => ?_)
    refine K_i2l (md := mX11_raws) (pc := 64) (kTab_at (pc := 64) tX11_raws_ok 38 rfl) h (fun h => ?_)
    refine K_sub [1, 2, 0, 4] rfl ?_
    refine c_X11_raws_65 X p1 _ hk8 x1 v6 v4 x3 μ h
  · refine K_lconst (md := mX11_raws) (pc := 51) (x := 0) (kTab_at (pc := 51) tX11_raws_ok 30 rfl) rfl ?_
    refine K_goto (md := mX11_raws) (pc := 52) (tgt := 65) (kTab_at (pc := 52) tX11_raws_ok 31 rfl) rfl ?_
    refine K_sub [1, 2, 0, 4] rfl ?_
    refine c_X11_raws_65 X p1 _ hk8 x1 v6 v4 0 μ h
def f_X11_raws_136 (p1 : Int)  (v6 : Int) (v8 : Int) (μ : Mu) : Option Res := rb (f_X11_divisor v6 v8 μ) fun μ x1 => l_div v6 x1 fun x2 => wrF μ 248 15 x2 fun μ => l_div v8 x1 fun x3 => wrF μ 248 16 x3 fun μ => some (μ, 0, 0)
set_option maxRecDepth 100000 in
theorem c_X11_raws_136 (X : kX) (p1 : Int)  {res : Res}  (v6 : Int) (v8 : Int) (μ : Mu) (h : f_X11_raws_136 p1 v6 v8 μ = some res) : KK X mX11_raws 1 0 res 136 [(0, .ref (X.1 + 248)), (6, .long (iL v6)), (8, .long (iL v8))] [] μ := by
  unfold f_X11_raws_136 at h
  refine K_lload (md := mX11_raws) (pc := 136) 1 (kTab_at (pc := 136) tX11_raws_ok 79 rfl) rfl ?_
  refine K_lload (md := mX11_raws) (pc := 138) 2 (kTab_at (pc := 138) tX11_raws_ok 80 rfl) rfl ?_
  refine Z_callS (md := mX11_raws) (pc := 140) (st := []) (sv := (fun x1 => [.long (iL x1)])) (kTab_at (pc := 140) tX11_raws_ok 81 rfl) ms_X11_132 rfl (Nat.le_of_ble_eq_true rfl) (by decide) rfl (c_X11_divisor X v6 v8 μ) (fun _ => rfl) h (fun μ x1 h => ?_) rfl
  refine K_lstore (md := mX11_raws) (pc := 143) (l' := [(12, .long (iL x1)), (0, .ref (X.1 + 248)), (6, .long (iL v6)), (8, .long (iL v8))]) (kTab_at (pc := 143) tX11_raws_ok 82 rfl) (Nat.le_of_ble_eq_true rfl) rfl ?_
  refine K_aload_n (md := mX11_raws) (pc := 145) 1 (kTab_at (pc := 145) tX11_raws_ok 83 rfl) rfl ?_
  refine K_lload (md := mX11_raws) (pc := 146) 2 (kTab_at (pc := 146) tX11_raws_ok 84 rfl) rfl ?_
  refine K_lload (md := mX11_raws) (pc := 148) 0 (kTab_at (pc := 148) tX11_raws_ok 85 rfl) rfl ?_
  refine Z_ldiv (md := mX11_raws) (pc := 150) (kTab_at (pc := 150) tX11_raws_ok 86 rfl) h (fun x2 h => ?_)
  refine Z_putL (md := mX11_raws) (pc := 151) (kTab_at (pc := 151) tX11_raws_ok 87 rfl) fl_X11_136 sk_248 rfl h (fun μ h => ?_)
  refine K_aload_n (md := mX11_raws) (pc := 154) 1 (kTab_at (pc := 154) tX11_raws_ok 88 rfl) rfl ?_
  refine K_lload (md := mX11_raws) (pc := 155) 3 (kTab_at (pc := 155) tX11_raws_ok 89 rfl) rfl ?_
  refine K_lload (md := mX11_raws) (pc := 157) 0 (kTab_at (pc := 157) tX11_raws_ok 90 rfl) rfl ?_
  refine Z_ldiv (md := mX11_raws) (pc := 159) (kTab_at (pc := 159) tX11_raws_ok 91 rfl) h (fun x3 h => ?_)
  refine Z_putL (md := mX11_raws) (pc := 160) (kTab_at (pc := 160) tX11_raws_ok 92 rfl) fl_X11_140 sk_248 rfl h (fun μ h => ?_)
  exact Z_vret (md := mX11_raws) (pc := 163) (kTab_at (pc := 163) tX11_raws_ok 93 rfl) rfl rfl h
def f_X11_raws_8 (p1 : Int) (k74 : Int → Int → Mu → Option Res) : Nat → Int → Int → Int → Mu → Option Res
  | 0, _, _, _, _ => none
  | fu + 1, v2, v4, v6, μ => i_lt v6 5 (rb (f_X11_isExcused p1 v6 μ) fun μ x1 => i_eq x1 0 (rdI μ 256 5 v6 fun x2 => i_2l x2 (f_X11_raws_37 p1 (f_X11_raws_8 p1 k74 fu) v4 v6 v2 x2 μ)) (f_X11_raws_37 p1 (f_X11_raws_8 p1 k74 fu) v4 v6 v2 0 μ)) (k74 v2 v4 μ)
set_option maxRecDepth 100000 in
theorem c_X11_raws_8 (X : kX) (p1 : Int)  {res : Res} (k74 : Int → Int → Mu → Option Res) (hk74 : ∀ (v2 : Int), ∀ (v4 : Int), ∀ (μ : Mu), k74 v2 v4 μ = some res → KK X mX11_raws 1 0 res 74 [(0, .ref (X.1 + 248)), (1, .int (iI p1)), (2, .long (iL v2)), (4, .long (iL v4))] [] μ) : ∀ (fu : Nat)  (v2 : Int) (v4 : Int) (v6 : Int) (μ : Mu), f_X11_raws_8 p1 k74 fu v2 v4 v6 μ = some res → KK X mX11_raws 1 0 res 8 [(0, .ref (X.1 + 248)), (1, .int (iI p1)), (2, .long (iL v2)), (4, .long (iL v4)), (6, .int (iI v6))] [] μ := by
  intro fu
  induction fu with
  | zero => intro v2 v4 v6 μ h; exact nomatch h
  | succ fu ih =>
    intro v2 v4 v6 μ h
    refine K_iload (md := mX11_raws) (pc := 8) 4 (kTab_at (pc := 8) tX11_raws_ok 6 rfl) rfl ?_
    refine K_iconst (md := mX11_raws) (pc := 10) (x := 5) (kTab_at (pc := 10) tX11_raws_ok 7 rfl) rfl ?_
    refine K_icmp_ge (md := mX11_raws) (pc := 11) (kTab_at (pc := 11) tX11_raws_ok 8 rfl) (tgt := 74) rfl h (fun h => ?_) (fun h => ?_)
    · refine K_sub [0, 1, 2, 3] rfl ?_
      exact hk74 v2 v4 μ h
    · refine K_lload_n (md := mX11_raws) (pc := 14) 2 (kTab_at (pc := 14) tX11_raws_ok 9 rfl) rfl ?_
      refine K_aload_n (md := mX11_raws) (pc := 15) 0 (kTab_at (pc := 15) tX11_raws_ok 10 rfl) rfl ?_
      refine K_iload_n (md := mX11_raws) (pc := 16) 1 (kTab_at (pc := 16) tX11_raws_ok 11 rfl) rfl ?_
      refine K_iload (md := mX11_raws) (pc := 17) 4 (kTab_at (pc := 17) tX11_raws_ok 12 rfl) rfl ?_
      refine Z_callV (md := mX11_raws) (pc := 19) (st := [.long (iL v2)]) (sv := (fun x1 => [.int (iI x1), .long (iL v2)])) (kTab_at (pc := 19) tX11_raws_ok 13 rfl) mv_X11_121 sk_248 rfl (Nat.le_of_ble_eq_true rfl) (by decide) rfl (c_X11_isExcused X p1 v6 μ) (fun _ => rfl) h (fun μ x1 h => ?_) rfl
      refine K_if_eq (md := mX11_raws) (pc := 22) (kTab_at (pc := 22) tX11_raws_ok 14 rfl) (tgt := 29) rfl h (fun h => ?_) (fun h => ?_)
      · refine K_aload_n (md := mX11_raws) (pc := 29) 0 (kTab_at (pc := 29) tX11_raws_ok 17 rfl) rfl ?_
        refine K_getR (md := mX11_raws) (pc := 30) (b := 256) (kTab_at (pc := 30) tX11_raws_ok 18 rfl) fl_X11_35 sk_248 rfl rfl ?_
        refine K_iload (md := mX11_raws) (pc := 33) 4 (kTab_at (pc := 33) tX11_raws_ok 19 rfl) rfl ?_
        refine Z_iald (md := mX11_raws) (pc := 35) (kTab_at (pc := 35) tX11_raws_ok 20 rfl) sk_256 (by decide) h (fun x2 h => ?_)
        refine K_i2l (md := mX11_raws) (pc := 36) (kTab_at (pc := 36) tX11_raws_ok 21 rfl) h (fun h => ?_)
        refine K_sub [0, 1, 3, 4] rfl ?_
        refine c_X11_raws_37 X p1 _ ih v4 v6 v2 x2 μ h
      · refine K_lconst (md := mX11_raws) (pc := 25) (x := 0) (kTab_at (pc := 25) tX11_raws_ok 15 rfl) rfl ?_
        refine K_goto (md := mX11_raws) (pc := 26) (tgt := 37) (kTab_at (pc := 26) tX11_raws_ok 16 rfl) rfl ?_
        refine K_sub [0, 1, 3, 4] rfl ?_
        refine c_X11_raws_37 X p1 _ ih v4 v6 v2 0 μ h
def f_X11_raws (p1 : Int) (μ : Mu) : Option Res := f_X11_raws_8 p1 (fun v2 v4 μ => rb (f_X11_full μ) fun μ x1 => i_2l x1 (rdI μ 249 779 (633 + p1) fun x2 => i_2l x2 (bnd ((v2 * x1) * (100 + x2)) fun x3 => bnd (v4 * 100) fun x4 => rb (f_X11_full μ) fun μ x5 => i_2l x5 (bnd (x5 * 120) fun x6 => l_lt (x6 * x4) x3 (f_X11_raws_136 p1 x6 1 μ) (f_X11_raws_136 p1 x3 x4 μ))))) FU 0 0 0 μ
set_option maxRecDepth 100000 in
theorem c_X11_raws (X : kX) (p1 : Int)  (μ : Mu) : Cq X mX11_raws 1 0 μ [.ref (X.1 + 248), .int (iI p1)] (f_X11_raws p1 μ) := by
  intro res h
  refine ct_of (by decide +kernel) rfl (Nat.le_of_ble_eq_true rfl) ?_
  show KK X mX11_raws 1 0 res 0 [(0, .ref (X.1 + 248)), (1, .int (iI p1))] [] μ
  unfold f_X11_raws at h
  refine K_lconst (md := mX11_raws) (pc := 0) (x := 0) (kTab_at (pc := 0) tX11_raws_ok 0 rfl) rfl ?_
  refine K_lstore_n (md := mX11_raws) (pc := 1) (l' := [(2, .long (iL 0)), (0, .ref (X.1 + 248)), (1, .int (iI p1))]) (kTab_at (pc := 1) tX11_raws_ok 1 rfl) (Nat.le_of_ble_eq_true rfl) rfl ?_
  refine K_lconst (md := mX11_raws) (pc := 2) (x := 0) (kTab_at (pc := 2) tX11_raws_ok 2 rfl) rfl ?_
  refine K_lstore (md := mX11_raws) (pc := 3) (l' := [(4, .long (iL 0)), (2, .long (iL 0)), (0, .ref (X.1 + 248)), (1, .int (iI p1))]) (kTab_at (pc := 3) tX11_raws_ok 3 rfl) (Nat.le_of_ble_eq_true rfl) rfl ?_
  refine K_iconst (md := mX11_raws) (pc := 5) (x := 0) (kTab_at (pc := 5) tX11_raws_ok 4 rfl) rfl ?_
  refine K_istore (md := mX11_raws) (pc := 6) (l' := [(6, .int (iI 0)), (4, .long (iL 0)), (2, .long (iL 0)), (0, .ref (X.1 + 248)), (1, .int (iI p1))]) (kTab_at (pc := 6) tX11_raws_ok 5 rfl) (Nat.le_of_ble_eq_true rfl) rfl ?_
  refine K_sub [3, 4, 2, 1, 0] rfl ?_
  refine c_X11_raws_8 X p1 _ ?_ _ 0 0 0 μ h
  · intro v2 v4 μ h
    refine K_lload_n (md := mX11_raws) (pc := 74) 2 (kTab_at (pc := 74) tX11_raws_ok 43 rfl) rfl ?_
    refine K_aload_n (md := mX11_raws) (pc := 75) 0 (kTab_at (pc := 75) tX11_raws_ok 44 rfl) rfl ?_
    refine Z_callV (md := mX11_raws) (pc := 76) (st := [.long (iL v2)]) (sv := (fun x1 => [.int (iI x1), .long (iL v2)])) (kTab_at (pc := 76) tX11_raws_ok 45 rfl) mv_X11_124 sk_248 rfl (Nat.le_of_ble_eq_true rfl) (by decide) rfl (c_X11_full X μ) (fun _ => rfl) h (fun μ x1 h => ?_) rfl
    refine K_i2l (md := mX11_raws) (pc := 79) (kTab_at (pc := 79) tX11_raws_ok 46 rfl) h (fun h => ?_)
    refine K_lmul (md := mX11_raws) (pc := 80) (kTab_at (pc := 80) tX11_raws_ok 47 rfl) ?_
    refine K_ldc2 (md := mX11_raws) (pc := 81) (x := 100) (v := 100) (kTab_at (pc := 81) tX11_raws_ok 48 rfl) (inT7 115 (by decide +kernel) rfl) (by decide) ?_
    refine K_aload_n (md := mX11_raws) (pc := 84) 0 (kTab_at (pc := 84) tX11_raws_ok 49 rfl) rfl ?_
    refine K_getR (md := mX11_raws) (pc := 85) (b := 249) (kTab_at (pc := 85) tX11_raws_ok 50 rfl) fl_X11_7 sk_248 rfl rfl ?_
    refine K_sipush (md := mX11_raws) (pc := 88) (x := 633) (kTab_at (pc := 88) tX11_raws_ok 51 rfl) (by decide) ?_
    refine K_iload_n (md := mX11_raws) (pc := 91) 1 (kTab_at (pc := 91) tX11_raws_ok 52 rfl) rfl ?_
    refine K_iadd (md := mX11_raws) (pc := 92) (kTab_at (pc := 92) tX11_raws_ok 53 rfl) ?_
    refine Z_iald (md := mX11_raws) (pc := 93) (kTab_at (pc := 93) tX11_raws_ok 54 rfl) sk_249 (by decide) h (fun x2 h => ?_)
    refine K_i2l (md := mX11_raws) (pc := 94) (kTab_at (pc := 94) tX11_raws_ok 55 rfl) h (fun h => ?_)
    refine K_ladd (md := mX11_raws) (pc := 95) (kTab_at (pc := 95) tX11_raws_ok 56 rfl) ?_
    refine K_lmul (md := mX11_raws) (pc := 96) (kTab_at (pc := 96) tX11_raws_ok 57 rfl) ?_
    refine Z_bndL (md := mX11_raws) (pc := 97) h (fun x3 h => ?_)
    refine K_lstore (md := mX11_raws) (pc := 97) (l' := [(6, .long (iL x3)), (0, .ref (X.1 + 248)), (1, .int (iI p1)), (2, .long (iL v2)), (4, .long (iL v4))]) (kTab_at (pc := 97) tX11_raws_ok 58 rfl) (Nat.le_of_ble_eq_true rfl) rfl ?_
    refine K_lload (md := mX11_raws) (pc := 99) 4 (kTab_at (pc := 99) tX11_raws_ok 59 rfl) rfl ?_
    refine K_ldc2 (md := mX11_raws) (pc := 101) (x := 100) (v := 100) (kTab_at (pc := 101) tX11_raws_ok 60 rfl) (inT7 115 (by decide +kernel) rfl) (by decide) ?_
    refine K_lmul (md := mX11_raws) (pc := 104) (kTab_at (pc := 104) tX11_raws_ok 61 rfl) ?_
    refine Z_bndL (md := mX11_raws) (pc := 105) h (fun x4 h => ?_)
    refine K_lstore (md := mX11_raws) (pc := 105) (l' := [(8, .long (iL x4)), (6, .long (iL x3)), (0, .ref (X.1 + 248)), (1, .int (iI p1)), (2, .long (iL v2)), (4, .long (iL v4))]) (kTab_at (pc := 105) tX11_raws_ok 62 rfl) (Nat.le_of_ble_eq_true rfl) rfl ?_
    refine K_aload_n (md := mX11_raws) (pc := 107) 2 (kTab_at (pc := 107) tX11_raws_ok 63 rfl) rfl ?_
    refine Z_callV (md := mX11_raws) (pc := 108) (st := []) (sv := (fun x5 => [.int (iI x5)])) (kTab_at (pc := 108) tX11_raws_ok 64 rfl) mv_X11_124 sk_248 rfl (Nat.le_of_ble_eq_true rfl) (by decide) rfl (c_X11_full X μ) (fun _ => rfl) h (fun μ x5 h => ?_) rfl
    refine K_i2l (md := mX11_raws) (pc := 111) (kTab_at (pc := 111) tX11_raws_ok 65 rfl) h (fun h => ?_)
    refine K_ldc2 (md := mX11_raws) (pc := 112) (x := 120) (v := 120) (kTab_at (pc := 112) tX11_raws_ok 66 rfl) (inT7 144 (by decide +kernel) rfl) (by decide) ?_
    refine K_lmul (md := mX11_raws) (pc := 115) (kTab_at (pc := 115) tX11_raws_ok 67 rfl) ?_
    refine Z_bndL (md := mX11_raws) (pc := 116) h (fun x6 h => ?_)
    refine K_lstore (md := mX11_raws) (pc := 116) (l' := [(10, .long (iL x6)), (8, .long (iL x4)), (6, .long (iL x3)), (0, .ref (X.1 + 248)), (1, .int (iI p1)), (2, .long (iL v2)), (4, .long (iL v4))]) (kTab_at (pc := 116) tX11_raws_ok 68 rfl) (Nat.le_of_ble_eq_true rfl) rfl ?_
    refine K_lload (md := mX11_raws) (pc := 118) 2 (kTab_at (pc := 118) tX11_raws_ok 69 rfl) rfl ?_
    refine K_lload (md := mX11_raws) (pc := 120) 0 (kTab_at (pc := 120) tX11_raws_ok 70 rfl) rfl ?_
    refine K_lload (md := mX11_raws) (pc := 122) 1 (kTab_at (pc := 122) tX11_raws_ok 71 rfl) rfl ?_
    refine K_lmul (md := mX11_raws) (pc := 124) (kTab_at (pc := 124) tX11_raws_ok 72 rfl) ?_
    refine K_lcmp_le (md := mX11_raws) (pc := 125) (kTab_at (pc := 125) tX11_raws_ok 73 rfl) (kTab_at (pc := 126) tX11_raws_ok 74 rfl) (tgt := 136) rfl h (fun h => ?_) (fun h => ?_)
    · refine K_sub [3, 2, 1] rfl ?_
      refine c_X11_raws_136 X p1  x3 x4 μ h
    · refine K_lload (md := mX11_raws) (pc := 129) 0 (kTab_at (pc := 129) tX11_raws_ok 75 rfl) rfl ?_
      refine K_lstore (md := mX11_raws) (pc := 131) (l' := [(6, .long (iL x6)), (10, .long (iL x6)), (8, .long (iL x4)), (0, .ref (X.1 + 248)), (1, .int (iI p1)), (2, .long (iL v2)), (4, .long (iL v4))]) (kTab_at (pc := 131) tX11_raws_ok 76 rfl) (Nat.le_of_ble_eq_true rfl) rfl ?_
      refine K_lconst (md := mX11_raws) (pc := 133) (x := 1) (kTab_at (pc := 133) tX11_raws_ok 77 rfl) rfl ?_
      refine K_lstore (md := mX11_raws) (pc := 134) (l' := [(8, .long (iL 1)), (6, .long (iL x6)), (10, .long (iL x6)), (0, .ref (X.1 + 248)), (1, .int (iI p1)), (2, .long (iL v2)), (4, .long (iL v4))]) (kTab_at (pc := 134) tX11_raws_ok 78 rfl) (Nat.le_of_ble_eq_true rfl) rfl ?_
      refine K_sub [3, 1, 0] rfl ?_
      refine c_X11_raws_136 X p1  x6 1 μ h
def f_X11_rounded (p0 : Int) (p2 : Int) (μ : Mu) : Option Res := l_div ((2 * p0) + p2) (2 * p2) fun x1 => some (μ, 0, x1)
set_option maxRecDepth 100000 in
theorem c_X11_rounded (X : kX) (p0 : Int) (p2 : Int)  (μ : Mu) : Cq X mX11_rounded 0 1 μ [.long (iL p0), .long (iL p2)] (f_X11_rounded p0 p2 μ) := by
  intro res h
  refine ct_of (by decide +kernel) rfl (Nat.le_of_ble_eq_true rfl) ?_
  show KK X mX11_rounded 0 1 res 0 [(0, .long (iL p0)), (2, .long (iL p2))] [] μ
  unfold f_X11_rounded at h
  refine K_ldc2 (md := mX11_rounded) (pc := 0) (x := 2) (v := 2) (kTab_at (pc := 0) tX11_rounded_ok 0 rfl) (inT7 119 (by decide +kernel) rfl) (by decide) ?_
  refine K_lload_n (md := mX11_rounded) (pc := 3) 0 (kTab_at (pc := 3) tX11_rounded_ok 1 rfl) rfl ?_
  refine K_lmul (md := mX11_rounded) (pc := 4) (kTab_at (pc := 4) tX11_rounded_ok 2 rfl) ?_
  refine K_lload_n (md := mX11_rounded) (pc := 5) 1 (kTab_at (pc := 5) tX11_rounded_ok 3 rfl) rfl ?_
  refine K_ladd (md := mX11_rounded) (pc := 6) (kTab_at (pc := 6) tX11_rounded_ok 4 rfl) ?_
  refine K_ldc2 (md := mX11_rounded) (pc := 7) (x := 2) (v := 2) (kTab_at (pc := 7) tX11_rounded_ok 5 rfl) (inT7 119 (by decide +kernel) rfl) (by decide) ?_
  refine K_lload_n (md := mX11_rounded) (pc := 10) 1 (kTab_at (pc := 10) tX11_rounded_ok 6 rfl) rfl ?_
  refine K_lmul (md := mX11_rounded) (pc := 11) (kTab_at (pc := 11) tX11_rounded_ok 7 rfl) ?_
  refine Z_ldiv (md := mX11_rounded) (pc := 12) (kTab_at (pc := 12) tX11_rounded_ok 8 rfl) h (fun x1 h => ?_)
  refine K_l2i (md := mX11_rounded) (pc := 13) (kTab_at (pc := 13) tX11_rounded_ok 9 rfl) ?_
  exact Z_iret (md := mX11_rounded) (pc := 14) (kTab_at (pc := 14) tX11_rounded_ok 10 rfl) rfl rfl rfl h
def f_X11_scaled_99 (p1 : Int) (p3 : Int) (k128 : Int → Mu → Option Res) : Nat → Int → Mu → Option Res
  | 0, _, _ => none
  | fu + 1, v6, μ => rdI μ 249 779 ((642 + (2 * v6)) + 2) fun x1 => i_2l x1 (l_lt p1 (x1 * p3) (k128 v6 μ) ((f_X11_scaled_99 p1 p3 k128 fu) (v6 + 1) μ))
set_option maxRecDepth 100000 in
theorem c_X11_scaled_99 (X : kX) (p1 : Int) (p3 : Int)  {res : Res} (k128 : Int → Mu → Option Res) (hk128 : ∀ (v6 : Int), ∀ (μ : Mu), k128 v6 μ = some res → KK X mX11_scaled 1 1 res 128 [(0, .ref (X.1 + 248)), (1, .long (iL p1)), (3, .long (iL p3)), (6, .int (iI v6))] [] μ) : ∀ (fu : Nat)  (v6 : Int) (μ : Mu), f_X11_scaled_99 p1 p3 k128 fu v6 μ = some res → KK X mX11_scaled 1 1 res 99 [(0, .ref (X.1 + 248)), (1, .long (iL p1)), (3, .long (iL p3)), (6, .int (iI v6))] [] μ := by
  intro fu
  induction fu with
  | zero => intro v6 μ h; exact nomatch h
  | succ fu ih =>
    intro v6 μ h
    refine K_lload_n (md := mX11_scaled) (pc := 99) 1 (kTab_at (pc := 99) tX11_scaled_ok 62 rfl) rfl ?_
    refine K_aload_n (md := mX11_scaled) (pc := 100) 0 (kTab_at (pc := 100) tX11_scaled_ok 63 rfl) rfl ?_
    refine K_getR (md := mX11_scaled) (pc := 101) (b := 249) (kTab_at (pc := 101) tX11_scaled_ok 64 rfl) fl_X11_7 sk_248 rfl rfl ?_
    refine K_sipush (md := mX11_scaled) (pc := 104) (x := 642) (kTab_at (pc := 104) tX11_scaled_ok 65 rfl) (by decide) ?_
    refine K_iconst (md := mX11_scaled) (pc := 107) (x := 2) (kTab_at (pc := 107) tX11_scaled_ok 66 rfl) rfl ?_
    refine K_iload (md := mX11_scaled) (pc := 108) 3 (kTab_at (pc := 108) tX11_scaled_ok 67 rfl) rfl ?_
    refine K_imul (md := mX11_scaled) (pc := 110) (kTab_at (pc := 110) tX11_scaled_ok 68 rfl) ?_
    refine K_iadd (md := mX11_scaled) (pc := 111) (kTab_at (pc := 111) tX11_scaled_ok 69 rfl) ?_
    refine K_iconst (md := mX11_scaled) (pc := 112) (x := 2) (kTab_at (pc := 112) tX11_scaled_ok 70 rfl) rfl ?_
    refine K_iadd (md := mX11_scaled) (pc := 113) (kTab_at (pc := 113) tX11_scaled_ok 71 rfl) ?_
    refine Z_iald (md := mX11_scaled) (pc := 114) (kTab_at (pc := 114) tX11_scaled_ok 72 rfl) sk_249 (by decide) h (fun x1 h => ?_)
    refine K_i2l (md := mX11_scaled) (pc := 115) (kTab_at (pc := 115) tX11_scaled_ok 73 rfl) h (fun h => ?_)
    refine K_lload_n (md := mX11_scaled) (pc := 116) 2 (kTab_at (pc := 116) tX11_scaled_ok 74 rfl) rfl ?_
    refine K_lmul (md := mX11_scaled) (pc := 117) (kTab_at (pc := 117) tX11_scaled_ok 75 rfl) ?_
    refine K_lcmp_lt (md := mX11_scaled) (pc := 118) (kTab_at (pc := 118) tX11_scaled_ok 76 rfl) (kTab_at (pc := 119) tX11_scaled_ok 77 rfl) (tgt := 128) rfl h (fun h => ?_) (fun h => ?_)
    · exact hk128 v6 μ h
    · refine K_iinc (md := mX11_scaled) (pc := 122) (l' := [(6, .int (iI (v6 + 1))), (0, .ref (X.1 + 248)), (1, .long (iL p1)), (3, .long (iL p3))]) 3 (kTab_at (pc := 122) tX11_scaled_ok 78 rfl) rfl (Nat.le_of_ble_eq_true rfl) rfl ?_
      refine K_goto (md := mX11_scaled) (pc := 125) (tgt := 99) (kTab_at (pc := 125) tX11_scaled_ok 79 rfl) rfl ?_
      refine K_sub [1, 2, 3, 0] rfl ?_
      exact ih (v6 + 1) μ h
def f_X11_scaled (p1 : Int) (p3 : Int) (μ : Mu) : Option Res := rdI μ 249 779 641 fun x1 => i_lt x1 2 (rb (f_X11_full μ) fun μ x11 => i_2l x11 (rb (f_X11_rounded (100 * p1) (p3 * x11) μ) fun μ x12 => some (μ, 0, x12))) (rdI μ 249 779 642 fun x2 => i_2l x2 (l_lt (x2 * p3) p1 (rdI μ 249 779 ((642 + (2 * x1)) - 2) fun x3 => i_2l x3 (l_lt p1 (x3 * p3) (f_X11_scaled_99 p1 p3 (fun v6 μ => rdI μ 249 779 (642 + (2 * v6)) fun x4 => i_2l x4 (rdI μ 249 779 ((642 + (2 * v6)) + 1) fun x5 => i_2l x5 (rdI μ 249 779 ((642 + (2 * v6)) + 2) fun x6 => i_2l x6 (rdI μ 249 779 ((642 + (2 * v6)) + 3) fun x7 => i_2l x7 (rb (f_X11_rounded (((x5 * (x6 - x4)) * p3) + ((x7 - x5) * (p1 - (x4 * p3)))) ((x6 - x4) * p3) μ) fun μ x8 => some (μ, 0, x8)))))) FU 0 μ) (rdI μ 249 779 ((642 + (2 * x1)) - 1) fun x9 => some (μ, 0, x9)))) (rdI μ 249 779 643 fun x10 => some (μ, 0, x10))))
set_option maxRecDepth 100000 in
theorem c_X11_scaled (X : kX) (p1 : Int) (p3 : Int)  (μ : Mu) : Cq X mX11_scaled 1 1 μ [.ref (X.1 + 248), .long (iL p1), .long (iL p3)] (f_X11_scaled p1 p3 μ) := by
  intro res h
  refine ct_of (by decide +kernel) rfl (Nat.le_of_ble_eq_true rfl) ?_
  show KK X mX11_scaled 1 1 res 0 [(0, .ref (X.1 + 248)), (1, .long (iL p1)), (3, .long (iL p3))] [] μ
  unfold f_X11_scaled at h
  refine K_aload_n (md := mX11_scaled) (pc := 0) 0 (kTab_at (pc := 0) tX11_scaled_ok 0 rfl) rfl ?_
  refine K_getR (md := mX11_scaled) (pc := 1) (b := 249) (kTab_at (pc := 1) tX11_scaled_ok 1 rfl) fl_X11_7 sk_248 rfl rfl ?_
  refine K_sipush (md := mX11_scaled) (pc := 4) (x := 641) (kTab_at (pc := 4) tX11_scaled_ok 2 rfl) (by decide) ?_
  refine Z_iald (md := mX11_scaled) (pc := 7) (kTab_at (pc := 7) tX11_scaled_ok 3 rfl) sk_249 (by decide) h (fun x1 h => ?_)
  refine K_istore (md := mX11_scaled) (pc := 8) (l' := [(5, .int (iI x1)), (0, .ref (X.1 + 248)), (1, .long (iL p1)), (3, .long (iL p3))]) (kTab_at (pc := 8) tX11_scaled_ok 4 rfl) (Nat.le_of_ble_eq_true rfl) rfl ?_
  refine K_iload (md := mX11_scaled) (pc := 10) 0 (kTab_at (pc := 10) tX11_scaled_ok 5 rfl) rfl ?_
  refine K_iconst (md := mX11_scaled) (pc := 12) (x := 2) (kTab_at (pc := 12) tX11_scaled_ok 6 rfl) rfl ?_
  refine K_icmp_ge (md := mX11_scaled) (pc := 13) (kTab_at (pc := 13) tX11_scaled_ok 7 rfl) (tgt := 32) rfl h (fun h => ?_) (fun h => ?_)
  · refine K_lload_n (md := mX11_scaled) (pc := 32) 2 (kTab_at (pc := 32) tX11_scaled_ok 18 rfl) rfl ?_
    refine K_aload_n (md := mX11_scaled) (pc := 33) 1 (kTab_at (pc := 33) tX11_scaled_ok 19 rfl) rfl ?_
    refine K_getR (md := mX11_scaled) (pc := 34) (b := 249) (kTab_at (pc := 34) tX11_scaled_ok 20 rfl) fl_X11_7 sk_248 rfl rfl ?_
    refine K_sipush (md := mX11_scaled) (pc := 37) (x := 642) (kTab_at (pc := 37) tX11_scaled_ok 21 rfl) (by decide) ?_
    refine Z_iald (md := mX11_scaled) (pc := 40) (kTab_at (pc := 40) tX11_scaled_ok 22 rfl) sk_249 (by decide) h (fun x2 h => ?_)
    refine K_i2l (md := mX11_scaled) (pc := 41) (kTab_at (pc := 41) tX11_scaled_ok 23 rfl) h (fun h => ?_)
    refine K_lload_n (md := mX11_scaled) (pc := 42) 3 (kTab_at (pc := 42) tX11_scaled_ok 24 rfl) rfl ?_
    refine K_lmul (md := mX11_scaled) (pc := 43) (kTab_at (pc := 43) tX11_scaled_ok 25 rfl) ?_
    refine K_lcmp_gt (md := mX11_scaled) (pc := 44) (kTab_at (pc := 44) tX11_scaled_ok 26 rfl) (kTab_at (pc := 45) tX11_scaled_ok 27 rfl) (tgt := 57) rfl h (fun h => ?_) (fun h => ?_)
    · refine K_lload_n (md := mX11_scaled) (pc := 57) 2 (kTab_at (pc := 57) tX11_scaled_ok 33 rfl) rfl ?_
      refine K_aload_n (md := mX11_scaled) (pc := 58) 1 (kTab_at (pc := 58) tX11_scaled_ok 34 rfl) rfl ?_
      refine K_getR (md := mX11_scaled) (pc := 59) (b := 249) (kTab_at (pc := 59) tX11_scaled_ok 35 rfl) fl_X11_7 sk_248 rfl rfl ?_
      refine K_sipush (md := mX11_scaled) (pc := 62) (x := 642) (kTab_at (pc := 62) tX11_scaled_ok 36 rfl) (by decide) ?_
      refine K_iconst (md := mX11_scaled) (pc := 65) (x := 2) (kTab_at (pc := 65) tX11_scaled_ok 37 rfl) rfl ?_
      refine K_iload (md := mX11_scaled) (pc := 66) 0 (kTab_at (pc := 66) tX11_scaled_ok 38 rfl) rfl ?_
      refine K_imul (md := mX11_scaled) (pc := 68) (kTab_at (pc := 68) tX11_scaled_ok 39 rfl) ?_
      refine K_iadd (md := mX11_scaled) (pc := 69) (kTab_at (pc := 69) tX11_scaled_ok 40 rfl) ?_
      refine K_iconst (md := mX11_scaled) (pc := 70) (x := 2) (kTab_at (pc := 70) tX11_scaled_ok 41 rfl) rfl ?_
      refine K_isub (md := mX11_scaled) (pc := 71) (kTab_at (pc := 71) tX11_scaled_ok 42 rfl) ?_
      refine Z_iald (md := mX11_scaled) (pc := 72) (kTab_at (pc := 72) tX11_scaled_ok 43 rfl) sk_249 (by decide) h (fun x3 h => ?_)
      refine K_i2l (md := mX11_scaled) (pc := 73) (kTab_at (pc := 73) tX11_scaled_ok 44 rfl) h (fun h => ?_)
      refine K_lload_n (md := mX11_scaled) (pc := 74) 3 (kTab_at (pc := 74) tX11_scaled_ok 45 rfl) rfl ?_
      refine K_lmul (md := mX11_scaled) (pc := 75) (kTab_at (pc := 75) tX11_scaled_ok 46 rfl) ?_
      refine K_lcmp_lt (md := mX11_scaled) (pc := 76) (kTab_at (pc := 76) tX11_scaled_ok 47 rfl) (kTab_at (pc := 77) tX11_scaled_ok 48 rfl) (tgt := 96) rfl h (fun h => ?_) (fun h => ?_)
      · refine K_iconst (md := mX11_scaled) (pc := 96) (x := 0) (kTab_at (pc := 96) tX11_scaled_ok 60 rfl) rfl ?_
        refine K_istore (md := mX11_scaled) (pc := 97) (l' := [(6, .int (iI 0)), (5, .int (iI x1)), (0, .ref (X.1 + 248)), (1, .long (iL p1)), (3, .long (iL p3))]) (kTab_at (pc := 97) tX11_scaled_ok 61 rfl) (Nat.le_of_ble_eq_true rfl) rfl ?_
        refine K_sub [2, 3, 4, 0] rfl ?_
        refine c_X11_scaled_99 X p1 p3 _ ?_ _ 0 μ h
        · intro v6 μ h
          refine K_aload_n (md := mX11_scaled) (pc := 128) 0 (kTab_at (pc := 128) tX11_scaled_ok 80 rfl) rfl ?_
          refine K_getR (md := mX11_scaled) (pc := 129) (b := 249) (kTab_at (pc := 129) tX11_scaled_ok 81 rfl) fl_X11_7 sk_248 rfl rfl ?_
          refine K_sipush (md := mX11_scaled) (pc := 132) (x := 642) (kTab_at (pc := 132) tX11_scaled_ok 82 rfl) (by decide) ?_
          refine K_iconst (md := mX11_scaled) (pc := 135) (x := 2) (kTab_at (pc := 135) tX11_scaled_ok 83 rfl) rfl ?_
          refine K_iload (md := mX11_scaled) (pc := 136) 3 (kTab_at (pc := 136) tX11_scaled_ok 84 rfl) rfl ?_
          refine K_imul (md := mX11_scaled) (pc := 138) (kTab_at (pc := 138) tX11_scaled_ok 85 rfl) ?_
          refine K_iadd (md := mX11_scaled) (pc := 139) (kTab_at (pc := 139) tX11_scaled_ok 86 rfl) ?_
          refine Z_iald (md := mX11_scaled) (pc := 140) (kTab_at (pc := 140) tX11_scaled_ok 87 rfl) sk_249 (by decide) h (fun x4 h => ?_)
          refine K_i2l (md := mX11_scaled) (pc := 141) (kTab_at (pc := 141) tX11_scaled_ok 88 rfl) h (fun h => ?_)
          refine K_lstore (md := mX11_scaled) (pc := 142) (l' := [(7, .long (iL x4)), (0, .ref (X.1 + 248)), (1, .long (iL p1)), (3, .long (iL p3)), (6, .int (iI v6))]) (kTab_at (pc := 142) tX11_scaled_ok 89 rfl) (Nat.le_of_ble_eq_true rfl) rfl ?_
          refine K_aload_n (md := mX11_scaled) (pc := 144) 1 (kTab_at (pc := 144) tX11_scaled_ok 90 rfl) rfl ?_
          refine K_getR (md := mX11_scaled) (pc := 145) (b := 249) (kTab_at (pc := 145) tX11_scaled_ok 91 rfl) fl_X11_7 sk_248 rfl rfl ?_
          refine K_sipush (md := mX11_scaled) (pc := 148) (x := 642) (kTab_at (pc := 148) tX11_scaled_ok 92 rfl) (by decide) ?_
          refine K_iconst (md := mX11_scaled) (pc := 151) (x := 2) (kTab_at (pc := 151) tX11_scaled_ok 93 rfl) rfl ?_
          refine K_iload (md := mX11_scaled) (pc := 152) 4 (kTab_at (pc := 152) tX11_scaled_ok 94 rfl) rfl ?_
          refine K_imul (md := mX11_scaled) (pc := 154) (kTab_at (pc := 154) tX11_scaled_ok 95 rfl) ?_
          refine K_iadd (md := mX11_scaled) (pc := 155) (kTab_at (pc := 155) tX11_scaled_ok 96 rfl) ?_
          refine K_iconst (md := mX11_scaled) (pc := 156) (x := 1) (kTab_at (pc := 156) tX11_scaled_ok 97 rfl) rfl ?_
          refine K_iadd (md := mX11_scaled) (pc := 157) (kTab_at (pc := 157) tX11_scaled_ok 98 rfl) ?_
          refine Z_iald (md := mX11_scaled) (pc := 158) (kTab_at (pc := 158) tX11_scaled_ok 99 rfl) sk_249 (by decide) h (fun x5 h => ?_)
          refine K_i2l (md := mX11_scaled) (pc := 159) (kTab_at (pc := 159) tX11_scaled_ok 100 rfl) h (fun h => ?_)
          refine K_lstore (md := mX11_scaled) (pc := 160) (l' := [(9, .long (iL x5)), (7, .long (iL x4)), (0, .ref (X.1 + 248)), (1, .long (iL p1)), (3, .long (iL p3)), (6, .int (iI v6))]) (kTab_at (pc := 160) tX11_scaled_ok 101 rfl) (Nat.le_of_ble_eq_true rfl) rfl ?_
          refine K_aload_n (md := mX11_scaled) (pc := 162) 2 (kTab_at (pc := 162) tX11_scaled_ok 102 rfl) rfl ?_
          refine K_getR (md := mX11_scaled) (pc := 163) (b := 249) (kTab_at (pc := 163) tX11_scaled_ok 103 rfl) fl_X11_7 sk_248 rfl rfl ?_
          refine K_sipush (md := mX11_scaled) (pc := 166) (x := 642) (kTab_at (pc := 166) tX11_scaled_ok 104 rfl) (by decide) ?_
          refine K_iconst (md := mX11_scaled) (pc := 169) (x := 2) (kTab_at (pc := 169) tX11_scaled_ok 105 rfl) rfl ?_
          refine K_iload (md := mX11_scaled) (pc := 170) 5 (kTab_at (pc := 170) tX11_scaled_ok 106 rfl) rfl ?_
          refine K_imul (md := mX11_scaled) (pc := 172) (kTab_at (pc := 172) tX11_scaled_ok 107 rfl) ?_
          refine K_iadd (md := mX11_scaled) (pc := 173) (kTab_at (pc := 173) tX11_scaled_ok 108 rfl) ?_
          refine K_iconst (md := mX11_scaled) (pc := 174) (x := 2) (kTab_at (pc := 174) tX11_scaled_ok 109 rfl) rfl ?_
          refine K_iadd (md := mX11_scaled) (pc := 175) (kTab_at (pc := 175) tX11_scaled_ok 110 rfl) ?_
          refine Z_iald (md := mX11_scaled) (pc := 176) (kTab_at (pc := 176) tX11_scaled_ok 111 rfl) sk_249 (by decide) h (fun x6 h => ?_)
          refine K_i2l (md := mX11_scaled) (pc := 177) (kTab_at (pc := 177) tX11_scaled_ok 112 rfl) h (fun h => ?_)
          refine K_lstore (md := mX11_scaled) (pc := 178) (l' := [(11, .long (iL x6)), (9, .long (iL x5)), (7, .long (iL x4)), (0, .ref (X.1 + 248)), (1, .long (iL p1)), (3, .long (iL p3)), (6, .int (iI v6))]) (kTab_at (pc := 178) tX11_scaled_ok 113 rfl) (Nat.le_of_ble_eq_true rfl) rfl ?_
          refine K_aload_n (md := mX11_scaled) (pc := 180) 3 (kTab_at (pc := 180) tX11_scaled_ok 114 rfl) rfl ?_
          refine K_getR (md := mX11_scaled) (pc := 181) (b := 249) (kTab_at (pc := 181) tX11_scaled_ok 115 rfl) fl_X11_7 sk_248 rfl rfl ?_
          refine K_sipush (md := mX11_scaled) (pc := 184) (x := 642) (kTab_at (pc := 184) tX11_scaled_ok 116 rfl) (by decide) ?_
          refine K_iconst (md := mX11_scaled) (pc := 187) (x := 2) (kTab_at (pc := 187) tX11_scaled_ok 117 rfl) rfl ?_
          refine K_iload (md := mX11_scaled) (pc := 188) 6 (kTab_at (pc := 188) tX11_scaled_ok 118 rfl) rfl ?_
          refine K_imul (md := mX11_scaled) (pc := 190) (kTab_at (pc := 190) tX11_scaled_ok 119 rfl) ?_
          refine K_iadd (md := mX11_scaled) (pc := 191) (kTab_at (pc := 191) tX11_scaled_ok 120 rfl) ?_
          refine K_iconst (md := mX11_scaled) (pc := 192) (x := 3) (kTab_at (pc := 192) tX11_scaled_ok 121 rfl) rfl ?_
          refine K_iadd (md := mX11_scaled) (pc := 193) (kTab_at (pc := 193) tX11_scaled_ok 122 rfl) ?_
          refine Z_iald (md := mX11_scaled) (pc := 194) (kTab_at (pc := 194) tX11_scaled_ok 123 rfl) sk_249 (by decide) h (fun x7 h => ?_)
          refine K_i2l (md := mX11_scaled) (pc := 195) (kTab_at (pc := 195) tX11_scaled_ok 124 rfl) h (fun h => ?_)
          refine K_lstore (md := mX11_scaled) (pc := 196) (l' := [(13, .long (iL x7)), (11, .long (iL x6)), (9, .long (iL x5)), (7, .long (iL x4)), (0, .ref (X.1 + 248)), (1, .long (iL p1)), (3, .long (iL p3)), (6, .int (iI v6))]) (kTab_at (pc := 196) tX11_scaled_ok 125 rfl) (Nat.le_of_ble_eq_true rfl) rfl ?_
          refine K_lload (md := mX11_scaled) (pc := 198) 2 (kTab_at (pc := 198) tX11_scaled_ok 126 rfl) rfl ?_
          refine K_lload (md := mX11_scaled) (pc := 200) 1 (kTab_at (pc := 200) tX11_scaled_ok 127 rfl) rfl ?_
          refine K_lload (md := mX11_scaled) (pc := 202) 3 (kTab_at (pc := 202) tX11_scaled_ok 128 rfl) rfl ?_
          refine K_lsub (md := mX11_scaled) (pc := 204) (kTab_at (pc := 204) tX11_scaled_ok 129 rfl) ?_
          refine K_lmul (md := mX11_scaled) (pc := 205) (kTab_at (pc := 205) tX11_scaled_ok 130 rfl) ?_
          refine K_lload_n (md := mX11_scaled) (pc := 206) 6 (kTab_at (pc := 206) tX11_scaled_ok 131 rfl) rfl ?_
          refine K_lmul (md := mX11_scaled) (pc := 207) (kTab_at (pc := 207) tX11_scaled_ok 132 rfl) ?_
          refine K_lload (md := mX11_scaled) (pc := 208) 0 (kTab_at (pc := 208) tX11_scaled_ok 133 rfl) rfl ?_
          refine K_lload (md := mX11_scaled) (pc := 210) 2 (kTab_at (pc := 210) tX11_scaled_ok 134 rfl) rfl ?_
          refine K_lsub (md := mX11_scaled) (pc := 212) (kTab_at (pc := 212) tX11_scaled_ok 135 rfl) ?_
          refine K_lload_n (md := mX11_scaled) (pc := 213) 5 (kTab_at (pc := 213) tX11_scaled_ok 136 rfl) rfl ?_
          refine K_lload (md := mX11_scaled) (pc := 214) 3 (kTab_at (pc := 214) tX11_scaled_ok 137 rfl) rfl ?_
          refine K_lload_n (md := mX11_scaled) (pc := 216) 6 (kTab_at (pc := 216) tX11_scaled_ok 138 rfl) rfl ?_
          refine K_lmul (md := mX11_scaled) (pc := 217) (kTab_at (pc := 217) tX11_scaled_ok 139 rfl) ?_
          refine K_lsub (md := mX11_scaled) (pc := 218) (kTab_at (pc := 218) tX11_scaled_ok 140 rfl) ?_
          refine K_lmul (md := mX11_scaled) (pc := 219) (kTab_at (pc := 219) tX11_scaled_ok 141 rfl) ?_
          refine K_ladd (md := mX11_scaled) (pc := 220) (kTab_at (pc := 220) tX11_scaled_ok 142 rfl) ?_
          refine K_lload (md := mX11_scaled) (pc := 221) 1 (kTab_at (pc := 221) tX11_scaled_ok 143 rfl) rfl ?_
          refine K_lload (md := mX11_scaled) (pc := 223) 3 (kTab_at (pc := 223) tX11_scaled_ok 144 rfl) rfl ?_
          refine K_lsub (md := mX11_scaled) (pc := 225) (kTab_at (pc := 225) tX11_scaled_ok 145 rfl) ?_
          refine K_lload_n (md := mX11_scaled) (pc := 226) 6 (kTab_at (pc := 226) tX11_scaled_ok 146 rfl) rfl ?_
          refine K_lmul (md := mX11_scaled) (pc := 227) (kTab_at (pc := 227) tX11_scaled_ok 147 rfl) ?_
          refine Z_callS (md := mX11_scaled) (pc := 228) (st := []) (sv := (fun x8 => [.int (iI x8)])) (kTab_at (pc := 228) tX11_scaled_ok 148 rfl) ms_X11_145 rfl (Nat.le_of_ble_eq_true rfl) (by decide) rfl (c_X11_rounded X (((x5 * (x6 - x4)) * p3) + ((x7 - x5) * (p1 - (x4 * p3)))) ((x6 - x4) * p3) μ) (fun _ => rfl) h (fun μ x8 h => ?_) rfl
          exact Z_iret (md := mX11_scaled) (pc := 231) (kTab_at (pc := 231) tX11_scaled_ok 149 rfl) rfl rfl rfl h
      · refine K_aload_n (md := mX11_scaled) (pc := 80) 1 (kTab_at (pc := 80) tX11_scaled_ok 49 rfl) rfl ?_
        refine K_getR (md := mX11_scaled) (pc := 81) (b := 249) (kTab_at (pc := 81) tX11_scaled_ok 50 rfl) fl_X11_7 sk_248 rfl rfl ?_
        refine K_sipush (md := mX11_scaled) (pc := 84) (x := 642) (kTab_at (pc := 84) tX11_scaled_ok 51 rfl) (by decide) ?_
        refine K_iconst (md := mX11_scaled) (pc := 87) (x := 2) (kTab_at (pc := 87) tX11_scaled_ok 52 rfl) rfl ?_
        refine K_iload (md := mX11_scaled) (pc := 88) 0 (kTab_at (pc := 88) tX11_scaled_ok 53 rfl) rfl ?_
        refine K_imul (md := mX11_scaled) (pc := 90) (kTab_at (pc := 90) tX11_scaled_ok 54 rfl) ?_
        refine K_iadd (md := mX11_scaled) (pc := 91) (kTab_at (pc := 91) tX11_scaled_ok 55 rfl) ?_
        refine K_iconst (md := mX11_scaled) (pc := 92) (x := 1) (kTab_at (pc := 92) tX11_scaled_ok 56 rfl) rfl ?_
        refine K_isub (md := mX11_scaled) (pc := 93) (kTab_at (pc := 93) tX11_scaled_ok 57 rfl) ?_
        refine Z_iald (md := mX11_scaled) (pc := 94) (kTab_at (pc := 94) tX11_scaled_ok 58 rfl) sk_249 (by decide) h (fun x9 h => ?_)
        exact Z_iret (md := mX11_scaled) (pc := 95) (kTab_at (pc := 95) tX11_scaled_ok 59 rfl) rfl rfl rfl h
    · refine K_aload_n (md := mX11_scaled) (pc := 48) 1 (kTab_at (pc := 48) tX11_scaled_ok 28 rfl) rfl ?_
      refine K_getR (md := mX11_scaled) (pc := 49) (b := 249) (kTab_at (pc := 49) tX11_scaled_ok 29 rfl) fl_X11_7 sk_248 rfl rfl ?_
      refine K_sipush (md := mX11_scaled) (pc := 52) (x := 643) (kTab_at (pc := 52) tX11_scaled_ok 30 rfl) (by decide) ?_
      refine Z_iald (md := mX11_scaled) (pc := 55) (kTab_at (pc := 55) tX11_scaled_ok 31 rfl) sk_249 (by decide) h (fun x10 h => ?_)
      exact Z_iret (md := mX11_scaled) (pc := 56) (kTab_at (pc := 56) tX11_scaled_ok 32 rfl) rfl rfl rfl h
  · refine K_ldc2 (md := mX11_scaled) (pc := 16) (x := 100) (v := 100) (kTab_at (pc := 16) tX11_scaled_ok 8 rfl) (inT7 115 (by decide +kernel) rfl) (by decide) ?_
    refine K_lload_n (md := mX11_scaled) (pc := 19) 2 (kTab_at (pc := 19) tX11_scaled_ok 9 rfl) rfl ?_
    refine K_lmul (md := mX11_scaled) (pc := 20) (kTab_at (pc := 20) tX11_scaled_ok 10 rfl) ?_
    refine K_lload_n (md := mX11_scaled) (pc := 21) 3 (kTab_at (pc := 21) tX11_scaled_ok 11 rfl) rfl ?_
    refine K_aload_n (md := mX11_scaled) (pc := 22) 1 (kTab_at (pc := 22) tX11_scaled_ok 12 rfl) rfl ?_
    refine Z_callV (md := mX11_scaled) (pc := 23) (st := [.long (iL p3), .long (iL (100 * p1))]) (sv := (fun x11 => [.int (iI x11), .long (iL p3), .long (iL (100 * p1))])) (kTab_at (pc := 23) tX11_scaled_ok 13 rfl) mv_X11_124 sk_248 rfl (Nat.le_of_ble_eq_true rfl) (by decide) rfl (c_X11_full X μ) (fun _ => rfl) h (fun μ x11 h => ?_) rfl
    refine K_i2l (md := mX11_scaled) (pc := 26) (kTab_at (pc := 26) tX11_scaled_ok 14 rfl) h (fun h => ?_)
    refine K_lmul (md := mX11_scaled) (pc := 27) (kTab_at (pc := 27) tX11_scaled_ok 15 rfl) ?_
    refine Z_callS (md := mX11_scaled) (pc := 28) (st := []) (sv := (fun x12 => [.int (iI x12)])) (kTab_at (pc := 28) tX11_scaled_ok 16 rfl) ms_X11_145 rfl (Nat.le_of_ble_eq_true rfl) (by decide) rfl (c_X11_rounded X (100 * p1) (p3 * x11) μ) (fun _ => rfl) h (fun μ x12 h => ?_) rfl
    exact Z_iret (md := mX11_scaled) (pc := 31) (kTab_at (pc := 31) tX11_scaled_ok 17 rfl) rfl rfl rfl h
def f_X11_isLifted_91 (p1 : Int) (k23 : Int → Int → Int → Int → Mu → Option Res) (v2 : Int) (v3 : Int) (v5 : Int) (s0 : Int) (s1 : Int) (μ : Mu) : Option Res := bnd (s0 + s1) fun x1 => k23 v2 v3 x1 (v5 + 1) μ
set_option maxRecDepth 100000 in
theorem c_X11_isLifted_91 (X : kX) (p1 : Int)  {res : Res} (k23 : Int → Int → Int → Int → Mu → Option Res) (hk23 : ∀ (v2 : Int), ∀ (v3 : Int), ∀ (v4 : Int), ∀ (v5 : Int), ∀ (μ : Mu), k23 v2 v3 v4 v5 μ = some res → KK X mX11_isLifted 1 1 res 23 [(0, .ref (X.1 + 248)), (1, .int (iI p1)), (2, .int (iI v2)), (3, .int (iI v3)), (4, .int (iI v4)), (5, .int (iI v5))] [] μ) (v2 : Int) (v3 : Int) (v5 : Int) (s0 : Int) (s1 : Int) (μ : Mu) (h : f_X11_isLifted_91 p1 k23 v2 v3 v5 s0 s1 μ = some res) : KK X mX11_isLifted 1 1 res 91 [(0, .ref (X.1 + 248)), (1, .int (iI p1)), (2, .int (iI v2)), (3, .int (iI v3)), (5, .int (iI v5))] [.int (iI s1), .int (iI s0)] μ := by
  unfold f_X11_isLifted_91 at h
  refine K_iadd (md := mX11_isLifted) (pc := 91) (kTab_at (pc := 91) tX11_isLifted_ok 56 rfl) ?_
  refine Z_bnd (md := mX11_isLifted) (pc := 92) h (fun x1 h => ?_)
  refine K_istore (md := mX11_isLifted) (pc := 92) (l' := [(4, .int (iI x1)), (0, .ref (X.1 + 248)), (1, .int (iI p1)), (2, .int (iI v2)), (3, .int (iI v3)), (5, .int (iI v5))]) (kTab_at (pc := 92) tX11_isLifted_ok 57 rfl) (Nat.le_of_ble_eq_true rfl) rfl ?_
  refine K_iinc (md := mX11_isLifted) (pc := 94) (l' := [(5, .int (iI (v5 + 1))), (4, .int (iI x1)), (0, .ref (X.1 + 248)), (1, .int (iI p1)), (2, .int (iI v2)), (3, .int (iI v3))]) 5 (kTab_at (pc := 94) tX11_isLifted_ok 58 rfl) rfl (Nat.le_of_ble_eq_true rfl) rfl ?_
  refine K_goto (md := mX11_isLifted) (pc := 97) (tgt := 23) (kTab_at (pc := 97) tX11_isLifted_ok 59 rfl) rfl ?_
  refine K_sub [2, 3, 4, 5, 1, 0] rfl ?_
  exact hk23 v2 v3 x1 (v5 + 1) μ h
def f_X11_isLifted_90 (p1 : Int) (k23 : Int → Int → Int → Int → Mu → Option Res) (v2 : Int) (v3 : Int) (v5 : Int) (s0 : Int) (μ : Mu) : Option Res := f_X11_isLifted_91 p1 k23 v2 v3 v5 s0 0 μ
set_option maxRecDepth 100000 in
theorem c_X11_isLifted_90 (X : kX) (p1 : Int)  {res : Res} (k23 : Int → Int → Int → Int → Mu → Option Res) (hk23 : ∀ (v2 : Int), ∀ (v3 : Int), ∀ (v4 : Int), ∀ (v5 : Int), ∀ (μ : Mu), k23 v2 v3 v4 v5 μ = some res → KK X mX11_isLifted 1 1 res 23 [(0, .ref (X.1 + 248)), (1, .int (iI p1)), (2, .int (iI v2)), (3, .int (iI v3)), (4, .int (iI v4)), (5, .int (iI v5))] [] μ) (v2 : Int) (v3 : Int) (v5 : Int) (s0 : Int) (μ : Mu) (h : f_X11_isLifted_90 p1 k23 v2 v3 v5 s0 μ = some res) : KK X mX11_isLifted 1 1 res 90 [(0, .ref (X.1 + 248)), (1, .int (iI p1)), (2, .int (iI v2)), (3, .int (iI v3)), (5, .int (iI v5))] [.int (iI s0)] μ := by
  unfold f_X11_isLifted_90 at h
  refine K_iconst (md := mX11_isLifted) (pc := 90) (x := 0) (kTab_at (pc := 90) tX11_isLifted_ok 55 rfl) rfl ?_
  refine c_X11_isLifted_91 X p1 _ hk23 v2 v3 v5 s0 0 μ h
def f_X11_isLifted_45 (p1 : Int) (k23 : Int → Int → Int → Int → Mu → Option Res) (v2 : Int) (v4 : Int) (v5 : Int) (s0 : Int) (s1 : Int) (μ : Mu) : Option Res := bnd (s0 + s1) fun x1 => rb (f_X11_isExcused p1 v5 μ) fun μ x2 => i_eq x2 0 (rdI μ 256 5 v5 fun x3 => rdI μ 249 779 (0 + v5) fun x4 => i_lt (x3 * 100) ((v2 * x4) * 120) (f_X11_isLifted_90 p1 k23 v2 x1 v5 v4 μ) (f_X11_isLifted_91 p1 k23 v2 x1 v5 v4 1 μ)) (f_X11_isLifted_90 p1 k23 v2 x1 v5 v4 μ)
set_option maxRecDepth 100000 in
theorem c_X11_isLifted_45 (X : kX) (p1 : Int)  {res : Res} (k23 : Int → Int → Int → Int → Mu → Option Res) (hk23 : ∀ (v2 : Int), ∀ (v3 : Int), ∀ (v4 : Int), ∀ (v5 : Int), ∀ (μ : Mu), k23 v2 v3 v4 v5 μ = some res → KK X mX11_isLifted 1 1 res 23 [(0, .ref (X.1 + 248)), (1, .int (iI p1)), (2, .int (iI v2)), (3, .int (iI v3)), (4, .int (iI v4)), (5, .int (iI v5))] [] μ) (v2 : Int) (v4 : Int) (v5 : Int) (s0 : Int) (s1 : Int) (μ : Mu) (h : f_X11_isLifted_45 p1 k23 v2 v4 v5 s0 s1 μ = some res) : KK X mX11_isLifted 1 1 res 45 [(0, .ref (X.1 + 248)), (1, .int (iI p1)), (2, .int (iI v2)), (4, .int (iI v4)), (5, .int (iI v5))] [.int (iI s1), .int (iI s0)] μ := by
  unfold f_X11_isLifted_45 at h
  refine K_iadd (md := mX11_isLifted) (pc := 45) (kTab_at (pc := 45) tX11_isLifted_ok 28 rfl) ?_
  refine Z_bnd (md := mX11_isLifted) (pc := 46) h (fun x1 h => ?_)
  refine K_istore_n (md := mX11_isLifted) (pc := 46) (l' := [(3, .int (iI x1)), (0, .ref (X.1 + 248)), (1, .int (iI p1)), (2, .int (iI v2)), (4, .int (iI v4)), (5, .int (iI v5))]) (kTab_at (pc := 46) tX11_isLifted_ok 29 rfl) (Nat.le_of_ble_eq_true rfl) rfl ?_
  refine K_iload (md := mX11_isLifted) (pc := 47) 4 (kTab_at (pc := 47) tX11_isLifted_ok 30 rfl) rfl ?_
  refine K_aload_n (md := mX11_isLifted) (pc := 49) 1 (kTab_at (pc := 49) tX11_isLifted_ok 31 rfl) rfl ?_
  refine K_iload_n (md := mX11_isLifted) (pc := 50) 2 (kTab_at (pc := 50) tX11_isLifted_ok 32 rfl) rfl ?_
  refine K_iload (md := mX11_isLifted) (pc := 51) 5 (kTab_at (pc := 51) tX11_isLifted_ok 33 rfl) rfl ?_
  refine Z_callV (md := mX11_isLifted) (pc := 53) (st := [.int (iI v4)]) (sv := (fun x2 => [.int (iI x2), .int (iI v4)])) (kTab_at (pc := 53) tX11_isLifted_ok 34 rfl) mv_X11_121 sk_248 rfl (Nat.le_of_ble_eq_true rfl) (by decide) rfl (c_X11_isExcused X p1 v5 μ) (fun _ => rfl) h (fun μ x2 h => ?_) rfl
  refine K_if_ne (md := mX11_isLifted) (pc := 56) (kTab_at (pc := 56) tX11_isLifted_ok 35 rfl) (tgt := 90) rfl h (fun h => ?_) (fun h => ?_)
  · refine K_sub [1, 2, 3, 0, 5] rfl ?_
    refine c_X11_isLifted_90 X p1 _ hk23 v2 x1 v5 v4 μ h
  · refine K_aload_n (md := mX11_isLifted) (pc := 59) 1 (kTab_at (pc := 59) tX11_isLifted_ok 36 rfl) rfl ?_
    refine K_getR (md := mX11_isLifted) (pc := 60) (b := 256) (kTab_at (pc := 60) tX11_isLifted_ok 37 rfl) fl_X11_35 sk_248 rfl rfl ?_
    refine K_iload (md := mX11_isLifted) (pc := 63) 5 (kTab_at (pc := 63) tX11_isLifted_ok 38 rfl) rfl ?_
    refine Z_iald (md := mX11_isLifted) (pc := 65) (kTab_at (pc := 65) tX11_isLifted_ok 39 rfl) sk_256 (by decide) h (fun x3 h => ?_)
    refine K_bipush (md := mX11_isLifted) (pc := 66) (x := 100) (kTab_at (pc := 66) tX11_isLifted_ok 40 rfl) (by decide) ?_
    refine K_imul (md := mX11_isLifted) (pc := 68) (kTab_at (pc := 68) tX11_isLifted_ok 41 rfl) ?_
    refine K_iload_n (md := mX11_isLifted) (pc := 69) 3 (kTab_at (pc := 69) tX11_isLifted_ok 42 rfl) rfl ?_
    refine K_aload_n (md := mX11_isLifted) (pc := 70) 1 (kTab_at (pc := 70) tX11_isLifted_ok 43 rfl) rfl ?_
    refine K_getR (md := mX11_isLifted) (pc := 71) (b := 249) (kTab_at (pc := 71) tX11_isLifted_ok 44 rfl) fl_X11_7 sk_248 rfl rfl ?_
    refine K_iconst (md := mX11_isLifted) (pc := 74) (x := 0) (kTab_at (pc := 74) tX11_isLifted_ok 45 rfl) rfl ?_
    refine K_iload (md := mX11_isLifted) (pc := 75) 5 (kTab_at (pc := 75) tX11_isLifted_ok 46 rfl) rfl ?_
    refine K_iadd (md := mX11_isLifted) (pc := 77) (kTab_at (pc := 77) tX11_isLifted_ok 47 rfl) ?_
    refine Z_iald (md := mX11_isLifted) (pc := 78) (kTab_at (pc := 78) tX11_isLifted_ok 48 rfl) sk_249 (by decide) h (fun x4 h => ?_)
    refine K_imul (md := mX11_isLifted) (pc := 79) (kTab_at (pc := 79) tX11_isLifted_ok 49 rfl) ?_
    refine K_bipush (md := mX11_isLifted) (pc := 80) (x := 120) (kTab_at (pc := 80) tX11_isLifted_ok 50 rfl) (by decide) ?_
    refine K_imul (md := mX11_isLifted) (pc := 82) (kTab_at (pc := 82) tX11_isLifted_ok 51 rfl) ?_
    refine K_icmp_lt (md := mX11_isLifted) (pc := 83) (kTab_at (pc := 83) tX11_isLifted_ok 52 rfl) (tgt := 90) rfl h (fun h => ?_) (fun h => ?_)
    · refine K_sub [1, 2, 3, 0, 5] rfl ?_
      refine c_X11_isLifted_90 X p1 _ hk23 v2 x1 v5 v4 μ h
    · refine K_iconst (md := mX11_isLifted) (pc := 86) (x := 1) (kTab_at (pc := 86) tX11_isLifted_ok 53 rfl) rfl ?_
      refine K_goto (md := mX11_isLifted) (pc := 87) (tgt := 91) (kTab_at (pc := 87) tX11_isLifted_ok 54 rfl) rfl ?_
      refine K_sub [1, 2, 3, 0, 5] rfl ?_
      refine c_X11_isLifted_91 X p1 _ hk23 v2 x1 v5 v4 1 μ h
def f_X11_isLifted_127 (p1 : Int)  (s0 : Int) (μ : Mu) : Option Res := retZ μ s0
set_option maxRecDepth 100000 in
theorem c_X11_isLifted_127 (X : kX) (p1 : Int)  {res : Res}  (s0 : Int) (μ : Mu) (h : f_X11_isLifted_127 p1 s0 μ = some res) : KK X mX11_isLifted 1 1 res 127 [] [.int (iI s0)] μ := by
  unfold f_X11_isLifted_127 at h
  exact Z_zret (md := mX11_isLifted) (pc := 127) (kTab_at (pc := 127) tX11_isLifted_ok 76 rfl) rfl rfl h
def f_X11_isLifted_126 (p1 : Int)   (μ : Mu) : Option Res := f_X11_isLifted_127 p1 0 μ
set_option maxRecDepth 100000 in
theorem c_X11_isLifted_126 (X : kX) (p1 : Int)  {res : Res}  (μ : Mu) (h : f_X11_isLifted_126 p1 μ = some res) : KK X mX11_isLifted 1 1 res 126 [] [] μ := by
  unfold f_X11_isLifted_126 at h
  refine K_iconst (md := mX11_isLifted) (pc := 126) (x := 0) (kTab_at (pc := 126) tX11_isLifted_ok 75 rfl) rfl ?_
  refine c_X11_isLifted_127 X p1  0 μ h
def f_X11_isLifted_23 (p1 : Int) (k100 : Int → Int → Int → Mu → Option Res) : Nat → Int → Int → Int → Int → Mu → Option Res
  | 0, _, _, _, _, _ => none
  | fu + 1, v2, v3, v4, v5, μ => i_lt v5 5 (rb (f_X11_isExcused p1 v5 μ) fun μ x1 => i_eq x1 0 (f_X11_isLifted_45 p1 (f_X11_isLifted_23 p1 k100 fu) v2 v4 v5 v3 1 μ) (f_X11_isLifted_45 p1 (f_X11_isLifted_23 p1 k100 fu) v2 v4 v5 v3 0 μ)) (k100 v2 v3 v4 μ)
set_option maxRecDepth 100000 in
theorem c_X11_isLifted_23 (X : kX) (p1 : Int)  {res : Res} (k100 : Int → Int → Int → Mu → Option Res) (hk100 : ∀ (v2 : Int), ∀ (v3 : Int), ∀ (v4 : Int), ∀ (μ : Mu), k100 v2 v3 v4 μ = some res → KK X mX11_isLifted 1 1 res 100 [(0, .ref (X.1 + 248)), (2, .int (iI v2)), (3, .int (iI v3)), (4, .int (iI v4))] [] μ) : ∀ (fu : Nat)  (v2 : Int) (v3 : Int) (v4 : Int) (v5 : Int) (μ : Mu), f_X11_isLifted_23 p1 k100 fu v2 v3 v4 v5 μ = some res → KK X mX11_isLifted 1 1 res 23 [(0, .ref (X.1 + 248)), (1, .int (iI p1)), (2, .int (iI v2)), (3, .int (iI v3)), (4, .int (iI v4)), (5, .int (iI v5))] [] μ := by
  intro fu
  induction fu with
  | zero => intro v2 v3 v4 v5 μ h; exact nomatch h
  | succ fu ih =>
    intro v2 v3 v4 v5 μ h
    refine K_iload (md := mX11_isLifted) (pc := 23) 5 (kTab_at (pc := 23) tX11_isLifted_ok 16 rfl) rfl ?_
    refine K_iconst (md := mX11_isLifted) (pc := 25) (x := 5) (kTab_at (pc := 25) tX11_isLifted_ok 17 rfl) rfl ?_
    refine K_icmp_ge (md := mX11_isLifted) (pc := 26) (kTab_at (pc := 26) tX11_isLifted_ok 18 rfl) (tgt := 100) rfl h (fun h => ?_) (fun h => ?_)
    · refine K_sub [0, 2, 3, 4] rfl ?_
      exact hk100 v2 v3 v4 μ h
    · refine K_iload_n (md := mX11_isLifted) (pc := 29) 3 (kTab_at (pc := 29) tX11_isLifted_ok 19 rfl) rfl ?_
      refine K_aload_n (md := mX11_isLifted) (pc := 30) 0 (kTab_at (pc := 30) tX11_isLifted_ok 20 rfl) rfl ?_
      refine K_iload_n (md := mX11_isLifted) (pc := 31) 1 (kTab_at (pc := 31) tX11_isLifted_ok 21 rfl) rfl ?_
      refine K_iload (md := mX11_isLifted) (pc := 32) 5 (kTab_at (pc := 32) tX11_isLifted_ok 22 rfl) rfl ?_
      refine Z_callV (md := mX11_isLifted) (pc := 34) (st := [.int (iI v3)]) (sv := (fun x1 => [.int (iI x1), .int (iI v3)])) (kTab_at (pc := 34) tX11_isLifted_ok 23 rfl) mv_X11_121 sk_248 rfl (Nat.le_of_ble_eq_true rfl) (by decide) rfl (c_X11_isExcused X p1 v5 μ) (fun _ => rfl) h (fun μ x1 h => ?_) rfl
      refine K_if_eq (md := mX11_isLifted) (pc := 37) (kTab_at (pc := 37) tX11_isLifted_ok 24 rfl) (tgt := 44) rfl h (fun h => ?_) (fun h => ?_)
      · refine K_iconst (md := mX11_isLifted) (pc := 44) (x := 1) (kTab_at (pc := 44) tX11_isLifted_ok 27 rfl) rfl ?_
        refine K_sub [0, 1, 2, 4, 5] rfl ?_
        refine c_X11_isLifted_45 X p1 _ ih v2 v4 v5 v3 1 μ h
      · refine K_iconst (md := mX11_isLifted) (pc := 40) (x := 0) (kTab_at (pc := 40) tX11_isLifted_ok 25 rfl) rfl ?_
        refine K_goto (md := mX11_isLifted) (pc := 41) (tgt := 45) (kTab_at (pc := 41) tX11_isLifted_ok 26 rfl) rfl ?_
        refine K_sub [0, 1, 2, 4, 5] rfl ?_
        refine c_X11_isLifted_45 X p1 _ ih v2 v4 v5 v3 0 μ h
def f_X11_isLifted (p1 : Int) (μ : Mu) : Option Res := rdF μ 248 18 fun x1 => rdI μ 249 779 ((10 + x1) - 1) fun x2 => f_X11_isLifted_23 p1 (fun v2 v3 v4 μ => rdF μ 248 17 fun x3 => rb (f_X11_setting 3 μ) fun μ x4 => i_lt x4 (v2 - x3) (f_X11_isLifted_126 p1 μ) (i_lt (2 * v4) v3 (f_X11_isLifted_126 p1 μ) (f_X11_isLifted_127 p1 1 μ))) FU x2 0 0 0 μ
set_option maxRecDepth 100000 in
theorem c_X11_isLifted (X : kX) (p1 : Int)  (μ : Mu) : Cq X mX11_isLifted 1 1 μ [.ref (X.1 + 248), .int (iI p1)] (f_X11_isLifted p1 μ) := by
  intro res h
  refine ct_of (by decide +kernel) rfl (Nat.le_of_ble_eq_true rfl) ?_
  show KK X mX11_isLifted 1 1 res 0 [(0, .ref (X.1 + 248)), (1, .int (iI p1))] [] μ
  unfold f_X11_isLifted at h
  refine K_aload_n (md := mX11_isLifted) (pc := 0) 0 (kTab_at (pc := 0) tX11_isLifted_ok 0 rfl) rfl ?_
  refine K_getR (md := mX11_isLifted) (pc := 1) (b := 249) (kTab_at (pc := 1) tX11_isLifted_ok 1 rfl) fl_X11_7 sk_248 rfl rfl ?_
  refine K_bipush (md := mX11_isLifted) (pc := 4) (x := 10) (kTab_at (pc := 4) tX11_isLifted_ok 2 rfl) (by decide) ?_
  refine K_aload_n (md := mX11_isLifted) (pc := 6) 0 (kTab_at (pc := 6) tX11_isLifted_ok 3 rfl) rfl ?_
  refine Z_getI (md := mX11_isLifted) (pc := 7) (kTab_at (pc := 7) tX11_isLifted_ok 4 rfl) fl_X11_159 sk_248 (Or.inl rfl) h (fun x1 h => ?_)
  refine K_iadd (md := mX11_isLifted) (pc := 10) (kTab_at (pc := 10) tX11_isLifted_ok 5 rfl) ?_
  refine K_iconst (md := mX11_isLifted) (pc := 11) (x := 1) (kTab_at (pc := 11) tX11_isLifted_ok 6 rfl) rfl ?_
  refine K_isub (md := mX11_isLifted) (pc := 12) (kTab_at (pc := 12) tX11_isLifted_ok 7 rfl) ?_
  refine Z_iald (md := mX11_isLifted) (pc := 13) (kTab_at (pc := 13) tX11_isLifted_ok 8 rfl) sk_249 (by decide) h (fun x2 h => ?_)
  refine K_istore_n (md := mX11_isLifted) (pc := 14) (l' := [(2, .int (iI x2)), (0, .ref (X.1 + 248)), (1, .int (iI p1))]) (kTab_at (pc := 14) tX11_isLifted_ok 9 rfl) (Nat.le_of_ble_eq_true rfl) rfl ?_
  refine K_iconst (md := mX11_isLifted) (pc := 15) (x := 0) (kTab_at (pc := 15) tX11_isLifted_ok 10 rfl) rfl ?_
  refine K_istore_n (md := mX11_isLifted) (pc := 16) (l' := [(3, .int (iI 0)), (2, .int (iI x2)), (0, .ref (X.1 + 248)), (1, .int (iI p1))]) (kTab_at (pc := 16) tX11_isLifted_ok 11 rfl) (Nat.le_of_ble_eq_true rfl) rfl ?_
  refine K_iconst (md := mX11_isLifted) (pc := 17) (x := 0) (kTab_at (pc := 17) tX11_isLifted_ok 12 rfl) rfl ?_
  refine K_istore (md := mX11_isLifted) (pc := 18) (l' := [(4, .int (iI 0)), (3, .int (iI 0)), (2, .int (iI x2)), (0, .ref (X.1 + 248)), (1, .int (iI p1))]) (kTab_at (pc := 18) tX11_isLifted_ok 13 rfl) (Nat.le_of_ble_eq_true rfl) rfl ?_
  refine K_iconst (md := mX11_isLifted) (pc := 20) (x := 0) (kTab_at (pc := 20) tX11_isLifted_ok 14 rfl) rfl ?_
  refine K_istore (md := mX11_isLifted) (pc := 21) (l' := [(5, .int (iI 0)), (4, .int (iI 0)), (3, .int (iI 0)), (2, .int (iI x2)), (0, .ref (X.1 + 248)), (1, .int (iI p1))]) (kTab_at (pc := 21) tX11_isLifted_ok 15 rfl) (Nat.le_of_ble_eq_true rfl) rfl ?_
  refine K_sub [4, 5, 3, 2, 1, 0] rfl ?_
  refine c_X11_isLifted_23 X p1 _ ?_ _ x2 0 0 0 μ h
  · intro v2 v3 v4 μ h
    refine K_iload_n (md := mX11_isLifted) (pc := 100) 1 (kTab_at (pc := 100) tX11_isLifted_ok 60 rfl) rfl ?_
    refine K_aload_n (md := mX11_isLifted) (pc := 101) 0 (kTab_at (pc := 101) tX11_isLifted_ok 61 rfl) rfl ?_
    refine Z_getI (md := mX11_isLifted) (pc := 102) (kTab_at (pc := 102) tX11_isLifted_ok 62 rfl) fl_X11_156 sk_248 (Or.inl rfl) h (fun x3 h => ?_)
    refine K_isub (md := mX11_isLifted) (pc := 105) (kTab_at (pc := 105) tX11_isLifted_ok 63 rfl) ?_
    refine K_aload_n (md := mX11_isLifted) (pc := 106) 0 (kTab_at (pc := 106) tX11_isLifted_ok 64 rfl) rfl ?_
    refine K_iconst (md := mX11_isLifted) (pc := 107) (x := 3) (kTab_at (pc := 107) tX11_isLifted_ok 65 rfl) rfl ?_
    refine Z_callV (md := mX11_isLifted) (pc := 108) (st := [.int (iI (v2 - x3))]) (sv := (fun x4 => [.int (iI x4), .int (iI (v2 - x3))])) (kTab_at (pc := 108) tX11_isLifted_ok 66 rfl) mv_X11_78 sk_248 rfl (Nat.le_of_ble_eq_true rfl) (by decide) rfl (c_X11_setting X 3 μ) (fun _ => rfl) h (fun μ x4 h => ?_) rfl
    refine K_icmp_gt (md := mX11_isLifted) (pc := 111) (kTab_at (pc := 111) tX11_isLifted_ok 67 rfl) (tgt := 126) rfl h (fun h => ?_) (fun h => ?_)
    · refine K_sub [] rfl ?_
      refine c_X11_isLifted_126 X p1  μ h
    · refine K_iconst (md := mX11_isLifted) (pc := 114) (x := 2) (kTab_at (pc := 114) tX11_isLifted_ok 68 rfl) rfl ?_
      refine K_iload (md := mX11_isLifted) (pc := 115) 3 (kTab_at (pc := 115) tX11_isLifted_ok 69 rfl) rfl ?_
      refine K_imul (md := mX11_isLifted) (pc := 117) (kTab_at (pc := 117) tX11_isLifted_ok 70 rfl) ?_
      refine K_iload_n (md := mX11_isLifted) (pc := 118) 2 (kTab_at (pc := 118) tX11_isLifted_ok 71 rfl) rfl ?_
      refine K_icmp_lt (md := mX11_isLifted) (pc := 119) (kTab_at (pc := 119) tX11_isLifted_ok 72 rfl) (tgt := 126) rfl h (fun h => ?_) (fun h => ?_)
      · refine K_sub [] rfl ?_
        refine c_X11_isLifted_126 X p1  μ h
      · refine K_iconst (md := mX11_isLifted) (pc := 122) (x := 1) (kTab_at (pc := 122) tX11_isLifted_ok 73 rfl) rfl ?_
        refine K_goto (md := mX11_isLifted) (pc := 123) (tgt := 127) (kTab_at (pc := 123) tX11_isLifted_ok 74 rfl) rfl ?_
        refine K_sub [] rfl ?_
        refine c_X11_isLifted_127 X p1  1 μ h
def f_X11_grades_99 (p1 : Int)  (s1 : Int) (μ : Mu) : Option Res := wrF μ 248 19 s1 fun μ => some (μ, 0, 0)
set_option maxRecDepth 100000 in
theorem c_X11_grades_99 (X : kX) (p1 : Int)  {res : Res}  (s1 : Int) (μ : Mu) (h : f_X11_grades_99 p1 s1 μ = some res) : KK X mX11_grades 2 0 res 99 [] [.int (iI s1), .ref (X.1 + 248)] μ := by
  unfold f_X11_grades_99 at h
  refine Z_putI (md := mX11_grades) (pc := 99) (kTab_at (pc := 99) tX11_grades_ok 52 rfl) fl_X11_165 sk_248 rfl h (fun μ h => ?_)
  exact Z_vret (md := mX11_grades) (pc := 102) (kTab_at (pc := 102) tX11_grades_ok 53 rfl) rfl rfl h
def f_X11_grades_95 (p1 : Int)   (μ : Mu) : Option Res := rdF μ 248 18 fun x1 => f_X11_grades_99 p1 x1 μ
set_option maxRecDepth 100000 in
theorem c_X11_grades_95 (X : kX) (p1 : Int)  {res : Res}  (μ : Mu) (h : f_X11_grades_95 p1 μ = some res) : KK X mX11_grades 2 0 res 95 [(0, .ref (X.1 + 248))] [.ref (X.1 + 248)] μ := by
  unfold f_X11_grades_95 at h
  refine K_aload_n (md := mX11_grades) (pc := 95) 0 (kTab_at (pc := 95) tX11_grades_ok 50 rfl) rfl ?_
  refine Z_getI (md := mX11_grades) (pc := 96) (kTab_at (pc := 96) tX11_grades_ok 51 rfl) fl_X11_159 sk_248 (Or.inl rfl) h (fun x1 h => ?_)
  refine K_sub [] rfl ?_
  refine c_X11_grades_99 X p1  x1 μ h
def f_X11_grades_70 (p1 : Int)   (μ : Mu) : Option Res := rdF μ 248 18 fun x1 => i_lt 0 x1 (rb (f_X11_isLifted p1 μ) fun μ x2 => i_eq x2 0 (f_X11_grades_95 p1 μ) (rdF μ 248 18 fun x3 => f_X11_grades_99 p1 (x3 - 1) μ)) (f_X11_grades_95 p1 μ)
set_option maxRecDepth 100000 in
theorem c_X11_grades_70 (X : kX) (p1 : Int)  {res : Res}  (μ : Mu) (h : f_X11_grades_70 p1 μ = some res) : KK X mX11_grades 2 0 res 70 [(0, .ref (X.1 + 248)), (1, .int (iI p1))] [] μ := by
  unfold f_X11_grades_70 at h
  refine K_aload_n (md := mX11_grades) (pc := 70) 0 (kTab_at (pc := 70) tX11_grades_ok 37 rfl) rfl ?_
  refine K_aload_n (md := mX11_grades) (pc := 71) 0 (kTab_at (pc := 71) tX11_grades_ok 38 rfl) rfl ?_
  refine Z_getI (md := mX11_grades) (pc := 72) (kTab_at (pc := 72) tX11_grades_ok 39 rfl) fl_X11_159 sk_248 (Or.inl rfl) h (fun x1 h => ?_)
  refine K_if_le (md := mX11_grades) (pc := 75) (kTab_at (pc := 75) tX11_grades_ok 40 rfl) (tgt := 95) rfl h (fun h => ?_) (fun h => ?_)
  · refine K_sub [0] rfl ?_
    refine c_X11_grades_95 X p1  μ h
  · refine K_aload_n (md := mX11_grades) (pc := 78) 0 (kTab_at (pc := 78) tX11_grades_ok 41 rfl) rfl ?_
    refine K_iload_n (md := mX11_grades) (pc := 79) 1 (kTab_at (pc := 79) tX11_grades_ok 42 rfl) rfl ?_
    refine Z_callV (md := mX11_grades) (pc := 80) (st := [.ref (X.1 + 248)]) (sv := (fun x2 => [.int (iI x2), .ref (X.1 + 248)])) (kTab_at (pc := 80) tX11_grades_ok 43 rfl) mv_X11_162 sk_248 rfl (Nat.le_of_ble_eq_true rfl) (by decide) rfl (c_X11_isLifted X p1 μ) (fun _ => rfl) h (fun μ x2 h => ?_) rfl
    refine K_if_eq (md := mX11_grades) (pc := 83) (kTab_at (pc := 83) tX11_grades_ok 44 rfl) (tgt := 95) rfl h (fun h => ?_) (fun h => ?_)
    · refine K_sub [0] rfl ?_
      refine c_X11_grades_95 X p1  μ h
    · refine K_aload_n (md := mX11_grades) (pc := 86) 0 (kTab_at (pc := 86) tX11_grades_ok 45 rfl) rfl ?_
      refine Z_getI (md := mX11_grades) (pc := 87) (kTab_at (pc := 87) tX11_grades_ok 46 rfl) fl_X11_159 sk_248 (Or.inl rfl) h (fun x3 h => ?_)
      refine K_iconst (md := mX11_grades) (pc := 90) (x := 1) (kTab_at (pc := 90) tX11_grades_ok 47 rfl) rfl ?_
      refine K_isub (md := mX11_grades) (pc := 91) (kTab_at (pc := 91) tX11_grades_ok 48 rfl) ?_
      refine K_goto (md := mX11_grades) (pc := 92) (tgt := 99) (kTab_at (pc := 92) tX11_grades_ok 49 rfl) rfl ?_
      refine K_sub [] rfl ?_
      refine c_X11_grades_99 X p1  (x3 - 1) μ h
def f_X11_grades_30 (p1 : Int) (k70 : Mu → Option Res) : Nat → Mu → Option Res
  | 0, _ => none
  | fu + 1, μ => rdF μ 248 18 fun x1 => i_lt x1 4 (rdF μ 248 18 fun x2 => rdI μ 249 779 (10 + x2) fun x3 => rdF μ 248 17 fun x4 => i_lt x4 x3 (rdF μ 248 18 fun x5 => wrF μ 248 18 (x5 + 1) fun μ => (f_X11_grades_30 p1 k70 fu) μ) (k70 μ)) (k70 μ)
set_option maxRecDepth 100000 in
theorem c_X11_grades_30 (X : kX) (p1 : Int)  {res : Res} (k70 : Mu → Option Res) (hk70 : ∀ (μ : Mu), k70 μ = some res → KK X mX11_grades 2 0 res 70 [(0, .ref (X.1 + 248)), (1, .int (iI p1))] [] μ) : ∀ (fu : Nat) (μ : Mu), f_X11_grades_30 p1 k70 fu μ = some res → KK X mX11_grades 2 0 res 30 [(0, .ref (X.1 + 248)), (1, .int (iI p1))] [] μ := by
  intro fu
  induction fu with
  | zero => intro  μ h; exact nomatch h
  | succ fu ih =>
    intro  μ h
    refine K_aload_n (md := mX11_grades) (pc := 30) 0 (kTab_at (pc := 30) tX11_grades_ok 16 rfl) rfl ?_
    refine Z_getI (md := mX11_grades) (pc := 31) (kTab_at (pc := 31) tX11_grades_ok 17 rfl) fl_X11_159 sk_248 (Or.inl rfl) h (fun x1 h => ?_)
    refine K_iconst (md := mX11_grades) (pc := 34) (x := 4) (kTab_at (pc := 34) tX11_grades_ok 18 rfl) rfl ?_
    refine K_icmp_ge (md := mX11_grades) (pc := 35) (kTab_at (pc := 35) tX11_grades_ok 19 rfl) (tgt := 70) rfl h (fun h => ?_) (fun h => ?_)
    · exact hk70 μ h
    · refine K_aload_n (md := mX11_grades) (pc := 38) 0 (kTab_at (pc := 38) tX11_grades_ok 20 rfl) rfl ?_
      refine K_getR (md := mX11_grades) (pc := 39) (b := 249) (kTab_at (pc := 39) tX11_grades_ok 21 rfl) fl_X11_7 sk_248 rfl rfl ?_
      refine K_bipush (md := mX11_grades) (pc := 42) (x := 10) (kTab_at (pc := 42) tX11_grades_ok 22 rfl) (by decide) ?_
      refine K_aload_n (md := mX11_grades) (pc := 44) 0 (kTab_at (pc := 44) tX11_grades_ok 23 rfl) rfl ?_
      refine Z_getI (md := mX11_grades) (pc := 45) (kTab_at (pc := 45) tX11_grades_ok 24 rfl) fl_X11_159 sk_248 (Or.inl rfl) h (fun x2 h => ?_)
      refine K_iadd (md := mX11_grades) (pc := 48) (kTab_at (pc := 48) tX11_grades_ok 25 rfl) ?_
      refine Z_iald (md := mX11_grades) (pc := 49) (kTab_at (pc := 49) tX11_grades_ok 26 rfl) sk_249 (by decide) h (fun x3 h => ?_)
      refine K_aload_n (md := mX11_grades) (pc := 50) 0 (kTab_at (pc := 50) tX11_grades_ok 27 rfl) rfl ?_
      refine Z_getI (md := mX11_grades) (pc := 51) (kTab_at (pc := 51) tX11_grades_ok 28 rfl) fl_X11_156 sk_248 (Or.inl rfl) h (fun x4 h => ?_)
      refine K_icmp_le (md := mX11_grades) (pc := 54) (kTab_at (pc := 54) tX11_grades_ok 29 rfl) (tgt := 70) rfl h (fun h => ?_) (fun h => ?_)
      · exact hk70 μ h
      · refine K_aload_n (md := mX11_grades) (pc := 57) 0 (kTab_at (pc := 57) tX11_grades_ok 30 rfl) rfl ?_
        refine K_dup (md := mX11_grades) (pc := 58) (kTab_at (pc := 58) tX11_grades_ok 31 rfl) rfl ?_
        refine Z_getI (md := mX11_grades) (pc := 59) (kTab_at (pc := 59) tX11_grades_ok 32 rfl) fl_X11_159 sk_248 (Or.inl rfl) h (fun x5 h => ?_)
        refine K_iconst (md := mX11_grades) (pc := 62) (x := 1) (kTab_at (pc := 62) tX11_grades_ok 33 rfl) rfl ?_
        refine K_iadd (md := mX11_grades) (pc := 63) (kTab_at (pc := 63) tX11_grades_ok 34 rfl) ?_
        refine Z_putI (md := mX11_grades) (pc := 64) (kTab_at (pc := 64) tX11_grades_ok 35 rfl) fl_X11_159 sk_248 rfl h (fun μ h => ?_)
        refine K_goto (md := mX11_grades) (pc := 67) (tgt := 30) (kTab_at (pc := 67) tX11_grades_ok 36 rfl) rfl ?_
        exact ih μ h
def f_X11_grades (p1 : Int) (μ : Mu) : Option Res := rb (f_X11_raws p1 μ) fun μ _ => rdF μ 248 15 fun x1 => rdF μ 248 16 fun x2 => rb (f_X11_scaled x1 (x2 * 120) μ) fun μ x3 => wrF μ 248 17 x3 fun μ => wrF μ 248 18 0 fun μ => f_X11_grades_30 p1 (fun μ => f_X11_grades_70 p1 μ) FU μ
set_option maxRecDepth 100000 in
theorem c_X11_grades (X : kX) (p1 : Int)  (μ : Mu) : Cq X mX11_grades 2 0 μ [.ref (X.1 + 248), .int (iI p1)] (f_X11_grades p1 μ) := by
  intro res h
  refine ct_of (by decide +kernel) rfl (Nat.le_of_ble_eq_true rfl) ?_
  show KK X mX11_grades 2 0 res 0 [(0, .ref (X.1 + 248)), (1, .int (iI p1))] [] μ
  unfold f_X11_grades at h
  refine K_aload_n (md := mX11_grades) (pc := 0) 0 (kTab_at (pc := 0) tX11_grades_ok 0 rfl) rfl ?_
  refine K_iload_n (md := mX11_grades) (pc := 1) 1 (kTab_at (pc := 1) tX11_grades_ok 1 rfl) rfl ?_
  refine Z_callV (md := mX11_grades) (pc := 2) (st := []) (sv := (fun _ => [])) (kTab_at (pc := 2) tX11_grades_ok 2 rfl) mv_X11_149 sk_248 rfl (Nat.le_of_ble_eq_true rfl) (by decide) rfl (c_X11_raws X p1 μ) (fun _ => rfl) h (fun μ _ h => ?_) rfl
  refine K_aload_n (md := mX11_grades) (pc := 5) 0 (kTab_at (pc := 5) tX11_grades_ok 3 rfl) rfl ?_
  refine K_aload_n (md := mX11_grades) (pc := 6) 0 (kTab_at (pc := 6) tX11_grades_ok 4 rfl) rfl ?_
  refine K_aload_n (md := mX11_grades) (pc := 7) 0 (kTab_at (pc := 7) tX11_grades_ok 5 rfl) rfl ?_
  refine Z_getL (md := mX11_grades) (pc := 8) (kTab_at (pc := 8) tX11_grades_ok 6 rfl) fl_X11_136 sk_248 rfl h (fun x1 h => ?_)
  refine K_aload_n (md := mX11_grades) (pc := 11) 0 (kTab_at (pc := 11) tX11_grades_ok 7 rfl) rfl ?_
  refine Z_getL (md := mX11_grades) (pc := 12) (kTab_at (pc := 12) tX11_grades_ok 8 rfl) fl_X11_140 sk_248 rfl h (fun x2 h => ?_)
  refine K_ldc2 (md := mX11_grades) (pc := 15) (x := 120) (v := 120) (kTab_at (pc := 15) tX11_grades_ok 9 rfl) (inT7 144 (by decide +kernel) rfl) (by decide) ?_
  refine K_lmul (md := mX11_grades) (pc := 18) (kTab_at (pc := 18) tX11_grades_ok 10 rfl) ?_
  refine Z_callV (md := mX11_grades) (pc := 19) (st := [.ref (X.1 + 248)]) (sv := (fun x3 => [.int (iI x3), .ref (X.1 + 248)])) (kTab_at (pc := 19) tX11_grades_ok 11 rfl) mv_X11_153 sk_248 rfl (Nat.le_of_ble_eq_true rfl) (by decide) rfl (c_X11_scaled X x1 (x2 * 120) μ) (fun _ => rfl) h (fun μ x3 h => ?_) rfl
  refine Z_putI (md := mX11_grades) (pc := 22) (kTab_at (pc := 22) tX11_grades_ok 12 rfl) fl_X11_156 sk_248 rfl h (fun μ h => ?_)
  refine K_aload_n (md := mX11_grades) (pc := 25) 0 (kTab_at (pc := 25) tX11_grades_ok 13 rfl) rfl ?_
  refine K_iconst (md := mX11_grades) (pc := 26) (x := 0) (kTab_at (pc := 26) tX11_grades_ok 14 rfl) rfl ?_
  refine Z_putI (md := mX11_grades) (pc := 27) (kTab_at (pc := 27) tX11_grades_ok 15 rfl) fl_X11_159 sk_248 rfl h (fun μ h => ?_)
  refine c_X11_grades_30 X p1 _ ?_ _ μ h
  · intro  μ h
    refine c_X11_grades_70 X p1  μ h
def f_X11_gradeOf (p1 : Int) (μ : Mu) : Option Res := rb (f_X11_marksOf p1 μ) fun μ _ => rb (f_X11_grades p1 μ) fun μ _ => rdF μ 248 19 fun x1 => some (μ, 0, x1)
set_option maxRecDepth 100000 in
theorem c_X11_gradeOf (X : kX) (p1 : Int)  (μ : Mu) : Cq X mX11_gradeOf 7 1 μ [.ref (X.1 + 248), .int (iI p1)] (f_X11_gradeOf p1 μ) := by
  intro res h
  refine ct_of (by decide +kernel) rfl (Nat.le_of_ble_eq_true rfl) ?_
  show KK X mX11_gradeOf 7 1 res 0 [(0, .ref (X.1 + 248)), (1, .int (iI p1))] [] μ
  unfold f_X11_gradeOf at h
  refine K_aload_n (md := mX11_gradeOf) (pc := 0) 0 (kTab_at (pc := 0) tX11_gradeOf_ok 0 rfl) rfl ?_
  refine K_iload_n (md := mX11_gradeOf) (pc := 1) 1 (kTab_at (pc := 1) tX11_gradeOf_ok 1 rfl) rfl ?_
  refine Z_callV (md := mX11_gradeOf) (pc := 2) (st := []) (sv := (fun _ => [])) (kTab_at (pc := 2) tX11_gradeOf_ok 2 rfl) mv_X11_168 sk_248 rfl (Nat.le_of_ble_eq_true rfl) (by decide) rfl (c_X11_marksOf X p1 μ) (fun _ => rfl) h (fun μ _ h => ?_) rfl
  refine K_aload_n (md := mX11_gradeOf) (pc := 5) 0 (kTab_at (pc := 5) tX11_gradeOf_ok 3 rfl) rfl ?_
  refine K_iload_n (md := mX11_gradeOf) (pc := 6) 1 (kTab_at (pc := 6) tX11_gradeOf_ok 4 rfl) rfl ?_
  refine Z_callV (md := mX11_gradeOf) (pc := 7) (st := []) (sv := (fun _ => [])) (kTab_at (pc := 7) tX11_gradeOf_ok 5 rfl) mv_X11_171 sk_248 rfl (Nat.le_of_ble_eq_true rfl) (by decide) rfl (c_X11_grades X p1 μ) (fun _ => rfl) h (fun μ _ h => ?_) rfl
  refine K_aload_n (md := mX11_gradeOf) (pc := 10) 0 (kTab_at (pc := 10) tX11_gradeOf_ok 6 rfl) rfl ?_
  refine Z_getI (md := mX11_gradeOf) (pc := 11) (kTab_at (pc := 11) tX11_gradeOf_ok 7 rfl) fl_X11_165 sk_248 (Or.inl rfl) h (fun x1 h => ?_)
  exact Z_iret (md := mX11_gradeOf) (pc := 14) (kTab_at (pc := 14) tX11_gradeOf_ok 8 rfl) rfl rfl rfl h
def f_X11_reports (p1 : Int) (p2 : Int) (p3 : Int) (p4 : Int) (p5 : Int) (μ : Mu) : Option Res := wrI μ 254 4 0 p1 fun μ => wrI μ 254 4 1 p2 fun μ => wrI μ 254 4 2 p3 fun μ => wrI μ 254 4 3 p4 fun μ => wrF μ 248 11 2 fun μ => rb (f_X11_fails p5 μ) fun μ x1 => some (μ, 0, x1)
set_option maxRecDepth 100000 in
theorem c_X11_reports (X : kX) (p1 : Int) (p2 : Int) (p3 : Int) (p4 : Int) (p5 : Int)  (μ : Mu) : Cq X mX11_reports 1 1 μ [.ref (X.1 + 248), .int (iI p1), .int (iI p2), .int (iI p3), .int (iI p4), .int (iI p5)] (f_X11_reports p1 p2 p3 p4 p5 μ) := by
  intro res h
  refine ct_of (by decide +kernel) rfl (Nat.le_of_ble_eq_true rfl) ?_
  show KK X mX11_reports 1 1 res 0 [(0, .ref (X.1 + 248)), (1, .int (iI p1)), (2, .int (iI p2)), (3, .int (iI p3)), (4, .int (iI p4)), (5, .int (iI p5))] [] μ
  unfold f_X11_reports at h
  refine K_aload_n (md := mX11_reports) (pc := 0) 0 (kTab_at (pc := 0) tX11_reports_ok 0 rfl) rfl ?_
  refine K_getR (md := mX11_reports) (pc := 1) (b := 254) (kTab_at (pc := 1) tX11_reports_ok 1 rfl) fl_X11_29 sk_248 rfl rfl ?_
  refine K_iconst (md := mX11_reports) (pc := 4) (x := 0) (kTab_at (pc := 4) tX11_reports_ok 2 rfl) rfl ?_
  refine K_iload_n (md := mX11_reports) (pc := 5) 1 (kTab_at (pc := 5) tX11_reports_ok 3 rfl) rfl ?_
  refine Z_iast (md := mX11_reports) (pc := 6) (kTab_at (pc := 6) tX11_reports_ok 4 rfl) sk_254 (by decide) h (fun μ h => ?_)
  refine K_aload_n (md := mX11_reports) (pc := 7) 0 (kTab_at (pc := 7) tX11_reports_ok 5 rfl) rfl ?_
  refine K_getR (md := mX11_reports) (pc := 8) (b := 254) (kTab_at (pc := 8) tX11_reports_ok 6 rfl) fl_X11_29 sk_248 rfl rfl ?_
  refine K_iconst (md := mX11_reports) (pc := 11) (x := 1) (kTab_at (pc := 11) tX11_reports_ok 7 rfl) rfl ?_
  refine K_iload_n (md := mX11_reports) (pc := 12) 2 (kTab_at (pc := 12) tX11_reports_ok 8 rfl) rfl ?_
  refine Z_iast (md := mX11_reports) (pc := 13) (kTab_at (pc := 13) tX11_reports_ok 9 rfl) sk_254 (by decide) h (fun μ h => ?_)
  refine K_aload_n (md := mX11_reports) (pc := 14) 0 (kTab_at (pc := 14) tX11_reports_ok 10 rfl) rfl ?_
  refine K_getR (md := mX11_reports) (pc := 15) (b := 254) (kTab_at (pc := 15) tX11_reports_ok 11 rfl) fl_X11_29 sk_248 rfl rfl ?_
  refine K_iconst (md := mX11_reports) (pc := 18) (x := 2) (kTab_at (pc := 18) tX11_reports_ok 12 rfl) rfl ?_
  refine K_iload_n (md := mX11_reports) (pc := 19) 3 (kTab_at (pc := 19) tX11_reports_ok 13 rfl) rfl ?_
  refine Z_iast (md := mX11_reports) (pc := 20) (kTab_at (pc := 20) tX11_reports_ok 14 rfl) sk_254 (by decide) h (fun μ h => ?_)
  refine K_aload_n (md := mX11_reports) (pc := 21) 0 (kTab_at (pc := 21) tX11_reports_ok 15 rfl) rfl ?_
  refine K_getR (md := mX11_reports) (pc := 22) (b := 254) (kTab_at (pc := 22) tX11_reports_ok 16 rfl) fl_X11_29 sk_248 rfl rfl ?_
  refine K_iconst (md := mX11_reports) (pc := 25) (x := 3) (kTab_at (pc := 25) tX11_reports_ok 17 rfl) rfl ?_
  refine K_iload (md := mX11_reports) (pc := 26) 4 (kTab_at (pc := 26) tX11_reports_ok 18 rfl) rfl ?_
  refine Z_iast (md := mX11_reports) (pc := 28) (kTab_at (pc := 28) tX11_reports_ok 19 rfl) sk_254 (by decide) h (fun μ h => ?_)
  refine K_aload_n (md := mX11_reports) (pc := 29) 0 (kTab_at (pc := 29) tX11_reports_ok 20 rfl) rfl ?_
  refine K_iconst (md := mX11_reports) (pc := 30) (x := 2) (kTab_at (pc := 30) tX11_reports_ok 21 rfl) rfl ?_
  refine Z_putI (md := mX11_reports) (pc := 31) (kTab_at (pc := 31) tX11_reports_ok 22 rfl) fl_X11_174 sk_248 rfl h (fun μ h => ?_)
  refine K_aload_n (md := mX11_reports) (pc := 34) 0 (kTab_at (pc := 34) tX11_reports_ok 23 rfl) rfl ?_
  refine K_iload (md := mX11_reports) (pc := 35) 5 (kTab_at (pc := 35) tX11_reports_ok 24 rfl) rfl ?_
  refine Z_callV (md := mX11_reports) (pc := 37) (st := []) (sv := (fun x1 => [.int (iI x1)])) (kTab_at (pc := 37) tX11_reports_ok 25 rfl) mv_X11_177 sk_248 rfl (Nat.le_of_ble_eq_true rfl) (by decide) rfl (c_X11_fails X p5 μ) (fun _ => rfl) h (fun μ x1 h => ?_) rfl
  exact Z_iret (md := mX11_reports) (pc := 40) (kTab_at (pc := 40) tX11_reports_ok 26 rfl) rfl rfl rfl h
def f_X11_isAbove_49 (p1 : Int) (p2 : Int) (k5 : Int → Int → Mu → Option Res) (v4 : Int) (s0 : Int) (μ : Mu) : Option Res := k5 s0 (v4 + 1) μ
set_option maxRecDepth 100000 in
theorem c_X11_isAbove_49 (X : kX) (p1 : Int) (p2 : Int)  {res : Res} (k5 : Int → Int → Mu → Option Res) (hk5 : ∀ (v3 : Int), ∀ (v4 : Int), ∀ (μ : Mu), k5 v3 v4 μ = some res → KK X mX11_isAbove 1 1 res 5 [(0, .ref (X.1 + 248)), (1, .int (iI p1)), (2, .int (iI p2)), (3, .int (iI v3)), (4, .int (iI v4))] [] μ) (v4 : Int) (s0 : Int) (μ : Mu) (h : f_X11_isAbove_49 p1 p2 k5 v4 s0 μ = some res) : KK X mX11_isAbove 1 1 res 49 [(0, .ref (X.1 + 248)), (1, .int (iI p1)), (2, .int (iI p2)), (4, .int (iI v4))] [.int (iI s0)] μ := by
  unfold f_X11_isAbove_49 at h
  refine K_istore_n (md := mX11_isAbove) (pc := 49) (l' := [(3, .int (iI s0)), (0, .ref (X.1 + 248)), (1, .int (iI p1)), (2, .int (iI p2)), (4, .int (iI v4))]) (kTab_at (pc := 49) tX11_isAbove_ok 27 rfl) (Nat.le_of_ble_eq_true rfl) rfl ?_
  refine K_iinc (md := mX11_isAbove) (pc := 50) (l' := [(4, .int (iI (v4 + 1))), (3, .int (iI s0)), (0, .ref (X.1 + 248)), (1, .int (iI p1)), (2, .int (iI p2))]) 4 (kTab_at (pc := 50) tX11_isAbove_ok 28 rfl) rfl (Nat.le_of_ble_eq_true rfl) rfl ?_
  refine K_goto (md := mX11_isAbove) (pc := 53) (tgt := 5) (kTab_at (pc := 53) tX11_isAbove_ok 29 rfl) rfl ?_
  refine K_sub [2, 3, 4, 1, 0] rfl ?_
  exact hk5 s0 (v4 + 1) μ h
def f_X11_isAbove_44 (p1 : Int) (p2 : Int) (k5 : Int → Int → Mu → Option Res) (v4 : Int) (μ : Mu) : Option Res := f_X11_isAbove_49 p1 p2 k5 v4 1 μ
set_option maxRecDepth 100000 in
theorem c_X11_isAbove_44 (X : kX) (p1 : Int) (p2 : Int)  {res : Res} (k5 : Int → Int → Mu → Option Res) (hk5 : ∀ (v3 : Int), ∀ (v4 : Int), ∀ (μ : Mu), k5 v3 v4 μ = some res → KK X mX11_isAbove 1 1 res 5 [(0, .ref (X.1 + 248)), (1, .int (iI p1)), (2, .int (iI p2)), (3, .int (iI v3)), (4, .int (iI v4))] [] μ) (v4 : Int) (μ : Mu) (h : f_X11_isAbove_44 p1 p2 k5 v4 μ = some res) : KK X mX11_isAbove 1 1 res 44 [(0, .ref (X.1 + 248)), (1, .int (iI p1)), (2, .int (iI p2)), (4, .int (iI v4))] [] μ := by
  unfold f_X11_isAbove_44 at h
  refine K_iconst (md := mX11_isAbove) (pc := 44) (x := 1) (kTab_at (pc := 44) tX11_isAbove_ok 24 rfl) rfl ?_
  refine K_goto (md := mX11_isAbove) (pc := 45) (tgt := 49) (kTab_at (pc := 45) tX11_isAbove_ok 25 rfl) rfl ?_
  refine c_X11_isAbove_49 X p1 p2 _ hk5 v4 1 μ h
def f_X11_isAbove_48 (p1 : Int) (p2 : Int) (k5 : Int → Int → Mu → Option Res) (v4 : Int) (μ : Mu) : Option Res := f_X11_isAbove_49 p1 p2 k5 v4 0 μ
set_option maxRecDepth 100000 in
theorem c_X11_isAbove_48 (X : kX) (p1 : Int) (p2 : Int)  {res : Res} (k5 : Int → Int → Mu → Option Res) (hk5 : ∀ (v3 : Int), ∀ (v4 : Int), ∀ (μ : Mu), k5 v3 v4 μ = some res → KK X mX11_isAbove 1 1 res 5 [(0, .ref (X.1 + 248)), (1, .int (iI p1)), (2, .int (iI p2)), (3, .int (iI v3)), (4, .int (iI v4))] [] μ) (v4 : Int) (μ : Mu) (h : f_X11_isAbove_48 p1 p2 k5 v4 μ = some res) : KK X mX11_isAbove 1 1 res 48 [(0, .ref (X.1 + 248)), (1, .int (iI p1)), (2, .int (iI p2)), (4, .int (iI v4))] [] μ := by
  unfold f_X11_isAbove_48 at h
  refine K_iconst (md := mX11_isAbove) (pc := 48) (x := 0) (kTab_at (pc := 48) tX11_isAbove_ok 26 rfl) rfl ?_
  refine c_X11_isAbove_49 X p1 p2 _ hk5 v4 0 μ h
def f_X11_isAbove_138 (p1 : Int) (p2 : Int) (k104 : Int → Int → Int → Mu → Option Res) (v4 : Int) (v5 : Int) (s0 : Int) (μ : Mu) : Option Res := k104 s0 v4 (v5 + 1) μ
set_option maxRecDepth 100000 in
theorem c_X11_isAbove_138 (X : kX) (p1 : Int) (p2 : Int)  {res : Res} (k104 : Int → Int → Int → Mu → Option Res) (hk104 : ∀ (v3 : Int), ∀ (v4 : Int), ∀ (v5 : Int), ∀ (μ : Mu), k104 v3 v4 v5 μ = some res → KK X mX11_isAbove 1 1 res 104 [(0, .ref (X.1 + 248)), (1, .int (iI p1)), (2, .int (iI p2)), (3, .int (iI v3)), (4, .int (iI v4)), (5, .int (iI v5))] [] μ) (v4 : Int) (v5 : Int) (s0 : Int) (μ : Mu) (h : f_X11_isAbove_138 p1 p2 k104 v4 v5 s0 μ = some res) : KK X mX11_isAbove 1 1 res 138 [(0, .ref (X.1 + 248)), (1, .int (iI p1)), (2, .int (iI p2)), (4, .int (iI v4)), (5, .int (iI v5))] [.int (iI s0)] μ := by
  unfold f_X11_isAbove_138 at h
  refine K_istore_n (md := mX11_isAbove) (pc := 138) (l' := [(3, .int (iI s0)), (0, .ref (X.1 + 248)), (1, .int (iI p1)), (2, .int (iI p2)), (4, .int (iI v4)), (5, .int (iI v5))]) (kTab_at (pc := 138) tX11_isAbove_ok 79 rfl) (Nat.le_of_ble_eq_true rfl) rfl ?_
  refine K_iinc (md := mX11_isAbove) (pc := 139) (l' := [(5, .int (iI (v5 + 1))), (3, .int (iI s0)), (0, .ref (X.1 + 248)), (1, .int (iI p1)), (2, .int (iI p2)), (4, .int (iI v4))]) 5 (kTab_at (pc := 139) tX11_isAbove_ok 80 rfl) rfl (Nat.le_of_ble_eq_true rfl) rfl ?_
  refine K_goto (md := mX11_isAbove) (pc := 142) (tgt := 104) (kTab_at (pc := 142) tX11_isAbove_ok 81 rfl) rfl ?_
  refine K_sub [2, 3, 4, 1, 5, 0] rfl ?_
  exact hk104 s0 v4 (v5 + 1) μ h
def f_X11_isAbove_133 (p1 : Int) (p2 : Int) (k104 : Int → Int → Int → Mu → Option Res) (v4 : Int) (v5 : Int) (μ : Mu) : Option Res := f_X11_isAbove_138 p1 p2 k104 v4 v5 1 μ
set_option maxRecDepth 100000 in
theorem c_X11_isAbove_133 (X : kX) (p1 : Int) (p2 : Int)  {res : Res} (k104 : Int → Int → Int → Mu → Option Res) (hk104 : ∀ (v3 : Int), ∀ (v4 : Int), ∀ (v5 : Int), ∀ (μ : Mu), k104 v3 v4 v5 μ = some res → KK X mX11_isAbove 1 1 res 104 [(0, .ref (X.1 + 248)), (1, .int (iI p1)), (2, .int (iI p2)), (3, .int (iI v3)), (4, .int (iI v4)), (5, .int (iI v5))] [] μ) (v4 : Int) (v5 : Int) (μ : Mu) (h : f_X11_isAbove_133 p1 p2 k104 v4 v5 μ = some res) : KK X mX11_isAbove 1 1 res 133 [(0, .ref (X.1 + 248)), (1, .int (iI p1)), (2, .int (iI p2)), (4, .int (iI v4)), (5, .int (iI v5))] [] μ := by
  unfold f_X11_isAbove_133 at h
  refine K_iconst (md := mX11_isAbove) (pc := 133) (x := 1) (kTab_at (pc := 133) tX11_isAbove_ok 76 rfl) rfl ?_
  refine K_goto (md := mX11_isAbove) (pc := 134) (tgt := 138) (kTab_at (pc := 134) tX11_isAbove_ok 77 rfl) rfl ?_
  refine c_X11_isAbove_138 X p1 p2 _ hk104 v4 v5 1 μ h
def f_X11_isAbove_104 (p1 : Int) (p2 : Int) (k145 : Int → Int → Mu → Option Res) : Nat → Int → Int → Int → Mu → Option Res
  | 0, _, _, _, _ => none
  | fu + 1, v3, v4, v5, μ => i_lt v5 4 (i_eq v3 0 (rb (f_X11_markedAt v5 p1 v4 μ) fun μ x1 => rdI μ 249 779 x1 fun x2 => i_lt p2 (x2 - 1) (f_X11_isAbove_133 p1 p2 (f_X11_isAbove_104 p1 p2 k145 fu) v4 v5 μ) (f_X11_isAbove_138 p1 p2 (f_X11_isAbove_104 p1 p2 k145 fu) v4 v5 0 μ)) (f_X11_isAbove_133 p1 p2 (f_X11_isAbove_104 p1 p2 k145 fu) v4 v5 μ)) (k145 v3 v4 μ)
set_option maxRecDepth 100000 in
theorem c_X11_isAbove_104 (X : kX) (p1 : Int) (p2 : Int)  {res : Res} (k145 : Int → Int → Mu → Option Res) (hk145 : ∀ (v3 : Int), ∀ (v4 : Int), ∀ (μ : Mu), k145 v3 v4 μ = some res → KK X mX11_isAbove 1 1 res 145 [(0, .ref (X.1 + 248)), (1, .int (iI p1)), (2, .int (iI p2)), (3, .int (iI v3)), (4, .int (iI v4))] [] μ) : ∀ (fu : Nat)  (v3 : Int) (v4 : Int) (v5 : Int) (μ : Mu), f_X11_isAbove_104 p1 p2 k145 fu v3 v4 v5 μ = some res → KK X mX11_isAbove 1 1 res 104 [(0, .ref (X.1 + 248)), (1, .int (iI p1)), (2, .int (iI p2)), (3, .int (iI v3)), (4, .int (iI v4)), (5, .int (iI v5))] [] μ := by
  intro fu
  induction fu with
  | zero => intro v3 v4 v5 μ h; exact nomatch h
  | succ fu ih =>
    intro v3 v4 v5 μ h
    refine K_iload (md := mX11_isAbove) (pc := 104) 5 (kTab_at (pc := 104) tX11_isAbove_ok 60 rfl) rfl ?_
    refine K_iconst (md := mX11_isAbove) (pc := 106) (x := 4) (kTab_at (pc := 106) tX11_isAbove_ok 61 rfl) rfl ?_
    refine K_icmp_ge (md := mX11_isAbove) (pc := 107) (kTab_at (pc := 107) tX11_isAbove_ok 62 rfl) (tgt := 145) rfl h (fun h => ?_) (fun h => ?_)
    · refine K_sub [0, 1, 2, 3, 4] rfl ?_
      exact hk145 v3 v4 μ h
    · refine K_iload_n (md := mX11_isAbove) (pc := 110) 3 (kTab_at (pc := 110) tX11_isAbove_ok 63 rfl) rfl ?_
      refine K_if_ne (md := mX11_isAbove) (pc := 111) (kTab_at (pc := 111) tX11_isAbove_ok 64 rfl) (tgt := 133) rfl h (fun h => ?_) (fun h => ?_)
      · refine K_sub [0, 1, 2, 4, 5] rfl ?_
        refine c_X11_isAbove_133 X p1 p2 _ ih v4 v5 μ h
      · refine K_aload_n (md := mX11_isAbove) (pc := 114) 0 (kTab_at (pc := 114) tX11_isAbove_ok 65 rfl) rfl ?_
        refine K_getR (md := mX11_isAbove) (pc := 115) (b := 249) (kTab_at (pc := 115) tX11_isAbove_ok 66 rfl) fl_X11_7 sk_248 rfl rfl ?_
        refine K_iload (md := mX11_isAbove) (pc := 118) 5 (kTab_at (pc := 118) tX11_isAbove_ok 67 rfl) rfl ?_
        refine K_iload_n (md := mX11_isAbove) (pc := 120) 1 (kTab_at (pc := 120) tX11_isAbove_ok 68 rfl) rfl ?_
        refine K_iload (md := mX11_isAbove) (pc := 121) 4 (kTab_at (pc := 121) tX11_isAbove_ok 69 rfl) rfl ?_
        refine Z_callS (md := mX11_isAbove) (pc := 123) (st := [.ref (X.1 + 249)]) (sv := (fun x1 => [.int (iI x1), .ref (X.1 + 249)])) (kTab_at (pc := 123) tX11_isAbove_ok 70 rfl) ms_X11_64 rfl (Nat.le_of_ble_eq_true rfl) (by decide) rfl (c_X11_markedAt X v5 p1 v4 μ) (fun _ => rfl) h (fun μ x1 h => ?_) rfl
        refine Z_iald (md := mX11_isAbove) (pc := 126) (kTab_at (pc := 126) tX11_isAbove_ok 71 rfl) sk_249 (by decide) h (fun x2 h => ?_)
        refine K_iconst (md := mX11_isAbove) (pc := 127) (x := 1) (kTab_at (pc := 127) tX11_isAbove_ok 72 rfl) rfl ?_
        refine K_isub (md := mX11_isAbove) (pc := 128) (kTab_at (pc := 128) tX11_isAbove_ok 73 rfl) ?_
        refine K_iload_n (md := mX11_isAbove) (pc := 129) 2 (kTab_at (pc := 129) tX11_isAbove_ok 74 rfl) rfl ?_
        refine K_icmp_le (md := mX11_isAbove) (pc := 130) (kTab_at (pc := 130) tX11_isAbove_ok 75 rfl) (tgt := 137) rfl h (fun h => ?_) (fun h => ?_)
        · refine K_iconst (md := mX11_isAbove) (pc := 137) (x := 0) (kTab_at (pc := 137) tX11_isAbove_ok 78 rfl) rfl ?_
          refine K_sub [0, 1, 2, 4, 5] rfl ?_
          refine c_X11_isAbove_138 X p1 p2 _ ih v4 v5 0 μ h
        · refine K_sub [0, 1, 2, 4, 5] rfl ?_
          refine c_X11_isAbove_133 X p1 p2 _ ih v4 v5 μ h
def f_X11_isAbove_100 (p1 : Int) (p2 : Int) (k59 : Int → Int → Mu → Option Res) (v4 : Int) (s0 : Int) (μ : Mu) : Option Res := f_X11_isAbove_104 p1 p2 (fun v3 v4 μ => k59 v3 (v4 + 1) μ) FU s0 v4 0 μ
set_option maxRecDepth 100000 in
theorem c_X11_isAbove_100 (X : kX) (p1 : Int) (p2 : Int)  {res : Res} (k59 : Int → Int → Mu → Option Res) (hk59 : ∀ (v3 : Int), ∀ (v4 : Int), ∀ (μ : Mu), k59 v3 v4 μ = some res → KK X mX11_isAbove 1 1 res 59 [(0, .ref (X.1 + 248)), (1, .int (iI p1)), (2, .int (iI p2)), (3, .int (iI v3)), (4, .int (iI v4))] [] μ) (v4 : Int) (s0 : Int) (μ : Mu) (h : f_X11_isAbove_100 p1 p2 k59 v4 s0 μ = some res) : KK X mX11_isAbove 1 1 res 100 [(0, .ref (X.1 + 248)), (1, .int (iI p1)), (2, .int (iI p2)), (4, .int (iI v4))] [.int (iI s0)] μ := by
  unfold f_X11_isAbove_100 at h
  refine K_istore_n (md := mX11_isAbove) (pc := 100) (l' := [(3, .int (iI s0)), (0, .ref (X.1 + 248)), (1, .int (iI p1)), (2, .int (iI p2)), (4, .int (iI v4))]) (kTab_at (pc := 100) tX11_isAbove_ok 57 rfl) (Nat.le_of_ble_eq_true rfl) rfl ?_
  refine K_iconst (md := mX11_isAbove) (pc := 101) (x := 0) (kTab_at (pc := 101) tX11_isAbove_ok 58 rfl) rfl ?_
  refine K_istore (md := mX11_isAbove) (pc := 102) (l' := [(5, .int (iI 0)), (3, .int (iI s0)), (0, .ref (X.1 + 248)), (1, .int (iI p1)), (2, .int (iI p2)), (4, .int (iI v4))]) (kTab_at (pc := 102) tX11_isAbove_ok 59 rfl) (Nat.le_of_ble_eq_true rfl) rfl ?_
  refine K_sub [2, 3, 4, 1, 5, 0] rfl ?_
  refine c_X11_isAbove_104 X p1 p2 _ ?_ _ s0 v4 0 μ h
  · intro v3 v4 μ h
    refine K_iinc (md := mX11_isAbove) (pc := 145) (l' := [(4, .int (iI (v4 + 1))), (0, .ref (X.1 + 248)), (1, .int (iI p1)), (2, .int (iI p2)), (3, .int (iI v3))]) 4 (kTab_at (pc := 145) tX11_isAbove_ok 82 rfl) rfl (Nat.le_of_ble_eq_true rfl) rfl ?_
    refine K_goto (md := mX11_isAbove) (pc := 148) (tgt := 59) (kTab_at (pc := 148) tX11_isAbove_ok 83 rfl) rfl ?_
    refine K_sub [1, 2, 3, 4, 0] rfl ?_
    exact hk59 v3 (v4 + 1) μ h
def f_X11_isAbove_95 (p1 : Int) (p2 : Int) (k59 : Int → Int → Mu → Option Res) (v4 : Int) (μ : Mu) : Option Res := f_X11_isAbove_100 p1 p2 k59 v4 1 μ
set_option maxRecDepth 100000 in
theorem c_X11_isAbove_95 (X : kX) (p1 : Int) (p2 : Int)  {res : Res} (k59 : Int → Int → Mu → Option Res) (hk59 : ∀ (v3 : Int), ∀ (v4 : Int), ∀ (μ : Mu), k59 v3 v4 μ = some res → KK X mX11_isAbove 1 1 res 59 [(0, .ref (X.1 + 248)), (1, .int (iI p1)), (2, .int (iI p2)), (3, .int (iI v3)), (4, .int (iI v4))] [] μ) (v4 : Int) (μ : Mu) (h : f_X11_isAbove_95 p1 p2 k59 v4 μ = some res) : KK X mX11_isAbove 1 1 res 95 [(0, .ref (X.1 + 248)), (1, .int (iI p1)), (2, .int (iI p2)), (4, .int (iI v4))] [] μ := by
  unfold f_X11_isAbove_95 at h
  refine K_iconst (md := mX11_isAbove) (pc := 95) (x := 1) (kTab_at (pc := 95) tX11_isAbove_ok 54 rfl) rfl ?_
  refine K_goto (md := mX11_isAbove) (pc := 96) (tgt := 100) (kTab_at (pc := 96) tX11_isAbove_ok 55 rfl) rfl ?_
  refine c_X11_isAbove_100 X p1 p2 _ hk59 v4 1 μ h
def f_X11_isAbove_59 (p1 : Int) (p2 : Int) (k151 : Int → Mu → Option Res) : Nat → Int → Int → Mu → Option Res
  | 0, _, _, _ => none
  | fu + 1, v3, v4, μ => rdI μ 249 779 (14 + p1) fun x1 => i_lt v4 x1 (i_eq v3 0 (rdI μ 249 779 ((19 + (5 * p1)) + v4) fun x2 => i_lt p2 x2 (f_X11_isAbove_95 p1 p2 (f_X11_isAbove_59 p1 p2 k151 fu) v4 μ) (f_X11_isAbove_100 p1 p2 (f_X11_isAbove_59 p1 p2 k151 fu) v4 0 μ)) (f_X11_isAbove_95 p1 p2 (f_X11_isAbove_59 p1 p2 k151 fu) v4 μ)) (k151 v3 μ)
set_option maxRecDepth 100000 in
theorem c_X11_isAbove_59 (X : kX) (p1 : Int) (p2 : Int)  {res : Res} (k151 : Int → Mu → Option Res) (hk151 : ∀ (v3 : Int), ∀ (μ : Mu), k151 v3 μ = some res → KK X mX11_isAbove 1 1 res 151 [(3, .int (iI v3))] [] μ) : ∀ (fu : Nat)  (v3 : Int) (v4 : Int) (μ : Mu), f_X11_isAbove_59 p1 p2 k151 fu v3 v4 μ = some res → KK X mX11_isAbove 1 1 res 59 [(0, .ref (X.1 + 248)), (1, .int (iI p1)), (2, .int (iI p2)), (3, .int (iI v3)), (4, .int (iI v4))] [] μ := by
  intro fu
  induction fu with
  | zero => intro v3 v4 μ h; exact nomatch h
  | succ fu ih =>
    intro v3 v4 μ h
    refine K_iload (md := mX11_isAbove) (pc := 59) 4 (kTab_at (pc := 59) tX11_isAbove_ok 32 rfl) rfl ?_
    refine K_aload_n (md := mX11_isAbove) (pc := 61) 0 (kTab_at (pc := 61) tX11_isAbove_ok 33 rfl) rfl ?_
    refine K_getR (md := mX11_isAbove) (pc := 62) (b := 249) (kTab_at (pc := 62) tX11_isAbove_ok 34 rfl) fl_X11_7 sk_248 rfl rfl ?_
    refine K_bipush (md := mX11_isAbove) (pc := 65) (x := 14) (kTab_at (pc := 65) tX11_isAbove_ok 35 rfl) (by decide) ?_
    refine K_iload_n (md := mX11_isAbove) (pc := 67) 1 (kTab_at (pc := 67) tX11_isAbove_ok 36 rfl) rfl ?_
    refine K_iadd (md := mX11_isAbove) (pc := 68) (kTab_at (pc := 68) tX11_isAbove_ok 37 rfl) ?_
    refine Z_iald (md := mX11_isAbove) (pc := 69) (kTab_at (pc := 69) tX11_isAbove_ok 38 rfl) sk_249 (by decide) h (fun x1 h => ?_)
    refine K_icmp_ge (md := mX11_isAbove) (pc := 70) (kTab_at (pc := 70) tX11_isAbove_ok 39 rfl) (tgt := 151) rfl h (fun h => ?_) (fun h => ?_)
    · refine K_sub [3] rfl ?_
      exact hk151 v3 μ h
    · refine K_iload_n (md := mX11_isAbove) (pc := 73) 3 (kTab_at (pc := 73) tX11_isAbove_ok 40 rfl) rfl ?_
      refine K_if_ne (md := mX11_isAbove) (pc := 74) (kTab_at (pc := 74) tX11_isAbove_ok 41 rfl) (tgt := 95) rfl h (fun h => ?_) (fun h => ?_)
      · refine K_sub [0, 1, 2, 4] rfl ?_
        refine c_X11_isAbove_95 X p1 p2 _ ih v4 μ h
      · refine K_aload_n (md := mX11_isAbove) (pc := 77) 0 (kTab_at (pc := 77) tX11_isAbove_ok 42 rfl) rfl ?_
        refine K_getR (md := mX11_isAbove) (pc := 78) (b := 249) (kTab_at (pc := 78) tX11_isAbove_ok 43 rfl) fl_X11_7 sk_248 rfl rfl ?_
        refine K_bipush (md := mX11_isAbove) (pc := 81) (x := 19) (kTab_at (pc := 81) tX11_isAbove_ok 44 rfl) (by decide) ?_
        refine K_iconst (md := mX11_isAbove) (pc := 83) (x := 5) (kTab_at (pc := 83) tX11_isAbove_ok 45 rfl) rfl ?_
        refine K_iload_n (md := mX11_isAbove) (pc := 84) 1 (kTab_at (pc := 84) tX11_isAbove_ok 46 rfl) rfl ?_
        refine K_imul (md := mX11_isAbove) (pc := 85) (kTab_at (pc := 85) tX11_isAbove_ok 47 rfl) ?_
        refine K_iadd (md := mX11_isAbove) (pc := 86) (kTab_at (pc := 86) tX11_isAbove_ok 48 rfl) ?_
        refine K_iload (md := mX11_isAbove) (pc := 87) 4 (kTab_at (pc := 87) tX11_isAbove_ok 49 rfl) rfl ?_
        refine K_iadd (md := mX11_isAbove) (pc := 89) (kTab_at (pc := 89) tX11_isAbove_ok 50 rfl) ?_
        refine Z_iald (md := mX11_isAbove) (pc := 90) (kTab_at (pc := 90) tX11_isAbove_ok 51 rfl) sk_249 (by decide) h (fun x2 h => ?_)
        refine K_iload_n (md := mX11_isAbove) (pc := 91) 2 (kTab_at (pc := 91) tX11_isAbove_ok 52 rfl) rfl ?_
        refine K_icmp_le (md := mX11_isAbove) (pc := 92) (kTab_at (pc := 92) tX11_isAbove_ok 53 rfl) (tgt := 99) rfl h (fun h => ?_) (fun h => ?_)
        · refine K_iconst (md := mX11_isAbove) (pc := 99) (x := 0) (kTab_at (pc := 99) tX11_isAbove_ok 56 rfl) rfl ?_
          refine K_sub [0, 1, 2, 4] rfl ?_
          refine c_X11_isAbove_100 X p1 p2 _ ih v4 0 μ h
        · refine K_sub [0, 1, 2, 4] rfl ?_
          refine c_X11_isAbove_95 X p1 p2 _ ih v4 μ h
def f_X11_isAbove_5 (p1 : Int) (p2 : Int) (k56 : Int → Mu → Option Res) : Nat → Int → Int → Mu → Option Res
  | 0, _, _, _ => none
  | fu + 1, v3, v4, μ => rdI μ 249 779 144 fun x1 => i_lt v4 x1 (i_eq v3 0 (rb (f_X11_part v4 2 μ) fun μ x2 => i_eq x2 p1 (rb (f_X11_part v4 3 μ) fun μ x3 => i_lt p2 x3 (f_X11_isAbove_44 p1 p2 (f_X11_isAbove_5 p1 p2 k56 fu) v4 μ) (f_X11_isAbove_48 p1 p2 (f_X11_isAbove_5 p1 p2 k56 fu) v4 μ)) (f_X11_isAbove_48 p1 p2 (f_X11_isAbove_5 p1 p2 k56 fu) v4 μ)) (f_X11_isAbove_44 p1 p2 (f_X11_isAbove_5 p1 p2 k56 fu) v4 μ)) (k56 v3 μ)
set_option maxRecDepth 100000 in
theorem c_X11_isAbove_5 (X : kX) (p1 : Int) (p2 : Int)  {res : Res} (k56 : Int → Mu → Option Res) (hk56 : ∀ (v3 : Int), ∀ (μ : Mu), k56 v3 μ = some res → KK X mX11_isAbove 1 1 res 56 [(0, .ref (X.1 + 248)), (1, .int (iI p1)), (2, .int (iI p2)), (3, .int (iI v3))] [] μ) : ∀ (fu : Nat)  (v3 : Int) (v4 : Int) (μ : Mu), f_X11_isAbove_5 p1 p2 k56 fu v3 v4 μ = some res → KK X mX11_isAbove 1 1 res 5 [(0, .ref (X.1 + 248)), (1, .int (iI p1)), (2, .int (iI p2)), (3, .int (iI v3)), (4, .int (iI v4))] [] μ := by
  intro fu
  induction fu with
  | zero => intro v3 v4 μ h; exact nomatch h
  | succ fu ih =>
    intro v3 v4 μ h
    refine K_iload (md := mX11_isAbove) (pc := 5) 4 (kTab_at (pc := 5) tX11_isAbove_ok 4 rfl) rfl ?_
    refine K_aload_n (md := mX11_isAbove) (pc := 7) 0 (kTab_at (pc := 7) tX11_isAbove_ok 5 rfl) rfl ?_
    refine K_getR (md := mX11_isAbove) (pc := 8) (b := 249) (kTab_at (pc := 8) tX11_isAbove_ok 6 rfl) fl_X11_7 sk_248 rfl rfl ?_
    refine K_sipush (md := mX11_isAbove) (pc := 11) (x := 144) (kTab_at (pc := 11) tX11_isAbove_ok 7 rfl) (by decide) ?_
    refine Z_iald (md := mX11_isAbove) (pc := 14) (kTab_at (pc := 14) tX11_isAbove_ok 8 rfl) sk_249 (by decide) h (fun x1 h => ?_)
    refine K_icmp_ge (md := mX11_isAbove) (pc := 15) (kTab_at (pc := 15) tX11_isAbove_ok 9 rfl) (tgt := 56) rfl h (fun h => ?_) (fun h => ?_)
    · refine K_sub [0, 1, 2, 3] rfl ?_
      exact hk56 v3 μ h
    · refine K_iload_n (md := mX11_isAbove) (pc := 18) 3 (kTab_at (pc := 18) tX11_isAbove_ok 10 rfl) rfl ?_
      refine K_if_ne (md := mX11_isAbove) (pc := 19) (kTab_at (pc := 19) tX11_isAbove_ok 11 rfl) (tgt := 44) rfl h (fun h => ?_) (fun h => ?_)
      · refine K_sub [0, 1, 2, 4] rfl ?_
        refine c_X11_isAbove_44 X p1 p2 _ ih v4 μ h
      · refine K_aload_n (md := mX11_isAbove) (pc := 22) 0 (kTab_at (pc := 22) tX11_isAbove_ok 12 rfl) rfl ?_
        refine K_iload (md := mX11_isAbove) (pc := 23) 4 (kTab_at (pc := 23) tX11_isAbove_ok 13 rfl) rfl ?_
        refine K_iconst (md := mX11_isAbove) (pc := 25) (x := 2) (kTab_at (pc := 25) tX11_isAbove_ok 14 rfl) rfl ?_
        refine Z_callV (md := mX11_isAbove) (pc := 26) (st := []) (sv := (fun x2 => [.int (iI x2)])) (kTab_at (pc := 26) tX11_isAbove_ok 15 rfl) mv_X11_81 sk_248 rfl (Nat.le_of_ble_eq_true rfl) (by decide) rfl (c_X11_part X v4 2 μ) (fun _ => rfl) h (fun μ x2 h => ?_) rfl
        refine K_iload_n (md := mX11_isAbove) (pc := 29) 1 (kTab_at (pc := 29) tX11_isAbove_ok 16 rfl) rfl ?_
        refine K_icmp_ne (md := mX11_isAbove) (pc := 30) (kTab_at (pc := 30) tX11_isAbove_ok 17 rfl) (tgt := 48) rfl h (fun h => ?_) (fun h => ?_)
        · refine K_sub [0, 1, 2, 4] rfl ?_
          refine c_X11_isAbove_48 X p1 p2 _ ih v4 μ h
        · refine K_aload_n (md := mX11_isAbove) (pc := 33) 0 (kTab_at (pc := 33) tX11_isAbove_ok 18 rfl) rfl ?_
          refine K_iload (md := mX11_isAbove) (pc := 34) 4 (kTab_at (pc := 34) tX11_isAbove_ok 19 rfl) rfl ?_
          refine K_iconst (md := mX11_isAbove) (pc := 36) (x := 3) (kTab_at (pc := 36) tX11_isAbove_ok 20 rfl) rfl ?_
          refine Z_callV (md := mX11_isAbove) (pc := 37) (st := []) (sv := (fun x3 => [.int (iI x3)])) (kTab_at (pc := 37) tX11_isAbove_ok 21 rfl) mv_X11_81 sk_248 rfl (Nat.le_of_ble_eq_true rfl) (by decide) rfl (c_X11_part X v4 3 μ) (fun _ => rfl) h (fun μ x3 h => ?_) rfl
          refine K_iload_n (md := mX11_isAbove) (pc := 40) 2 (kTab_at (pc := 40) tX11_isAbove_ok 22 rfl) rfl ?_
          refine K_icmp_le (md := mX11_isAbove) (pc := 41) (kTab_at (pc := 41) tX11_isAbove_ok 23 rfl) (tgt := 48) rfl h (fun h => ?_) (fun h => ?_)
          · refine K_sub [0, 1, 2, 4] rfl ?_
            refine c_X11_isAbove_48 X p1 p2 _ ih v4 μ h
          · refine K_sub [0, 1, 2, 4] rfl ?_
            refine c_X11_isAbove_44 X p1 p2 _ ih v4 μ h
def f_X11_isAbove (p1 : Int) (p2 : Int) (μ : Mu) : Option Res := f_X11_isAbove_5 p1 p2 (fun v3 μ => f_X11_isAbove_59 p1 p2 (fun v3 μ => retZ μ v3) FU v3 0 μ) FU 0 0 μ
set_option maxRecDepth 100000 in
theorem c_X11_isAbove (X : kX) (p1 : Int) (p2 : Int)  (μ : Mu) : Cq X mX11_isAbove 1 1 μ [.ref (X.1 + 248), .int (iI p1), .int (iI p2)] (f_X11_isAbove p1 p2 μ) := by
  intro res h
  refine ct_of (by decide +kernel) rfl (Nat.le_of_ble_eq_true rfl) ?_
  show KK X mX11_isAbove 1 1 res 0 [(0, .ref (X.1 + 248)), (1, .int (iI p1)), (2, .int (iI p2))] [] μ
  unfold f_X11_isAbove at h
  refine K_iconst (md := mX11_isAbove) (pc := 0) (x := 0) (kTab_at (pc := 0) tX11_isAbove_ok 0 rfl) rfl ?_
  refine K_istore_n (md := mX11_isAbove) (pc := 1) (l' := [(3, .int (iI 0)), (0, .ref (X.1 + 248)), (1, .int (iI p1)), (2, .int (iI p2))]) (kTab_at (pc := 1) tX11_isAbove_ok 1 rfl) (Nat.le_of_ble_eq_true rfl) rfl ?_
  refine K_iconst (md := mX11_isAbove) (pc := 2) (x := 0) (kTab_at (pc := 2) tX11_isAbove_ok 2 rfl) rfl ?_
  refine K_istore (md := mX11_isAbove) (pc := 3) (l' := [(4, .int (iI 0)), (3, .int (iI 0)), (0, .ref (X.1 + 248)), (1, .int (iI p1)), (2, .int (iI p2))]) (kTab_at (pc := 3) tX11_isAbove_ok 3 rfl) (Nat.le_of_ble_eq_true rfl) rfl ?_
  refine K_sub [2, 3, 4, 1, 0] rfl ?_
  refine c_X11_isAbove_5 X p1 p2 _ ?_ _ 0 0 μ h
  · intro v3 μ h
    refine K_iconst (md := mX11_isAbove) (pc := 56) (x := 0) (kTab_at (pc := 56) tX11_isAbove_ok 30 rfl) rfl ?_
    refine K_istore (md := mX11_isAbove) (pc := 57) (l' := [(4, .int (iI 0)), (0, .ref (X.1 + 248)), (1, .int (iI p1)), (2, .int (iI p2)), (3, .int (iI v3))]) (kTab_at (pc := 57) tX11_isAbove_ok 31 rfl) (Nat.le_of_ble_eq_true rfl) rfl ?_
    refine K_sub [1, 2, 3, 4, 0] rfl ?_
    refine c_X11_isAbove_59 X p1 p2 _ ?_ _ v3 0 μ h
    · intro v3 μ h
      refine K_iload_n (md := mX11_isAbove) (pc := 151) 0 (kTab_at (pc := 151) tX11_isAbove_ok 84 rfl) rfl ?_
      exact Z_zret (md := mX11_isAbove) (pc := 152) (kTab_at (pc := 152) tX11_isAbove_ok 85 rfl) rfl rfl h

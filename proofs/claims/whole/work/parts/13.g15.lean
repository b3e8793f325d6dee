def f_X11_recount_47 (p1 : Int) (k22 : Int → Int → Mu → Option Res) (v3 : Int) (s0 : Int) (s1 : Int) (μ : Mu) : Option Res := bnd (s0 + s1) fun x1 => k22 x1 (v3 + 1) μ
set_option maxRecDepth 100000 in
theorem c_X11_recount_47 (X : kX) (p1 : Int)  {res : Res} (k22 : Int → Int → Mu → Option Res) (hk22 : ∀ (v2 : Int), ∀ (v3 : Int), ∀ (μ : Mu), k22 v2 v3 μ = some res → KK X mX11_recount 6 1 res 22 [(0, .ref (X.1 + 248)), (1, .int (iI p1)), (2, .int (iI v2)), (3, .int (iI v3))] [] μ) (v3 : Int) (s0 : Int) (s1 : Int) (μ : Mu) (h : f_X11_recount_47 p1 k22 v3 s0 s1 μ = some res) : KK X mX11_recount 6 1 res 47 [(0, .ref (X.1 + 248)), (1, .int (iI p1)), (3, .int (iI v3))] [.int (iI s1), .int (iI s0)] μ := by
  unfold f_X11_recount_47 at h
  refine K_iadd (md := mX11_recount) (pc := 47) (kTab_at (pc := 47) tX11_recount_ok 29 rfl) ?_
  refine Z_bnd (md := mX11_recount) (pc := 48) h (fun x1 h => ?_)
  refine K_istore_n (md := mX11_recount) (pc := 48) (l' := [(2, .int (iI x1)), (0, .ref (X.1 + 248)), (1, .int (iI p1)), (3, .int (iI v3))]) (kTab_at (pc := 48) tX11_recount_ok 30 rfl) (Nat.le_of_ble_eq_true rfl) rfl ?_
  refine K_iinc (md := mX11_recount) (pc := 49) (l' := [(3, .int (iI (v3 + 1))), (2, .int (iI x1)), (0, .ref (X.1 + 248)), (1, .int (iI p1))]) 3 (kTab_at (pc := 49) tX11_recount_ok 31 rfl) rfl (Nat.le_of_ble_eq_true rfl) rfl ?_
  refine K_goto (md := mX11_recount) (pc := 52) (tgt := 22) (kTab_at (pc := 52) tX11_recount_ok 32 rfl) rfl ?_
  refine K_sub [2, 3, 1, 0] rfl ?_
  exact hk22 x1 (v3 + 1) μ h
def f_X11_recount_22 (p1 : Int) (k55 : Int → Mu → Option Res) : Nat → Int → Int → Mu → Option Res
  | 0, _, _, _ => none
  | fu + 1, v2, v3, μ => i_lt v3 5 (rb (f_X11_isExcused p1 v3 μ) fun μ x1 => i_eq x1 0 (rb (f_X11_settled p1 v3 μ) fun μ x2 => f_X11_recount_47 p1 (f_X11_recount_22 p1 k55 fu) v3 v2 x2 μ) (f_X11_recount_47 p1 (f_X11_recount_22 p1 k55 fu) v3 v2 0 μ)) (k55 v2 μ)
set_option maxRecDepth 100000 in
theorem c_X11_recount_22 (X : kX) (p1 : Int)  {res : Res} (k55 : Int → Mu → Option Res) (hk55 : ∀ (v2 : Int), ∀ (μ : Mu), k55 v2 μ = some res → KK X mX11_recount 6 1 res 55 [(2, .int (iI v2))] [] μ) : ∀ (fu : Nat)  (v2 : Int) (v3 : Int) (μ : Mu), f_X11_recount_22 p1 k55 fu v2 v3 μ = some res → KK X mX11_recount 6 1 res 22 [(0, .ref (X.1 + 248)), (1, .int (iI p1)), (2, .int (iI v2)), (3, .int (iI v3))] [] μ := by
  intro fu
  induction fu with
  | zero => intro v2 v3 μ h; exact nomatch h
  | succ fu ih =>
    intro v2 v3 μ h
    refine K_iload_n (md := mX11_recount) (pc := 22) 3 (kTab_at (pc := 22) tX11_recount_ok 14 rfl) rfl ?_
    refine K_iconst (md := mX11_recount) (pc := 23) (x := 5) (kTab_at (pc := 23) tX11_recount_ok 15 rfl) rfl ?_
    refine K_icmp_ge (md := mX11_recount) (pc := 24) (kTab_at (pc := 24) tX11_recount_ok 16 rfl) (tgt := 55) rfl h (fun h => ?_) (fun h => ?_)
    · refine K_sub [2] rfl ?_
      exact hk55 v2 μ h
    · refine K_iload_n (md := mX11_recount) (pc := 27) 2 (kTab_at (pc := 27) tX11_recount_ok 17 rfl) rfl ?_
      refine K_aload_n (md := mX11_recount) (pc := 28) 0 (kTab_at (pc := 28) tX11_recount_ok 18 rfl) rfl ?_
      refine K_iload_n (md := mX11_recount) (pc := 29) 1 (kTab_at (pc := 29) tX11_recount_ok 19 rfl) rfl ?_
      refine K_iload_n (md := mX11_recount) (pc := 30) 3 (kTab_at (pc := 30) tX11_recount_ok 20 rfl) rfl ?_
      refine Z_callV (md := mX11_recount) (pc := 31) (st := [.int (iI v2)]) (sv := (fun x1 => [.int (iI x1), .int (iI v2)])) (kTab_at (pc := 31) tX11_recount_ok 21 rfl) mv_X11_121 sk_248 rfl (Nat.le_of_ble_eq_true rfl) (by decide) rfl (c_X11_isExcused X p1 v3 μ) (fun _ => rfl) h (fun μ x1 h => ?_) rfl
      refine K_if_eq (md := mX11_recount) (pc := 34) (kTab_at (pc := 34) tX11_recount_ok 22 rfl) (tgt := 41) rfl h (fun h => ?_) (fun h => ?_)
      · refine K_aload_n (md := mX11_recount) (pc := 41) 0 (kTab_at (pc := 41) tX11_recount_ok 25 rfl) rfl ?_
        refine K_iload_n (md := mX11_recount) (pc := 42) 1 (kTab_at (pc := 42) tX11_recount_ok 26 rfl) rfl ?_
        refine K_iload_n (md := mX11_recount) (pc := 43) 3 (kTab_at (pc := 43) tX11_recount_ok 27 rfl) rfl ?_
        refine Z_callV (md := mX11_recount) (pc := 44) (st := [.int (iI v2)]) (sv := (fun x2 => [.int (iI x2), .int (iI v2)])) (kTab_at (pc := 44) tX11_recount_ok 28 rfl) mv_X11_118 sk_248 rfl (Nat.le_of_ble_eq_true rfl) (by decide) rfl (c_X11_settled X p1 v3 μ) (fun _ => rfl) h (fun μ x2 h => ?_) rfl
        refine K_sub [0, 1, 3] rfl ?_
        refine c_X11_recount_47 X p1 _ ih v3 v2 x2 μ h
      · refine K_iconst (md := mX11_recount) (pc := 37) (x := 0) (kTab_at (pc := 37) tX11_recount_ok 23 rfl) rfl ?_
        refine K_goto (md := mX11_recount) (pc := 38) (tgt := 47) (kTab_at (pc := 38) tX11_recount_ok 24 rfl) rfl ?_
        refine K_sub [0, 1, 3] rfl ?_
        refine c_X11_recount_47 X p1 _ ih v3 v2 0 μ h
def f_X11_recount (p1 : Int) (μ : Mu) : Option Res := wrF μ 248 0 0 fun μ => rb (f_X11_isCandidate p1 μ) fun μ x1 => i_eq x1 0 (rb (f_X11_fails 1 μ) fun μ x2 => some (μ, 0, x2)) (f_X11_recount_22 p1 (fun v2 μ => some (μ, 0, v2)) FU 0 0 μ)
set_option maxRecDepth 100000 in
theorem c_X11_recount (X : kX) (p1 : Int)  (μ : Mu) : Cq X mX11_recount 6 1 μ [.ref (X.1 + 248), .int (iI p1)] (f_X11_recount p1 μ) := by
  intro res h
  refine ct_of (by decide +kernel) rfl (Nat.le_of_ble_eq_true rfl) ?_
  show KK X mX11_recount 6 1 res 0 [(0, .ref (X.1 + 248)), (1, .int (iI p1))] [] μ
  unfold f_X11_recount at h
  refine K_aload_n (md := mX11_recount) (pc := 0) 0 (kTab_at (pc := 0) tX11_recount_ok 0 rfl) rfl ?_
  refine K_iconst (md := mX11_recount) (pc := 1) (x := 0) (kTab_at (pc := 1) tX11_recount_ok 1 rfl) rfl ?_
  refine Z_putI (md := mX11_recount) (pc := 2) (kTab_at (pc := 2) tX11_recount_ok 2 rfl) fl_X11_48 sk_248 rfl h (fun μ h => ?_)
  refine K_iload_n (md := mX11_recount) (pc := 5) 1 (kTab_at (pc := 5) tX11_recount_ok 3 rfl) rfl ?_
  refine Z_callS (md := mX11_recount) (pc := 6) (st := []) (sv := (fun x1 => [.int (iI x1)])) (kTab_at (pc := 6) tX11_recount_ok 4 rfl) ms_X11_214 rfl (Nat.le_of_ble_eq_true rfl) (by decide) rfl (c_X11_isCandidate X p1 μ) (fun _ => rfl) h (fun μ x1 h => ?_) rfl
  refine K_if_ne (md := mX11_recount) (pc := 9) (kTab_at (pc := 9) tX11_recount_ok 5 rfl) (tgt := 18) rfl h (fun h => ?_) (fun h => ?_)
  · refine K_iconst (md := mX11_recount) (pc := 18) (x := 0) (kTab_at (pc := 18) tX11_recount_ok 10 rfl) rfl ?_
    refine K_istore_n (md := mX11_recount) (pc := 19) (l' := [(2, .int (iI 0)), (0, .ref (X.1 + 248)), (1, .int (iI p1))]) (kTab_at (pc := 19) tX11_recount_ok 11 rfl) (Nat.le_of_ble_eq_true rfl) rfl ?_
    refine K_iconst (md := mX11_recount) (pc := 20) (x := 0) (kTab_at (pc := 20) tX11_recount_ok 12 rfl) rfl ?_
    refine K_istore_n (md := mX11_recount) (pc := 21) (l' := [(3, .int (iI 0)), (2, .int (iI 0)), (0, .ref (X.1 + 248)), (1, .int (iI p1))]) (kTab_at (pc := 21) tX11_recount_ok 13 rfl) (Nat.le_of_ble_eq_true rfl) rfl ?_
    refine K_sub [2, 3, 1, 0] rfl ?_
    refine c_X11_recount_22 X p1 _ ?_ _ 0 0 μ h
    · intro v2 μ h
      refine K_iload_n (md := mX11_recount) (pc := 55) 0 (kTab_at (pc := 55) tX11_recount_ok 33 rfl) rfl ?_
      exact Z_iret (md := mX11_recount) (pc := 56) (kTab_at (pc := 56) tX11_recount_ok 34 rfl) rfl rfl rfl h
  · refine K_aload_n (md := mX11_recount) (pc := 12) 0 (kTab_at (pc := 12) tX11_recount_ok 6 rfl) rfl ?_
    refine K_iconst (md := mX11_recount) (pc := 13) (x := 1) (kTab_at (pc := 13) tX11_recount_ok 7 rfl) rfl ?_
    refine Z_callV (md := mX11_recount) (pc := 14) (st := []) (sv := (fun x2 => [.int (iI x2)])) (kTab_at (pc := 14) tX11_recount_ok 8 rfl) mv_X11_177 sk_248 rfl (Nat.le_of_ble_eq_true rfl) (by decide) rfl (c_X11_fails X 1 μ) (fun _ => rfl) h (fun μ x2 h => ?_) rfl
    exact Z_iret (md := mX11_recount) (pc := 17) (kTab_at (pc := 17) tX11_recount_ok 9 rfl) rfl rfl rfl h
def f_X11_isAhead_35 (p1 : Int) (p2 : Int)  (s0 : Int) (μ : Mu) : Option Res := retZ μ s0
set_option maxRecDepth 100000 in
theorem c_X11_isAhead_35 (X : kX) (p1 : Int) (p2 : Int)  {res : Res}  (s0 : Int) (μ : Mu) (h : f_X11_isAhead_35 p1 p2 s0 μ = some res) : KK X mX11_isAhead 0 1 res 35 [] [.int (iI s0)] μ := by
  unfold f_X11_isAhead_35 at h
  exact Z_zret (md := mX11_isAhead) (pc := 35) (kTab_at (pc := 35) tX11_isAhead_ok 21 rfl) rfl rfl h
def f_X11_isAhead_97 (p1 : Int) (p2 : Int)  (s0 : Int) (μ : Mu) : Option Res := retZ μ s0
set_option maxRecDepth 100000 in
theorem c_X11_isAhead_97 (X : kX) (p1 : Int) (p2 : Int)  {res : Res}  (s0 : Int) (μ : Mu) (h : f_X11_isAhead_97 p1 p2 s0 μ = some res) : KK X mX11_isAhead 0 1 res 97 [] [.int (iI s0)] μ := by
  unfold f_X11_isAhead_97 at h
  exact Z_zret (md := mX11_isAhead) (pc := 97) (kTab_at (pc := 97) tX11_isAhead_ok 60 rfl) rfl rfl h
def f_X11_isAhead (p1 : Int) (p2 : Int) (μ : Mu) : Option Res := rdI μ 257 8 p1 fun x1 => rdI μ 257 8 p2 fun x2 => i_eq x1 x2 (rdI μ 258 8 p1 fun x3 => rdI μ 259 8 p2 fun x4 => bnd (x3 * x4) fun x5 => rdI μ 258 8 p2 fun x6 => rdI μ 259 8 p1 fun x7 => bnd (x6 * x7) fun x8 => l_eq x5 x8 (i_lt p1 p2 (f_X11_isAhead_97 p1 p2 1 μ) (f_X11_isAhead_97 p1 p2 0 μ)) (l_lt x8 x5 (f_X11_isAhead_97 p1 p2 1 μ) (f_X11_isAhead_97 p1 p2 0 μ))) (rdI μ 257 8 p1 fun x9 => rdI μ 257 8 p2 fun x10 => i_lt x10 x9 (f_X11_isAhead_35 p1 p2 1 μ) (f_X11_isAhead_35 p1 p2 0 μ))
set_option maxRecDepth 100000 in
theorem c_X11_isAhead (X : kX) (p1 : Int) (p2 : Int)  (μ : Mu) : Cq X mX11_isAhead 0 1 μ [.ref (X.1 + 248), .int (iI p1), .int (iI p2)] (f_X11_isAhead p1 p2 μ) := by
  intro res h
  refine ct_of (by decide +kernel) rfl (Nat.le_of_ble_eq_true rfl) ?_
  show KK X mX11_isAhead 0 1 res 0 [(0, .ref (X.1 + 248)), (1, .int (iI p1)), (2, .int (iI p2))] [] μ
  unfold f_X11_isAhead at h
  refine K_aload_n (md := mX11_isAhead) (pc := 0) 0 (kTab_at (pc := 0) tX11_isAhead_ok 0 rfl) rfl ?_
  refine K_getR (md := mX11_isAhead) (pc := 1) (b := 257) (kTab_at (pc := 1) tX11_isAhead_ok 1 rfl) fl_X11_38 sk_248 rfl rfl ?_
  refine K_iload_n (md := mX11_isAhead) (pc := 4) 1 (kTab_at (pc := 4) tX11_isAhead_ok 2 rfl) rfl ?_
  refine Z_iald (md := mX11_isAhead) (pc := 5) (kTab_at (pc := 5) tX11_isAhead_ok 3 rfl) sk_257 (by decide) h (fun x1 h => ?_)
  refine K_aload_n (md := mX11_isAhead) (pc := 6) 0 (kTab_at (pc := 6) tX11_isAhead_ok 4 rfl) rfl ?_
  refine K_getR (md := mX11_isAhead) (pc := 7) (b := 257) (kTab_at (pc := 7) tX11_isAhead_ok 5 rfl) fl_X11_38 sk_248 rfl rfl ?_
  refine K_iload_n (md := mX11_isAhead) (pc := 10) 2 (kTab_at (pc := 10) tX11_isAhead_ok 6 rfl) rfl ?_
  refine Z_iald (md := mX11_isAhead) (pc := 11) (kTab_at (pc := 11) tX11_isAhead_ok 7 rfl) sk_257 (by decide) h (fun x2 h => ?_)
  refine K_icmp_eq (md := mX11_isAhead) (pc := 12) (kTab_at (pc := 12) tX11_isAhead_ok 8 rfl) (tgt := 36) rfl h (fun h => ?_) (fun h => ?_)
  · refine K_aload_n (md := mX11_isAhead) (pc := 36) 0 (kTab_at (pc := 36) tX11_isAhead_ok 22 rfl) rfl ?_
    refine K_getR (md := mX11_isAhead) (pc := 37) (b := 258) (kTab_at (pc := 37) tX11_isAhead_ok 23 rfl) fl_X11_41 sk_248 rfl rfl ?_
    refine K_iload_n (md := mX11_isAhead) (pc := 40) 1 (kTab_at (pc := 40) tX11_isAhead_ok 24 rfl) rfl ?_
    refine Z_lald (md := mX11_isAhead) (pc := 41) (kTab_at (pc := 41) tX11_isAhead_ok 25 rfl) sk_258 (by decide) h (fun x3 h => ?_)
    refine K_aload_n (md := mX11_isAhead) (pc := 42) 0 (kTab_at (pc := 42) tX11_isAhead_ok 26 rfl) rfl ?_
    refine K_getR (md := mX11_isAhead) (pc := 43) (b := 259) (kTab_at (pc := 43) tX11_isAhead_ok 27 rfl) fl_X11_45 sk_248 rfl rfl ?_
    refine K_iload_n (md := mX11_isAhead) (pc := 46) 2 (kTab_at (pc := 46) tX11_isAhead_ok 28 rfl) rfl ?_
    refine Z_lald (md := mX11_isAhead) (pc := 47) (kTab_at (pc := 47) tX11_isAhead_ok 29 rfl) sk_259 (by decide) h (fun x4 h => ?_)
    refine K_lmul (md := mX11_isAhead) (pc := 48) (kTab_at (pc := 48) tX11_isAhead_ok 30 rfl) ?_
    refine Z_bndL (md := mX11_isAhead) (pc := 49) h (fun x5 h => ?_)
    refine K_lstore_n (md := mX11_isAhead) (pc := 49) (l' := [(3, .long (iL x5)), (0, .ref (X.1 + 248)), (1, .int (iI p1)), (2, .int (iI p2))]) (kTab_at (pc := 49) tX11_isAhead_ok 31 rfl) (Nat.le_of_ble_eq_true rfl) rfl ?_
    refine K_aload_n (md := mX11_isAhead) (pc := 50) 1 (kTab_at (pc := 50) tX11_isAhead_ok 32 rfl) rfl ?_
    refine K_getR (md := mX11_isAhead) (pc := 51) (b := 258) (kTab_at (pc := 51) tX11_isAhead_ok 33 rfl) fl_X11_41 sk_248 rfl rfl ?_
    refine K_iload_n (md := mX11_isAhead) (pc := 54) 3 (kTab_at (pc := 54) tX11_isAhead_ok 34 rfl) rfl ?_
    refine Z_lald (md := mX11_isAhead) (pc := 55) (kTab_at (pc := 55) tX11_isAhead_ok 35 rfl) sk_258 (by decide) h (fun x6 h => ?_)
    refine K_aload_n (md := mX11_isAhead) (pc := 56) 1 (kTab_at (pc := 56) tX11_isAhead_ok 36 rfl) rfl ?_
    refine K_getR (md := mX11_isAhead) (pc := 57) (b := 259) (kTab_at (pc := 57) tX11_isAhead_ok 37 rfl) fl_X11_45 sk_248 rfl rfl ?_
    refine K_iload_n (md := mX11_isAhead) (pc := 60) 2 (kTab_at (pc := 60) tX11_isAhead_ok 38 rfl) rfl ?_
    refine Z_lald (md := mX11_isAhead) (pc := 61) (kTab_at (pc := 61) tX11_isAhead_ok 39 rfl) sk_259 (by decide) h (fun x7 h => ?_)
    refine K_lmul (md := mX11_isAhead) (pc := 62) (kTab_at (pc := 62) tX11_isAhead_ok 40 rfl) ?_
    refine Z_bndL (md := mX11_isAhead) (pc := 63) h (fun x8 h => ?_)
    refine K_lstore (md := mX11_isAhead) (pc := 63) (l' := [(5, .long (iL x8)), (3, .long (iL x5)), (0, .ref (X.1 + 248)), (1, .int (iI p1)), (2, .int (iI p2))]) (kTab_at (pc := 63) tX11_isAhead_ok 41 rfl) (Nat.le_of_ble_eq_true rfl) rfl ?_
    refine K_lload_n (md := mX11_isAhead) (pc := 65) 1 (kTab_at (pc := 65) tX11_isAhead_ok 42 rfl) rfl ?_
    refine K_lload (md := mX11_isAhead) (pc := 66) 0 (kTab_at (pc := 66) tX11_isAhead_ok 43 rfl) rfl ?_
    refine K_lcmp_eq (md := mX11_isAhead) (pc := 68) (kTab_at (pc := 68) tX11_isAhead_ok 44 rfl) (kTab_at (pc := 69) tX11_isAhead_ok 45 rfl) (tgt := 87) rfl h (fun h => ?_) (fun h => ?_)
    · refine K_iload_n (md := mX11_isAhead) (pc := 87) 3 (kTab_at (pc := 87) tX11_isAhead_ok 54 rfl) rfl ?_
      refine K_iload_n (md := mX11_isAhead) (pc := 88) 4 (kTab_at (pc := 88) tX11_isAhead_ok 55 rfl) rfl ?_
      refine K_icmp_ge (md := mX11_isAhead) (pc := 89) (kTab_at (pc := 89) tX11_isAhead_ok 56 rfl) (tgt := 96) rfl h (fun h => ?_) (fun h => ?_)
      · refine K_iconst (md := mX11_isAhead) (pc := 96) (x := 0) (kTab_at (pc := 96) tX11_isAhead_ok 59 rfl) rfl ?_
        refine K_sub [] rfl ?_
        refine c_X11_isAhead_97 X p1 p2  0 μ h
      · refine K_iconst (md := mX11_isAhead) (pc := 92) (x := 1) (kTab_at (pc := 92) tX11_isAhead_ok 57 rfl) rfl ?_
        refine K_goto (md := mX11_isAhead) (pc := 93) (tgt := 97) (kTab_at (pc := 93) tX11_isAhead_ok 58 rfl) rfl ?_
        refine K_sub [] rfl ?_
        refine c_X11_isAhead_97 X p1 p2  1 μ h
    · refine K_lload_n (md := mX11_isAhead) (pc := 72) 1 (kTab_at (pc := 72) tX11_isAhead_ok 46 rfl) rfl ?_
      refine K_lload (md := mX11_isAhead) (pc := 73) 0 (kTab_at (pc := 73) tX11_isAhead_ok 47 rfl) rfl ?_
      refine K_lcmp_le (md := mX11_isAhead) (pc := 75) (kTab_at (pc := 75) tX11_isAhead_ok 48 rfl) (kTab_at (pc := 76) tX11_isAhead_ok 49 rfl) (tgt := 83) rfl h (fun h => ?_) (fun h => ?_)
      · refine K_iconst (md := mX11_isAhead) (pc := 83) (x := 0) (kTab_at (pc := 83) tX11_isAhead_ok 52 rfl) rfl ?_
        refine K_goto (md := mX11_isAhead) (pc := 84) (tgt := 97) (kTab_at (pc := 84) tX11_isAhead_ok 53 rfl) rfl ?_
        refine K_sub [] rfl ?_
        refine c_X11_isAhead_97 X p1 p2  0 μ h
      · refine K_iconst (md := mX11_isAhead) (pc := 79) (x := 1) (kTab_at (pc := 79) tX11_isAhead_ok 50 rfl) rfl ?_
        refine K_goto (md := mX11_isAhead) (pc := 80) (tgt := 97) (kTab_at (pc := 80) tX11_isAhead_ok 51 rfl) rfl ?_
        refine K_sub [] rfl ?_
        refine c_X11_isAhead_97 X p1 p2  1 μ h
  · refine K_aload_n (md := mX11_isAhead) (pc := 15) 0 (kTab_at (pc := 15) tX11_isAhead_ok 9 rfl) rfl ?_
    refine K_getR (md := mX11_isAhead) (pc := 16) (b := 257) (kTab_at (pc := 16) tX11_isAhead_ok 10 rfl) fl_X11_38 sk_248 rfl rfl ?_
    refine K_iload_n (md := mX11_isAhead) (pc := 19) 1 (kTab_at (pc := 19) tX11_isAhead_ok 11 rfl) rfl ?_
    refine Z_iald (md := mX11_isAhead) (pc := 20) (kTab_at (pc := 20) tX11_isAhead_ok 12 rfl) sk_257 (by decide) h (fun x9 h => ?_)
    refine K_aload_n (md := mX11_isAhead) (pc := 21) 0 (kTab_at (pc := 21) tX11_isAhead_ok 13 rfl) rfl ?_
    refine K_getR (md := mX11_isAhead) (pc := 22) (b := 257) (kTab_at (pc := 22) tX11_isAhead_ok 14 rfl) fl_X11_38 sk_248 rfl rfl ?_
    refine K_iload_n (md := mX11_isAhead) (pc := 25) 2 (kTab_at (pc := 25) tX11_isAhead_ok 15 rfl) rfl ?_
    refine Z_iald (md := mX11_isAhead) (pc := 26) (kTab_at (pc := 26) tX11_isAhead_ok 16 rfl) sk_257 (by decide) h (fun x10 h => ?_)
    refine K_icmp_le (md := mX11_isAhead) (pc := 27) (kTab_at (pc := 27) tX11_isAhead_ok 17 rfl) (tgt := 34) rfl h (fun h => ?_) (fun h => ?_)
    · refine K_iconst (md := mX11_isAhead) (pc := 34) (x := 0) (kTab_at (pc := 34) tX11_isAhead_ok 20 rfl) rfl ?_
      refine K_sub [] rfl ?_
      refine c_X11_isAhead_35 X p1 p2  0 μ h
    · refine K_iconst (md := mX11_isAhead) (pc := 30) (x := 1) (kTab_at (pc := 30) tX11_isAhead_ok 18 rfl) rfl ?_
      refine K_goto (md := mX11_isAhead) (pc := 31) (tgt := 35) (kTab_at (pc := 31) tX11_isAhead_ok 19 rfl) rfl ?_
      refine K_sub [] rfl ?_
      refine c_X11_isAhead_35 X p1 p2  1 μ h
def f_X11_ranked_110 (p1 : Int) (k72 : Int → Int → Int → Mu → Option Res) (v2 : Int) (v4 : Int) (s0 : Int) (s1 : Int) (μ : Mu) : Option Res := bnd (s0 + s1) fun x1 => k72 v2 x1 (v4 + 1) μ
set_option maxRecDepth 100000 in
theorem c_X11_ranked_110 (X : kX) (p1 : Int)  {res : Res} (k72 : Int → Int → Int → Mu → Option Res) (hk72 : ∀ (v2 : Int), ∀ (v3 : Int), ∀ (v4 : Int), ∀ (μ : Mu), k72 v2 v3 v4 μ = some res → KK X mX11_ranked 7 1 res 72 [(0, .ref (X.1 + 248)), (1, .int (iI p1)), (2, .int (iI v2)), (3, .int (iI v3)), (4, .int (iI v4))] [] μ) (v2 : Int) (v4 : Int) (s0 : Int) (s1 : Int) (μ : Mu) (h : f_X11_ranked_110 p1 k72 v2 v4 s0 s1 μ = some res) : KK X mX11_ranked 7 1 res 110 [(0, .ref (X.1 + 248)), (1, .int (iI p1)), (2, .int (iI v2)), (4, .int (iI v4))] [.int (iI s1), .int (iI s0)] μ := by
  unfold f_X11_ranked_110 at h
  refine K_iadd (md := mX11_ranked) (pc := 110) (kTab_at (pc := 110) tX11_ranked_ok 62 rfl) ?_
  refine Z_bnd (md := mX11_ranked) (pc := 111) h (fun x1 h => ?_)
  refine K_istore_n (md := mX11_ranked) (pc := 111) (l' := [(3, .int (iI x1)), (0, .ref (X.1 + 248)), (1, .int (iI p1)), (2, .int (iI v2)), (4, .int (iI v4))]) (kTab_at (pc := 111) tX11_ranked_ok 63 rfl) (Nat.le_of_ble_eq_true rfl) rfl ?_
  refine K_iinc (md := mX11_ranked) (pc := 112) (l' := [(4, .int (iI (v4 + 1))), (3, .int (iI x1)), (0, .ref (X.1 + 248)), (1, .int (iI p1)), (2, .int (iI v2))]) 4 (kTab_at (pc := 112) tX11_ranked_ok 64 rfl) rfl (Nat.le_of_ble_eq_true rfl) rfl ?_
  refine K_goto (md := mX11_ranked) (pc := 115) (tgt := 72) (kTab_at (pc := 115) tX11_ranked_ok 65 rfl) rfl ?_
  refine K_sub [2, 3, 4, 1, 0] rfl ?_
  exact hk72 v2 x1 (v4 + 1) μ h
def f_X11_ranked_109 (p1 : Int) (k72 : Int → Int → Int → Mu → Option Res) (v2 : Int) (v4 : Int) (s0 : Int) (μ : Mu) : Option Res := f_X11_ranked_110 p1 k72 v2 v4 s0 0 μ
set_option maxRecDepth 100000 in
theorem c_X11_ranked_109 (X : kX) (p1 : Int)  {res : Res} (k72 : Int → Int → Int → Mu → Option Res) (hk72 : ∀ (v2 : Int), ∀ (v3 : Int), ∀ (v4 : Int), ∀ (μ : Mu), k72 v2 v3 v4 μ = some res → KK X mX11_ranked 7 1 res 72 [(0, .ref (X.1 + 248)), (1, .int (iI p1)), (2, .int (iI v2)), (3, .int (iI v3)), (4, .int (iI v4))] [] μ) (v2 : Int) (v4 : Int) (s0 : Int) (μ : Mu) (h : f_X11_ranked_109 p1 k72 v2 v4 s0 μ = some res) : KK X mX11_ranked 7 1 res 109 [(0, .ref (X.1 + 248)), (1, .int (iI p1)), (2, .int (iI v2)), (4, .int (iI v4))] [.int (iI s0)] μ := by
  unfold f_X11_ranked_109 at h
  refine K_iconst (md := mX11_ranked) (pc := 109) (x := 0) (kTab_at (pc := 109) tX11_ranked_ok 61 rfl) rfl ?_
  refine c_X11_ranked_110 X p1 _ hk72 v2 v4 s0 0 μ h
def f_X11_ranked_133 (p1 : Int) (k61 : Int → Mu → Option Res) (v2 : Int) (μ : Mu) : Option Res := k61 (v2 + 1) μ
set_option maxRecDepth 100000 in
theorem c_X11_ranked_133 (X : kX) (p1 : Int)  {res : Res} (k61 : Int → Mu → Option Res) (hk61 : ∀ (v2 : Int), ∀ (μ : Mu), k61 v2 μ = some res → KK X mX11_ranked 7 1 res 61 [(0, .ref (X.1 + 248)), (1, .int (iI p1)), (2, .int (iI v2))] [] μ) (v2 : Int) (μ : Mu) (h : f_X11_ranked_133 p1 k61 v2 μ = some res) : KK X mX11_ranked 7 1 res 133 [(0, .ref (X.1 + 248)), (1, .int (iI p1)), (2, .int (iI v2))] [] μ := by
  unfold f_X11_ranked_133 at h
  refine K_iinc (md := mX11_ranked) (pc := 133) (l' := [(2, .int (iI (v2 + 1))), (0, .ref (X.1 + 248)), (1, .int (iI p1))]) 2 (kTab_at (pc := 133) tX11_ranked_ok 75 rfl) rfl (Nat.le_of_ble_eq_true rfl) rfl ?_
  refine K_goto (md := mX11_ranked) (pc := 136) (tgt := 61) (kTab_at (pc := 136) tX11_ranked_ok 76 rfl) rfl ?_
  refine K_sub [1, 2, 0] rfl ?_
  exact hk61 (v2 + 1) μ h
def f_X11_ranked_72 (p1 : Int) (k118 : Int → Int → Mu → Option Res) : Nat → Int → Int → Int → Mu → Option Res
  | 0, _, _, _, _ => none
  | fu + 1, v2, v3, v4, μ => i_lt v4 8 (i_eq v4 v2 (f_X11_ranked_109 p1 (f_X11_ranked_72 p1 k118 fu) v2 v4 v3 μ) (rb (f_X11_hasGrade v4 μ) fun μ x1 => i_eq x1 0 (f_X11_ranked_109 p1 (f_X11_ranked_72 p1 k118 fu) v2 v4 v3 μ) (rb (f_X11_isAhead v4 v2 μ) fun μ x2 => i_eq x2 0 (f_X11_ranked_109 p1 (f_X11_ranked_72 p1 k118 fu) v2 v4 v3 μ) (f_X11_ranked_110 p1 (f_X11_ranked_72 p1 k118 fu) v2 v4 v3 1 μ)))) (k118 v2 v3 μ)
set_option maxRecDepth 100000 in
theorem c_X11_ranked_72 (X : kX) (p1 : Int)  {res : Res} (k118 : Int → Int → Mu → Option Res) (hk118 : ∀ (v2 : Int), ∀ (v3 : Int), ∀ (μ : Mu), k118 v2 v3 μ = some res → KK X mX11_ranked 7 1 res 118 [(0, .ref (X.1 + 248)), (1, .int (iI p1)), (2, .int (iI v2)), (3, .int (iI v3))] [] μ) : ∀ (fu : Nat)  (v2 : Int) (v3 : Int) (v4 : Int) (μ : Mu), f_X11_ranked_72 p1 k118 fu v2 v3 v4 μ = some res → KK X mX11_ranked 7 1 res 72 [(0, .ref (X.1 + 248)), (1, .int (iI p1)), (2, .int (iI v2)), (3, .int (iI v3)), (4, .int (iI v4))] [] μ := by
  intro fu
  induction fu with
  | zero => intro v2 v3 v4 μ h; exact nomatch h
  | succ fu ih =>
    intro v2 v3 v4 μ h
    refine K_iload (md := mX11_ranked) (pc := 72) 4 (kTab_at (pc := 72) tX11_ranked_ok 43 rfl) rfl ?_
    refine K_bipush (md := mX11_ranked) (pc := 74) (x := 8) (kTab_at (pc := 74) tX11_ranked_ok 44 rfl) (by decide) ?_
    refine K_icmp_ge (md := mX11_ranked) (pc := 76) (kTab_at (pc := 76) tX11_ranked_ok 45 rfl) (tgt := 118) rfl h (fun h => ?_) (fun h => ?_)
    · refine K_sub [0, 1, 2, 3] rfl ?_
      exact hk118 v2 v3 μ h
    · refine K_iload_n (md := mX11_ranked) (pc := 79) 3 (kTab_at (pc := 79) tX11_ranked_ok 46 rfl) rfl ?_
      refine K_iload (md := mX11_ranked) (pc := 80) 4 (kTab_at (pc := 80) tX11_ranked_ok 47 rfl) rfl ?_
      refine K_iload_n (md := mX11_ranked) (pc := 82) 2 (kTab_at (pc := 82) tX11_ranked_ok 48 rfl) rfl ?_
      refine K_icmp_eq (md := mX11_ranked) (pc := 83) (kTab_at (pc := 83) tX11_ranked_ok 49 rfl) (tgt := 109) rfl h (fun h => ?_) (fun h => ?_)
      · refine K_sub [0, 1, 2, 4] rfl ?_
        refine c_X11_ranked_109 X p1 _ ih v2 v4 v3 μ h
      · refine K_aload_n (md := mX11_ranked) (pc := 86) 0 (kTab_at (pc := 86) tX11_ranked_ok 50 rfl) rfl ?_
        refine K_iload (md := mX11_ranked) (pc := 87) 4 (kTab_at (pc := 87) tX11_ranked_ok 51 rfl) rfl ?_
        refine Z_callV (md := mX11_ranked) (pc := 89) (st := [.int (iI v3)]) (sv := (fun x1 => [.int (iI x1), .int (iI v3)])) (kTab_at (pc := 89) tX11_ranked_ok 52 rfl) mv_X11_115 sk_248 rfl (Nat.le_of_ble_eq_true rfl) (by decide) rfl (c_X11_hasGrade X v4 μ) (fun _ => rfl) h (fun μ x1 h => ?_) rfl
        refine K_if_eq (md := mX11_ranked) (pc := 92) (kTab_at (pc := 92) tX11_ranked_ok 53 rfl) (tgt := 109) rfl h (fun h => ?_) (fun h => ?_)
        · refine K_sub [0, 1, 2, 4] rfl ?_
          refine c_X11_ranked_109 X p1 _ ih v2 v4 v3 μ h
        · refine K_aload_n (md := mX11_ranked) (pc := 95) 0 (kTab_at (pc := 95) tX11_ranked_ok 54 rfl) rfl ?_
          refine K_iload (md := mX11_ranked) (pc := 96) 4 (kTab_at (pc := 96) tX11_ranked_ok 55 rfl) rfl ?_
          refine K_iload_n (md := mX11_ranked) (pc := 98) 2 (kTab_at (pc := 98) tX11_ranked_ok 56 rfl) rfl ?_
          refine Z_callV (md := mX11_ranked) (pc := 99) (st := [.int (iI v3)]) (sv := (fun x2 => [.int (iI x2), .int (iI v3)])) (kTab_at (pc := 99) tX11_ranked_ok 57 rfl) mv_X11_275 sk_248 rfl (Nat.le_of_ble_eq_true rfl) (by decide) rfl (c_X11_isAhead X v4 v2 μ) (fun _ => rfl) h (fun μ x2 h => ?_) rfl
          refine K_if_eq (md := mX11_ranked) (pc := 102) (kTab_at (pc := 102) tX11_ranked_ok 58 rfl) (tgt := 109) rfl h (fun h => ?_) (fun h => ?_)
          · refine K_sub [0, 1, 2, 4] rfl ?_
            refine c_X11_ranked_109 X p1 _ ih v2 v4 v3 μ h
          · refine K_iconst (md := mX11_ranked) (pc := 105) (x := 1) (kTab_at (pc := 105) tX11_ranked_ok 59 rfl) rfl ?_
            refine K_goto (md := mX11_ranked) (pc := 106) (tgt := 110) (kTab_at (pc := 106) tX11_ranked_ok 60 rfl) rfl ?_
            refine K_sub [0, 1, 2, 4] rfl ?_
            refine c_X11_ranked_110 X p1 _ ih v2 v4 v3 1 μ h
def f_X11_ranked_61 (p1 : Int) (k131 : Int → Mu → Option Res) (k139 : Mu → Option Res) : Nat → Int → Mu → Option Res
  | 0, _, _ => none
  | fu + 1, v2, μ => i_lt v2 8 (f_X11_ranked_72 p1 (fun v2 v3 μ => rb (f_X11_hasGrade v2 μ) fun μ x1 => i_eq x1 0 (f_X11_ranked_133 p1 (f_X11_ranked_61 p1 k131 k139 fu) v2 μ) (i_eq v3 p1 (k131 v2 μ) (f_X11_ranked_133 p1 (f_X11_ranked_61 p1 k131 k139 fu) v2 μ))) FU v2 0 0 μ) (k139 μ)
set_option maxRecDepth 100000 in
theorem c_X11_ranked_61 (X : kX) (p1 : Int)  {res : Res} (k131 : Int → Mu → Option Res) (hk131 : ∀ (v2 : Int), ∀ (μ : Mu), k131 v2 μ = some res → KK X mX11_ranked 7 1 res 131 [(2, .int (iI v2))] [] μ) (k139 : Mu → Option Res) (hk139 : ∀ (μ : Mu), k139 μ = some res → KK X mX11_ranked 7 1 res 139 [(0, .ref (X.1 + 248))] [] μ) : ∀ (fu : Nat)  (v2 : Int) (μ : Mu), f_X11_ranked_61 p1 k131 k139 fu v2 μ = some res → KK X mX11_ranked 7 1 res 61 [(0, .ref (X.1 + 248)), (1, .int (iI p1)), (2, .int (iI v2))] [] μ := by
  intro fu
  induction fu with
  | zero => intro v2 μ h; exact nomatch h
  | succ fu ih =>
    intro v2 μ h
    refine K_iload_n (md := mX11_ranked) (pc := 61) 2 (kTab_at (pc := 61) tX11_ranked_ok 36 rfl) rfl ?_
    refine K_bipush (md := mX11_ranked) (pc := 62) (x := 8) (kTab_at (pc := 62) tX11_ranked_ok 37 rfl) (by decide) ?_
    refine K_icmp_ge (md := mX11_ranked) (pc := 64) (kTab_at (pc := 64) tX11_ranked_ok 38 rfl) (tgt := 139) rfl h (fun h => ?_) (fun h => ?_)
    · refine K_sub [0] rfl ?_
      exact hk139 μ h
    · refine K_iconst (md := mX11_ranked) (pc := 67) (x := 0) (kTab_at (pc := 67) tX11_ranked_ok 39 rfl) rfl ?_
      refine K_istore_n (md := mX11_ranked) (pc := 68) (l' := [(3, .int (iI 0)), (0, .ref (X.1 + 248)), (1, .int (iI p1)), (2, .int (iI v2))]) (kTab_at (pc := 68) tX11_ranked_ok 40 rfl) (Nat.le_of_ble_eq_true rfl) rfl ?_
      refine K_iconst (md := mX11_ranked) (pc := 69) (x := 0) (kTab_at (pc := 69) tX11_ranked_ok 41 rfl) rfl ?_
      refine K_istore (md := mX11_ranked) (pc := 70) (l' := [(4, .int (iI 0)), (3, .int (iI 0)), (0, .ref (X.1 + 248)), (1, .int (iI p1)), (2, .int (iI v2))]) (kTab_at (pc := 70) tX11_ranked_ok 42 rfl) (Nat.le_of_ble_eq_true rfl) rfl ?_
      refine K_sub [2, 3, 4, 1, 0] rfl ?_
      refine c_X11_ranked_72 X p1 _ ?_ _ v2 0 0 μ h
      · intro v2 v3 μ h
        refine K_aload_n (md := mX11_ranked) (pc := 118) 0 (kTab_at (pc := 118) tX11_ranked_ok 66 rfl) rfl ?_
        refine K_iload_n (md := mX11_ranked) (pc := 119) 2 (kTab_at (pc := 119) tX11_ranked_ok 67 rfl) rfl ?_
        refine Z_callV (md := mX11_ranked) (pc := 120) (st := []) (sv := (fun x1 => [.int (iI x1)])) (kTab_at (pc := 120) tX11_ranked_ok 68 rfl) mv_X11_115 sk_248 rfl (Nat.le_of_ble_eq_true rfl) (by decide) rfl (c_X11_hasGrade X v2 μ) (fun _ => rfl) h (fun μ x1 h => ?_) rfl
        refine K_if_eq (md := mX11_ranked) (pc := 123) (kTab_at (pc := 123) tX11_ranked_ok 69 rfl) (tgt := 133) rfl h (fun h => ?_) (fun h => ?_)
        · refine K_sub [0, 1, 2] rfl ?_
          refine c_X11_ranked_133 X p1 _ ih v2 μ h
        · refine K_iload_n (md := mX11_ranked) (pc := 126) 3 (kTab_at (pc := 126) tX11_ranked_ok 70 rfl) rfl ?_
          refine K_iload_n (md := mX11_ranked) (pc := 127) 1 (kTab_at (pc := 127) tX11_ranked_ok 71 rfl) rfl ?_
          refine K_icmp_ne (md := mX11_ranked) (pc := 128) (kTab_at (pc := 128) tX11_ranked_ok 72 rfl) (tgt := 133) rfl h (fun h => ?_) (fun h => ?_)
          · refine K_sub [0, 1, 2] rfl ?_
            refine c_X11_ranked_133 X p1 _ ih v2 μ h
          · refine K_sub [2] rfl ?_
            exact hk131 v2 μ h
def f_X11_ranked_7 (p1 : Int) (k59 : Mu → Option Res) : Nat → Int → Mu → Option Res
  | 0, _, _ => none
  | fu + 1, v2, μ => i_lt v2 8 (rb (f_X11_marksOf v2 μ) fun μ _ => rb (f_X11_grades v2 μ) fun μ _ => rdF μ 248 17 fun x1 => wrI μ 257 8 v2 x1 fun μ => rdF μ 248 15 fun x2 => wrI μ 258 8 v2 x2 fun μ => rdF μ 248 16 fun x3 => wrI μ 259 8 v2 x3 fun μ => (f_X11_ranked_7 p1 k59 fu) (v2 + 1) μ) (k59 μ)
set_option maxRecDepth 100000 in
theorem c_X11_ranked_7 (X : kX) (p1 : Int)  {res : Res} (k59 : Mu → Option Res) (hk59 : ∀ (μ : Mu), k59 μ = some res → KK X mX11_ranked 7 1 res 59 [(0, .ref (X.1 + 248)), (1, .int (iI p1))] [] μ) : ∀ (fu : Nat)  (v2 : Int) (μ : Mu), f_X11_ranked_7 p1 k59 fu v2 μ = some res → KK X mX11_ranked 7 1 res 7 [(0, .ref (X.1 + 248)), (1, .int (iI p1)), (2, .int (iI v2))] [] μ := by
  intro fu
  induction fu with
  | zero => intro v2 μ h; exact nomatch h
  | succ fu ih =>
    intro v2 μ h
    refine K_iload_n (md := mX11_ranked) (pc := 7) 2 (kTab_at (pc := 7) tX11_ranked_ok 5 rfl) rfl ?_
    refine K_bipush (md := mX11_ranked) (pc := 8) (x := 8) (kTab_at (pc := 8) tX11_ranked_ok 6 rfl) (by decide) ?_
    refine K_icmp_ge (md := mX11_ranked) (pc := 10) (kTab_at (pc := 10) tX11_ranked_ok 7 rfl) (tgt := 59) rfl h (fun h => ?_) (fun h => ?_)
    · refine K_sub [0, 1] rfl ?_
      exact hk59 μ h
    · refine K_aload_n (md := mX11_ranked) (pc := 13) 0 (kTab_at (pc := 13) tX11_ranked_ok 8 rfl) rfl ?_
      refine K_iload_n (md := mX11_ranked) (pc := 14) 2 (kTab_at (pc := 14) tX11_ranked_ok 9 rfl) rfl ?_
      refine Z_callV (md := mX11_ranked) (pc := 15) (st := []) (sv := (fun _ => [])) (kTab_at (pc := 15) tX11_ranked_ok 10 rfl) mv_X11_168 sk_248 rfl (Nat.le_of_ble_eq_true rfl) (by decide) rfl (c_X11_marksOf X v2 μ) (fun _ => rfl) h (fun μ _ h => ?_) rfl
      refine K_aload_n (md := mX11_ranked) (pc := 18) 0 (kTab_at (pc := 18) tX11_ranked_ok 11 rfl) rfl ?_
      refine K_iload_n (md := mX11_ranked) (pc := 19) 2 (kTab_at (pc := 19) tX11_ranked_ok 12 rfl) rfl ?_
      refine Z_callV (md := mX11_ranked) (pc := 20) (st := []) (sv := (fun _ => [])) (kTab_at (pc := 20) tX11_ranked_ok 13 rfl) mv_X11_171 sk_248 rfl (Nat.le_of_ble_eq_true rfl) (by decide) rfl (c_X11_grades X v2 μ) (fun _ => rfl) h (fun μ _ h => ?_) rfl
      refine K_aload_n (md := mX11_ranked) (pc := 23) 0 (kTab_at (pc := 23) tX11_ranked_ok 14 rfl) rfl ?_
      refine K_getR (md := mX11_ranked) (pc := 24) (b := 257) (kTab_at (pc := 24) tX11_ranked_ok 15 rfl) fl_X11_38 sk_248 rfl rfl ?_
      refine K_iload_n (md := mX11_ranked) (pc := 27) 2 (kTab_at (pc := 27) tX11_ranked_ok 16 rfl) rfl ?_
      refine K_aload_n (md := mX11_ranked) (pc := 28) 0 (kTab_at (pc := 28) tX11_ranked_ok 17 rfl) rfl ?_
      refine Z_getI (md := mX11_ranked) (pc := 29) (kTab_at (pc := 29) tX11_ranked_ok 18 rfl) fl_X11_156 sk_248 (Or.inl rfl) h (fun x1 h => ?_)
      refine Z_iast (md := mX11_ranked) (pc := 32) (kTab_at (pc := 32) tX11_ranked_ok 19 rfl) sk_257 (by decide) h (fun μ h => ?_)
      refine K_aload_n (md := mX11_ranked) (pc := 33) 0 (kTab_at (pc := 33) tX11_ranked_ok 20 rfl) rfl ?_
      refine K_getR (md := mX11_ranked) (pc := 34) (b := 258) (kTab_at (pc := 34) tX11_ranked_ok 21 rfl) fl_X11_41 sk_248 rfl rfl ?_
      refine K_iload_n (md := mX11_ranked) (pc := 37) 2 (kTab_at (pc := 37) tX11_ranked_ok 22 rfl) rfl ?_
      refine K_aload_n (md := mX11_ranked) (pc := 38) 0 (kTab_at (pc := 38) tX11_ranked_ok 23 rfl) rfl ?_
      refine Z_getL (md := mX11_ranked) (pc := 39) (kTab_at (pc := 39) tX11_ranked_ok 24 rfl) fl_X11_136 sk_248 rfl h (fun x2 h => ?_)
      refine Z_last (md := mX11_ranked) (pc := 42) (kTab_at (pc := 42) tX11_ranked_ok 25 rfl) sk_258 (by decide) h (fun μ h => ?_)
      refine K_aload_n (md := mX11_ranked) (pc := 43) 0 (kTab_at (pc := 43) tX11_ranked_ok 26 rfl) rfl ?_
      refine K_getR (md := mX11_ranked) (pc := 44) (b := 259) (kTab_at (pc := 44) tX11_ranked_ok 27 rfl) fl_X11_45 sk_248 rfl rfl ?_
      refine K_iload_n (md := mX11_ranked) (pc := 47) 2 (kTab_at (pc := 47) tX11_ranked_ok 28 rfl) rfl ?_
      refine K_aload_n (md := mX11_ranked) (pc := 48) 0 (kTab_at (pc := 48) tX11_ranked_ok 29 rfl) rfl ?_
      refine Z_getL (md := mX11_ranked) (pc := 49) (kTab_at (pc := 49) tX11_ranked_ok 30 rfl) fl_X11_140 sk_248 rfl h (fun x3 h => ?_)
      refine Z_last (md := mX11_ranked) (pc := 52) (kTab_at (pc := 52) tX11_ranked_ok 31 rfl) sk_259 (by decide) h (fun μ h => ?_)
      refine K_iinc (md := mX11_ranked) (pc := 53) (l' := [(2, .int (iI (v2 + 1))), (0, .ref (X.1 + 248)), (1, .int (iI p1))]) 2 (kTab_at (pc := 53) tX11_ranked_ok 32 rfl) rfl (Nat.le_of_ble_eq_true rfl) rfl ?_
      refine K_goto (md := mX11_ranked) (pc := 56) (tgt := 7) (kTab_at (pc := 56) tX11_ranked_ok 33 rfl) rfl ?_
      refine K_sub [1, 2, 0] rfl ?_
      exact ih (v2 + 1) μ h
def f_X11_ranked (p1 : Int) (μ : Mu) : Option Res := wrF μ 248 0 0 fun μ => f_X11_ranked_7 p1 (fun μ => f_X11_ranked_61 p1 (fun v2 μ => some (μ, 0, v2)) (fun μ => rb (f_X11_fails 1 μ) fun μ x1 => some (μ, 0, x1)) FU 0 μ) FU 0 μ
set_option maxRecDepth 100000 in
theorem c_X11_ranked (X : kX) (p1 : Int)  (μ : Mu) : Cq X mX11_ranked 7 1 μ [.ref (X.1 + 248), .int (iI p1)] (f_X11_ranked p1 μ) := by
  intro res h
  refine ct_of (by decide +kernel) rfl (Nat.le_of_ble_eq_true rfl) ?_
  show KK X mX11_ranked 7 1 res 0 [(0, .ref (X.1 + 248)), (1, .int (iI p1))] [] μ
  unfold f_X11_ranked at h
  refine K_aload_n (md := mX11_ranked) (pc := 0) 0 (kTab_at (pc := 0) tX11_ranked_ok 0 rfl) rfl ?_
  refine K_iconst (md := mX11_ranked) (pc := 1) (x := 0) (kTab_at (pc := 1) tX11_ranked_ok 1 rfl) rfl ?_
  refine Z_putI (md := mX11_ranked) (pc := 2) (kTab_at (pc := 2) tX11_ranked_ok 2 rfl) fl_X11_48 sk_248 rfl h (fun μ h => ?_)
  refine K_iconst (md := mX11_ranked) (pc := 5) (x := 0) (kTab_at (pc := 5) tX11_ranked_ok 3 rfl) rfl ?_
  refine K_istore_n (md := mX11_ranked) (pc := 6) (l' := [(2, .int (iI 0)), (0, .ref (X.1 + 248)), (1, .int (iI p1))]) (kTab_at (pc := 6) tX11_ranked_ok 4 rfl) (Nat.le_of_ble_eq_true rfl) rfl ?_
  refine K_sub [1, 2, 0] rfl ?_
  refine c_X11_ranked_7 X p1 _ ?_ _ 0 μ h
  · intro  μ h
    refine K_iconst (md := mX11_ranked) (pc := 59) (x := 0) (kTab_at (pc := 59) tX11_ranked_ok 34 rfl) rfl ?_
    refine K_istore_n (md := mX11_ranked) (pc := 60) (l' := [(2, .int (iI 0)), (0, .ref (X.1 + 248)), (1, .int (iI p1))]) (kTab_at (pc := 60) tX11_ranked_ok 35 rfl) (Nat.le_of_ble_eq_true rfl) rfl ?_
    refine K_sub [1, 2, 0] rfl ?_
    refine c_X11_ranked_61 X p1 _ ?_ _ ?_ _ 0 μ h
    · intro v2 μ h
      refine K_iload_n (md := mX11_ranked) (pc := 131) 0 (kTab_at (pc := 131) tX11_ranked_ok 73 rfl) rfl ?_
      exact Z_iret (md := mX11_ranked) (pc := 132) (kTab_at (pc := 132) tX11_ranked_ok 74 rfl) rfl rfl rfl h
    · intro  μ h
      refine K_aload_n (md := mX11_ranked) (pc := 139) 0 (kTab_at (pc := 139) tX11_ranked_ok 77 rfl) rfl ?_
      refine K_iconst (md := mX11_ranked) (pc := 140) (x := 1) (kTab_at (pc := 140) tX11_ranked_ok 78 rfl) rfl ?_
      refine Z_callV (md := mX11_ranked) (pc := 141) (st := []) (sv := (fun x1 => [.int (iI x1)])) (kTab_at (pc := 141) tX11_ranked_ok 79 rfl) mv_X11_177 sk_248 rfl (Nat.le_of_ble_eq_true rfl) (by decide) rfl (c_X11_fails X 1 μ) (fun _ => rfl) h (fun μ x1 h => ?_) rfl
      exact Z_iret (md := mX11_ranked) (pc := 144) (kTab_at (pc := 144) tX11_ranked_ok 80 rfl) rfl rfl rfl h
def f_X11_graded_53 (p1 : Int) (k24 : Int → Int → Mu → Option Res) (v3 : Int) (s0 : Int) (s1 : Int) (μ : Mu) : Option Res := bnd (s0 + s1) fun x1 => k24 x1 (v3 + 1) μ
set_option maxRecDepth 100000 in
theorem c_X11_graded_53 (X : kX) (p1 : Int)  {res : Res} (k24 : Int → Int → Mu → Option Res) (hk24 : ∀ (v2 : Int), ∀ (v3 : Int), ∀ (μ : Mu), k24 v2 v3 μ = some res → KK X mX11_graded 8 1 res 24 [(0, .ref (X.1 + 248)), (1, .int (iI p1)), (2, .int (iI v2)), (3, .int (iI v3))] [] μ) (v3 : Int) (s0 : Int) (s1 : Int) (μ : Mu) (h : f_X11_graded_53 p1 k24 v3 s0 s1 μ = some res) : KK X mX11_graded 8 1 res 53 [(0, .ref (X.1 + 248)), (1, .int (iI p1)), (3, .int (iI v3))] [.int (iI s1), .int (iI s0)] μ := by
  unfold f_X11_graded_53 at h
  refine K_iadd (md := mX11_graded) (pc := 53) (kTab_at (pc := 53) tX11_graded_ok 32 rfl) ?_
  refine Z_bnd (md := mX11_graded) (pc := 54) h (fun x1 h => ?_)
  refine K_istore_n (md := mX11_graded) (pc := 54) (l' := [(2, .int (iI x1)), (0, .ref (X.1 + 248)), (1, .int (iI p1)), (3, .int (iI v3))]) (kTab_at (pc := 54) tX11_graded_ok 33 rfl) (Nat.le_of_ble_eq_true rfl) rfl ?_
  refine K_iinc (md := mX11_graded) (pc := 55) (l' := [(3, .int (iI (v3 + 1))), (2, .int (iI x1)), (0, .ref (X.1 + 248)), (1, .int (iI p1))]) 3 (kTab_at (pc := 55) tX11_graded_ok 34 rfl) rfl (Nat.le_of_ble_eq_true rfl) rfl ?_
  refine K_goto (md := mX11_graded) (pc := 58) (tgt := 24) (kTab_at (pc := 58) tX11_graded_ok 35 rfl) rfl ?_
  refine K_sub [2, 3, 1, 0] rfl ?_
  exact hk24 x1 (v3 + 1) μ h
def f_X11_graded_52 (p1 : Int) (k24 : Int → Int → Mu → Option Res) (v3 : Int) (s0 : Int) (μ : Mu) : Option Res := f_X11_graded_53 p1 k24 v3 s0 0 μ
set_option maxRecDepth 100000 in
theorem c_X11_graded_52 (X : kX) (p1 : Int)  {res : Res} (k24 : Int → Int → Mu → Option Res) (hk24 : ∀ (v2 : Int), ∀ (v3 : Int), ∀ (μ : Mu), k24 v2 v3 μ = some res → KK X mX11_graded 8 1 res 24 [(0, .ref (X.1 + 248)), (1, .int (iI p1)), (2, .int (iI v2)), (3, .int (iI v3))] [] μ) (v3 : Int) (s0 : Int) (μ : Mu) (h : f_X11_graded_52 p1 k24 v3 s0 μ = some res) : KK X mX11_graded 8 1 res 52 [(0, .ref (X.1 + 248)), (1, .int (iI p1)), (3, .int (iI v3))] [.int (iI s0)] μ := by
  unfold f_X11_graded_52 at h
  refine K_iconst (md := mX11_graded) (pc := 52) (x := 0) (kTab_at (pc := 52) tX11_graded_ok 31 rfl) rfl ?_
  refine c_X11_graded_53 X p1 _ hk24 v3 s0 0 μ h
def f_X11_graded_24 (p1 : Int) (k61 : Int → Mu → Option Res) : Nat → Int → Int → Mu → Option Res
  | 0, _, _, _ => none
  | fu + 1, v2, v3, μ => i_lt v3 8 (rb (f_X11_hasGrade v3 μ) fun μ x1 => i_eq x1 0 (f_X11_graded_52 p1 (f_X11_graded_24 p1 k61 fu) v3 v2 μ) (rb (f_X11_gradeOf v3 μ) fun μ x2 => i_eq x2 p1 (f_X11_graded_53 p1 (f_X11_graded_24 p1 k61 fu) v3 v2 1 μ) (f_X11_graded_52 p1 (f_X11_graded_24 p1 k61 fu) v3 v2 μ))) (k61 v2 μ)
set_option maxRecDepth 100000 in
theorem c_X11_graded_24 (X : kX) (p1 : Int)  {res : Res} (k61 : Int → Mu → Option Res) (hk61 : ∀ (v2 : Int), ∀ (μ : Mu), k61 v2 μ = some res → KK X mX11_graded 8 1 res 61 [(2, .int (iI v2))] [] μ) : ∀ (fu : Nat)  (v2 : Int) (v3 : Int) (μ : Mu), f_X11_graded_24 p1 k61 fu v2 v3 μ = some res → KK X mX11_graded 8 1 res 24 [(0, .ref (X.1 + 248)), (1, .int (iI p1)), (2, .int (iI v2)), (3, .int (iI v3))] [] μ := by
  intro fu
  induction fu with
  | zero => intro v2 v3 μ h; exact nomatch h
  | succ fu ih =>
    intro v2 v3 μ h
    refine K_iload_n (md := mX11_graded) (pc := 24) 3 (kTab_at (pc := 24) tX11_graded_ok 16 rfl) rfl ?_
    refine K_bipush (md := mX11_graded) (pc := 25) (x := 8) (kTab_at (pc := 25) tX11_graded_ok 17 rfl) (by decide) ?_
    refine K_icmp_ge (md := mX11_graded) (pc := 27) (kTab_at (pc := 27) tX11_graded_ok 18 rfl) (tgt := 61) rfl h (fun h => ?_) (fun h => ?_)
    · refine K_sub [2] rfl ?_
      exact hk61 v2 μ h
    · refine K_iload_n (md := mX11_graded) (pc := 30) 2 (kTab_at (pc := 30) tX11_graded_ok 19 rfl) rfl ?_
      refine K_aload_n (md := mX11_graded) (pc := 31) 0 (kTab_at (pc := 31) tX11_graded_ok 20 rfl) rfl ?_
      refine K_iload_n (md := mX11_graded) (pc := 32) 3 (kTab_at (pc := 32) tX11_graded_ok 21 rfl) rfl ?_
      refine Z_callV (md := mX11_graded) (pc := 33) (st := [.int (iI v2)]) (sv := (fun x1 => [.int (iI x1), .int (iI v2)])) (kTab_at (pc := 33) tX11_graded_ok 22 rfl) mv_X11_115 sk_248 rfl (Nat.le_of_ble_eq_true rfl) (by decide) rfl (c_X11_hasGrade X v3 μ) (fun _ => rfl) h (fun μ x1 h => ?_) rfl
      refine K_if_eq (md := mX11_graded) (pc := 36) (kTab_at (pc := 36) tX11_graded_ok 23 rfl) (tgt := 52) rfl h (fun h => ?_) (fun h => ?_)
      · refine K_sub [0, 1, 3] rfl ?_
        refine c_X11_graded_52 X p1 _ ih v3 v2 μ h
      · refine K_aload_n (md := mX11_graded) (pc := 39) 0 (kTab_at (pc := 39) tX11_graded_ok 24 rfl) rfl ?_
        refine K_iload_n (md := mX11_graded) (pc := 40) 3 (kTab_at (pc := 40) tX11_graded_ok 25 rfl) rfl ?_
        refine Z_callV (md := mX11_graded) (pc := 41) (st := [.int (iI v2)]) (sv := (fun x2 => [.int (iI x2), .int (iI v2)])) (kTab_at (pc := 41) tX11_graded_ok 26 rfl) mv_X11_278 sk_248 rfl (Nat.le_of_ble_eq_true rfl) (by decide) rfl (c_X11_gradeOf X v3 μ) (fun _ => rfl) h (fun μ x2 h => ?_) rfl
        refine K_iload_n (md := mX11_graded) (pc := 44) 1 (kTab_at (pc := 44) tX11_graded_ok 27 rfl) rfl ?_
        refine K_icmp_ne (md := mX11_graded) (pc := 45) (kTab_at (pc := 45) tX11_graded_ok 28 rfl) (tgt := 52) rfl h (fun h => ?_) (fun h => ?_)
        · refine K_sub [0, 1, 3] rfl ?_
          refine c_X11_graded_52 X p1 _ ih v3 v2 μ h
        · refine K_iconst (md := mX11_graded) (pc := 48) (x := 1) (kTab_at (pc := 48) tX11_graded_ok 29 rfl) rfl ?_
          refine K_goto (md := mX11_graded) (pc := 49) (tgt := 53) (kTab_at (pc := 49) tX11_graded_ok 30 rfl) rfl ?_
          refine K_sub [0, 1, 3] rfl ?_
          refine c_X11_graded_53 X p1 _ ih v3 v2 1 μ h
def f_X11_graded (p1 : Int) (μ : Mu) : Option Res := wrF μ 248 0 0 fun μ => rb (f_X11_in p1 0 4 μ) fun μ x1 => i_eq x1 0 (rb (f_X11_fails 1 μ) fun μ x2 => some (μ, 0, x2)) (f_X11_graded_24 p1 (fun v2 μ => some (μ, 0, v2)) FU 0 0 μ)
set_option maxRecDepth 100000 in
theorem c_X11_graded (X : kX) (p1 : Int)  (μ : Mu) : Cq X mX11_graded 8 1 μ [.ref (X.1 + 248), .int (iI p1)] (f_X11_graded p1 μ) := by
  intro res h
  refine ct_of (by decide +kernel) rfl (Nat.le_of_ble_eq_true rfl) ?_
  show KK X mX11_graded 8 1 res 0 [(0, .ref (X.1 + 248)), (1, .int (iI p1))] [] μ
  unfold f_X11_graded at h
  refine K_aload_n (md := mX11_graded) (pc := 0) 0 (kTab_at (pc := 0) tX11_graded_ok 0 rfl) rfl ?_
  refine K_iconst (md := mX11_graded) (pc := 1) (x := 0) (kTab_at (pc := 1) tX11_graded_ok 1 rfl) rfl ?_
  refine Z_putI (md := mX11_graded) (pc := 2) (kTab_at (pc := 2) tX11_graded_ok 2 rfl) fl_X11_48 sk_248 rfl h (fun μ h => ?_)
  refine K_iload_n (md := mX11_graded) (pc := 5) 1 (kTab_at (pc := 5) tX11_graded_ok 3 rfl) rfl ?_
  refine K_iconst (md := mX11_graded) (pc := 6) (x := 0) (kTab_at (pc := 6) tX11_graded_ok 4 rfl) rfl ?_
  refine K_iconst (md := mX11_graded) (pc := 7) (x := 4) (kTab_at (pc := 7) tX11_graded_ok 5 rfl) rfl ?_
  refine Z_callS (md := mX11_graded) (pc := 8) (st := []) (sv := (fun x1 => [.int (iI x1)])) (kTab_at (pc := 8) tX11_graded_ok 6 rfl) ms_X11_51 rfl (Nat.le_of_ble_eq_true rfl) (by decide) rfl (c_X11_in X p1 0 4 μ) (fun _ => rfl) h (fun μ x1 h => ?_) rfl
  refine K_if_ne (md := mX11_graded) (pc := 11) (kTab_at (pc := 11) tX11_graded_ok 7 rfl) (tgt := 20) rfl h (fun h => ?_) (fun h => ?_)
  · refine K_iconst (md := mX11_graded) (pc := 20) (x := 0) (kTab_at (pc := 20) tX11_graded_ok 12 rfl) rfl ?_
    refine K_istore_n (md := mX11_graded) (pc := 21) (l' := [(2, .int (iI 0)), (0, .ref (X.1 + 248)), (1, .int (iI p1))]) (kTab_at (pc := 21) tX11_graded_ok 13 rfl) (Nat.le_of_ble_eq_true rfl) rfl ?_
    refine K_iconst (md := mX11_graded) (pc := 22) (x := 0) (kTab_at (pc := 22) tX11_graded_ok 14 rfl) rfl ?_
    refine K_istore_n (md := mX11_graded) (pc := 23) (l' := [(3, .int (iI 0)), (2, .int (iI 0)), (0, .ref (X.1 + 248)), (1, .int (iI p1))]) (kTab_at (pc := 23) tX11_graded_ok 15 rfl) (Nat.le_of_ble_eq_true rfl) rfl ?_
    refine K_sub [2, 3, 1, 0] rfl ?_
    refine c_X11_graded_24 X p1 _ ?_ _ 0 0 μ h
    · intro v2 μ h
      refine K_iload_n (md := mX11_graded) (pc := 61) 0 (kTab_at (pc := 61) tX11_graded_ok 36 rfl) rfl ?_
      exact Z_iret (md := mX11_graded) (pc := 62) (kTab_at (pc := 62) tX11_graded_ok 37 rfl) rfl rfl rfl h
  · refine K_aload_n (md := mX11_graded) (pc := 14) 0 (kTab_at (pc := 14) tX11_graded_ok 8 rfl) rfl ?_
    refine K_iconst (md := mX11_graded) (pc := 15) (x := 1) (kTab_at (pc := 15) tX11_graded_ok 9 rfl) rfl ?_
    refine Z_callV (md := mX11_graded) (pc := 16) (st := []) (sv := (fun x2 => [.int (iI x2)])) (kTab_at (pc := 16) tX11_graded_ok 10 rfl) mv_X11_177 sk_248 rfl (Nat.le_of_ble_eq_true rfl) (by decide) rfl (c_X11_fails X 1 μ) (fun _ => rfl) h (fun μ x2 h => ?_) rfl
    exact Z_iret (md := mX11_graded) (pc := 19) (kTab_at (pc := 19) tX11_graded_ok 11 rfl) rfl rfl rfl h
def f_X11_gradeWith (p1 : Int) (p2 : Int) (p3 : Int) (μ : Mu) : Option Res := rb (f_X11_marksOf p1 μ) fun μ _ => wrI μ 256 5 p2 (p3 * 120) fun μ => rb (f_X11_grades p1 μ) fun μ _ => rdF μ 248 19 fun x1 => some (μ, 0, x1)
set_option maxRecDepth 100000 in
theorem c_X11_gradeWith (X : kX) (p1 : Int) (p2 : Int) (p3 : Int)  (μ : Mu) : Cq X mX11_gradeWith 7 1 μ [.ref (X.1 + 248), .int (iI p1), .int (iI p2), .int (iI p3)] (f_X11_gradeWith p1 p2 p3 μ) := by
  intro res h
  refine ct_of (by decide +kernel) rfl (Nat.le_of_ble_eq_true rfl) ?_
  show KK X mX11_gradeWith 7 1 res 0 [(0, .ref (X.1 + 248)), (1, .int (iI p1)), (2, .int (iI p2)), (3, .int (iI p3))] [] μ
  unfold f_X11_gradeWith at h
  refine K_aload_n (md := mX11_gradeWith) (pc := 0) 0 (kTab_at (pc := 0) tX11_gradeWith_ok 0 rfl) rfl ?_
  refine K_iload_n (md := mX11_gradeWith) (pc := 1) 1 (kTab_at (pc := 1) tX11_gradeWith_ok 1 rfl) rfl ?_
  refine Z_callV (md := mX11_gradeWith) (pc := 2) (st := []) (sv := (fun _ => [])) (kTab_at (pc := 2) tX11_gradeWith_ok 2 rfl) mv_X11_168 sk_248 rfl (Nat.le_of_ble_eq_true rfl) (by decide) rfl (c_X11_marksOf X p1 μ) (fun _ => rfl) h (fun μ _ h => ?_) rfl
  refine K_aload_n (md := mX11_gradeWith) (pc := 5) 0 (kTab_at (pc := 5) tX11_gradeWith_ok 3 rfl) rfl ?_
  refine K_getR (md := mX11_gradeWith) (pc := 6) (b := 256) (kTab_at (pc := 6) tX11_gradeWith_ok 4 rfl) fl_X11_35 sk_248 rfl rfl ?_
  refine K_iload_n (md := mX11_gradeWith) (pc := 9) 2 (kTab_at (pc := 9) tX11_gradeWith_ok 5 rfl) rfl ?_
  refine K_iload_n (md := mX11_gradeWith) (pc := 10) 3 (kTab_at (pc := 10) tX11_gradeWith_ok 6 rfl) rfl ?_
  refine K_bipush (md := mX11_gradeWith) (pc := 11) (x := 120) (kTab_at (pc := 11) tX11_gradeWith_ok 7 rfl) (by decide) ?_
  refine K_imul (md := mX11_gradeWith) (pc := 13) (kTab_at (pc := 13) tX11_gradeWith_ok 8 rfl) ?_
  refine Z_iast (md := mX11_gradeWith) (pc := 14) (kTab_at (pc := 14) tX11_gradeWith_ok 9 rfl) sk_256 (by decide) h (fun μ h => ?_)
  refine K_aload_n (md := mX11_gradeWith) (pc := 15) 0 (kTab_at (pc := 15) tX11_gradeWith_ok 10 rfl) rfl ?_
  refine K_iload_n (md := mX11_gradeWith) (pc := 16) 1 (kTab_at (pc := 16) tX11_gradeWith_ok 11 rfl) rfl ?_
  refine Z_callV (md := mX11_gradeWith) (pc := 17) (st := []) (sv := (fun _ => [])) (kTab_at (pc := 17) tX11_gradeWith_ok 12 rfl) mv_X11_171 sk_248 rfl (Nat.le_of_ble_eq_true rfl) (by decide) rfl (c_X11_grades X p1 μ) (fun _ => rfl) h (fun μ _ h => ?_) rfl
  refine K_aload_n (md := mX11_gradeWith) (pc := 20) 0 (kTab_at (pc := 20) tX11_gradeWith_ok 13 rfl) rfl ?_
  refine Z_getI (md := mX11_gradeWith) (pc := 21) (kTab_at (pc := 21) tX11_gradeWith_ok 14 rfl) fl_X11_165 sk_248 (Or.inl rfl) h (fun x1 h => ?_)
  exact Z_iret (md := mX11_gradeWith) (pc := 24) (kTab_at (pc := 24) tX11_gradeWith_ok 15 rfl) rfl rfl rfl h
def f_X11_gradeIf_56 (p1 : Int) (p2 : Int) (p3 : Int)  (s0 : Int) (μ : Mu) : Option Res := some (μ, 0, s0)
set_option maxRecDepth 100000 in
theorem c_X11_gradeIf_56 (X : kX) (p1 : Int) (p2 : Int) (p3 : Int)  {res : Res}  (s0 : Int) (μ : Mu) (h : f_X11_gradeIf_56 p1 p2 p3 s0 μ = some res) : KK X mX11_gradeIf 8 1 res 56 [] [.int (iI s0)] μ := by
  unfold f_X11_gradeIf_56 at h
  exact Z_iret (md := mX11_gradeIf) (pc := 56) (kTab_at (pc := 56) tX11_gradeIf_ok 34 rfl) rfl rfl rfl h
def f_X11_gradeIf (p1 : Int) (p2 : Int) (p3 : Int) (μ : Mu) : Option Res := rb (f_X11_scriptRefusal p1 p2 μ) fun μ x1 => i_lt 0 x1 (some (μ, 0, 0)) (rdI μ 249 779 (0 + p2) fun x2 => rb (f_X11_in p3 0 x2 μ) fun μ x3 => i_eq x3 0 (rb (f_X11_fails 2 μ) fun μ x7 => some (μ, 0, x7)) (rb (f_X11_hasGrade p1 μ) fun μ x4 => i_eq x4 0 (rb (f_X11_fails 3 μ) fun μ x5 => f_X11_gradeIf_56 p1 p2 p3 x5 μ) (rb (f_X11_gradeWith p1 p2 p3 μ) fun μ x6 => f_X11_gradeIf_56 p1 p2 p3 x6 μ)))
set_option maxRecDepth 100000 in
theorem c_X11_gradeIf (X : kX) (p1 : Int) (p2 : Int) (p3 : Int)  (μ : Mu) : Cq X mX11_gradeIf 8 1 μ [.ref (X.1 + 248), .int (iI p1), .int (iI p2), .int (iI p3)] (f_X11_gradeIf p1 p2 p3 μ) := by
  intro res h
  refine ct_of (by decide +kernel) rfl (Nat.le_of_ble_eq_true rfl) ?_
  show KK X mX11_gradeIf 8 1 res 0 [(0, .ref (X.1 + 248)), (1, .int (iI p1)), (2, .int (iI p2)), (3, .int (iI p3))] [] μ
  unfold f_X11_gradeIf at h
  refine K_aload_n (md := mX11_gradeIf) (pc := 0) 0 (kTab_at (pc := 0) tX11_gradeIf_ok 0 rfl) rfl ?_
  refine K_iload_n (md := mX11_gradeIf) (pc := 1) 1 (kTab_at (pc := 1) tX11_gradeIf_ok 1 rfl) rfl ?_
  refine K_iload_n (md := mX11_gradeIf) (pc := 2) 2 (kTab_at (pc := 2) tX11_gradeIf_ok 2 rfl) rfl ?_
  refine Z_callV (md := mX11_gradeIf) (pc := 3) (st := []) (sv := (fun x1 => [.int (iI x1)])) (kTab_at (pc := 3) tX11_gradeIf_ok 3 rfl) mv_X11_260 sk_248 rfl (Nat.le_of_ble_eq_true rfl) (by decide) rfl (c_X11_scriptRefusal X p1 p2 μ) (fun _ => rfl) h (fun μ x1 h => ?_) rfl
  refine K_if_le (md := mX11_gradeIf) (pc := 6) (kTab_at (pc := 6) tX11_gradeIf_ok 4 rfl) (tgt := 11) rfl h (fun h => ?_) (fun h => ?_)
  · refine K_iload_n (md := mX11_gradeIf) (pc := 11) 3 (kTab_at (pc := 11) tX11_gradeIf_ok 7 rfl) rfl ?_
    refine K_iconst (md := mX11_gradeIf) (pc := 12) (x := 0) (kTab_at (pc := 12) tX11_gradeIf_ok 8 rfl) rfl ?_
    refine K_aload_n (md := mX11_gradeIf) (pc := 13) 0 (kTab_at (pc := 13) tX11_gradeIf_ok 9 rfl) rfl ?_
    refine K_getR (md := mX11_gradeIf) (pc := 14) (b := 249) (kTab_at (pc := 14) tX11_gradeIf_ok 10 rfl) fl_X11_7 sk_248 rfl rfl ?_
    refine K_iconst (md := mX11_gradeIf) (pc := 17) (x := 0) (kTab_at (pc := 17) tX11_gradeIf_ok 11 rfl) rfl ?_
    refine K_iload_n (md := mX11_gradeIf) (pc := 18) 2 (kTab_at (pc := 18) tX11_gradeIf_ok 12 rfl) rfl ?_
    refine K_iadd (md := mX11_gradeIf) (pc := 19) (kTab_at (pc := 19) tX11_gradeIf_ok 13 rfl) ?_
    refine Z_iald (md := mX11_gradeIf) (pc := 20) (kTab_at (pc := 20) tX11_gradeIf_ok 14 rfl) sk_249 (by decide) h (fun x2 h => ?_)
    refine Z_callS (md := mX11_gradeIf) (pc := 21) (st := []) (sv := (fun x3 => [.int (iI x3)])) (kTab_at (pc := 21) tX11_gradeIf_ok 15 rfl) ms_X11_51 rfl (Nat.le_of_ble_eq_true rfl) (by decide) rfl (c_X11_in X p3 0 x2 μ) (fun _ => rfl) h (fun μ x3 h => ?_) rfl
    refine K_if_ne (md := mX11_gradeIf) (pc := 24) (kTab_at (pc := 24) tX11_gradeIf_ok 16 rfl) (tgt := 33) rfl h (fun h => ?_) (fun h => ?_)
    · refine K_aload_n (md := mX11_gradeIf) (pc := 33) 0 (kTab_at (pc := 33) tX11_gradeIf_ok 21 rfl) rfl ?_
      refine K_iload_n (md := mX11_gradeIf) (pc := 34) 1 (kTab_at (pc := 34) tX11_gradeIf_ok 22 rfl) rfl ?_
      refine Z_callV (md := mX11_gradeIf) (pc := 35) (st := []) (sv := (fun x4 => [.int (iI x4)])) (kTab_at (pc := 35) tX11_gradeIf_ok 23 rfl) mv_X11_115 sk_248 rfl (Nat.le_of_ble_eq_true rfl) (by decide) rfl (c_X11_hasGrade X p1 μ) (fun _ => rfl) h (fun μ x4 h => ?_) rfl
      refine K_if_eq (md := mX11_gradeIf) (pc := 38) (kTab_at (pc := 38) tX11_gradeIf_ok 24 rfl) (tgt := 51) rfl h (fun h => ?_) (fun h => ?_)
      · refine K_aload_n (md := mX11_gradeIf) (pc := 51) 0 (kTab_at (pc := 51) tX11_gradeIf_ok 31 rfl) rfl ?_
        refine K_iconst (md := mX11_gradeIf) (pc := 52) (x := 3) (kTab_at (pc := 52) tX11_gradeIf_ok 32 rfl) rfl ?_
        refine Z_callV (md := mX11_gradeIf) (pc := 53) (st := []) (sv := (fun x5 => [.int (iI x5)])) (kTab_at (pc := 53) tX11_gradeIf_ok 33 rfl) mv_X11_177 sk_248 rfl (Nat.le_of_ble_eq_true rfl) (by decide) rfl (c_X11_fails X 3 μ) (fun _ => rfl) h (fun μ x5 h => ?_) rfl
        refine K_sub [] rfl ?_
        refine c_X11_gradeIf_56 X p1 p2 p3  x5 μ h
      · refine K_aload_n (md := mX11_gradeIf) (pc := 41) 0 (kTab_at (pc := 41) tX11_gradeIf_ok 25 rfl) rfl ?_
        refine K_iload_n (md := mX11_gradeIf) (pc := 42) 1 (kTab_at (pc := 42) tX11_gradeIf_ok 26 rfl) rfl ?_
        refine K_iload_n (md := mX11_gradeIf) (pc := 43) 2 (kTab_at (pc := 43) tX11_gradeIf_ok 27 rfl) rfl ?_
        refine K_iload_n (md := mX11_gradeIf) (pc := 44) 3 (kTab_at (pc := 44) tX11_gradeIf_ok 28 rfl) rfl ?_
        refine Z_callV (md := mX11_gradeIf) (pc := 45) (st := []) (sv := (fun x6 => [.int (iI x6)])) (kTab_at (pc := 45) tX11_gradeIf_ok 29 rfl) mv_X11_281 sk_248 rfl (Nat.le_of_ble_eq_true rfl) (by decide) rfl (c_X11_gradeWith X p1 p2 p3 μ) (fun _ => rfl) h (fun μ x6 h => ?_) rfl
        refine K_goto (md := mX11_gradeIf) (pc := 48) (tgt := 56) (kTab_at (pc := 48) tX11_gradeIf_ok 30 rfl) rfl ?_
        refine K_sub [] rfl ?_
        refine c_X11_gradeIf_56 X p1 p2 p3  x6 μ h
    · refine K_aload_n (md := mX11_gradeIf) (pc := 27) 0 (kTab_at (pc := 27) tX11_gradeIf_ok 17 rfl) rfl ?_
      refine K_iconst (md := mX11_gradeIf) (pc := 28) (x := 2) (kTab_at (pc := 28) tX11_gradeIf_ok 18 rfl) rfl ?_
      refine Z_callV (md := mX11_gradeIf) (pc := 29) (st := []) (sv := (fun x7 => [.int (iI x7)])) (kTab_at (pc := 29) tX11_gradeIf_ok 19 rfl) mv_X11_177 sk_248 rfl (Nat.le_of_ble_eq_true rfl) (by decide) rfl (c_X11_fails X 2 μ) (fun _ => rfl) h (fun μ x7 h => ?_) rfl
      exact Z_iret (md := mX11_gradeIf) (pc := 32) (kTab_at (pc := 32) tX11_gradeIf_ok 20 rfl) rfl rfl rfl h
  · refine K_iconst (md := mX11_gradeIf) (pc := 9) (x := 0) (kTab_at (pc := 9) tX11_gradeIf_ok 5 rfl) rfl ?_
    exact Z_iret (md := mX11_gradeIf) (pc := 10) (kTab_at (pc := 10) tX11_gradeIf_ok 6 rfl) rfl rfl rfl h
def f_X11_needed_28 (p1 : Int) (p2 : Int) (p3 : Int)   (μ : Mu) : Option Res := rb (f_X11_fails 1 μ) fun μ x1 => some (μ, 0, x1)
set_option maxRecDepth 100000 in
theorem c_X11_needed_28 (X : kX) (p1 : Int) (p2 : Int) (p3 : Int)  {res : Res}  (μ : Mu) (h : f_X11_needed_28 p1 p2 p3 μ = some res) : KK X mX11_needed 8 1 res 28 [(0, .ref (X.1 + 248))] [] μ := by
  unfold f_X11_needed_28 at h
  refine K_aload_n (md := mX11_needed) (pc := 28) 0 (kTab_at (pc := 28) tX11_needed_ok 14 rfl) rfl ?_
  refine K_iconst (md := mX11_needed) (pc := 29) (x := 1) (kTab_at (pc := 29) tX11_needed_ok 15 rfl) rfl ?_
  refine Z_callV (md := mX11_needed) (pc := 30) (st := []) (sv := (fun x1 => [.int (iI x1)])) (kTab_at (pc := 30) tX11_needed_ok 16 rfl) mv_X11_177 sk_248 rfl (Nat.le_of_ble_eq_true rfl) (by decide) rfl (c_X11_fails X 1 μ) (fun _ => rfl) h (fun μ x1 h => ?_) rfl
  exact Z_iret (md := mX11_needed) (pc := 33) (kTab_at (pc := 33) tX11_needed_ok 17 rfl) rfl rfl rfl h
def f_X11_needed_51 (p1 : Int) (p2 : Int) (p3 : Int) (k76 : Int → Mu → Option Res) (k85 : Mu → Option Res) : Nat → Int → Mu → Option Res
  | 0, _, _ => none
  | fu + 1, v4, μ => rdI μ 249 779 (0 + p2) fun x1 => i_lt x1 v4 (k85 μ) (rb (f_X11_gradeWith p1 p2 v4 μ) fun μ x2 => i_lt p3 x2 ((f_X11_needed_51 p1 p2 p3 k76 k85 fu) (v4 + 1) μ) (k76 v4 μ))
set_option maxRecDepth 100000 in
theorem c_X11_needed_51 (X : kX) (p1 : Int) (p2 : Int) (p3 : Int)  {res : Res} (k76 : Int → Mu → Option Res) (hk76 : ∀ (v4 : Int), ∀ (μ : Mu), k76 v4 μ = some res → KK X mX11_needed 8 1 res 76 [(4, .int (iI v4))] [] μ) (k85 : Mu → Option Res) (hk85 : ∀ (μ : Mu), k85 μ = some res → KK X mX11_needed 8 1 res 85 [(0, .ref (X.1 + 248))] [] μ) : ∀ (fu : Nat)  (v4 : Int) (μ : Mu), f_X11_needed_51 p1 p2 p3 k76 k85 fu v4 μ = some res → KK X mX11_needed 8 1 res 51 [(0, .ref (X.1 + 248)), (1, .int (iI p1)), (2, .int (iI p2)), (3, .int (iI p3)), (4, .int (iI v4))] [] μ := by
  intro fu
  induction fu with
  | zero => intro v4 μ h; exact nomatch h
  | succ fu ih =>
    intro v4 μ h
    refine K_iload (md := mX11_needed) (pc := 51) 4 (kTab_at (pc := 51) tX11_needed_ok 28 rfl) rfl ?_
    refine K_aload_n (md := mX11_needed) (pc := 53) 0 (kTab_at (pc := 53) tX11_needed_ok 29 rfl) rfl ?_
    refine K_getR (md := mX11_needed) (pc := 54) (b := 249) (kTab_at (pc := 54) tX11_needed_ok 30 rfl) fl_X11_7 sk_248 rfl rfl ?_
    refine K_iconst (md := mX11_needed) (pc := 57) (x := 0) (kTab_at (pc := 57) tX11_needed_ok 31 rfl) rfl ?_
    refine K_iload_n (md := mX11_needed) (pc := 58) 2 (kTab_at (pc := 58) tX11_needed_ok 32 rfl) rfl ?_
    refine K_iadd (md := mX11_needed) (pc := 59) (kTab_at (pc := 59) tX11_needed_ok 33 rfl) ?_
    refine Z_iald (md := mX11_needed) (pc := 60) (kTab_at (pc := 60) tX11_needed_ok 34 rfl) sk_249 (by decide) h (fun x1 h => ?_)
    refine K_icmp_gt (md := mX11_needed) (pc := 61) (kTab_at (pc := 61) tX11_needed_ok 35 rfl) (tgt := 85) rfl h (fun h => ?_) (fun h => ?_)
    · refine K_sub [0] rfl ?_
      exact hk85 μ h
    · refine K_aload_n (md := mX11_needed) (pc := 64) 0 (kTab_at (pc := 64) tX11_needed_ok 36 rfl) rfl ?_
      refine K_iload_n (md := mX11_needed) (pc := 65) 1 (kTab_at (pc := 65) tX11_needed_ok 37 rfl) rfl ?_
      refine K_iload_n (md := mX11_needed) (pc := 66) 2 (kTab_at (pc := 66) tX11_needed_ok 38 rfl) rfl ?_
      refine K_iload (md := mX11_needed) (pc := 67) 4 (kTab_at (pc := 67) tX11_needed_ok 39 rfl) rfl ?_
      refine Z_callV (md := mX11_needed) (pc := 69) (st := []) (sv := (fun x2 => [.int (iI x2)])) (kTab_at (pc := 69) tX11_needed_ok 40 rfl) mv_X11_281 sk_248 rfl (Nat.le_of_ble_eq_true rfl) (by decide) rfl (c_X11_gradeWith X p1 p2 v4 μ) (fun _ => rfl) h (fun μ x2 h => ?_) rfl
      refine K_iload_n (md := mX11_needed) (pc := 72) 3 (kTab_at (pc := 72) tX11_needed_ok 41 rfl) rfl ?_
      refine K_icmp_gt (md := mX11_needed) (pc := 73) (kTab_at (pc := 73) tX11_needed_ok 42 rfl) (tgt := 79) rfl h (fun h => ?_) (fun h => ?_)
      · refine K_iinc (md := mX11_needed) (pc := 79) (l' := [(4, .int (iI (v4 + 1))), (0, .ref (X.1 + 248)), (1, .int (iI p1)), (2, .int (iI p2)), (3, .int (iI p3))]) 4 (kTab_at (pc := 79) tX11_needed_ok 45 rfl) rfl (Nat.le_of_ble_eq_true rfl) rfl ?_
        refine K_goto (md := mX11_needed) (pc := 82) (tgt := 51) (kTab_at (pc := 82) tX11_needed_ok 46 rfl) rfl ?_
        refine K_sub [1, 2, 3, 4, 0] rfl ?_
        exact ih (v4 + 1) μ h
      · refine K_sub [4] rfl ?_
        exact hk76 v4 μ h
def f_X11_needed (p1 : Int) (p2 : Int) (p3 : Int) (μ : Mu) : Option Res := wrF μ 248 0 0 fun μ => rb (f_X11_isCandidate p1 μ) fun μ x1 => i_eq x1 0 (f_X11_needed_28 p1 p2 p3 μ) (rb (f_X11_isQuestion p2 μ) fun μ x2 => i_eq x2 0 (f_X11_needed_28 p1 p2 p3 μ) (rb (f_X11_in p3 0 4 μ) fun μ x3 => i_eq x3 0 (f_X11_needed_28 p1 p2 p3 μ) (rb (f_X11_hasGrade p1 μ) fun μ x4 => i_eq x4 0 (rb (f_X11_fails 2 μ) fun μ x6 => some (μ, 0, x6)) (f_X11_needed_51 p1 p2 p3 (fun v4 μ => some (μ, 0, v4)) (fun μ => rb (f_X11_fails 2 μ) fun μ x5 => some (μ, 0, x5)) FU 0 μ))))
set_option maxRecDepth 100000 in
theorem c_X11_needed (X : kX) (p1 : Int) (p2 : Int) (p3 : Int)  (μ : Mu) : Cq X mX11_needed 8 1 μ [.ref (X.1 + 248), .int (iI p1), .int (iI p2), .int (iI p3)] (f_X11_needed p1 p2 p3 μ) := by
  intro res h
  refine ct_of (by decide +kernel) rfl (Nat.le_of_ble_eq_true rfl) ?_
  show KK X mX11_needed 8 1 res 0 [(0, .ref (X.1 + 248)), (1, .int (iI p1)), (2, .int (iI p2)), (3, .int (iI p3))] [] μ
  unfold f_X11_needed at h
  refine K_aload_n (md := mX11_needed) (pc := 0) 0 (kTab_at (pc := 0) tX11_needed_ok 0 rfl) rfl ?_
  refine K_iconst (md := mX11_needed) (pc := 1) (x := 0) (kTab_at (pc := 1) tX11_needed_ok 1 rfl) rfl ?_
  refine Z_putI (md := mX11_needed) (pc := 2) (kTab_at (pc := 2) tX11_needed_ok 2 rfl) fl_X11_48 sk_248 rfl h (fun μ h => ?_)
  refine K_iload_n (md := mX11_needed) (pc := 5) 1 (kTab_at (pc := 5) tX11_needed_ok 3 rfl) rfl ?_
  refine Z_callS (md := mX11_needed) (pc := 6) (st := []) (sv := (fun x1 => [.int (iI x1)])) (kTab_at (pc := 6) tX11_needed_ok 4 rfl) ms_X11_214 rfl (Nat.le_of_ble_eq_true rfl) (by decide) rfl (c_X11_isCandidate X p1 μ) (fun _ => rfl) h (fun μ x1 h => ?_) rfl
  refine K_if_eq (md := mX11_needed) (pc := 9) (kTab_at (pc := 9) tX11_needed_ok 5 rfl) (tgt := 28) rfl h (fun h => ?_) (fun h => ?_)
  · refine K_sub [0] rfl ?_
    refine c_X11_needed_28 X p1 p2 p3  μ h
  · refine K_iload_n (md := mX11_needed) (pc := 12) 2 (kTab_at (pc := 12) tX11_needed_ok 6 rfl) rfl ?_
    refine Z_callS (md := mX11_needed) (pc := 13) (st := []) (sv := (fun x2 => [.int (iI x2)])) (kTab_at (pc := 13) tX11_needed_ok 7 rfl) ms_X11_180 rfl (Nat.le_of_ble_eq_true rfl) (by decide) rfl (c_X11_isQuestion X p2 μ) (fun _ => rfl) h (fun μ x2 h => ?_) rfl
    refine K_if_eq (md := mX11_needed) (pc := 16) (kTab_at (pc := 16) tX11_needed_ok 8 rfl) (tgt := 28) rfl h (fun h => ?_) (fun h => ?_)
    · refine K_sub [0] rfl ?_
      refine c_X11_needed_28 X p1 p2 p3  μ h
    · refine K_iload_n (md := mX11_needed) (pc := 19) 3 (kTab_at (pc := 19) tX11_needed_ok 9 rfl) rfl ?_
      refine K_iconst (md := mX11_needed) (pc := 20) (x := 0) (kTab_at (pc := 20) tX11_needed_ok 10 rfl) rfl ?_
      refine K_iconst (md := mX11_needed) (pc := 21) (x := 4) (kTab_at (pc := 21) tX11_needed_ok 11 rfl) rfl ?_
      refine Z_callS (md := mX11_needed) (pc := 22) (st := []) (sv := (fun x3 => [.int (iI x3)])) (kTab_at (pc := 22) tX11_needed_ok 12 rfl) ms_X11_51 rfl (Nat.le_of_ble_eq_true rfl) (by decide) rfl (c_X11_in X p3 0 4 μ) (fun _ => rfl) h (fun μ x3 h => ?_) rfl
      refine K_if_ne (md := mX11_needed) (pc := 25) (kTab_at (pc := 25) tX11_needed_ok 13 rfl) (tgt := 34) rfl h (fun h => ?_) (fun h => ?_)
      · refine K_aload_n (md := mX11_needed) (pc := 34) 0 (kTab_at (pc := 34) tX11_needed_ok 18 rfl) rfl ?_
        refine K_iload_n (md := mX11_needed) (pc := 35) 1 (kTab_at (pc := 35) tX11_needed_ok 19 rfl) rfl ?_
        refine Z_callV (md := mX11_needed) (pc := 36) (st := []) (sv := (fun x4 => [.int (iI x4)])) (kTab_at (pc := 36) tX11_needed_ok 20 rfl) mv_X11_115 sk_248 rfl (Nat.le_of_ble_eq_true rfl) (by decide) rfl (c_X11_hasGrade X p1 μ) (fun _ => rfl) h (fun μ x4 h => ?_) rfl
        refine K_if_ne (md := mX11_needed) (pc := 39) (kTab_at (pc := 39) tX11_needed_ok 21 rfl) (tgt := 48) rfl h (fun h => ?_) (fun h => ?_)
        · refine K_iconst (md := mX11_needed) (pc := 48) (x := 0) (kTab_at (pc := 48) tX11_needed_ok 26 rfl) rfl ?_
          refine K_istore (md := mX11_needed) (pc := 49) (l' := [(4, .int (iI 0)), (0, .ref (X.1 + 248)), (1, .int (iI p1)), (2, .int (iI p2)), (3, .int (iI p3))]) (kTab_at (pc := 49) tX11_needed_ok 27 rfl) (Nat.le_of_ble_eq_true rfl) rfl ?_
          refine K_sub [1, 2, 3, 4, 0] rfl ?_
          refine c_X11_needed_51 X p1 p2 p3 _ ?_ _ ?_ _ 0 μ h
          · intro v4 μ h
            refine K_iload (md := mX11_needed) (pc := 76) 0 (kTab_at (pc := 76) tX11_needed_ok 43 rfl) rfl ?_
            exact Z_iret (md := mX11_needed) (pc := 78) (kTab_at (pc := 78) tX11_needed_ok 44 rfl) rfl rfl rfl h
          · intro  μ h
            refine K_aload_n (md := mX11_needed) (pc := 85) 0 (kTab_at (pc := 85) tX11_needed_ok 47 rfl) rfl ?_
            refine K_iconst (md := mX11_needed) (pc := 86) (x := 2) (kTab_at (pc := 86) tX11_needed_ok 48 rfl) rfl ?_
            refine Z_callV (md := mX11_needed) (pc := 87) (st := []) (sv := (fun x5 => [.int (iI x5)])) (kTab_at (pc := 87) tX11_needed_ok 49 rfl) mv_X11_177 sk_248 rfl (Nat.le_of_ble_eq_true rfl) (by decide) rfl (c_X11_fails X 2 μ) (fun _ => rfl) h (fun μ x5 h => ?_) rfl
            exact Z_iret (md := mX11_needed) (pc := 90) (kTab_at (pc := 90) tX11_needed_ok 50 rfl) rfl rfl rfl h
        · refine K_aload_n (md := mX11_needed) (pc := 42) 0 (kTab_at (pc := 42) tX11_needed_ok 22 rfl) rfl ?_
          refine K_iconst (md := mX11_needed) (pc := 43) (x := 2) (kTab_at (pc := 43) tX11_needed_ok 23 rfl) rfl ?_
          refine Z_callV (md := mX11_needed) (pc := 44) (st := []) (sv := (fun x6 => [.int (iI x6)])) (kTab_at (pc := 44) tX11_needed_ok 24 rfl) mv_X11_177 sk_248 rfl (Nat.le_of_ble_eq_true rfl) (by decide) rfl (c_X11_fails X 2 μ) (fun _ => rfl) h (fun μ x6 h => ?_) rfl
          exact Z_iret (md := mX11_needed) (pc := 47) (kTab_at (pc := 47) tX11_needed_ok 25 rfl) rfl rfl rfl h
      · refine K_sub [0] rfl ?_
        refine c_X11_needed_28 X p1 p2 p3  μ h
def f_Jxe99ae_isNaN_b9ae7_11 (p0 : UInt64)  (s0 : Int) (μ : Mu) : Option Res := retZ μ s0
set_option maxRecDepth 100000 in
theorem c_Jxe99ae_isNaN_b9ae7_11 (X : kX) (p0 : UInt64)  {res : Res}  (s0 : Int) (μ : Mu) (h : f_Jxe99ae_isNaN_b9ae7_11 p0 s0 μ = some res) : KK X mJxe99ae_isNaN_b9ae7 0 1 res 11 [] [.int (iI s0)] μ := by
  unfold f_Jxe99ae_isNaN_b9ae7_11 at h
  exact Z_zret (md := mJxe99ae_isNaN_b9ae7) (pc := 11) (kTab_at (pc := 11) tJxe99ae_isNaN_b9ae7_ok 7 rfl) rfl rfl h
def f_Jxe99ae_isNaN_b9ae7 (p0 : UInt64) (μ : Mu) : Option Res := i_eq (dcI .l p0 p0) 0 (f_Jxe99ae_isNaN_b9ae7_11 p0 0 μ) (f_Jxe99ae_isNaN_b9ae7_11 p0 1 μ)
set_option maxRecDepth 100000 in
theorem c_Jxe99ae_isNaN_b9ae7 (X : kX) (p0 : UInt64)  (μ : Mu) : Cq X mJxe99ae_isNaN_b9ae7 0 1 μ [.double p0] (f_Jxe99ae_isNaN_b9ae7 p0 μ) := by
  intro res h
  refine ct_ofF (by decide +kernel) rfl (Nat.le_of_ble_eq_true rfl) ?_
  show KK X mJxe99ae_isNaN_b9ae7 0 1 res 0 [(0, .double p0)] [] μ
  unfold f_Jxe99ae_isNaN_b9ae7 at h
  refine K_dload_n (md := mJxe99ae_isNaN_b9ae7) (pc := 0) 0 (kTab_at (pc := 0) tJxe99ae_isNaN_b9ae7_ok 0 rfl) rfl ?_
  refine K_dload_n (md := mJxe99ae_isNaN_b9ae7) (pc := 1) 0 (kTab_at (pc := 1) tJxe99ae_isNaN_b9ae7_ok 1 rfl) rfl ?_
  refine K_dcmp (md := mJxe99ae_isNaN_b9ae7) (pc := 2) (kTab_at (pc := 2) tJxe99ae_isNaN_b9ae7_ok 2 rfl) ?_
  refine K_if_eq (md := mJxe99ae_isNaN_b9ae7) (pc := 3) (kTab_at (pc := 3) tJxe99ae_isNaN_b9ae7_ok 3 rfl) (tgt := 10) rfl h (fun h => ?_) (fun h => ?_)
  · refine K_iconst (md := mJxe99ae_isNaN_b9ae7) (pc := 10) (x := 0) (kTab_at (pc := 10) tJxe99ae_isNaN_b9ae7_ok 6 rfl) rfl ?_
    refine K_sub [] rfl ?_
    refine c_Jxe99ae_isNaN_b9ae7_11 X p0  0 μ h
  · refine K_iconst (md := mJxe99ae_isNaN_b9ae7) (pc := 6) (x := 1) (kTab_at (pc := 6) tJxe99ae_isNaN_b9ae7_ok 4 rfl) rfl ?_
    refine K_goto (md := mJxe99ae_isNaN_b9ae7) (pc := 7) (tgt := 11) (kTab_at (pc := 7) tJxe99ae_isNaN_b9ae7_ok 5 rfl) rfl ?_
    refine K_sub [] rfl ?_
    refine c_Jxe99ae_isNaN_b9ae7_11 X p0  1 μ h
def f_Jxe99ae_doubleToLongBits_ccdee (p0 : UInt64) (μ : Mu) : Option Res := rb (f_Jxe99ae_isNaN_b9ae7 p0 μ) fun μ x1 => i_eq x1 0 (some (μ, 0, ((p0).toInt64.toInt))) (some (μ, 0, 9221120237041090560))
set_option maxRecDepth 100000 in
theorem c_Jxe99ae_doubleToLongBits_ccdee (X : kX) (p0 : UInt64)  (μ : Mu) : Cq X mJxe99ae_doubleToLongBits_ccdee 1 2 μ [.double p0] (f_Jxe99ae_doubleToLongBits_ccdee p0 μ) := by
  intro res h
  refine ct_ofF (by decide +kernel) rfl (Nat.le_of_ble_eq_true rfl) ?_
  show KK X mJxe99ae_doubleToLongBits_ccdee 1 2 res 0 [(0, .double p0)] [] μ
  unfold f_Jxe99ae_doubleToLongBits_ccdee at h
  refine K_dload_n (md := mJxe99ae_doubleToLongBits_ccdee) (pc := 0) 0 (kTab_at (pc := 0) tJxe99ae_doubleToLongBits_ccdee_ok 0 rfl) rfl ?_
  refine Z_callS (md := mJxe99ae_doubleToLongBits_ccdee) (pc := 1) (st := []) (sv := (fun x1 => [.int (iI x1)])) (kTab_at (pc := 1) tJxe99ae_doubleToLongBits_ccdee_ok 1 rfl) ms_Jxe99ae_122 rfl (Nat.le_of_ble_eq_true rfl) (by decide) rfl (c_Jxe99ae_isNaN_b9ae7 X p0 μ) (fun _ => rfl) h (fun μ x1 h => ?_) rfl
  refine K_if_ne (md := mJxe99ae_doubleToLongBits_ccdee) (pc := 4) (kTab_at (pc := 4) tJxe99ae_doubleToLongBits_ccdee_ok 2 rfl) (tgt := 12) rfl h (fun h => ?_) (fun h => ?_)
  · refine K_ldc2 (md := mJxe99ae_doubleToLongBits_ccdee) (pc := 12) (x := 9221120237041090560) (v := 9221120237041090560) (kTab_at (pc := 12) tJxe99ae_doubleToLongBits_ccdee_ok 6 rfl) (inT7 198 (by decide +kernel) rfl) (by decide) ?_
    exact Z_lret (md := mJxe99ae_doubleToLongBits_ccdee) (pc := 15) (kTab_at (pc := 15) tJxe99ae_doubleToLongBits_ccdee_ok 7 rfl) rfl rfl h
  · refine K_dload_n (md := mJxe99ae_doubleToLongBits_ccdee) (pc := 7) 0 (kTab_at (pc := 7) tJxe99ae_doubleToLongBits_ccdee_ok 3 rfl) rfl ?_
    refine K_d2raw (md := mJxe99ae_doubleToLongBits_ccdee) (pc := 8) (kTab_at (pc := 8) tJxe99ae_doubleToLongBits_ccdee_ok 4 rfl) (inT7 195 (by decide +kernel) rfl) (inT7 197 (by decide +kernel) rfl) (inT7 196 (by decide +kernel) rfl) (inT1 30 (by decide +kernel) rfl) (Nat.le_of_ble_eq_true rfl) ?_
    exact Z_lret (md := mJxe99ae_doubleToLongBits_ccdee) (pc := 11) (kTab_at (pc := 11) tJxe99ae_doubleToLongBits_ccdee_ok 5 rfl) rfl rfl h
def f_X11_meanBits_114 (p1 : Int)  (s0 : Int) (μ : Mu) : Option Res := some (μ, 0, s0)
set_option maxRecDepth 100000 in
theorem c_X11_meanBits_114 (X : kX) (p1 : Int)  {res : Res}  (s0 : Int) (μ : Mu) (h : f_X11_meanBits_114 p1 s0 μ = some res) : KK X mX11_meanBits 6 2 res 114 [] [.long (iL s0)] μ := by
  unfold f_X11_meanBits_114 at h
  exact Z_lret (md := mX11_meanBits) (pc := 114) (kTab_at (pc := 114) tX11_meanBits_ok 60 rfl) rfl rfl h
def f_X11_meanBits_91 (p1 : Int)  (v2 : Int) (v3 : Int) (μ : Mu) : Option Res := rdF μ 248 0 fun x1 => i_lt 0 x1 (f_X11_meanBits_114 p1 0 μ) (d_ck (FP.ddiv (FP.i2d (iI v2)) (4638144666238189568 : UInt64)) fun x2 => d_ck (FP.ddiv x2 (FP.i2d (iI v3))) fun x3 => rb (f_Jxe99ae_doubleToLongBits_ccdee x3 μ) fun μ x4 => f_X11_meanBits_114 p1 x4 μ)
set_option maxRecDepth 100000 in
theorem c_X11_meanBits_91 (X : kX) (p1 : Int)  {res : Res}  (v2 : Int) (v3 : Int) (μ : Mu) (h : f_X11_meanBits_91 p1 v2 v3 μ = some res) : KK X mX11_meanBits 6 2 res 91 [(0, .ref (X.1 + 248)), (2, .int (iI v2)), (3, .int (iI v3))] [] μ := by
  unfold f_X11_meanBits_91 at h
  refine K_aload_n (md := mX11_meanBits) (pc := 91) 0 (kTab_at (pc := 91) tX11_meanBits_ok 47 rfl) rfl ?_
  refine Z_getI (md := mX11_meanBits) (pc := 92) (kTab_at (pc := 92) tX11_meanBits_ok 48 rfl) fl_X11_48 sk_248 (Or.inl rfl) h (fun x1 h => ?_)
  refine K_if_le (md := mX11_meanBits) (pc := 95) (kTab_at (pc := 95) tX11_meanBits_ok 49 rfl) (tgt := 102) rfl h (fun h => ?_) (fun h => ?_)
  · refine K_iload_n (md := mX11_meanBits) (pc := 102) 1 (kTab_at (pc := 102) tX11_meanBits_ok 52 rfl) rfl ?_
    refine K_i2d (md := mX11_meanBits) (pc := 103) (kTab_at (pc := 103) tX11_meanBits_ok 53 rfl) ?_
    refine K_ldc2d (md := mX11_meanBits) (pc := 104) (v := 4638144666238189568) (kTab_at (pc := 104) tX11_meanBits_ok 54 rfl) (inT7 188 (by decide +kernel) rfl) ?_
    refine Z_ddiv (md := mX11_meanBits) (pc := 107) (kTab_at (pc := 107) tX11_meanBits_ok 55 rfl) h (fun x2 h => ?_)
    refine K_iload_n (md := mX11_meanBits) (pc := 108) 2 (kTab_at (pc := 108) tX11_meanBits_ok 56 rfl) rfl ?_
    refine K_i2d (md := mX11_meanBits) (pc := 109) (kTab_at (pc := 109) tX11_meanBits_ok 57 rfl) ?_
    refine Z_ddiv (md := mX11_meanBits) (pc := 110) (kTab_at (pc := 110) tX11_meanBits_ok 58 rfl) h (fun x3 h => ?_)
    refine Z_callS (md := mX11_meanBits) (pc := 111) (st := []) (sv := (fun x4 => [.long (iL x4)])) (kTab_at (pc := 111) tX11_meanBits_ok 59 rfl) ms_X11_286 rfl (Nat.le_of_ble_eq_true rfl) (by decide) rfl (c_Jxe99ae_doubleToLongBits_ccdee X x3 μ) (fun _ => rfl) h (fun μ x4 h => ?_) rfl
    refine K_sub [] rfl ?_
    refine c_X11_meanBits_114 X p1  x4 μ h
  · refine K_lconst (md := mX11_meanBits) (pc := 98) (x := 0) (kTab_at (pc := 98) tX11_meanBits_ok 50 rfl) rfl ?_
    refine K_goto (md := mX11_meanBits) (pc := 99) (tgt := 114) (kTab_at (pc := 99) tX11_meanBits_ok 51 rfl) rfl ?_
    refine K_sub [] rfl ?_
    refine c_X11_meanBits_114 X p1  0 μ h
def f_X11_meanBits_75 (p1 : Int)  (v2 : Int) (v3 : Int) (μ : Mu) : Option Res := rdF μ 248 0 fun x1 => i_eq x1 0 (i_eq v3 0 (wrF μ 248 0 2 fun μ => f_X11_meanBits_91 p1 v2 v3 μ) (f_X11_meanBits_91 p1 v2 v3 μ)) (f_X11_meanBits_91 p1 v2 v3 μ)
set_option maxRecDepth 100000 in
theorem c_X11_meanBits_75 (X : kX) (p1 : Int)  {res : Res}  (v2 : Int) (v3 : Int) (μ : Mu) (h : f_X11_meanBits_75 p1 v2 v3 μ = some res) : KK X mX11_meanBits 6 2 res 75 [(0, .ref (X.1 + 248)), (2, .int (iI v2)), (3, .int (iI v3))] [] μ := by
  unfold f_X11_meanBits_75 at h
  refine K_aload_n (md := mX11_meanBits) (pc := 75) 0 (kTab_at (pc := 75) tX11_meanBits_ok 39 rfl) rfl ?_
  refine Z_getI (md := mX11_meanBits) (pc := 76) (kTab_at (pc := 76) tX11_meanBits_ok 40 rfl) fl_X11_48 sk_248 (Or.inl rfl) h (fun x1 h => ?_)
  refine K_if_ne (md := mX11_meanBits) (pc := 79) (kTab_at (pc := 79) tX11_meanBits_ok 41 rfl) (tgt := 91) rfl h (fun h => ?_) (fun h => ?_)
  · refine c_X11_meanBits_91 X p1  v2 v3 μ h
  · refine K_iload_n (md := mX11_meanBits) (pc := 82) 2 (kTab_at (pc := 82) tX11_meanBits_ok 42 rfl) rfl ?_
    refine K_if_ne (md := mX11_meanBits) (pc := 83) (kTab_at (pc := 83) tX11_meanBits_ok 43 rfl) (tgt := 91) rfl h (fun h => ?_) (fun h => ?_)
    · refine c_X11_meanBits_91 X p1  v2 v3 μ h
    · refine K_aload_n (md := mX11_meanBits) (pc := 86) 0 (kTab_at (pc := 86) tX11_meanBits_ok 44 rfl) rfl ?_
      refine K_iconst (md := mX11_meanBits) (pc := 87) (x := 2) (kTab_at (pc := 87) tX11_meanBits_ok 45 rfl) rfl ?_
      refine Z_putI (md := mX11_meanBits) (pc := 88) (kTab_at (pc := 88) tX11_meanBits_ok 46 rfl) fl_X11_48 sk_248 rfl h (fun μ h => ?_)
      refine c_X11_meanBits_91 X p1  v2 v3 μ h
def f_X11_meanBits_69 (p1 : Int) (k23 : Int → Int → Int → Mu → Option Res) (v2 : Int) (v3 : Int) (v4 : Int) (μ : Mu) : Option Res := k23 v2 v3 (v4 + 1) μ
set_option maxRecDepth 100000 in
theorem c_X11_meanBits_69 (X : kX) (p1 : Int)  {res : Res} (k23 : Int → Int → Int → Mu → Option Res) (hk23 : ∀ (v2 : Int), ∀ (v3 : Int), ∀ (v4 : Int), ∀ (μ : Mu), k23 v2 v3 v4 μ = some res → KK X mX11_meanBits 6 2 res 23 [(0, .ref (X.1 + 248)), (1, .int (iI p1)), (2, .int (iI v2)), (3, .int (iI v3)), (4, .int (iI v4))] [] μ) (v2 : Int) (v3 : Int) (v4 : Int) (μ : Mu) (h : f_X11_meanBits_69 p1 k23 v2 v3 v4 μ = some res) : KK X mX11_meanBits 6 2 res 69 [(0, .ref (X.1 + 248)), (1, .int (iI p1)), (2, .int (iI v2)), (3, .int (iI v3)), (4, .int (iI v4))] [] μ := by
  unfold f_X11_meanBits_69 at h
  refine K_iinc (md := mX11_meanBits) (pc := 69) (l' := [(4, .int (iI (v4 + 1))), (0, .ref (X.1 + 248)), (1, .int (iI p1)), (2, .int (iI v2)), (3, .int (iI v3))]) 4 (kTab_at (pc := 69) tX11_meanBits_ok 37 rfl) rfl (Nat.le_of_ble_eq_true rfl) rfl ?_
  refine K_goto (md := mX11_meanBits) (pc := 72) (tgt := 23) (kTab_at (pc := 72) tX11_meanBits_ok 38 rfl) rfl ?_
  refine K_sub [1, 2, 3, 4, 0] rfl ?_
  exact hk23 v2 v3 (v4 + 1) μ h
def f_X11_meanBits_23 (p1 : Int) (k75 : Int → Int → Mu → Option Res) : Nat → Int → Int → Int → Mu → Option Res
  | 0, _, _, _, _ => none
  | fu + 1, v2, v3, v4, μ => i_lt v4 8 (rdF μ 248 0 fun x1 => i_eq x1 0 (rb (f_X11_hasGrade v4 μ) fun μ x2 => i_eq x2 0 (f_X11_meanBits_69 p1 (f_X11_meanBits_23 p1 k75 fu) v2 v3 v4 μ) (rb (f_X11_isExcused v4 p1 μ) fun μ x3 => i_eq x3 0 (rb (f_X11_settled v4 p1 μ) fun μ x4 => bnd (v2 + x4) fun x5 => f_X11_meanBits_69 p1 (f_X11_meanBits_23 p1 k75 fu) x5 (v3 + 1) v4 μ) (f_X11_meanBits_69 p1 (f_X11_meanBits_23 p1 k75 fu) v2 v3 v4 μ))) (k75 v2 v3 μ)) (k75 v2 v3 μ)
set_option maxRecDepth 100000 in
theorem c_X11_meanBits_23 (X : kX) (p1 : Int)  {res : Res} (k75 : Int → Int → Mu → Option Res) (hk75 : ∀ (v2 : Int), ∀ (v3 : Int), ∀ (μ : Mu), k75 v2 v3 μ = some res → KK X mX11_meanBits 6 2 res 75 [(0, .ref (X.1 + 248)), (2, .int (iI v2)), (3, .int (iI v3))] [] μ) : ∀ (fu : Nat)  (v2 : Int) (v3 : Int) (v4 : Int) (μ : Mu), f_X11_meanBits_23 p1 k75 fu v2 v3 v4 μ = some res → KK X mX11_meanBits 6 2 res 23 [(0, .ref (X.1 + 248)), (1, .int (iI p1)), (2, .int (iI v2)), (3, .int (iI v3)), (4, .int (iI v4))] [] μ := by
  intro fu
  induction fu with
  | zero => intro v2 v3 v4 μ h; exact nomatch h
  | succ fu ih =>
    intro v2 v3 v4 μ h
    refine K_iload (md := mX11_meanBits) (pc := 23) 4 (kTab_at (pc := 23) tX11_meanBits_ok 14 rfl) rfl ?_
    refine K_bipush (md := mX11_meanBits) (pc := 25) (x := 8) (kTab_at (pc := 25) tX11_meanBits_ok 15 rfl) (by decide) ?_
    refine K_icmp_ge (md := mX11_meanBits) (pc := 27) (kTab_at (pc := 27) tX11_meanBits_ok 16 rfl) (tgt := 75) rfl h (fun h => ?_) (fun h => ?_)
    · refine K_sub [0, 2, 3] rfl ?_
      exact hk75 v2 v3 μ h
    · refine K_aload_n (md := mX11_meanBits) (pc := 30) 0 (kTab_at (pc := 30) tX11_meanBits_ok 17 rfl) rfl ?_
      refine Z_getI (md := mX11_meanBits) (pc := 31) (kTab_at (pc := 31) tX11_meanBits_ok 18 rfl) fl_X11_48 sk_248 (Or.inl rfl) h (fun x1 h => ?_)
      refine K_if_ne (md := mX11_meanBits) (pc := 34) (kTab_at (pc := 34) tX11_meanBits_ok 19 rfl) (tgt := 75) rfl h (fun h => ?_) (fun h => ?_)
      · refine K_sub [0, 2, 3] rfl ?_
        exact hk75 v2 v3 μ h
      · refine K_aload_n (md := mX11_meanBits) (pc := 37) 0 (kTab_at (pc := 37) tX11_meanBits_ok 20 rfl) rfl ?_
        refine K_iload (md := mX11_meanBits) (pc := 38) 4 (kTab_at (pc := 38) tX11_meanBits_ok 21 rfl) rfl ?_
        refine Z_callV (md := mX11_meanBits) (pc := 40) (st := []) (sv := (fun x2 => [.int (iI x2)])) (kTab_at (pc := 40) tX11_meanBits_ok 22 rfl) mv_X11_115 sk_248 rfl (Nat.le_of_ble_eq_true rfl) (by decide) rfl (c_X11_hasGrade X v4 μ) (fun _ => rfl) h (fun μ x2 h => ?_) rfl
        refine K_if_eq (md := mX11_meanBits) (pc := 43) (kTab_at (pc := 43) tX11_meanBits_ok 23 rfl) (tgt := 69) rfl h (fun h => ?_) (fun h => ?_)
        · refine c_X11_meanBits_69 X p1 _ ih v2 v3 v4 μ h
        · refine K_aload_n (md := mX11_meanBits) (pc := 46) 0 (kTab_at (pc := 46) tX11_meanBits_ok 24 rfl) rfl ?_
          refine K_iload (md := mX11_meanBits) (pc := 47) 4 (kTab_at (pc := 47) tX11_meanBits_ok 25 rfl) rfl ?_
          refine K_iload_n (md := mX11_meanBits) (pc := 49) 1 (kTab_at (pc := 49) tX11_meanBits_ok 26 rfl) rfl ?_
          refine Z_callV (md := mX11_meanBits) (pc := 50) (st := []) (sv := (fun x3 => [.int (iI x3)])) (kTab_at (pc := 50) tX11_meanBits_ok 27 rfl) mv_X11_121 sk_248 rfl (Nat.le_of_ble_eq_true rfl) (by decide) rfl (c_X11_isExcused X v4 p1 μ) (fun _ => rfl) h (fun μ x3 h => ?_) rfl
          refine K_if_ne (md := mX11_meanBits) (pc := 53) (kTab_at (pc := 53) tX11_meanBits_ok 28 rfl) (tgt := 69) rfl h (fun h => ?_) (fun h => ?_)
          · refine c_X11_meanBits_69 X p1 _ ih v2 v3 v4 μ h
          · refine K_iload_n (md := mX11_meanBits) (pc := 56) 2 (kTab_at (pc := 56) tX11_meanBits_ok 29 rfl) rfl ?_
            refine K_aload_n (md := mX11_meanBits) (pc := 57) 0 (kTab_at (pc := 57) tX11_meanBits_ok 30 rfl) rfl ?_
            refine K_iload (md := mX11_meanBits) (pc := 58) 4 (kTab_at (pc := 58) tX11_meanBits_ok 31 rfl) rfl ?_
            refine K_iload_n (md := mX11_meanBits) (pc := 60) 1 (kTab_at (pc := 60) tX11_meanBits_ok 32 rfl) rfl ?_
            refine Z_callV (md := mX11_meanBits) (pc := 61) (st := [.int (iI v2)]) (sv := (fun x4 => [.int (iI x4), .int (iI v2)])) (kTab_at (pc := 61) tX11_meanBits_ok 33 rfl) mv_X11_118 sk_248 rfl (Nat.le_of_ble_eq_true rfl) (by decide) rfl (c_X11_settled X v4 p1 μ) (fun _ => rfl) h (fun μ x4 h => ?_) rfl
            refine K_iadd (md := mX11_meanBits) (pc := 64) (kTab_at (pc := 64) tX11_meanBits_ok 34 rfl) ?_
            refine Z_bnd (md := mX11_meanBits) (pc := 65) h (fun x5 h => ?_)
            refine K_istore_n (md := mX11_meanBits) (pc := 65) (l' := [(2, .int (iI x5)), (0, .ref (X.1 + 248)), (1, .int (iI p1)), (3, .int (iI v3)), (4, .int (iI v4))]) (kTab_at (pc := 65) tX11_meanBits_ok 35 rfl) (Nat.le_of_ble_eq_true rfl) rfl ?_
            refine K_iinc (md := mX11_meanBits) (pc := 66) (l' := [(3, .int (iI (v3 + 1))), (2, .int (iI x5)), (0, .ref (X.1 + 248)), (1, .int (iI p1)), (4, .int (iI v4))]) 3 (kTab_at (pc := 66) tX11_meanBits_ok 36 rfl) rfl (Nat.le_of_ble_eq_true rfl) rfl ?_
            refine K_sub [2, 3, 1, 0, 4] rfl ?_
            refine c_X11_meanBits_69 X p1 _ ih x5 (v3 + 1) v4 μ h
def f_X11_meanBits_13 (p1 : Int)  (s1 : Int) (μ : Mu) : Option Res := wrF μ 248 0 s1 fun μ => f_X11_meanBits_23 p1 (fun v2 v3 μ => f_X11_meanBits_75 p1 v2 v3 μ) FU 0 0 0 μ
set_option maxRecDepth 100000 in
theorem c_X11_meanBits_13 (X : kX) (p1 : Int)  {res : Res}  (s1 : Int) (μ : Mu) (h : f_X11_meanBits_13 p1 s1 μ = some res) : KK X mX11_meanBits 6 2 res 13 [(0, .ref (X.1 + 248)), (1, .int (iI p1))] [.int (iI s1), .ref (X.1 + 248)] μ := by
  unfold f_X11_meanBits_13 at h
  refine Z_putI (md := mX11_meanBits) (pc := 13) (kTab_at (pc := 13) tX11_meanBits_ok 7 rfl) fl_X11_48 sk_248 rfl h (fun μ h => ?_)
  refine K_iconst (md := mX11_meanBits) (pc := 16) (x := 0) (kTab_at (pc := 16) tX11_meanBits_ok 8 rfl) rfl ?_
  refine K_istore_n (md := mX11_meanBits) (pc := 17) (l' := [(2, .int (iI 0)), (0, .ref (X.1 + 248)), (1, .int (iI p1))]) (kTab_at (pc := 17) tX11_meanBits_ok 9 rfl) (Nat.le_of_ble_eq_true rfl) rfl ?_
  refine K_iconst (md := mX11_meanBits) (pc := 18) (x := 0) (kTab_at (pc := 18) tX11_meanBits_ok 10 rfl) rfl ?_
  refine K_istore_n (md := mX11_meanBits) (pc := 19) (l' := [(3, .int (iI 0)), (2, .int (iI 0)), (0, .ref (X.1 + 248)), (1, .int (iI p1))]) (kTab_at (pc := 19) tX11_meanBits_ok 11 rfl) (Nat.le_of_ble_eq_true rfl) rfl ?_
  refine K_iconst (md := mX11_meanBits) (pc := 20) (x := 0) (kTab_at (pc := 20) tX11_meanBits_ok 12 rfl) rfl ?_
  refine K_istore (md := mX11_meanBits) (pc := 21) (l' := [(4, .int (iI 0)), (3, .int (iI 0)), (2, .int (iI 0)), (0, .ref (X.1 + 248)), (1, .int (iI p1))]) (kTab_at (pc := 21) tX11_meanBits_ok 13 rfl) (Nat.le_of_ble_eq_true rfl) rfl ?_
  refine K_sub [3, 4, 2, 1, 0] rfl ?_
  refine c_X11_meanBits_23 X p1 _ ?_ _ 0 0 0 μ h
  · intro v2 v3 μ h
    refine c_X11_meanBits_75 X p1  v2 v3 μ h
def f_X11_meanBits (p1 : Int) (μ : Mu) : Option Res := rb (f_X11_isQuestion p1 μ) fun μ x1 => i_eq x1 0 (f_X11_meanBits_13 p1 1 μ) (f_X11_meanBits_13 p1 0 μ)
set_option maxRecDepth 100000 in
theorem c_X11_meanBits (X : kX) (p1 : Int)  (μ : Mu) : Cq X mX11_meanBits 6 2 μ [.ref (X.1 + 248), .int (iI p1)] (f_X11_meanBits p1 μ) := by
  intro res h
  refine ct_of (by decide +kernel) rfl (Nat.le_of_ble_eq_true rfl) ?_
  show KK X mX11_meanBits 6 2 res 0 [(0, .ref (X.1 + 248)), (1, .int (iI p1))] [] μ
  unfold f_X11_meanBits at h
  refine K_aload_n (md := mX11_meanBits) (pc := 0) 0 (kTab_at (pc := 0) tX11_meanBits_ok 0 rfl) rfl ?_
  refine K_iload_n (md := mX11_meanBits) (pc := 1) 1 (kTab_at (pc := 1) tX11_meanBits_ok 1 rfl) rfl ?_
  refine Z_callS (md := mX11_meanBits) (pc := 2) (st := [.ref (X.1 + 248)]) (sv := (fun x1 => [.int (iI x1), .ref (X.1 + 248)])) (kTab_at (pc := 2) tX11_meanBits_ok 2 rfl) ms_X11_180 rfl (Nat.le_of_ble_eq_true rfl) (by decide) rfl (c_X11_isQuestion X p1 μ) (fun _ => rfl) h (fun μ x1 h => ?_) rfl
  refine K_if_eq (md := mX11_meanBits) (pc := 5) (kTab_at (pc := 5) tX11_meanBits_ok 3 rfl) (tgt := 12) rfl h (fun h => ?_) (fun h => ?_)
  · refine K_iconst (md := mX11_meanBits) (pc := 12) (x := 1) (kTab_at (pc := 12) tX11_meanBits_ok 6 rfl) rfl ?_
    refine c_X11_meanBits_13 X p1  1 μ h
  · refine K_iconst (md := mX11_meanBits) (pc := 8) (x := 0) (kTab_at (pc := 8) tX11_meanBits_ok 4 rfl) rfl ?_
    refine K_goto (md := mX11_meanBits) (pc := 9) (tgt := 13) (kTab_at (pc := 9) tX11_meanBits_ok 5 rfl) rfl ?_
    refine c_X11_meanBits_13 X p1  0 μ h
def f_Jxf58ca_isNaN_12338_11 (p0 : UInt32)  (s0 : Int) (μ : Mu) : Option Res := retZ μ s0
set_option maxRecDepth 100000 in
theorem c_Jxf58ca_isNaN_12338_11 (X : kX) (p0 : UInt32)  {res : Res}  (s0 : Int) (μ : Mu) (h : f_Jxf58ca_isNaN_12338_11 p0 s0 μ = some res) : KK X mJxf58ca_isNaN_12338 0 1 res 11 [] [.int (iI s0)] μ := by
  unfold f_Jxf58ca_isNaN_12338_11 at h
  exact Z_zret (md := mJxf58ca_isNaN_12338) (pc := 11) (kTab_at (pc := 11) tJxf58ca_isNaN_12338_ok 7 rfl) rfl rfl h
def f_Jxf58ca_isNaN_12338 (p0 : UInt32) (μ : Mu) : Option Res := i_eq (fcI .l p0 p0) 0 (f_Jxf58ca_isNaN_12338_11 p0 0 μ) (f_Jxf58ca_isNaN_12338_11 p0 1 μ)
set_option maxRecDepth 100000 in
theorem c_Jxf58ca_isNaN_12338 (X : kX) (p0 : UInt32)  (μ : Mu) : Cq X mJxf58ca_isNaN_12338 0 1 μ [.float p0] (f_Jxf58ca_isNaN_12338 p0 μ) := by
  intro res h
  refine ct_ofF (by decide +kernel) rfl (Nat.le_of_ble_eq_true rfl) ?_
  show KK X mJxf58ca_isNaN_12338 0 1 res 0 [(0, .float p0)] [] μ
  unfold f_Jxf58ca_isNaN_12338 at h
  refine K_fload_n (md := mJxf58ca_isNaN_12338) (pc := 0) 0 (kTab_at (pc := 0) tJxf58ca_isNaN_12338_ok 0 rfl) rfl ?_
  refine K_fload_n (md := mJxf58ca_isNaN_12338) (pc := 1) 0 (kTab_at (pc := 1) tJxf58ca_isNaN_12338_ok 1 rfl) rfl ?_
  refine K_fcmp (md := mJxf58ca_isNaN_12338) (pc := 2) (kTab_at (pc := 2) tJxf58ca_isNaN_12338_ok 2 rfl) ?_
  refine K_if_eq (md := mJxf58ca_isNaN_12338) (pc := 3) (kTab_at (pc := 3) tJxf58ca_isNaN_12338_ok 3 rfl) (tgt := 10) rfl h (fun h => ?_) (fun h => ?_)
  · refine K_iconst (md := mJxf58ca_isNaN_12338) (pc := 10) (x := 0) (kTab_at (pc := 10) tJxf58ca_isNaN_12338_ok 6 rfl) rfl ?_
    refine K_sub [] rfl ?_
    refine c_Jxf58ca_isNaN_12338_11 X p0  0 μ h
  · refine K_iconst (md := mJxf58ca_isNaN_12338) (pc := 6) (x := 1) (kTab_at (pc := 6) tJxf58ca_isNaN_12338_ok 4 rfl) rfl ?_
    refine K_goto (md := mJxf58ca_isNaN_12338) (pc := 7) (tgt := 11) (kTab_at (pc := 7) tJxf58ca_isNaN_12338_ok 5 rfl) rfl ?_
    refine K_sub [] rfl ?_
    refine c_Jxf58ca_isNaN_12338_11 X p0  1 μ h
def f_Jxf58ca_floatToIntBits_5c35a (p0 : UInt32) (μ : Mu) : Option Res := rb (f_Jxf58ca_isNaN_12338 p0 μ) fun μ x1 => i_eq x1 0 (some (μ, 0, ((p0).toInt32.toInt))) (some (μ, 0, 2143289344))
set_option maxRecDepth 100000 in
theorem c_Jxf58ca_floatToIntBits_5c35a (X : kX) (p0 : UInt32)  (μ : Mu) : Cq X mJxf58ca_floatToIntBits_5c35a 1 1 μ [.float p0] (f_Jxf58ca_floatToIntBits_5c35a p0 μ) := by
  intro res h
  refine ct_ofF (by decide +kernel) rfl (Nat.le_of_ble_eq_true rfl) ?_
  show KK X mJxf58ca_floatToIntBits_5c35a 1 1 res 0 [(0, .float p0)] [] μ
  unfold f_Jxf58ca_floatToIntBits_5c35a at h
  refine K_fload_n (md := mJxf58ca_floatToIntBits_5c35a) (pc := 0) 0 (kTab_at (pc := 0) tJxf58ca_floatToIntBits_5c35a_ok 0 rfl) rfl ?_
  refine Z_callS (md := mJxf58ca_floatToIntBits_5c35a) (pc := 1) (st := []) (sv := (fun x1 => [.int (iI x1)])) (kTab_at (pc := 1) tJxf58ca_floatToIntBits_5c35a_ok 1 rfl) ms_Jxf58ca_59 rfl (Nat.le_of_ble_eq_true rfl) (by decide) rfl (c_Jxf58ca_isNaN_12338 X p0 μ) (fun _ => rfl) h (fun μ x1 h => ?_) rfl
  refine K_if_ne (md := mJxf58ca_floatToIntBits_5c35a) (pc := 4) (kTab_at (pc := 4) tJxf58ca_floatToIntBits_5c35a_ok 2 rfl) (tgt := 12) rfl h (fun h => ?_) (fun h => ?_)
  · refine K_ldc (md := mJxf58ca_floatToIntBits_5c35a) (pc := 12) (x := 2143289344) (v := 2143289344) (kTab_at (pc := 12) tJxf58ca_floatToIntBits_5c35a_ok 6 rfl) (inT7 212 (by decide +kernel) rfl) (by decide) ?_
    exact Z_iret (md := mJxf58ca_floatToIntBits_5c35a) (pc := 14) (kTab_at (pc := 14) tJxf58ca_floatToIntBits_5c35a_ok 7 rfl) rfl rfl rfl h
  · refine K_fload_n (md := mJxf58ca_floatToIntBits_5c35a) (pc := 7) 0 (kTab_at (pc := 7) tJxf58ca_floatToIntBits_5c35a_ok 3 rfl) rfl ?_
    refine K_f2raw (md := mJxf58ca_floatToIntBits_5c35a) (pc := 8) (kTab_at (pc := 8) tJxf58ca_floatToIntBits_5c35a_ok 4 rfl) (inT7 209 (by decide +kernel) rfl) (inT7 211 (by decide +kernel) rfl) (inT7 210 (by decide +kernel) rfl) (inT1 31 (by decide +kernel) rfl) (Nat.le_of_ble_eq_true rfl) ?_
    exact Z_iret (md := mJxf58ca_floatToIntBits_5c35a) (pc := 11) (kTab_at (pc := 11) tJxf58ca_floatToIntBits_5c35a_ok 5 rfl) rfl rfl rfl h
def f_X11_validBits_83 (p1 : Int) (k25 : Int → Int → Int → Mu → Option Res) (v2 : Int) (v4 : Int) (s0 : Int) (s1 : Int) (μ : Mu) : Option Res := bnd (s0 + s1) fun x1 => k25 v2 x1 (v4 + 1) μ
set_option maxRecDepth 100000 in
theorem c_X11_validBits_83 (X : kX) (p1 : Int)  {res : Res} (k25 : Int → Int → Int → Mu → Option Res) (hk25 : ∀ (v2 : Int), ∀ (v3 : Int), ∀ (v4 : Int), ∀ (μ : Mu), k25 v2 v3 v4 μ = some res → KK X mX11_validBits 4 1 res 25 [(0, .ref (X.1 + 248)), (1, .int (iI p1)), (2, .int (iI v2)), (3, .int (iI v3)), (4, .int (iI v4))] [] μ) (v2 : Int) (v4 : Int) (s0 : Int) (s1 : Int) (μ : Mu) (h : f_X11_validBits_83 p1 k25 v2 v4 s0 s1 μ = some res) : KK X mX11_validBits 4 1 res 83 [(0, .ref (X.1 + 248)), (1, .int (iI p1)), (2, .int (iI v2)), (4, .int (iI v4))] [.int (iI s1), .int (iI s0)] μ := by
  unfold f_X11_validBits_83 at h
  refine K_iadd (md := mX11_validBits) (pc := 83) (kTab_at (pc := 83) tX11_validBits_ok 48 rfl) ?_
  refine Z_bnd (md := mX11_validBits) (pc := 84) h (fun x1 h => ?_)
  refine K_istore_n (md := mX11_validBits) (pc := 84) (l' := [(3, .int (iI x1)), (0, .ref (X.1 + 248)), (1, .int (iI p1)), (2, .int (iI v2)), (4, .int (iI v4))]) (kTab_at (pc := 84) tX11_validBits_ok 49 rfl) (Nat.le_of_ble_eq_true rfl) rfl ?_
  refine K_iinc (md := mX11_validBits) (pc := 85) (l' := [(4, .int (iI (v4 + 1))), (3, .int (iI x1)), (0, .ref (X.1 + 248)), (1, .int (iI p1)), (2, .int (iI v2))]) 4 (kTab_at (pc := 85) tX11_validBits_ok 50 rfl) rfl (Nat.le_of_ble_eq_true rfl) rfl ?_
  refine K_goto (md := mX11_validBits) (pc := 88) (tgt := 25) (kTab_at (pc := 88) tX11_validBits_ok 51 rfl) rfl ?_
  refine K_sub [2, 3, 4, 1, 0] rfl ?_
  exact hk25 v2 x1 (v4 + 1) μ h
def f_X11_validBits_82 (p1 : Int) (k25 : Int → Int → Int → Mu → Option Res) (v2 : Int) (v4 : Int) (s0 : Int) (μ : Mu) : Option Res := f_X11_validBits_83 p1 k25 v2 v4 s0 0 μ
set_option maxRecDepth 100000 in
theorem c_X11_validBits_82 (X : kX) (p1 : Int)  {res : Res} (k25 : Int → Int → Int → Mu → Option Res) (hk25 : ∀ (v2 : Int), ∀ (v3 : Int), ∀ (v4 : Int), ∀ (μ : Mu), k25 v2 v3 v4 μ = some res → KK X mX11_validBits 4 1 res 25 [(0, .ref (X.1 + 248)), (1, .int (iI p1)), (2, .int (iI v2)), (3, .int (iI v3)), (4, .int (iI v4))] [] μ) (v2 : Int) (v4 : Int) (s0 : Int) (μ : Mu) (h : f_X11_validBits_82 p1 k25 v2 v4 s0 μ = some res) : KK X mX11_validBits 4 1 res 82 [(0, .ref (X.1 + 248)), (1, .int (iI p1)), (2, .int (iI v2)), (4, .int (iI v4))] [.int (iI s0)] μ := by
  unfold f_X11_validBits_82 at h
  refine K_iconst (md := mX11_validBits) (pc := 82) (x := 0) (kTab_at (pc := 82) tX11_validBits_ok 47 rfl) rfl ?_
  refine c_X11_validBits_83 X p1 _ hk25 v2 v4 s0 0 μ h
def f_X11_validBits_55 (p1 : Int) (k25 : Int → Int → Int → Mu → Option Res) (v3 : Int) (v4 : Int) (s0 : Int) (s1 : Int) (μ : Mu) : Option Res := bnd (s0 + s1) fun x1 => rb (f_X11_part v4 0 μ) fun μ x2 => i_eq x2 p1 (rb (f_X11_isValid v4 μ) fun μ x3 => i_eq x3 0 (f_X11_validBits_82 p1 k25 x1 v4 v3 μ) (f_X11_validBits_83 p1 k25 x1 v4 v3 1 μ)) (f_X11_validBits_82 p1 k25 x1 v4 v3 μ)
set_option maxRecDepth 100000 in
theorem c_X11_validBits_55 (X : kX) (p1 : Int)  {res : Res} (k25 : Int → Int → Int → Mu → Option Res) (hk25 : ∀ (v2 : Int), ∀ (v3 : Int), ∀ (v4 : Int), ∀ (μ : Mu), k25 v2 v3 v4 μ = some res → KK X mX11_validBits 4 1 res 25 [(0, .ref (X.1 + 248)), (1, .int (iI p1)), (2, .int (iI v2)), (3, .int (iI v3)), (4, .int (iI v4))] [] μ) (v3 : Int) (v4 : Int) (s0 : Int) (s1 : Int) (μ : Mu) (h : f_X11_validBits_55 p1 k25 v3 v4 s0 s1 μ = some res) : KK X mX11_validBits 4 1 res 55 [(0, .ref (X.1 + 248)), (1, .int (iI p1)), (3, .int (iI v3)), (4, .int (iI v4))] [.int (iI s1), .int (iI s0)] μ := by
  unfold f_X11_validBits_55 at h
  refine K_iadd (md := mX11_validBits) (pc := 55) (kTab_at (pc := 55) tX11_validBits_ok 32 rfl) ?_
  refine Z_bnd (md := mX11_validBits) (pc := 56) h (fun x1 h => ?_)
  refine K_istore_n (md := mX11_validBits) (pc := 56) (l' := [(2, .int (iI x1)), (0, .ref (X.1 + 248)), (1, .int (iI p1)), (3, .int (iI v3)), (4, .int (iI v4))]) (kTab_at (pc := 56) tX11_validBits_ok 33 rfl) (Nat.le_of_ble_eq_true rfl) rfl ?_
  refine K_iload_n (md := mX11_validBits) (pc := 57) 3 (kTab_at (pc := 57) tX11_validBits_ok 34 rfl) rfl ?_
  refine K_aload_n (md := mX11_validBits) (pc := 58) 1 (kTab_at (pc := 58) tX11_validBits_ok 35 rfl) rfl ?_
  refine K_iload (md := mX11_validBits) (pc := 59) 4 (kTab_at (pc := 59) tX11_validBits_ok 36 rfl) rfl ?_
  refine K_iconst (md := mX11_validBits) (pc := 61) (x := 0) (kTab_at (pc := 61) tX11_validBits_ok 37 rfl) rfl ?_
  refine Z_callV (md := mX11_validBits) (pc := 62) (st := [.int (iI v3)]) (sv := (fun x2 => [.int (iI x2), .int (iI v3)])) (kTab_at (pc := 62) tX11_validBits_ok 38 rfl) mv_X11_81 sk_248 rfl (Nat.le_of_ble_eq_true rfl) (by decide) rfl (c_X11_part X v4 0 μ) (fun _ => rfl) h (fun μ x2 h => ?_) rfl
  refine K_iload_n (md := mX11_validBits) (pc := 65) 2 (kTab_at (pc := 65) tX11_validBits_ok 39 rfl) rfl ?_
  refine K_icmp_ne (md := mX11_validBits) (pc := 66) (kTab_at (pc := 66) tX11_validBits_ok 40 rfl) (tgt := 82) rfl h (fun h => ?_) (fun h => ?_)
  · refine K_sub [1, 2, 0, 4] rfl ?_
    refine c_X11_validBits_82 X p1 _ hk25 x1 v4 v3 μ h
  · refine K_aload_n (md := mX11_validBits) (pc := 69) 1 (kTab_at (pc := 69) tX11_validBits_ok 41 rfl) rfl ?_
    refine K_iload (md := mX11_validBits) (pc := 70) 4 (kTab_at (pc := 70) tX11_validBits_ok 42 rfl) rfl ?_
    refine Z_callV (md := mX11_validBits) (pc := 72) (st := [.int (iI v3)]) (sv := (fun x3 => [.int (iI x3), .int (iI v3)])) (kTab_at (pc := 72) tX11_validBits_ok 43 rfl) mv_X11_98 sk_248 rfl (Nat.le_of_ble_eq_true rfl) (by decide) rfl (c_X11_isValid X v4 μ) (fun _ => rfl) h (fun μ x3 h => ?_) rfl
    refine K_if_eq (md := mX11_validBits) (pc := 75) (kTab_at (pc := 75) tX11_validBits_ok 44 rfl) (tgt := 82) rfl h (fun h => ?_) (fun h => ?_)
    · refine K_sub [1, 2, 0, 4] rfl ?_
      refine c_X11_validBits_82 X p1 _ hk25 x1 v4 v3 μ h
    · refine K_iconst (md := mX11_validBits) (pc := 78) (x := 1) (kTab_at (pc := 78) tX11_validBits_ok 45 rfl) rfl ?_
      refine K_goto (md := mX11_validBits) (pc := 79) (tgt := 83) (kTab_at (pc := 79) tX11_validBits_ok 46 rfl) rfl ?_
      refine K_sub [1, 2, 0, 4] rfl ?_
      refine c_X11_validBits_83 X p1 _ hk25 x1 v4 v3 1 μ h
def f_X11_validBits_111 (p1 : Int)  (s0 : Int) (μ : Mu) : Option Res := some (μ, 0, s0)
set_option maxRecDepth 100000 in
theorem c_X11_validBits_111 (X : kX) (p1 : Int)  {res : Res}  (s0 : Int) (μ : Mu) (h : f_X11_validBits_111 p1 s0 μ = some res) : KK X mX11_validBits 4 1 res 111 [] [.int (iI s0)] μ := by
  unfold f_X11_validBits_111 at h
  exact Z_iret (md := mX11_validBits) (pc := 111) (kTab_at (pc := 111) tX11_validBits_ok 64 rfl) rfl rfl rfl h
def f_X11_validBits_25 (p1 : Int) (k91 : Int → Int → Mu → Option Res) : Nat → Int → Int → Int → Mu → Option Res
  | 0, _, _, _, _ => none
  | fu + 1, v2, v3, v4, μ => rdI μ 249 779 144 fun x1 => i_lt v4 x1 (rb (f_X11_part v4 0 μ) fun μ x2 => i_eq x2 p1 (f_X11_validBits_55 p1 (f_X11_validBits_25 p1 k91 fu) v3 v4 v2 1 μ) (f_X11_validBits_55 p1 (f_X11_validBits_25 p1 k91 fu) v3 v4 v2 0 μ)) (k91 v2 v3 μ)
set_option maxRecDepth 100000 in
theorem c_X11_validBits_25 (X : kX) (p1 : Int)  {res : Res} (k91 : Int → Int → Mu → Option Res) (hk91 : ∀ (v2 : Int), ∀ (v3 : Int), ∀ (μ : Mu), k91 v2 v3 μ = some res → KK X mX11_validBits 4 1 res 91 [(0, .ref (X.1 + 248)), (2, .int (iI v2)), (3, .int (iI v3))] [] μ) : ∀ (fu : Nat)  (v2 : Int) (v3 : Int) (v4 : Int) (μ : Mu), f_X11_validBits_25 p1 k91 fu v2 v3 v4 μ = some res → KK X mX11_validBits 4 1 res 25 [(0, .ref (X.1 + 248)), (1, .int (iI p1)), (2, .int (iI v2)), (3, .int (iI v3)), (4, .int (iI v4))] [] μ := by
  intro fu
  induction fu with
  | zero => intro v2 v3 v4 μ h; exact nomatch h
  | succ fu ih =>
    intro v2 v3 v4 μ h
    refine K_iload (md := mX11_validBits) (pc := 25) 4 (kTab_at (pc := 25) tX11_validBits_ok 16 rfl) rfl ?_
    refine K_aload_n (md := mX11_validBits) (pc := 27) 0 (kTab_at (pc := 27) tX11_validBits_ok 17 rfl) rfl ?_
    refine K_getR (md := mX11_validBits) (pc := 28) (b := 249) (kTab_at (pc := 28) tX11_validBits_ok 18 rfl) fl_X11_7 sk_248 rfl rfl ?_
    refine K_sipush (md := mX11_validBits) (pc := 31) (x := 144) (kTab_at (pc := 31) tX11_validBits_ok 19 rfl) (by decide) ?_
    refine Z_iald (md := mX11_validBits) (pc := 34) (kTab_at (pc := 34) tX11_validBits_ok 20 rfl) sk_249 (by decide) h (fun x1 h => ?_)
    refine K_icmp_ge (md := mX11_validBits) (pc := 35) (kTab_at (pc := 35) tX11_validBits_ok 21 rfl) (tgt := 91) rfl h (fun h => ?_) (fun h => ?_)
    · refine K_sub [0, 2, 3] rfl ?_
      exact hk91 v2 v3 μ h
    · refine K_iload_n (md := mX11_validBits) (pc := 38) 2 (kTab_at (pc := 38) tX11_validBits_ok 22 rfl) rfl ?_
      refine K_aload_n (md := mX11_validBits) (pc := 39) 0 (kTab_at (pc := 39) tX11_validBits_ok 23 rfl) rfl ?_
      refine K_iload (md := mX11_validBits) (pc := 40) 4 (kTab_at (pc := 40) tX11_validBits_ok 24 rfl) rfl ?_
      refine K_iconst (md := mX11_validBits) (pc := 42) (x := 0) (kTab_at (pc := 42) tX11_validBits_ok 25 rfl) rfl ?_
      refine Z_callV (md := mX11_validBits) (pc := 43) (st := [.int (iI v2)]) (sv := (fun x2 => [.int (iI x2), .int (iI v2)])) (kTab_at (pc := 43) tX11_validBits_ok 26 rfl) mv_X11_81 sk_248 rfl (Nat.le_of_ble_eq_true rfl) (by decide) rfl (c_X11_part X v4 0 μ) (fun _ => rfl) h (fun μ x2 h => ?_) rfl
      refine K_iload_n (md := mX11_validBits) (pc := 46) 1 (kTab_at (pc := 46) tX11_validBits_ok 27 rfl) rfl ?_
      refine K_icmp_ne (md := mX11_validBits) (pc := 47) (kTab_at (pc := 47) tX11_validBits_ok 28 rfl) (tgt := 54) rfl h (fun h => ?_) (fun h => ?_)
      · refine K_iconst (md := mX11_validBits) (pc := 54) (x := 0) (kTab_at (pc := 54) tX11_validBits_ok 31 rfl) rfl ?_
        refine K_sub [0, 1, 3, 4] rfl ?_
        refine c_X11_validBits_55 X p1 _ ih v3 v4 v2 0 μ h
      · refine K_iconst (md := mX11_validBits) (pc := 50) (x := 1) (kTab_at (pc := 50) tX11_validBits_ok 29 rfl) rfl ?_
        refine K_goto (md := mX11_validBits) (pc := 51) (tgt := 55) (kTab_at (pc := 51) tX11_validBits_ok 30 rfl) rfl ?_
        refine K_sub [0, 1, 3, 4] rfl ?_
        refine c_X11_validBits_55 X p1 _ ih v3 v4 v2 1 μ h
def f_X11_validBits (p1 : Int) (μ : Mu) : Option Res := wrF μ 248 0 0 fun μ => rb (f_X11_isMarker p1 μ) fun μ x1 => i_eq x1 0 (rb (f_X11_fails 1 μ) fun μ x5 => some (μ, 0, x5)) (f_X11_validBits_25 p1 (fun v2 v3 μ => i_eq v2 0 (rb (f_X11_fails 2 μ) fun μ x4 => f_X11_validBits_111 p1 x4 μ) (f_ck (FP.fdiv (FP.i2f (iI v3)) (FP.i2f (iI v2))) fun x2 => rb (f_Jxf58ca_floatToIntBits_5c35a x2 μ) fun μ x3 => f_X11_validBits_111 p1 x3 μ)) FU 0 0 0 μ)
set_option maxRecDepth 100000 in
theorem c_X11_validBits (X : kX) (p1 : Int)  (μ : Mu) : Cq X mX11_validBits 4 1 μ [.ref (X.1 + 248), .int (iI p1)] (f_X11_validBits p1 μ) := by
  intro res h
  refine ct_of (by decide +kernel) rfl (Nat.le_of_ble_eq_true rfl) ?_
  show KK X mX11_validBits 4 1 res 0 [(0, .ref (X.1 + 248)), (1, .int (iI p1))] [] μ
  unfold f_X11_validBits at h
  refine K_aload_n (md := mX11_validBits) (pc := 0) 0 (kTab_at (pc := 0) tX11_validBits_ok 0 rfl) rfl ?_
  refine K_iconst (md := mX11_validBits) (pc := 1) (x := 0) (kTab_at (pc := 1) tX11_validBits_ok 1 rfl) rfl ?_
  refine Z_putI (md := mX11_validBits) (pc := 2) (kTab_at (pc := 2) tX11_validBits_ok 2 rfl) fl_X11_48 sk_248 rfl h (fun μ h => ?_)
  refine K_iload_n (md := mX11_validBits) (pc := 5) 1 (kTab_at (pc := 5) tX11_validBits_ok 3 rfl) rfl ?_
  refine Z_callS (md := mX11_validBits) (pc := 6) (st := []) (sv := (fun x1 => [.int (iI x1)])) (kTab_at (pc := 6) tX11_validBits_ok 4 rfl) ms_X11_196 rfl (Nat.le_of_ble_eq_true rfl) (by decide) rfl (c_X11_isMarker X p1 μ) (fun _ => rfl) h (fun μ x1 h => ?_) rfl
  refine K_if_ne (md := mX11_validBits) (pc := 9) (kTab_at (pc := 9) tX11_validBits_ok 5 rfl) (tgt := 18) rfl h (fun h => ?_) (fun h => ?_)
  · refine K_iconst (md := mX11_validBits) (pc := 18) (x := 0) (kTab_at (pc := 18) tX11_validBits_ok 10 rfl) rfl ?_
    refine K_istore_n (md := mX11_validBits) (pc := 19) (l' := [(2, .int (iI 0)), (0, .ref (X.1 + 248)), (1, .int (iI p1))]) (kTab_at (pc := 19) tX11_validBits_ok 11 rfl) (Nat.le_of_ble_eq_true rfl) rfl ?_
    refine K_iconst (md := mX11_validBits) (pc := 20) (x := 0) (kTab_at (pc := 20) tX11_validBits_ok 12 rfl) rfl ?_
    refine K_istore_n (md := mX11_validBits) (pc := 21) (l' := [(3, .int (iI 0)), (2, .int (iI 0)), (0, .ref (X.1 + 248)), (1, .int (iI p1))]) (kTab_at (pc := 21) tX11_validBits_ok 13 rfl) (Nat.le_of_ble_eq_true rfl) rfl ?_
    refine K_iconst (md := mX11_validBits) (pc := 22) (x := 0) (kTab_at (pc := 22) tX11_validBits_ok 14 rfl) rfl ?_
    refine K_istore (md := mX11_validBits) (pc := 23) (l' := [(4, .int (iI 0)), (3, .int (iI 0)), (2, .int (iI 0)), (0, .ref (X.1 + 248)), (1, .int (iI p1))]) (kTab_at (pc := 23) tX11_validBits_ok 15 rfl) (Nat.le_of_ble_eq_true rfl) rfl ?_
    refine K_sub [3, 4, 2, 1, 0] rfl ?_
    refine c_X11_validBits_25 X p1 _ ?_ _ 0 0 0 μ h
    · intro v2 v3 μ h
      refine K_iload_n (md := mX11_validBits) (pc := 91) 1 (kTab_at (pc := 91) tX11_validBits_ok 52 rfl) rfl ?_
      refine K_if_ne (md := mX11_validBits) (pc := 92) (kTab_at (pc := 92) tX11_validBits_ok 53 rfl) (tgt := 103) rfl h (fun h => ?_) (fun h => ?_)
      · refine K_iload_n (md := mX11_validBits) (pc := 103) 2 (kTab_at (pc := 103) tX11_validBits_ok 58 rfl) rfl ?_
        refine K_i2f (md := mX11_validBits) (pc := 104) (kTab_at (pc := 104) tX11_validBits_ok 59 rfl) ?_
        refine K_iload_n (md := mX11_validBits) (pc := 105) 1 (kTab_at (pc := 105) tX11_validBits_ok 60 rfl) rfl ?_
        refine K_i2f (md := mX11_validBits) (pc := 106) (kTab_at (pc := 106) tX11_validBits_ok 61 rfl) ?_
        refine Z_fdiv (md := mX11_validBits) (pc := 107) (kTab_at (pc := 107) tX11_validBits_ok 62 rfl) h (fun x2 h => ?_)
        refine Z_callS (md := mX11_validBits) (pc := 108) (st := []) (sv := (fun x3 => [.int (iI x3)])) (kTab_at (pc := 108) tX11_validBits_ok 63 rfl) ms_X11_292 rfl (Nat.le_of_ble_eq_true rfl) (by decide) rfl (c_Jxf58ca_floatToIntBits_5c35a X x2 μ) (fun _ => rfl) h (fun μ x3 h => ?_) rfl
        refine K_sub [] rfl ?_
        refine c_X11_validBits_111 X p1  x3 μ h
      · refine K_aload_n (md := mX11_validBits) (pc := 95) 0 (kTab_at (pc := 95) tX11_validBits_ok 54 rfl) rfl ?_
        refine K_iconst (md := mX11_validBits) (pc := 96) (x := 2) (kTab_at (pc := 96) tX11_validBits_ok 55 rfl) rfl ?_
        refine Z_callV (md := mX11_validBits) (pc := 97) (st := []) (sv := (fun x4 => [.int (iI x4)])) (kTab_at (pc := 97) tX11_validBits_ok 56 rfl) mv_X11_177 sk_248 rfl (Nat.le_of_ble_eq_true rfl) (by decide) rfl (c_X11_fails X 2 μ) (fun _ => rfl) h (fun μ x4 h => ?_) rfl
        refine K_goto (md := mX11_validBits) (pc := 100) (tgt := 111) (kTab_at (pc := 100) tX11_validBits_ok 57 rfl) rfl ?_
        refine K_sub [] rfl ?_
        refine c_X11_validBits_111 X p1  x4 μ h
  · refine K_aload_n (md := mX11_validBits) (pc := 12) 0 (kTab_at (pc := 12) tX11_validBits_ok 6 rfl) rfl ?_
    refine K_iconst (md := mX11_validBits) (pc := 13) (x := 1) (kTab_at (pc := 13) tX11_validBits_ok 7 rfl) rfl ?_
    refine Z_callV (md := mX11_validBits) (pc := 14) (st := []) (sv := (fun x5 => [.int (iI x5)])) (kTab_at (pc := 14) tX11_validBits_ok 8 rfl) mv_X11_177 sk_248 rfl (Nat.le_of_ble_eq_true rfl) (by decide) rfl (c_X11_fails X 1 μ) (fun _ => rfl) h (fun μ x5 h => ?_) rfl
    exact Z_iret (md := mX11_validBits) (pc := 17) (kTab_at (pc := 17) tX11_validBits_ok 9 rfl) rfl rfl rfl h

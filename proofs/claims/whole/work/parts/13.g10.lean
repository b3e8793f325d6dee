def f_X11_corrects_66 (p1 : Int) (p2 : Int) (k8 : Int → Int → Int → Mu → Option Res) (v3 : Int) (v5 : Int) (s0 : Int) (s1 : Int) (μ : Mu) : Option Res := bnd (s0 + s1) fun x1 => k8 v3 x1 (v5 + 1) μ
set_option maxRecDepth 100000 in
theorem c_X11_corrects_66 (X : kX) (p1 : Int) (p2 : Int)  {res : Res} (k8 : Int → Int → Int → Mu → Option Res) (hk8 : ∀ (v3 : Int), ∀ (v4 : Int), ∀ (v5 : Int), ∀ (μ : Mu), k8 v3 v4 v5 μ = some res → KK X mX11_corrects 2 1 res 8 [(0, .ref (X.1 + 248)), (1, .int (iI p1)), (2, .int (iI p2)), (3, .int (iI v3)), (4, .int (iI v4)), (5, .int (iI v5))] [] μ) (v3 : Int) (v5 : Int) (s0 : Int) (s1 : Int) (μ : Mu) (h : f_X11_corrects_66 p1 p2 k8 v3 v5 s0 s1 μ = some res) : KK X mX11_corrects 2 1 res 66 [(0, .ref (X.1 + 248)), (1, .int (iI p1)), (2, .int (iI p2)), (3, .int (iI v3)), (5, .int (iI v5))] [.int (iI s1), .int (iI s0)] μ := by
  unfold f_X11_corrects_66 at h
  refine K_iadd (md := mX11_corrects) (pc := 66) (kTab_at (pc := 66) tX11_corrects_ok 40 rfl) ?_
  refine Z_bnd (md := mX11_corrects) (pc := 67) h (fun x1 h => ?_)
  refine K_istore (md := mX11_corrects) (pc := 67) (l' := [(4, .int (iI x1)), (0, .ref (X.1 + 248)), (1, .int (iI p1)), (2, .int (iI p2)), (3, .int (iI v3)), (5, .int (iI v5))]) (kTab_at (pc := 67) tX11_corrects_ok 41 rfl) (Nat.le_of_ble_eq_true rfl) rfl ?_
  refine K_iinc (md := mX11_corrects) (pc := 69) (l' := [(5, .int (iI (v5 + 1))), (4, .int (iI x1)), (0, .ref (X.1 + 248)), (1, .int (iI p1)), (2, .int (iI p2)), (3, .int (iI v3))]) 5 (kTab_at (pc := 69) tX11_corrects_ok 42 rfl) rfl (Nat.le_of_ble_eq_true rfl) rfl ?_
  refine K_goto (md := mX11_corrects) (pc := 72) (tgt := 8) (kTab_at (pc := 72) tX11_corrects_ok 43 rfl) rfl ?_
  refine K_sub [2, 3, 4, 5, 1, 0] rfl ?_
  exact hk8 v3 x1 (v5 + 1) μ h
def f_X11_corrects_39 (p1 : Int) (p2 : Int) (k8 : Int → Int → Int → Mu → Option Res) (v4 : Int) (v5 : Int) (s0 : Int) (s1 : Int) (μ : Mu) : Option Res := bnd (s0 + s1) fun x1 => rb (f_X11_hasMarked p1 p2 v5 μ) fun μ x2 => i_eq x2 0 (f_X11_corrects_66 p1 p2 k8 x1 v5 v4 0 μ) (rb (f_X11_deviation p1 p2 v5 μ) fun μ x3 => f_X11_corrects_66 p1 p2 k8 x1 v5 v4 x3 μ)
set_option maxRecDepth 100000 in
theorem c_X11_corrects_39 (X : kX) (p1 : Int) (p2 : Int)  {res : Res} (k8 : Int → Int → Int → Mu → Option Res) (hk8 : ∀ (v3 : Int), ∀ (v4 : Int), ∀ (v5 : Int), ∀ (μ : Mu), k8 v3 v4 v5 μ = some res → KK X mX11_corrects 2 1 res 8 [(0, .ref (X.1 + 248)), (1, .int (iI p1)), (2, .int (iI p2)), (3, .int (iI v3)), (4, .int (iI v4)), (5, .int (iI v5))] [] μ) (v4 : Int) (v5 : Int) (s0 : Int) (s1 : Int) (μ : Mu) (h : f_X11_corrects_39 p1 p2 k8 v4 v5 s0 s1 μ = some res) : KK X mX11_corrects 2 1 res 39 [(0, .ref (X.1 + 248)), (1, .int (iI p1)), (2, .int (iI p2)), (4, .int (iI v4)), (5, .int (iI v5))] [.int (iI s1), .int (iI s0)] μ := by
  unfold f_X11_corrects_39 at h
  refine K_iadd (md := mX11_corrects) (pc := 39) (kTab_at (pc := 39) tX11_corrects_ok 24 rfl) ?_
  refine Z_bnd (md := mX11_corrects) (pc := 40) h (fun x1 h => ?_)
  refine K_istore_n (md := mX11_corrects) (pc := 40) (l' := [(3, .int (iI x1)), (0, .ref (X.1 + 248)), (1, .int (iI p1)), (2, .int (iI p2)), (4, .int (iI v4)), (5, .int (iI v5))]) (kTab_at (pc := 40) tX11_corrects_ok 25 rfl) (Nat.le_of_ble_eq_true rfl) rfl ?_
  refine K_iload (md := mX11_corrects) (pc := 41) 4 (kTab_at (pc := 41) tX11_corrects_ok 26 rfl) rfl ?_
  refine K_aload_n (md := mX11_corrects) (pc := 43) 1 (kTab_at (pc := 43) tX11_corrects_ok 27 rfl) rfl ?_
  refine K_iload_n (md := mX11_corrects) (pc := 44) 2 (kTab_at (pc := 44) tX11_corrects_ok 28 rfl) rfl ?_
  refine K_iload_n (md := mX11_corrects) (pc := 45) 3 (kTab_at (pc := 45) tX11_corrects_ok 29 rfl) rfl ?_
  refine K_iload (md := mX11_corrects) (pc := 46) 5 (kTab_at (pc := 46) tX11_corrects_ok 30 rfl) rfl ?_
  refine Z_callV (md := mX11_corrects) (pc := 48) (st := [.int (iI v4)]) (sv := (fun x2 => [.int (iI x2), .int (iI v4)])) (kTab_at (pc := 48) tX11_corrects_ok 31 rfl) mv_X11_68 sk_248 rfl (Nat.le_of_ble_eq_true rfl) (by decide) rfl (c_X11_hasMarked X p1 p2 v5 μ) (fun _ => rfl) h (fun μ x2 h => ?_) rfl
  refine K_if_eq (md := mX11_corrects) (pc := 51) (kTab_at (pc := 51) tX11_corrects_ok 32 rfl) (tgt := 65) rfl h (fun h => ?_) (fun h => ?_)
  · refine K_iconst (md := mX11_corrects) (pc := 65) (x := 0) (kTab_at (pc := 65) tX11_corrects_ok 39 rfl) rfl ?_
    refine K_sub [1, 2, 3, 0, 5] rfl ?_
    refine c_X11_corrects_66 X p1 p2 _ hk8 x1 v5 v4 0 μ h
  · refine K_aload_n (md := mX11_corrects) (pc := 54) 1 (kTab_at (pc := 54) tX11_corrects_ok 33 rfl) rfl ?_
    refine K_iload_n (md := mX11_corrects) (pc := 55) 2 (kTab_at (pc := 55) tX11_corrects_ok 34 rfl) rfl ?_
    refine K_iload_n (md := mX11_corrects) (pc := 56) 3 (kTab_at (pc := 56) tX11_corrects_ok 35 rfl) rfl ?_
    refine K_iload (md := mX11_corrects) (pc := 57) 5 (kTab_at (pc := 57) tX11_corrects_ok 36 rfl) rfl ?_
    refine Z_callV (md := mX11_corrects) (pc := 59) (st := [.int (iI v4)]) (sv := (fun x3 => [.int (iI x3), .int (iI v4)])) (kTab_at (pc := 59) tX11_corrects_ok 37 rfl) mv_X11_71 sk_248 rfl (Nat.le_of_ble_eq_true rfl) (by decide) rfl (c_X11_deviation X p1 p2 v5 μ) (fun _ => rfl) h (fun μ x3 h => ?_) rfl
    refine K_goto (md := mX11_corrects) (pc := 62) (tgt := 66) (kTab_at (pc := 62) tX11_corrects_ok 38 rfl) rfl ?_
    refine K_sub [1, 2, 3, 0, 5] rfl ?_
    refine c_X11_corrects_66 X p1 p2 _ hk8 x1 v5 v4 x3 μ h
def f_X11_corrects_106 (p1 : Int) (p2 : Int)  (s0 : Int) (μ : Mu) : Option Res := some (μ, 0, s0)
set_option maxRecDepth 100000 in
theorem c_X11_corrects_106 (X : kX) (p1 : Int) (p2 : Int)  {res : Res}  (s0 : Int) (μ : Mu) (h : f_X11_corrects_106 p1 p2 s0 μ = some res) : KK X mX11_corrects 2 1 res 106 [] [.int (iI s0)] μ := by
  unfold f_X11_corrects_106 at h
  exact Z_iret (md := mX11_corrects) (pc := 106) (kTab_at (pc := 106) tX11_corrects_ok 62 rfl) rfl rfl rfl h
def f_X11_corrects_94 (p1 : Int) (p2 : Int)   (μ : Mu) : Option Res := f_X11_corrects_106 p1 p2 0 μ
set_option maxRecDepth 100000 in
theorem c_X11_corrects_94 (X : kX) (p1 : Int) (p2 : Int)  {res : Res}  (μ : Mu) (h : f_X11_corrects_94 p1 p2 μ = some res) : KK X mX11_corrects 2 1 res 94 [] [] μ := by
  unfold f_X11_corrects_94 at h
  refine K_iconst (md := mX11_corrects) (pc := 94) (x := 0) (kTab_at (pc := 94) tX11_corrects_ok 54 rfl) rfl ?_
  refine K_goto (md := mX11_corrects) (pc := 95) (tgt := 106) (kTab_at (pc := 95) tX11_corrects_ok 55 rfl) rfl ?_
  refine c_X11_corrects_106 X p1 p2  0 μ h
def f_X11_corrects_8 (p1 : Int) (p2 : Int) (k75 : Int → Int → Mu → Option Res) : Nat → Int → Int → Int → Mu → Option Res
  | 0, _, _, _, _ => none
  | fu + 1, v3, v4, v5, μ => rdI μ 249 779 (14 + p2) fun x1 => i_lt v5 x1 (rb (f_X11_hasMarked p1 p2 v5 μ) fun μ x2 => i_eq x2 0 (f_X11_corrects_39 p1 p2 (f_X11_corrects_8 p1 p2 k75 fu) v4 v5 v3 0 μ) (f_X11_corrects_39 p1 p2 (f_X11_corrects_8 p1 p2 k75 fu) v4 v5 v3 1 μ)) (k75 v3 v4 μ)
set_option maxRecDepth 100000 in
theorem c_X11_corrects_8 (X : kX) (p1 : Int) (p2 : Int)  {res : Res} (k75 : Int → Int → Mu → Option Res) (hk75 : ∀ (v3 : Int), ∀ (v4 : Int), ∀ (μ : Mu), k75 v3 v4 μ = some res → KK X mX11_corrects 2 1 res 75 [(0, .ref (X.1 + 248)), (3, .int (iI v3)), (4, .int (iI v4))] [] μ) : ∀ (fu : Nat)  (v3 : Int) (v4 : Int) (v5 : Int) (μ : Mu), f_X11_corrects_8 p1 p2 k75 fu v3 v4 v5 μ = some res → KK X mX11_corrects 2 1 res 8 [(0, .ref (X.1 + 248)), (1, .int (iI p1)), (2, .int (iI p2)), (3, .int (iI v3)), (4, .int (iI v4)), (5, .int (iI v5))] [] μ := by
  intro fu
  induction fu with
  | zero => intro v3 v4 v5 μ h; exact nomatch h
  | succ fu ih =>
    intro v3 v4 v5 μ h
    refine K_iload (md := mX11_corrects) (pc := 8) 5 (kTab_at (pc := 8) tX11_corrects_ok 6 rfl) rfl ?_
    refine K_aload_n (md := mX11_corrects) (pc := 10) 0 (kTab_at (pc := 10) tX11_corrects_ok 7 rfl) rfl ?_
    refine K_getR (md := mX11_corrects) (pc := 11) (b := 249) (kTab_at (pc := 11) tX11_corrects_ok 8 rfl) fl_X11_7 sk_248 rfl rfl ?_
    refine K_bipush (md := mX11_corrects) (pc := 14) (x := 14) (kTab_at (pc := 14) tX11_corrects_ok 9 rfl) (by decide) ?_
    refine K_iload_n (md := mX11_corrects) (pc := 16) 2 (kTab_at (pc := 16) tX11_corrects_ok 10 rfl) rfl ?_
    refine K_iadd (md := mX11_corrects) (pc := 17) (kTab_at (pc := 17) tX11_corrects_ok 11 rfl) ?_
    refine Z_iald (md := mX11_corrects) (pc := 18) (kTab_at (pc := 18) tX11_corrects_ok 12 rfl) sk_249 (by decide) h (fun x1 h => ?_)
    refine K_icmp_ge (md := mX11_corrects) (pc := 19) (kTab_at (pc := 19) tX11_corrects_ok 13 rfl) (tgt := 75) rfl h (fun h => ?_) (fun h => ?_)
    · refine K_sub [0, 3, 4] rfl ?_
      exact hk75 v3 v4 μ h
    · refine K_iload_n (md := mX11_corrects) (pc := 22) 3 (kTab_at (pc := 22) tX11_corrects_ok 14 rfl) rfl ?_
      refine K_aload_n (md := mX11_corrects) (pc := 23) 0 (kTab_at (pc := 23) tX11_corrects_ok 15 rfl) rfl ?_
      refine K_iload_n (md := mX11_corrects) (pc := 24) 1 (kTab_at (pc := 24) tX11_corrects_ok 16 rfl) rfl ?_
      refine K_iload_n (md := mX11_corrects) (pc := 25) 2 (kTab_at (pc := 25) tX11_corrects_ok 17 rfl) rfl ?_
      refine K_iload (md := mX11_corrects) (pc := 26) 5 (kTab_at (pc := 26) tX11_corrects_ok 18 rfl) rfl ?_
      refine Z_callV (md := mX11_corrects) (pc := 28) (st := [.int (iI v3)]) (sv := (fun x2 => [.int (iI x2), .int (iI v3)])) (kTab_at (pc := 28) tX11_corrects_ok 19 rfl) mv_X11_68 sk_248 rfl (Nat.le_of_ble_eq_true rfl) (by decide) rfl (c_X11_hasMarked X p1 p2 v5 μ) (fun _ => rfl) h (fun μ x2 h => ?_) rfl
      refine K_if_eq (md := mX11_corrects) (pc := 31) (kTab_at (pc := 31) tX11_corrects_ok 20 rfl) (tgt := 38) rfl h (fun h => ?_) (fun h => ?_)
      · refine K_iconst (md := mX11_corrects) (pc := 38) (x := 0) (kTab_at (pc := 38) tX11_corrects_ok 23 rfl) rfl ?_
        refine K_sub [0, 1, 2, 4, 5] rfl ?_
        refine c_X11_corrects_39 X p1 p2 _ ih v4 v5 v3 0 μ h
      · refine K_iconst (md := mX11_corrects) (pc := 34) (x := 1) (kTab_at (pc := 34) tX11_corrects_ok 21 rfl) rfl ?_
        refine K_goto (md := mX11_corrects) (pc := 35) (tgt := 39) (kTab_at (pc := 35) tX11_corrects_ok 22 rfl) rfl ?_
        refine K_sub [0, 1, 2, 4, 5] rfl ?_
        refine c_X11_corrects_39 X p1 p2 _ ih v4 v5 v3 1 μ h
def f_X11_corrects (p1 : Int) (p2 : Int) (μ : Mu) : Option Res := f_X11_corrects_8 p1 p2 (fun v3 v4 μ => i_eq v3 0 (f_X11_corrects_94 p1 p2 μ) (rb (f_X11_amount v4 μ) fun μ x1 => rb (f_X11_setting 0 μ) fun μ x2 => i_lt (v3 * x2) x1 (i_div 120 v3 fun x3 => f_X11_corrects_106 p1 p2 ((-v4) * x3) μ) (f_X11_corrects_94 p1 p2 μ))) FU 0 0 0 μ
set_option maxRecDepth 100000 in
theorem c_X11_corrects (X : kX) (p1 : Int) (p2 : Int)  (μ : Mu) : Cq X mX11_corrects 2 1 μ [.ref (X.1 + 248), .int (iI p1), .int (iI p2)] (f_X11_corrects p1 p2 μ) := by
  intro res h
  refine ct_of (by decide +kernel) rfl (Nat.le_of_ble_eq_true rfl) ?_
  show KK X mX11_corrects 2 1 res 0 [(0, .ref (X.1 + 248)), (1, .int (iI p1)), (2, .int (iI p2))] [] μ
  unfold f_X11_corrects at h
  refine K_iconst (md := mX11_corrects) (pc := 0) (x := 0) (kTab_at (pc := 0) tX11_corrects_ok 0 rfl) rfl ?_
  refine K_istore_n (md := mX11_corrects) (pc := 1) (l' := [(3, .int (iI 0)), (0, .ref (X.1 + 248)), (1, .int (iI p1)), (2, .int (iI p2))]) (kTab_at (pc := 1) tX11_corrects_ok 1 rfl) (Nat.le_of_ble_eq_true rfl) rfl ?_
  refine K_iconst (md := mX11_corrects) (pc := 2) (x := 0) (kTab_at (pc := 2) tX11_corrects_ok 2 rfl) rfl ?_
  refine K_istore (md := mX11_corrects) (pc := 3) (l' := [(4, .int (iI 0)), (3, .int (iI 0)), (0, .ref (X.1 + 248)), (1, .int (iI p1)), (2, .int (iI p2))]) (kTab_at (pc := 3) tX11_corrects_ok 3 rfl) (Nat.le_of_ble_eq_true rfl) rfl ?_
  refine K_iconst (md := mX11_corrects) (pc := 5) (x := 0) (kTab_at (pc := 5) tX11_corrects_ok 4 rfl) rfl ?_
  refine K_istore (md := mX11_corrects) (pc := 6) (l' := [(5, .int (iI 0)), (4, .int (iI 0)), (3, .int (iI 0)), (0, .ref (X.1 + 248)), (1, .int (iI p1)), (2, .int (iI p2))]) (kTab_at (pc := 6) tX11_corrects_ok 5 rfl) (Nat.le_of_ble_eq_true rfl) rfl ?_
  refine K_sub [3, 4, 5, 2, 1, 0] rfl ?_
  refine c_X11_corrects_8 X p1 p2 _ ?_ _ 0 0 0 μ h
  · intro v3 v4 μ h
    refine K_iload_n (md := mX11_corrects) (pc := 75) 1 (kTab_at (pc := 75) tX11_corrects_ok 44 rfl) rfl ?_
    refine K_if_eq (md := mX11_corrects) (pc := 76) (kTab_at (pc := 76) tX11_corrects_ok 45 rfl) (tgt := 94) rfl h (fun h => ?_) (fun h => ?_)
    · refine K_sub [] rfl ?_
      refine c_X11_corrects_94 X p1 p2  μ h
    · refine K_iload (md := mX11_corrects) (pc := 79) 2 (kTab_at (pc := 79) tX11_corrects_ok 46 rfl) rfl ?_
      refine Z_callS (md := mX11_corrects) (pc := 81) (st := []) (sv := (fun x1 => [.int (iI x1)])) (kTab_at (pc := 81) tX11_corrects_ok 47 rfl) ms_X11_74 rfl (Nat.le_of_ble_eq_true rfl) (by decide) rfl (c_X11_amount X v4 μ) (fun _ => rfl) h (fun μ x1 h => ?_) rfl
      refine K_iload_n (md := mX11_corrects) (pc := 84) 1 (kTab_at (pc := 84) tX11_corrects_ok 48 rfl) rfl ?_
      refine K_aload_n (md := mX11_corrects) (pc := 85) 0 (kTab_at (pc := 85) tX11_corrects_ok 49 rfl) rfl ?_
      refine K_iconst (md := mX11_corrects) (pc := 86) (x := 0) (kTab_at (pc := 86) tX11_corrects_ok 50 rfl) rfl ?_
      refine Z_callV (md := mX11_corrects) (pc := 87) (st := [.int (iI v3), .int (iI x1)]) (sv := (fun x2 => [.int (iI x2), .int (iI v3), .int (iI x1)])) (kTab_at (pc := 87) tX11_corrects_ok 51 rfl) mv_X11_78 sk_248 rfl (Nat.le_of_ble_eq_true rfl) (by decide) rfl (c_X11_setting X 0 μ) (fun _ => rfl) h (fun μ x2 h => ?_) rfl
      refine K_imul (md := mX11_corrects) (pc := 90) (kTab_at (pc := 90) tX11_corrects_ok 52 rfl) ?_
      refine K_icmp_gt (md := mX11_corrects) (pc := 91) (kTab_at (pc := 91) tX11_corrects_ok 53 rfl) (tgt := 98) rfl h (fun h => ?_) (fun h => ?_)
      · refine K_iload (md := mX11_corrects) (pc := 98) 2 (kTab_at (pc := 98) tX11_corrects_ok 56 rfl) rfl ?_
        refine K_ineg (md := mX11_corrects) (pc := 100) (kTab_at (pc := 100) tX11_corrects_ok 57 rfl) ?_
        refine K_bipush (md := mX11_corrects) (pc := 101) (x := 120) (kTab_at (pc := 101) tX11_corrects_ok 58 rfl) (by decide) ?_
        refine K_iload_n (md := mX11_corrects) (pc := 103) 1 (kTab_at (pc := 103) tX11_corrects_ok 59 rfl) rfl ?_
        refine Z_idiv (md := mX11_corrects) (pc := 104) (kTab_at (pc := 104) tX11_corrects_ok 60 rfl) h (fun x3 h => ?_)
        refine K_imul (md := mX11_corrects) (pc := 105) (kTab_at (pc := 105) tX11_corrects_ok 61 rfl) ?_
        refine K_sub [] rfl ?_
        refine c_X11_corrects_106 X p1 p2  ((-v4) * x3) μ h
      · refine K_sub [] rfl ?_
        refine c_X11_corrects_94 X p1 p2  μ h
def f_X11_part (p1 : Int) (p2 : Int) (μ : Mu) : Option Res := rdI μ 249 779 ((145 + (4 * p1)) + p2) fun x1 => some (μ, 0, x1)
set_option maxRecDepth 100000 in
theorem c_X11_part (X : kX) (p1 : Int) (p2 : Int)  (μ : Mu) : Cq X mX11_part 0 1 μ [.ref (X.1 + 248), .int (iI p1), .int (iI p2)] (f_X11_part p1 p2 μ) := by
  intro res h
  refine ct_of (by decide +kernel) rfl (Nat.le_of_ble_eq_true rfl) ?_
  show KK X mX11_part 0 1 res 0 [(0, .ref (X.1 + 248)), (1, .int (iI p1)), (2, .int (iI p2))] [] μ
  unfold f_X11_part at h
  refine K_aload_n (md := mX11_part) (pc := 0) 0 (kTab_at (pc := 0) tX11_part_ok 0 rfl) rfl ?_
  refine K_getR (md := mX11_part) (pc := 1) (b := 249) (kTab_at (pc := 1) tX11_part_ok 1 rfl) fl_X11_7 sk_248 rfl rfl ?_
  refine K_sipush (md := mX11_part) (pc := 4) (x := 145) (kTab_at (pc := 4) tX11_part_ok 2 rfl) (by decide) ?_
  refine K_iconst (md := mX11_part) (pc := 7) (x := 4) (kTab_at (pc := 7) tX11_part_ok 3 rfl) rfl ?_
  refine K_iload_n (md := mX11_part) (pc := 8) 1 (kTab_at (pc := 8) tX11_part_ok 4 rfl) rfl ?_
  refine K_imul (md := mX11_part) (pc := 9) (kTab_at (pc := 9) tX11_part_ok 5 rfl) ?_
  refine K_iadd (md := mX11_part) (pc := 10) (kTab_at (pc := 10) tX11_part_ok 6 rfl) ?_
  refine K_iload_n (md := mX11_part) (pc := 11) 2 (kTab_at (pc := 11) tX11_part_ok 7 rfl) rfl ?_
  refine K_iadd (md := mX11_part) (pc := 12) (kTab_at (pc := 12) tX11_part_ok 8 rfl) ?_
  refine Z_iald (md := mX11_part) (pc := 13) (kTab_at (pc := 13) tX11_part_ok 9 rfl) sk_249 (by decide) h (fun x1 h => ?_)
  exact Z_iret (md := mX11_part) (pc := 14) (kTab_at (pc := 14) tX11_part_ok 10 rfl) rfl rfl rfl h
def f_X11_isOf_25 (p1 : Int) (p2 : Int) (p3 : Int)  (s0 : Int) (μ : Mu) : Option Res := retZ μ s0
set_option maxRecDepth 100000 in
theorem c_X11_isOf_25 (X : kX) (p1 : Int) (p2 : Int) (p3 : Int)  {res : Res}  (s0 : Int) (μ : Mu) (h : f_X11_isOf_25 p1 p2 p3 s0 μ = some res) : KK X mX11_isOf 1 1 res 25 [] [.int (iI s0)] μ := by
  unfold f_X11_isOf_25 at h
  exact Z_zret (md := mX11_isOf) (pc := 25) (kTab_at (pc := 25) tX11_isOf_ok 15 rfl) rfl rfl h
def f_X11_isOf_24 (p1 : Int) (p2 : Int) (p3 : Int)   (μ : Mu) : Option Res := f_X11_isOf_25 p1 p2 p3 0 μ
set_option maxRecDepth 100000 in
theorem c_X11_isOf_24 (X : kX) (p1 : Int) (p2 : Int) (p3 : Int)  {res : Res}  (μ : Mu) (h : f_X11_isOf_24 p1 p2 p3 μ = some res) : KK X mX11_isOf 1 1 res 24 [] [] μ := by
  unfold f_X11_isOf_24 at h
  refine K_iconst (md := mX11_isOf) (pc := 24) (x := 0) (kTab_at (pc := 24) tX11_isOf_ok 14 rfl) rfl ?_
  refine c_X11_isOf_25 X p1 p2 p3  0 μ h
def f_X11_isOf (p1 : Int) (p2 : Int) (p3 : Int) (μ : Mu) : Option Res := rb (f_X11_part p1 1 μ) fun μ x1 => i_eq x1 p2 (rb (f_X11_part p1 2 μ) fun μ x2 => i_eq x2 p3 (f_X11_isOf_25 p1 p2 p3 1 μ) (f_X11_isOf_24 p1 p2 p3 μ)) (f_X11_isOf_24 p1 p2 p3 μ)
set_option maxRecDepth 100000 in
theorem c_X11_isOf (X : kX) (p1 : Int) (p2 : Int) (p3 : Int)  (μ : Mu) : Cq X mX11_isOf 1 1 μ [.ref (X.1 + 248), .int (iI p1), .int (iI p2), .int (iI p3)] (f_X11_isOf p1 p2 p3 μ) := by
  intro res h
  refine ct_of (by decide +kernel) rfl (Nat.le_of_ble_eq_true rfl) ?_
  show KK X mX11_isOf 1 1 res 0 [(0, .ref (X.1 + 248)), (1, .int (iI p1)), (2, .int (iI p2)), (3, .int (iI p3))] [] μ
  unfold f_X11_isOf at h
  refine K_aload_n (md := mX11_isOf) (pc := 0) 0 (kTab_at (pc := 0) tX11_isOf_ok 0 rfl) rfl ?_
  refine K_iload_n (md := mX11_isOf) (pc := 1) 1 (kTab_at (pc := 1) tX11_isOf_ok 1 rfl) rfl ?_
  refine K_iconst (md := mX11_isOf) (pc := 2) (x := 1) (kTab_at (pc := 2) tX11_isOf_ok 2 rfl) rfl ?_
  refine Z_callV (md := mX11_isOf) (pc := 3) (st := []) (sv := (fun x1 => [.int (iI x1)])) (kTab_at (pc := 3) tX11_isOf_ok 3 rfl) mv_X11_81 sk_248 rfl (Nat.le_of_ble_eq_true rfl) (by decide) rfl (c_X11_part X p1 1 μ) (fun _ => rfl) h (fun μ x1 h => ?_) rfl
  refine K_iload_n (md := mX11_isOf) (pc := 6) 2 (kTab_at (pc := 6) tX11_isOf_ok 4 rfl) rfl ?_
  refine K_icmp_ne (md := mX11_isOf) (pc := 7) (kTab_at (pc := 7) tX11_isOf_ok 5 rfl) (tgt := 24) rfl h (fun h => ?_) (fun h => ?_)
  · refine K_sub [] rfl ?_
    refine c_X11_isOf_24 X p1 p2 p3  μ h
  · refine K_aload_n (md := mX11_isOf) (pc := 10) 0 (kTab_at (pc := 10) tX11_isOf_ok 6 rfl) rfl ?_
    refine K_iload_n (md := mX11_isOf) (pc := 11) 1 (kTab_at (pc := 11) tX11_isOf_ok 7 rfl) rfl ?_
    refine K_iconst (md := mX11_isOf) (pc := 12) (x := 2) (kTab_at (pc := 12) tX11_isOf_ok 8 rfl) rfl ?_
    refine Z_callV (md := mX11_isOf) (pc := 13) (st := []) (sv := (fun x2 => [.int (iI x2)])) (kTab_at (pc := 13) tX11_isOf_ok 9 rfl) mv_X11_81 sk_248 rfl (Nat.le_of_ble_eq_true rfl) (by decide) rfl (c_X11_part X p1 2 μ) (fun _ => rfl) h (fun μ x2 h => ?_) rfl
    refine K_iload_n (md := mX11_isOf) (pc := 16) 3 (kTab_at (pc := 16) tX11_isOf_ok 10 rfl) rfl ?_
    refine K_icmp_ne (md := mX11_isOf) (pc := 17) (kTab_at (pc := 17) tX11_isOf_ok 11 rfl) (tgt := 24) rfl h (fun h => ?_) (fun h => ?_)
    · refine K_sub [] rfl ?_
      refine c_X11_isOf_24 X p1 p2 p3  μ h
    · refine K_iconst (md := mX11_isOf) (pc := 20) (x := 1) (kTab_at (pc := 20) tX11_isOf_ok 12 rfl) rfl ?_
      refine K_goto (md := mX11_isOf) (pc := 21) (tgt := 25) (kTab_at (pc := 21) tX11_isOf_ok 13 rfl) rfl ?_
      refine K_sub [] rfl ?_
      refine c_X11_isOf_25 X p1 p2 p3  1 μ h
def f_X11_entries_35 (p1 : Int) (p2 : Int) (k5 : Int → Int → Mu → Option Res) (v4 : Int) (s0 : Int) (s1 : Int) (μ : Mu) : Option Res := bnd (s0 + s1) fun x1 => k5 x1 (v4 + 1) μ
set_option maxRecDepth 100000 in
theorem c_X11_entries_35 (X : kX) (p1 : Int) (p2 : Int)  {res : Res} (k5 : Int → Int → Mu → Option Res) (hk5 : ∀ (v3 : Int), ∀ (v4 : Int), ∀ (μ : Mu), k5 v3 v4 μ = some res → KK X mX11_entries 2 1 res 5 [(0, .ref (X.1 + 248)), (1, .int (iI p1)), (2, .int (iI p2)), (3, .int (iI v3)), (4, .int (iI v4))] [] μ) (v4 : Int) (s0 : Int) (s1 : Int) (μ : Mu) (h : f_X11_entries_35 p1 p2 k5 v4 s0 s1 μ = some res) : KK X mX11_entries 2 1 res 35 [(0, .ref (X.1 + 248)), (1, .int (iI p1)), (2, .int (iI p2)), (4, .int (iI v4))] [.int (iI s1), .int (iI s0)] μ := by
  unfold f_X11_entries_35 at h
  refine K_iadd (md := mX11_entries) (pc := 35) (kTab_at (pc := 35) tX11_entries_ok 20 rfl) ?_
  refine Z_bnd (md := mX11_entries) (pc := 36) h (fun x1 h => ?_)
  refine K_istore_n (md := mX11_entries) (pc := 36) (l' := [(3, .int (iI x1)), (0, .ref (X.1 + 248)), (1, .int (iI p1)), (2, .int (iI p2)), (4, .int (iI v4))]) (kTab_at (pc := 36) tX11_entries_ok 21 rfl) (Nat.le_of_ble_eq_true rfl) rfl ?_
  refine K_iinc (md := mX11_entries) (pc := 37) (l' := [(4, .int (iI (v4 + 1))), (3, .int (iI x1)), (0, .ref (X.1 + 248)), (1, .int (iI p1)), (2, .int (iI p2))]) 4 (kTab_at (pc := 37) tX11_entries_ok 22 rfl) rfl (Nat.le_of_ble_eq_true rfl) rfl ?_
  refine K_goto (md := mX11_entries) (pc := 40) (tgt := 5) (kTab_at (pc := 40) tX11_entries_ok 23 rfl) rfl ?_
  refine K_sub [2, 3, 4, 1, 0] rfl ?_
  exact hk5 x1 (v4 + 1) μ h
def f_X11_entries_5 (p1 : Int) (p2 : Int) (k43 : Int → Mu → Option Res) : Nat → Int → Int → Mu → Option Res
  | 0, _, _, _ => none
  | fu + 1, v3, v4, μ => rdI μ 249 779 144 fun x1 => i_lt v4 x1 (rb (f_X11_isOf v4 p1 p2 μ) fun μ x2 => i_eq x2 0 (f_X11_entries_35 p1 p2 (f_X11_entries_5 p1 p2 k43 fu) v4 v3 0 μ) (f_X11_entries_35 p1 p2 (f_X11_entries_5 p1 p2 k43 fu) v4 v3 1 μ)) (k43 v3 μ)
set_option maxRecDepth 100000 in
theorem c_X11_entries_5 (X : kX) (p1 : Int) (p2 : Int)  {res : Res} (k43 : Int → Mu → Option Res) (hk43 : ∀ (v3 : Int), ∀ (μ : Mu), k43 v3 μ = some res → KK X mX11_entries 2 1 res 43 [(3, .int (iI v3))] [] μ) : ∀ (fu : Nat)  (v3 : Int) (v4 : Int) (μ : Mu), f_X11_entries_5 p1 p2 k43 fu v3 v4 μ = some res → KK X mX11_entries 2 1 res 5 [(0, .ref (X.1 + 248)), (1, .int (iI p1)), (2, .int (iI p2)), (3, .int (iI v3)), (4, .int (iI v4))] [] μ := by
  intro fu
  induction fu with
  | zero => intro v3 v4 μ h; exact nomatch h
  | succ fu ih =>
    intro v3 v4 μ h
    refine K_iload (md := mX11_entries) (pc := 5) 4 (kTab_at (pc := 5) tX11_entries_ok 4 rfl) rfl ?_
    refine K_aload_n (md := mX11_entries) (pc := 7) 0 (kTab_at (pc := 7) tX11_entries_ok 5 rfl) rfl ?_
    refine K_getR (md := mX11_entries) (pc := 8) (b := 249) (kTab_at (pc := 8) tX11_entries_ok 6 rfl) fl_X11_7 sk_248 rfl rfl ?_
    refine K_sipush (md := mX11_entries) (pc := 11) (x := 144) (kTab_at (pc := 11) tX11_entries_ok 7 rfl) (by decide) ?_
    refine Z_iald (md := mX11_entries) (pc := 14) (kTab_at (pc := 14) tX11_entries_ok 8 rfl) sk_249 (by decide) h (fun x1 h => ?_)
    refine K_icmp_ge (md := mX11_entries) (pc := 15) (kTab_at (pc := 15) tX11_entries_ok 9 rfl) (tgt := 43) rfl h (fun h => ?_) (fun h => ?_)
    · refine K_sub [3] rfl ?_
      exact hk43 v3 μ h
    · refine K_iload_n (md := mX11_entries) (pc := 18) 3 (kTab_at (pc := 18) tX11_entries_ok 10 rfl) rfl ?_
      refine K_aload_n (md := mX11_entries) (pc := 19) 0 (kTab_at (pc := 19) tX11_entries_ok 11 rfl) rfl ?_
      refine K_iload (md := mX11_entries) (pc := 20) 4 (kTab_at (pc := 20) tX11_entries_ok 12 rfl) rfl ?_
      refine K_iload_n (md := mX11_entries) (pc := 22) 1 (kTab_at (pc := 22) tX11_entries_ok 13 rfl) rfl ?_
      refine K_iload_n (md := mX11_entries) (pc := 23) 2 (kTab_at (pc := 23) tX11_entries_ok 14 rfl) rfl ?_
      refine Z_callV (md := mX11_entries) (pc := 24) (st := [.int (iI v3)]) (sv := (fun x2 => [.int (iI x2), .int (iI v3)])) (kTab_at (pc := 24) tX11_entries_ok 15 rfl) mv_X11_85 sk_248 rfl (Nat.le_of_ble_eq_true rfl) (by decide) rfl (c_X11_isOf X v4 p1 p2 μ) (fun _ => rfl) h (fun μ x2 h => ?_) rfl
      refine K_if_eq (md := mX11_entries) (pc := 27) (kTab_at (pc := 27) tX11_entries_ok 16 rfl) (tgt := 34) rfl h (fun h => ?_) (fun h => ?_)
      · refine K_iconst (md := mX11_entries) (pc := 34) (x := 0) (kTab_at (pc := 34) tX11_entries_ok 19 rfl) rfl ?_
        refine K_sub [0, 1, 2, 4] rfl ?_
        refine c_X11_entries_35 X p1 p2 _ ih v4 v3 0 μ h
      · refine K_iconst (md := mX11_entries) (pc := 30) (x := 1) (kTab_at (pc := 30) tX11_entries_ok 17 rfl) rfl ?_
        refine K_goto (md := mX11_entries) (pc := 31) (tgt := 35) (kTab_at (pc := 31) tX11_entries_ok 18 rfl) rfl ?_
        refine K_sub [0, 1, 2, 4] rfl ?_
        refine c_X11_entries_35 X p1 p2 _ ih v4 v3 1 μ h
def f_X11_entries (p1 : Int) (p2 : Int) (μ : Mu) : Option Res := f_X11_entries_5 p1 p2 (fun v3 μ => some (μ, 0, v3)) FU 0 0 μ
set_option maxRecDepth 100000 in
theorem c_X11_entries (X : kX) (p1 : Int) (p2 : Int)  (μ : Mu) : Cq X mX11_entries 2 1 μ [.ref (X.1 + 248), .int (iI p1), .int (iI p2)] (f_X11_entries p1 p2 μ) := by
  intro res h
  refine ct_of (by decide +kernel) rfl (Nat.le_of_ble_eq_true rfl) ?_
  show KK X mX11_entries 2 1 res 0 [(0, .ref (X.1 + 248)), (1, .int (iI p1)), (2, .int (iI p2))] [] μ
  unfold f_X11_entries at h
  refine K_iconst (md := mX11_entries) (pc := 0) (x := 0) (kTab_at (pc := 0) tX11_entries_ok 0 rfl) rfl ?_
  refine K_istore_n (md := mX11_entries) (pc := 1) (l' := [(3, .int (iI 0)), (0, .ref (X.1 + 248)), (1, .int (iI p1)), (2, .int (iI p2))]) (kTab_at (pc := 1) tX11_entries_ok 1 rfl) (Nat.le_of_ble_eq_true rfl) rfl ?_
  refine K_iconst (md := mX11_entries) (pc := 2) (x := 0) (kTab_at (pc := 2) tX11_entries_ok 2 rfl) rfl ?_
  refine K_istore (md := mX11_entries) (pc := 3) (l' := [(4, .int (iI 0)), (3, .int (iI 0)), (0, .ref (X.1 + 248)), (1, .int (iI p1)), (2, .int (iI p2))]) (kTab_at (pc := 3) tX11_entries_ok 3 rfl) (Nat.le_of_ble_eq_true rfl) rfl ?_
  refine K_sub [2, 3, 4, 1, 0] rfl ?_
  refine c_X11_entries_5 X p1 p2 _ ?_ _ 0 0 μ h
  · intro v3 μ h
    refine K_iload_n (md := mX11_entries) (pc := 43) 0 (kTab_at (pc := 43) tX11_entries_ok 24 rfl) rfl ?_
    exact Z_iret (md := mX11_entries) (pc := 44) (kTab_at (pc := 44) tX11_entries_ok 25 rfl) rfl rfl rfl h
def f_X11_entryOf_41 (p1 : Int) (p2 : Int) (p3 : Int) (k6 : Int → Int → Mu → Option Res) (v4 : Int) (v5 : Int) (μ : Mu) : Option Res := k6 v4 (v5 + 1) μ
set_option maxRecDepth 100000 in
theorem c_X11_entryOf_41 (X : kX) (p1 : Int) (p2 : Int) (p3 : Int)  {res : Res} (k6 : Int → Int → Mu → Option Res) (hk6 : ∀ (v4 : Int), ∀ (v5 : Int), ∀ (μ : Mu), k6 v4 v5 μ = some res → KK X mX11_entryOf 2 1 res 6 [(0, .ref (X.1 + 248)), (1, .int (iI p1)), (2, .int (iI p2)), (4, .int (iI v4)), (5, .int (iI v5))] [] μ) (v4 : Int) (v5 : Int) (μ : Mu) (h : f_X11_entryOf_41 p1 p2 p3 k6 v4 v5 μ = some res) : KK X mX11_entryOf 2 1 res 41 [(0, .ref (X.1 + 248)), (1, .int (iI p1)), (2, .int (iI p2)), (4, .int (iI v4)), (5, .int (iI v5))] [] μ := by
  unfold f_X11_entryOf_41 at h
  refine K_iinc (md := mX11_entryOf) (pc := 41) (l' := [(5, .int (iI (v5 + 1))), (0, .ref (X.1 + 248)), (1, .int (iI p1)), (2, .int (iI p2)), (4, .int (iI v4))]) 4 (kTab_at (pc := 41) tX11_entryOf_ok 21 rfl) rfl (Nat.le_of_ble_eq_true rfl) rfl ?_
  refine K_goto (md := mX11_entryOf) (pc := 44) (tgt := 6) (kTab_at (pc := 44) tX11_entryOf_ok 22 rfl) rfl ?_
  refine K_sub [1, 2, 3, 4, 0] rfl ?_
  exact hk6 v4 (v5 + 1) μ h
def f_X11_entryOf_6 (p1 : Int) (p2 : Int) (p3 : Int) (k35 : Int → Mu → Option Res) (k47 : Mu → Option Res) : Nat → Int → Int → Mu → Option Res
  | 0, _, _, _ => none
  | fu + 1, v4, v5, μ => rdI μ 249 779 144 fun x1 => i_lt v5 x1 (rb (f_X11_isOf v5 p1 p2 μ) fun μ x2 => i_eq x2 0 (f_X11_entryOf_41 p1 p2 p3 (f_X11_entryOf_6 p1 p2 p3 k35 k47 fu) v4 v5 μ) (i_eq v4 0 (k35 v5 μ) (f_X11_entryOf_41 p1 p2 p3 (f_X11_entryOf_6 p1 p2 p3 k35 k47 fu) (v4 + (-1)) v5 μ))) (k47 μ)
set_option maxRecDepth 100000 in
theorem c_X11_entryOf_6 (X : kX) (p1 : Int) (p2 : Int) (p3 : Int)  {res : Res} (k35 : Int → Mu → Option Res) (hk35 : ∀ (v5 : Int), ∀ (μ : Mu), k35 v5 μ = some res → KK X mX11_entryOf 2 1 res 35 [(5, .int (iI v5))] [] μ) (k47 : Mu → Option Res) (hk47 : ∀ (μ : Mu), k47 μ = some res → KK X mX11_entryOf 2 1 res 47 [] [] μ) : ∀ (fu : Nat)  (v4 : Int) (v5 : Int) (μ : Mu), f_X11_entryOf_6 p1 p2 p3 k35 k47 fu v4 v5 μ = some res → KK X mX11_entryOf 2 1 res 6 [(0, .ref (X.1 + 248)), (1, .int (iI p1)), (2, .int (iI p2)), (4, .int (iI v4)), (5, .int (iI v5))] [] μ := by
  intro fu
  induction fu with
  | zero => intro v4 v5 μ h; exact nomatch h
  | succ fu ih =>
    intro v4 v5 μ h
    refine K_iload (md := mX11_entryOf) (pc := 6) 4 (kTab_at (pc := 6) tX11_entryOf_ok 4 rfl) rfl ?_
    refine K_aload_n (md := mX11_entryOf) (pc := 8) 0 (kTab_at (pc := 8) tX11_entryOf_ok 5 rfl) rfl ?_
    refine K_getR (md := mX11_entryOf) (pc := 9) (b := 249) (kTab_at (pc := 9) tX11_entryOf_ok 6 rfl) fl_X11_7 sk_248 rfl rfl ?_
    refine K_sipush (md := mX11_entryOf) (pc := 12) (x := 144) (kTab_at (pc := 12) tX11_entryOf_ok 7 rfl) (by decide) ?_
    refine Z_iald (md := mX11_entryOf) (pc := 15) (kTab_at (pc := 15) tX11_entryOf_ok 8 rfl) sk_249 (by decide) h (fun x1 h => ?_)
    refine K_icmp_ge (md := mX11_entryOf) (pc := 16) (kTab_at (pc := 16) tX11_entryOf_ok 9 rfl) (tgt := 47) rfl h (fun h => ?_) (fun h => ?_)
    · refine K_sub [] rfl ?_
      exact hk47 μ h
    · refine K_aload_n (md := mX11_entryOf) (pc := 19) 0 (kTab_at (pc := 19) tX11_entryOf_ok 10 rfl) rfl ?_
      refine K_iload (md := mX11_entryOf) (pc := 20) 4 (kTab_at (pc := 20) tX11_entryOf_ok 11 rfl) rfl ?_
      refine K_iload_n (md := mX11_entryOf) (pc := 22) 1 (kTab_at (pc := 22) tX11_entryOf_ok 12 rfl) rfl ?_
      refine K_iload_n (md := mX11_entryOf) (pc := 23) 2 (kTab_at (pc := 23) tX11_entryOf_ok 13 rfl) rfl ?_
      refine Z_callV (md := mX11_entryOf) (pc := 24) (st := []) (sv := (fun x2 => [.int (iI x2)])) (kTab_at (pc := 24) tX11_entryOf_ok 14 rfl) mv_X11_85 sk_248 rfl (Nat.le_of_ble_eq_true rfl) (by decide) rfl (c_X11_isOf X v5 p1 p2 μ) (fun _ => rfl) h (fun μ x2 h => ?_) rfl
      refine K_if_eq (md := mX11_entryOf) (pc := 27) (kTab_at (pc := 27) tX11_entryOf_ok 15 rfl) (tgt := 41) rfl h (fun h => ?_) (fun h => ?_)
      · refine c_X11_entryOf_41 X p1 p2 p3 _ ih v4 v5 μ h
      · refine K_iload (md := mX11_entryOf) (pc := 30) 3 (kTab_at (pc := 30) tX11_entryOf_ok 16 rfl) rfl ?_
        refine K_if_ne (md := mX11_entryOf) (pc := 32) (kTab_at (pc := 32) tX11_entryOf_ok 17 rfl) (tgt := 38) rfl h (fun h => ?_) (fun h => ?_)
        · refine K_iinc (md := mX11_entryOf) (pc := 38) (l' := [(4, .int (iI (v4 + (-1)))), (0, .ref (X.1 + 248)), (1, .int (iI p1)), (2, .int (iI p2)), (5, .int (iI v5))]) 3 (kTab_at (pc := 38) tX11_entryOf_ok 20 rfl) rfl (Nat.le_of_ble_eq_true rfl) rfl ?_
          refine K_sub [1, 2, 3, 0, 4] rfl ?_
          refine c_X11_entryOf_41 X p1 p2 p3 _ ih (v4 + (-1)) v5 μ h
        · refine K_sub [4] rfl ?_
          exact hk35 v5 μ h
def f_X11_entryOf (p1 : Int) (p2 : Int) (p3 : Int) (μ : Mu) : Option Res := f_X11_entryOf_6 p1 p2 p3 (fun v5 μ => some (μ, 0, v5)) (fun μ => some (μ, 0, (-1))) FU p3 0 μ
set_option maxRecDepth 100000 in
theorem c_X11_entryOf (X : kX) (p1 : Int) (p2 : Int) (p3 : Int)  (μ : Mu) : Cq X mX11_entryOf 2 1 μ [.ref (X.1 + 248), .int (iI p1), .int (iI p2), .int (iI p3)] (f_X11_entryOf p1 p2 p3 μ) := by
  intro res h
  refine ct_of (by decide +kernel) rfl (Nat.le_of_ble_eq_true rfl) ?_
  show KK X mX11_entryOf 2 1 res 0 [(0, .ref (X.1 + 248)), (1, .int (iI p1)), (2, .int (iI p2)), (3, .int (iI p3))] [] μ
  unfold f_X11_entryOf at h
  refine K_iload_n (md := mX11_entryOf) (pc := 0) 3 (kTab_at (pc := 0) tX11_entryOf_ok 0 rfl) rfl ?_
  refine K_istore (md := mX11_entryOf) (pc := 1) (l' := [(4, .int (iI p3)), (0, .ref (X.1 + 248)), (1, .int (iI p1)), (2, .int (iI p2)), (3, .int (iI p3))]) (kTab_at (pc := 1) tX11_entryOf_ok 1 rfl) (Nat.le_of_ble_eq_true rfl) rfl ?_
  refine K_iconst (md := mX11_entryOf) (pc := 3) (x := 0) (kTab_at (pc := 3) tX11_entryOf_ok 2 rfl) rfl ?_
  refine K_istore (md := mX11_entryOf) (pc := 4) (l' := [(5, .int (iI 0)), (4, .int (iI p3)), (0, .ref (X.1 + 248)), (1, .int (iI p1)), (2, .int (iI p2)), (3, .int (iI p3))]) (kTab_at (pc := 4) tX11_entryOf_ok 3 rfl) (Nat.le_of_ble_eq_true rfl) rfl ?_
  refine K_sub [2, 3, 4, 1, 0] rfl ?_
  refine c_X11_entryOf_6 X p1 p2 p3 _ ?_ _ ?_ _ p3 0 μ h
  · intro v5 μ h
    refine K_iload (md := mX11_entryOf) (pc := 35) 0 (kTab_at (pc := 35) tX11_entryOf_ok 18 rfl) rfl ?_
    exact Z_iret (md := mX11_entryOf) (pc := 37) (kTab_at (pc := 37) tX11_entryOf_ok 19 rfl) rfl rfl rfl h
  · intro  μ h
    refine K_iconst (md := mX11_entryOf) (pc := 47) (x := -1) (kTab_at (pc := 47) tX11_entryOf_ok 23 rfl) rfl ?_
    exact Z_iret (md := mX11_entryOf) (pc := 48) (kTab_at (pc := 48) tX11_entryOf_ok 24 rfl) rfl rfl rfl h
def f_X11_isValid_24 (p1 : Int)  (s0 : Int) (μ : Mu) : Option Res := retZ μ s0
set_option maxRecDepth 100000 in
theorem c_X11_isValid_24 (X : kX) (p1 : Int)  {res : Res}  (s0 : Int) (μ : Mu) (h : f_X11_isValid_24 p1 s0 μ = some res) : KK X mX11_isValid 3 1 res 24 [] [.int (iI s0)] μ := by
  unfold f_X11_isValid_24 at h
  exact Z_zret (md := mX11_isValid) (pc := 24) (kTab_at (pc := 24) tX11_isValid_ok 14 rfl) rfl rfl h
def f_X11_isValid (p1 : Int) (μ : Mu) : Option Res := rb (f_X11_part p1 0 μ) fun μ x1 => rb (f_X11_part p1 2 μ) fun μ x2 => rb (f_X11_suspended x1 x2 μ) fun μ x3 => i_eq x3 0 (f_X11_isValid_24 p1 1 μ) (f_X11_isValid_24 p1 0 μ)
set_option maxRecDepth 100000 in
theorem c_X11_isValid (X : kX) (p1 : Int)  (μ : Mu) : Cq X mX11_isValid 3 1 μ [.ref (X.1 + 248), .int (iI p1)] (f_X11_isValid p1 μ) := by
  intro res h
  refine ct_of (by decide +kernel) rfl (Nat.le_of_ble_eq_true rfl) ?_
  show KK X mX11_isValid 3 1 res 0 [(0, .ref (X.1 + 248)), (1, .int (iI p1))] [] μ
  unfold f_X11_isValid at h
  refine K_aload_n (md := mX11_isValid) (pc := 0) 0 (kTab_at (pc := 0) tX11_isValid_ok 0 rfl) rfl ?_
  refine K_aload_n (md := mX11_isValid) (pc := 1) 0 (kTab_at (pc := 1) tX11_isValid_ok 1 rfl) rfl ?_
  refine K_iload_n (md := mX11_isValid) (pc := 2) 1 (kTab_at (pc := 2) tX11_isValid_ok 2 rfl) rfl ?_
  refine K_iconst (md := mX11_isValid) (pc := 3) (x := 0) (kTab_at (pc := 3) tX11_isValid_ok 3 rfl) rfl ?_
  refine Z_callV (md := mX11_isValid) (pc := 4) (st := [.ref (X.1 + 248)]) (sv := (fun x1 => [.int (iI x1), .ref (X.1 + 248)])) (kTab_at (pc := 4) tX11_isValid_ok 4 rfl) mv_X11_81 sk_248 rfl (Nat.le_of_ble_eq_true rfl) (by decide) rfl (c_X11_part X p1 0 μ) (fun _ => rfl) h (fun μ x1 h => ?_) rfl
  refine K_aload_n (md := mX11_isValid) (pc := 7) 0 (kTab_at (pc := 7) tX11_isValid_ok 5 rfl) rfl ?_
  refine K_iload_n (md := mX11_isValid) (pc := 8) 1 (kTab_at (pc := 8) tX11_isValid_ok 6 rfl) rfl ?_
  refine K_iconst (md := mX11_isValid) (pc := 9) (x := 2) (kTab_at (pc := 9) tX11_isValid_ok 7 rfl) rfl ?_
  refine Z_callV (md := mX11_isValid) (pc := 10) (st := [.int (iI x1), .ref (X.1 + 248)]) (sv := (fun x2 => [.int (iI x2), .int (iI x1), .ref (X.1 + 248)])) (kTab_at (pc := 10) tX11_isValid_ok 8 rfl) mv_X11_81 sk_248 rfl (Nat.le_of_ble_eq_true rfl) (by decide) rfl (c_X11_part X p1 2 μ) (fun _ => rfl) h (fun μ x2 h => ?_) rfl
  refine Z_callV (md := mX11_isValid) (pc := 13) (st := []) (sv := (fun x3 => [.int (iI x3)])) (kTab_at (pc := 13) tX11_isValid_ok 9 rfl) mv_X11_88 sk_248 rfl (Nat.le_of_ble_eq_true rfl) (by decide) rfl (c_X11_suspended X x1 x2 μ) (fun _ => rfl) h (fun μ x3 h => ?_) rfl
  refine K_if_ne (md := mX11_isValid) (pc := 16) (kTab_at (pc := 16) tX11_isValid_ok 10 rfl) (tgt := 23) rfl h (fun h => ?_) (fun h => ?_)
  · refine K_iconst (md := mX11_isValid) (pc := 23) (x := 0) (kTab_at (pc := 23) tX11_isValid_ok 13 rfl) rfl ?_
    refine K_sub [] rfl ?_
    refine c_X11_isValid_24 X p1  0 μ h
  · refine K_iconst (md := mX11_isValid) (pc := 19) (x := 1) (kTab_at (pc := 19) tX11_isValid_ok 11 rfl) rfl ?_
    refine K_goto (md := mX11_isValid) (pc := 20) (tgt := 24) (kTab_at (pc := 20) tX11_isValid_ok 12 rfl) rfl ?_
    refine K_sub [] rfl ?_
    refine c_X11_isValid_24 X p1  1 μ h
def f_X11_value_67 (p1 : Int)  (s0 : Int) (μ : Mu) : Option Res := some (μ, 0, s0)
set_option maxRecDepth 100000 in
theorem c_X11_value_67 (X : kX) (p1 : Int)  {res : Res}  (s0 : Int) (μ : Mu) (h : f_X11_value_67 p1 s0 μ = some res) : KK X mX11_value 3 1 res 67 [] [.int (iI s0)] μ := by
  unfold f_X11_value_67 at h
  exact Z_iret (md := mX11_value) (pc := 67) (kTab_at (pc := 67) tX11_value_ok 44 rfl) rfl rfl rfl h
def f_X11_value (p1 : Int) (μ : Mu) : Option Res := rb (f_X11_part p1 2 μ) fun μ x1 => rb (f_X11_part p1 3 μ) fun μ x2 => rb (f_X11_part p1 0 μ) fun μ x3 => rb (f_X11_corrects x3 x1 μ) fun μ x4 => bnd ((x2 * 120) + x4) fun x5 => i_lt x5 0 (f_X11_value_67 p1 0 μ) (rdI μ 249 779 (0 + x1) fun x6 => i_lt (x6 * 120) x5 (rdI μ 249 779 (0 + x1) fun x7 => f_X11_value_67 p1 (x7 * 120) μ) (f_X11_value_67 p1 x5 μ))
set_option maxRecDepth 100000 in
theorem c_X11_value (X : kX) (p1 : Int)  (μ : Mu) : Cq X mX11_value 3 1 μ [.ref (X.1 + 248), .int (iI p1)] (f_X11_value p1 μ) := by
  intro res h
  refine ct_of (by decide +kernel) rfl (Nat.le_of_ble_eq_true rfl) ?_
  show KK X mX11_value 3 1 res 0 [(0, .ref (X.1 + 248)), (1, .int (iI p1))] [] μ
  unfold f_X11_value at h
  refine K_aload_n (md := mX11_value) (pc := 0) 0 (kTab_at (pc := 0) tX11_value_ok 0 rfl) rfl ?_
  refine K_iload_n (md := mX11_value) (pc := 1) 1 (kTab_at (pc := 1) tX11_value_ok 1 rfl) rfl ?_
  refine K_iconst (md := mX11_value) (pc := 2) (x := 2) (kTab_at (pc := 2) tX11_value_ok 2 rfl) rfl ?_
  refine Z_callV (md := mX11_value) (pc := 3) (st := []) (sv := (fun x1 => [.int (iI x1)])) (kTab_at (pc := 3) tX11_value_ok 3 rfl) mv_X11_81 sk_248 rfl (Nat.le_of_ble_eq_true rfl) (by decide) rfl (c_X11_part X p1 2 μ) (fun _ => rfl) h (fun μ x1 h => ?_) rfl
  refine K_istore_n (md := mX11_value) (pc := 6) (l' := [(2, .int (iI x1)), (0, .ref (X.1 + 248)), (1, .int (iI p1))]) (kTab_at (pc := 6) tX11_value_ok 4 rfl) (Nat.le_of_ble_eq_true rfl) rfl ?_
  refine K_aload_n (md := mX11_value) (pc := 7) 1 (kTab_at (pc := 7) tX11_value_ok 5 rfl) rfl ?_
  refine K_iload_n (md := mX11_value) (pc := 8) 2 (kTab_at (pc := 8) tX11_value_ok 6 rfl) rfl ?_
  refine K_iconst (md := mX11_value) (pc := 9) (x := 3) (kTab_at (pc := 9) tX11_value_ok 7 rfl) rfl ?_
  refine Z_callV (md := mX11_value) (pc := 10) (st := []) (sv := (fun x2 => [.int (iI x2)])) (kTab_at (pc := 10) tX11_value_ok 8 rfl) mv_X11_81 sk_248 rfl (Nat.le_of_ble_eq_true rfl) (by decide) rfl (c_X11_part X p1 3 μ) (fun _ => rfl) h (fun μ x2 h => ?_) rfl
  refine K_bipush (md := mX11_value) (pc := 13) (x := 120) (kTab_at (pc := 13) tX11_value_ok 9 rfl) (by decide) ?_
  refine K_imul (md := mX11_value) (pc := 15) (kTab_at (pc := 15) tX11_value_ok 10 rfl) ?_
  refine K_aload_n (md := mX11_value) (pc := 16) 1 (kTab_at (pc := 16) tX11_value_ok 11 rfl) rfl ?_
  refine K_aload_n (md := mX11_value) (pc := 17) 1 (kTab_at (pc := 17) tX11_value_ok 12 rfl) rfl ?_
  refine K_iload_n (md := mX11_value) (pc := 18) 2 (kTab_at (pc := 18) tX11_value_ok 13 rfl) rfl ?_
  refine K_iconst (md := mX11_value) (pc := 19) (x := 0) (kTab_at (pc := 19) tX11_value_ok 14 rfl) rfl ?_
  refine Z_callV (md := mX11_value) (pc := 20) (st := [.ref (X.1 + 248), .int (iI (x2 * 120))]) (sv := (fun x3 => [.int (iI x3), .ref (X.1 + 248), .int (iI (x2 * 120))])) (kTab_at (pc := 20) tX11_value_ok 15 rfl) mv_X11_81 sk_248 rfl (Nat.le_of_ble_eq_true rfl) (by decide) rfl (c_X11_part X p1 0 μ) (fun _ => rfl) h (fun μ x3 h => ?_) rfl
  refine K_iload_n (md := mX11_value) (pc := 23) 0 (kTab_at (pc := 23) tX11_value_ok 16 rfl) rfl ?_
  refine Z_callV (md := mX11_value) (pc := 24) (st := [.int (iI (x2 * 120))]) (sv := (fun x4 => [.int (iI x4), .int (iI (x2 * 120))])) (kTab_at (pc := 24) tX11_value_ok 17 rfl) mv_X11_92 sk_248 rfl (Nat.le_of_ble_eq_true rfl) (by decide) rfl (c_X11_corrects X x3 x1 μ) (fun _ => rfl) h (fun μ x4 h => ?_) rfl
  refine K_iadd (md := mX11_value) (pc := 27) (kTab_at (pc := 27) tX11_value_ok 18 rfl) ?_
  refine Z_bnd (md := mX11_value) (pc := 28) h (fun x5 h => ?_)
  refine K_istore_n (md := mX11_value) (pc := 28) (l' := [(3, .int (iI x5)), (2, .int (iI x1)), (0, .ref (X.1 + 248)), (1, .int (iI p1))]) (kTab_at (pc := 28) tX11_value_ok 19 rfl) (Nat.le_of_ble_eq_true rfl) rfl ?_
  refine K_iload_n (md := mX11_value) (pc := 29) 0 (kTab_at (pc := 29) tX11_value_ok 20 rfl) rfl ?_
  refine K_if_ge (md := mX11_value) (pc := 30) (kTab_at (pc := 30) tX11_value_ok 21 rfl) (tgt := 37) rfl h (fun h => ?_) (fun h => ?_)
  · refine K_iload_n (md := mX11_value) (pc := 37) 0 (kTab_at (pc := 37) tX11_value_ok 24 rfl) rfl ?_
    refine K_aload_n (md := mX11_value) (pc := 38) 2 (kTab_at (pc := 38) tX11_value_ok 25 rfl) rfl ?_
    refine K_getR (md := mX11_value) (pc := 39) (b := 249) (kTab_at (pc := 39) tX11_value_ok 26 rfl) fl_X11_7 sk_248 rfl rfl ?_
    refine K_iconst (md := mX11_value) (pc := 42) (x := 0) (kTab_at (pc := 42) tX11_value_ok 27 rfl) rfl ?_
    refine K_iload_n (md := mX11_value) (pc := 43) 1 (kTab_at (pc := 43) tX11_value_ok 28 rfl) rfl ?_
    refine K_iadd (md := mX11_value) (pc := 44) (kTab_at (pc := 44) tX11_value_ok 29 rfl) ?_
    refine Z_iald (md := mX11_value) (pc := 45) (kTab_at (pc := 45) tX11_value_ok 30 rfl) sk_249 (by decide) h (fun x6 h => ?_)
    refine K_bipush (md := mX11_value) (pc := 46) (x := 120) (kTab_at (pc := 46) tX11_value_ok 31 rfl) (by decide) ?_
    refine K_imul (md := mX11_value) (pc := 48) (kTab_at (pc := 48) tX11_value_ok 32 rfl) ?_
    refine K_icmp_le (md := mX11_value) (pc := 49) (kTab_at (pc := 49) tX11_value_ok 33 rfl) (tgt := 66) rfl h (fun h => ?_) (fun h => ?_)
    · refine K_iload_n (md := mX11_value) (pc := 66) 0 (kTab_at (pc := 66) tX11_value_ok 43 rfl) rfl ?_
      refine K_sub [] rfl ?_
      refine c_X11_value_67 X p1  x5 μ h
    · refine K_aload_n (md := mX11_value) (pc := 52) 2 (kTab_at (pc := 52) tX11_value_ok 34 rfl) rfl ?_
      refine K_getR (md := mX11_value) (pc := 53) (b := 249) (kTab_at (pc := 53) tX11_value_ok 35 rfl) fl_X11_7 sk_248 rfl rfl ?_
      refine K_iconst (md := mX11_value) (pc := 56) (x := 0) (kTab_at (pc := 56) tX11_value_ok 36 rfl) rfl ?_
      refine K_iload_n (md := mX11_value) (pc := 57) 1 (kTab_at (pc := 57) tX11_value_ok 37 rfl) rfl ?_
      refine K_iadd (md := mX11_value) (pc := 58) (kTab_at (pc := 58) tX11_value_ok 38 rfl) ?_
      refine Z_iald (md := mX11_value) (pc := 59) (kTab_at (pc := 59) tX11_value_ok 39 rfl) sk_249 (by decide) h (fun x7 h => ?_)
      refine K_bipush (md := mX11_value) (pc := 60) (x := 120) (kTab_at (pc := 60) tX11_value_ok 40 rfl) (by decide) ?_
      refine K_imul (md := mX11_value) (pc := 62) (kTab_at (pc := 62) tX11_value_ok 41 rfl) ?_
      refine K_goto (md := mX11_value) (pc := 63) (tgt := 67) (kTab_at (pc := 63) tX11_value_ok 42 rfl) rfl ?_
      refine K_sub [] rfl ?_
      refine c_X11_value_67 X p1  (x7 * 120) μ h
  · refine K_iconst (md := mX11_value) (pc := 33) (x := 0) (kTab_at (pc := 33) tX11_value_ok 22 rfl) rfl ?_
    refine K_goto (md := mX11_value) (pc := 34) (tgt := 67) (kTab_at (pc := 34) tX11_value_ok 23 rfl) rfl ?_
    refine K_sub [] rfl ?_
    refine c_X11_value_67 X p1  0 μ h
def f_X11_agree_22 (p1 : Int) (p2 : Int)  (s0 : Int) (μ : Mu) : Option Res := retZ μ s0
set_option maxRecDepth 100000 in
theorem c_X11_agree_22 (X : kX) (p1 : Int) (p2 : Int)  {res : Res}  (s0 : Int) (μ : Mu) (h : f_X11_agree_22 p1 p2 s0 μ = some res) : KK X mX11_agree 1 1 res 22 [] [.int (iI s0)] μ := by
  unfold f_X11_agree_22 at h
  exact Z_zret (md := mX11_agree) (pc := 22) (kTab_at (pc := 22) tX11_agree_ok 13 rfl) rfl rfl h
def f_X11_agree (p1 : Int) (p2 : Int) (μ : Mu) : Option Res := rb (f_X11_amount (p1 - p2) μ) fun μ x1 => rb (f_X11_setting 2 μ) fun μ x2 => i_lt (x2 * 120) x1 (f_X11_agree_22 p1 p2 0 μ) (f_X11_agree_22 p1 p2 1 μ)
set_option maxRecDepth 100000 in
theorem c_X11_agree (X : kX) (p1 : Int) (p2 : Int)  (μ : Mu) : Cq X mX11_agree 1 1 μ [.ref (X.1 + 248), .int (iI p1), .int (iI p2)] (f_X11_agree p1 p2 μ) := by
  intro res h
  refine ct_of (by decide +kernel) rfl (Nat.le_of_ble_eq_true rfl) ?_
  show KK X mX11_agree 1 1 res 0 [(0, .ref (X.1 + 248)), (1, .int (iI p1)), (2, .int (iI p2))] [] μ
  unfold f_X11_agree at h
  refine K_iload_n (md := mX11_agree) (pc := 0) 1 (kTab_at (pc := 0) tX11_agree_ok 0 rfl) rfl ?_
  refine K_iload_n (md := mX11_agree) (pc := 1) 2 (kTab_at (pc := 1) tX11_agree_ok 1 rfl) rfl ?_
  refine K_isub (md := mX11_agree) (pc := 2) (kTab_at (pc := 2) tX11_agree_ok 2 rfl) ?_
  refine Z_callS (md := mX11_agree) (pc := 3) (st := []) (sv := (fun x1 => [.int (iI x1)])) (kTab_at (pc := 3) tX11_agree_ok 3 rfl) ms_X11_74 rfl (Nat.le_of_ble_eq_true rfl) (by decide) rfl (c_X11_amount X (p1 - p2) μ) (fun _ => rfl) h (fun μ x1 h => ?_) rfl
  refine K_aload_n (md := mX11_agree) (pc := 6) 0 (kTab_at (pc := 6) tX11_agree_ok 4 rfl) rfl ?_
  refine K_iconst (md := mX11_agree) (pc := 7) (x := 2) (kTab_at (pc := 7) tX11_agree_ok 5 rfl) rfl ?_
  refine Z_callV (md := mX11_agree) (pc := 8) (st := [.int (iI x1)]) (sv := (fun x2 => [.int (iI x2), .int (iI x1)])) (kTab_at (pc := 8) tX11_agree_ok 6 rfl) mv_X11_78 sk_248 rfl (Nat.le_of_ble_eq_true rfl) (by decide) rfl (c_X11_setting X 2 μ) (fun _ => rfl) h (fun μ x2 h => ?_) rfl
  refine K_bipush (md := mX11_agree) (pc := 11) (x := 120) (kTab_at (pc := 11) tX11_agree_ok 7 rfl) (by decide) ?_
  refine K_imul (md := mX11_agree) (pc := 13) (kTab_at (pc := 13) tX11_agree_ok 8 rfl) ?_
  refine K_icmp_gt (md := mX11_agree) (pc := 14) (kTab_at (pc := 14) tX11_agree_ok 9 rfl) (tgt := 21) rfl h (fun h => ?_) (fun h => ?_)
  · refine K_iconst (md := mX11_agree) (pc := 21) (x := 0) (kTab_at (pc := 21) tX11_agree_ok 12 rfl) rfl ?_
    refine K_sub [] rfl ?_
    refine c_X11_agree_22 X p1 p2  0 μ h
  · refine K_iconst (md := mX11_agree) (pc := 17) (x := 1) (kTab_at (pc := 17) tX11_agree_ok 10 rfl) rfl ?_
    refine K_goto (md := mX11_agree) (pc := 18) (tgt := 22) (kTab_at (pc := 18) tX11_agree_ok 11 rfl) rfl ?_
    refine K_sub [] rfl ?_
    refine c_X11_agree_22 X p1 p2  1 μ h
def f_X11_finds_61 (p1 : Int) (p2 : Int) (k7 : Int → Mu → Option Res) (v3 : Int) (μ : Mu) : Option Res := k7 (v3 + 1) μ
set_option maxRecDepth 100000 in
theorem c_X11_finds_61 (X : kX) (p1 : Int) (p2 : Int)  {res : Res} (k7 : Int → Mu → Option Res) (hk7 : ∀ (v3 : Int), ∀ (μ : Mu), k7 v3 μ = some res → KK X mX11_finds 4 0 res 7 [(0, .ref (X.1 + 248)), (1, .int (iI p1)), (2, .int (iI p2)), (3, .int (iI v3))] [] μ) (v3 : Int) (μ : Mu) (h : f_X11_finds_61 p1 p2 k7 v3 μ = some res) : KK X mX11_finds 4 0 res 61 [(0, .ref (X.1 + 248)), (1, .int (iI p1)), (2, .int (iI p2)), (3, .int (iI v3))] [] μ := by
  unfold f_X11_finds_61 at h
  refine K_iinc (md := mX11_finds) (pc := 61) (l' := [(3, .int (iI (v3 + 1))), (0, .ref (X.1 + 248)), (1, .int (iI p1)), (2, .int (iI p2))]) 3 (kTab_at (pc := 61) tX11_finds_ok 35 rfl) rfl (Nat.le_of_ble_eq_true rfl) rfl ?_
  refine K_goto (md := mX11_finds) (pc := 64) (tgt := 7) (kTab_at (pc := 64) tX11_finds_ok 36 rfl) rfl ?_
  refine K_sub [1, 2, 3, 0] rfl ?_
  exact hk7 (v3 + 1) μ h
def f_X11_finds_7 (p1 : Int) (p2 : Int) (k67 : Mu → Option Res) : Nat → Int → Mu → Option Res
  | 0, _, _ => none
  | fu + 1, v3, μ => rdI μ 249 779 144 fun x1 => i_lt v3 x1 (rb (f_X11_isOf v3 p1 p2 μ) fun μ x2 => i_eq x2 0 (f_X11_finds_61 p1 p2 (f_X11_finds_7 p1 p2 k67 fu) v3 μ) (rb (f_X11_isValid v3 μ) fun μ x3 => i_eq x3 0 (f_X11_finds_61 p1 p2 (f_X11_finds_7 p1 p2 k67 fu) v3 μ) (rdF μ 248 13 fun x4 => rb (f_X11_value v3 μ) fun μ x5 => wrI μ 255 3 x4 x5 fun μ => rdF μ 248 13 fun x6 => wrF μ 248 13 (x6 + 1) fun μ => f_X11_finds_61 p1 p2 (f_X11_finds_7 p1 p2 k67 fu) v3 μ))) (k67 μ)
set_option maxRecDepth 100000 in
theorem c_X11_finds_7 (X : kX) (p1 : Int) (p2 : Int)  {res : Res} (k67 : Mu → Option Res) (hk67 : ∀ (μ : Mu), k67 μ = some res → KK X mX11_finds 4 0 res 67 [] [] μ) : ∀ (fu : Nat)  (v3 : Int) (μ : Mu), f_X11_finds_7 p1 p2 k67 fu v3 μ = some res → KK X mX11_finds 4 0 res 7 [(0, .ref (X.1 + 248)), (1, .int (iI p1)), (2, .int (iI p2)), (3, .int (iI v3))] [] μ := by
  intro fu
  induction fu with
  | zero => intro v3 μ h; exact nomatch h
  | succ fu ih =>
    intro v3 μ h
    refine K_iload_n (md := mX11_finds) (pc := 7) 3 (kTab_at (pc := 7) tX11_finds_ok 5 rfl) rfl ?_
    refine K_aload_n (md := mX11_finds) (pc := 8) 0 (kTab_at (pc := 8) tX11_finds_ok 6 rfl) rfl ?_
    refine K_getR (md := mX11_finds) (pc := 9) (b := 249) (kTab_at (pc := 9) tX11_finds_ok 7 rfl) fl_X11_7 sk_248 rfl rfl ?_
    refine K_sipush (md := mX11_finds) (pc := 12) (x := 144) (kTab_at (pc := 12) tX11_finds_ok 8 rfl) (by decide) ?_
    refine Z_iald (md := mX11_finds) (pc := 15) (kTab_at (pc := 15) tX11_finds_ok 9 rfl) sk_249 (by decide) h (fun x1 h => ?_)
    refine K_icmp_ge (md := mX11_finds) (pc := 16) (kTab_at (pc := 16) tX11_finds_ok 10 rfl) (tgt := 67) rfl h (fun h => ?_) (fun h => ?_)
    · refine K_sub [] rfl ?_
      exact hk67 μ h
    · refine K_aload_n (md := mX11_finds) (pc := 19) 0 (kTab_at (pc := 19) tX11_finds_ok 11 rfl) rfl ?_
      refine K_iload_n (md := mX11_finds) (pc := 20) 3 (kTab_at (pc := 20) tX11_finds_ok 12 rfl) rfl ?_
      refine K_iload_n (md := mX11_finds) (pc := 21) 1 (kTab_at (pc := 21) tX11_finds_ok 13 rfl) rfl ?_
      refine K_iload_n (md := mX11_finds) (pc := 22) 2 (kTab_at (pc := 22) tX11_finds_ok 14 rfl) rfl ?_
      refine Z_callV (md := mX11_finds) (pc := 23) (st := []) (sv := (fun x2 => [.int (iI x2)])) (kTab_at (pc := 23) tX11_finds_ok 15 rfl) mv_X11_85 sk_248 rfl (Nat.le_of_ble_eq_true rfl) (by decide) rfl (c_X11_isOf X v3 p1 p2 μ) (fun _ => rfl) h (fun μ x2 h => ?_) rfl
      refine K_if_eq (md := mX11_finds) (pc := 26) (kTab_at (pc := 26) tX11_finds_ok 16 rfl) (tgt := 61) rfl h (fun h => ?_) (fun h => ?_)
      · refine c_X11_finds_61 X p1 p2 _ ih v3 μ h
      · refine K_aload_n (md := mX11_finds) (pc := 29) 0 (kTab_at (pc := 29) tX11_finds_ok 17 rfl) rfl ?_
        refine K_iload_n (md := mX11_finds) (pc := 30) 3 (kTab_at (pc := 30) tX11_finds_ok 18 rfl) rfl ?_
        refine Z_callV (md := mX11_finds) (pc := 31) (st := []) (sv := (fun x3 => [.int (iI x3)])) (kTab_at (pc := 31) tX11_finds_ok 19 rfl) mv_X11_98 sk_248 rfl (Nat.le_of_ble_eq_true rfl) (by decide) rfl (c_X11_isValid X v3 μ) (fun _ => rfl) h (fun μ x3 h => ?_) rfl
        refine K_if_eq (md := mX11_finds) (pc := 34) (kTab_at (pc := 34) tX11_finds_ok 20 rfl) (tgt := 61) rfl h (fun h => ?_) (fun h => ?_)
        · refine c_X11_finds_61 X p1 p2 _ ih v3 μ h
        · refine K_aload_n (md := mX11_finds) (pc := 37) 0 (kTab_at (pc := 37) tX11_finds_ok 21 rfl) rfl ?_
          refine K_getR (md := mX11_finds) (pc := 38) (b := 255) (kTab_at (pc := 38) tX11_finds_ok 22 rfl) fl_X11_32 sk_248 rfl rfl ?_
          refine K_aload_n (md := mX11_finds) (pc := 41) 0 (kTab_at (pc := 41) tX11_finds_ok 23 rfl) rfl ?_
          refine Z_getI (md := mX11_finds) (pc := 42) (kTab_at (pc := 42) tX11_finds_ok 24 rfl) fl_X11_95 sk_248 (Or.inl rfl) h (fun x4 h => ?_)
          refine K_aload_n (md := mX11_finds) (pc := 45) 0 (kTab_at (pc := 45) tX11_finds_ok 25 rfl) rfl ?_
          refine K_iload_n (md := mX11_finds) (pc := 46) 3 (kTab_at (pc := 46) tX11_finds_ok 26 rfl) rfl ?_
          refine Z_callV (md := mX11_finds) (pc := 47) (st := [.int (iI x4), .ref (X.1 + 255)]) (sv := (fun x5 => [.int (iI x5), .int (iI x4), .ref (X.1 + 255)])) (kTab_at (pc := 47) tX11_finds_ok 27 rfl) mv_X11_102 sk_248 rfl (Nat.le_of_ble_eq_true rfl) (by decide) rfl (c_X11_value X v3 μ) (fun _ => rfl) h (fun μ x5 h => ?_) rfl
          refine Z_iast (md := mX11_finds) (pc := 50) (kTab_at (pc := 50) tX11_finds_ok 28 rfl) sk_255 (by decide) h (fun μ h => ?_)
          refine K_aload_n (md := mX11_finds) (pc := 51) 0 (kTab_at (pc := 51) tX11_finds_ok 29 rfl) rfl ?_
          refine K_dup (md := mX11_finds) (pc := 52) (kTab_at (pc := 52) tX11_finds_ok 30 rfl) rfl ?_
          refine Z_getI (md := mX11_finds) (pc := 53) (kTab_at (pc := 53) tX11_finds_ok 31 rfl) fl_X11_95 sk_248 (Or.inl rfl) h (fun x6 h => ?_)
          refine K_iconst (md := mX11_finds) (pc := 56) (x := 1) (kTab_at (pc := 56) tX11_finds_ok 32 rfl) rfl ?_
          refine K_iadd (md := mX11_finds) (pc := 57) (kTab_at (pc := 57) tX11_finds_ok 33 rfl) ?_
          refine Z_putI (md := mX11_finds) (pc := 58) (kTab_at (pc := 58) tX11_finds_ok 34 rfl) fl_X11_95 sk_248 rfl h (fun μ h => ?_)
          refine c_X11_finds_61 X p1 p2 _ ih v3 μ h
def f_X11_finds (p1 : Int) (p2 : Int) (μ : Mu) : Option Res := wrF μ 248 13 0 fun μ => f_X11_finds_7 p1 p2 (fun μ => some (μ, 0, 0)) FU 0 μ
set_option maxRecDepth 100000 in
theorem c_X11_finds (X : kX) (p1 : Int) (p2 : Int)  (μ : Mu) : Cq X mX11_finds 4 0 μ [.ref (X.1 + 248), .int (iI p1), .int (iI p2)] (f_X11_finds p1 p2 μ) := by
  intro res h
  refine ct_of (by decide +kernel) rfl (Nat.le_of_ble_eq_true rfl) ?_
  show KK X mX11_finds 4 0 res 0 [(0, .ref (X.1 + 248)), (1, .int (iI p1)), (2, .int (iI p2))] [] μ
  unfold f_X11_finds at h
  refine K_aload_n (md := mX11_finds) (pc := 0) 0 (kTab_at (pc := 0) tX11_finds_ok 0 rfl) rfl ?_
  refine K_iconst (md := mX11_finds) (pc := 1) (x := 0) (kTab_at (pc := 1) tX11_finds_ok 1 rfl) rfl ?_
  refine Z_putI (md := mX11_finds) (pc := 2) (kTab_at (pc := 2) tX11_finds_ok 2 rfl) fl_X11_95 sk_248 rfl h (fun μ h => ?_)
  refine K_iconst (md := mX11_finds) (pc := 5) (x := 0) (kTab_at (pc := 5) tX11_finds_ok 3 rfl) rfl ?_
  refine K_istore_n (md := mX11_finds) (pc := 6) (l' := [(3, .int (iI 0)), (0, .ref (X.1 + 248)), (1, .int (iI p1)), (2, .int (iI p2))]) (kTab_at (pc := 6) tX11_finds_ok 4 rfl) (Nat.le_of_ble_eq_true rfl) rfl ?_
  refine K_sub [1, 2, 3, 0] rfl ?_
  refine c_X11_finds_7 X p1 p2 _ ?_ _ 0 μ h
  · intro  μ h
    exact Z_vret (md := mX11_finds) (pc := 67) (kTab_at (pc := 67) tX11_finds_ok 37 rfl) rfl rfl h
def f_X11_appealPart (p1 : Int) (p2 : Int) (p3 : Int) (μ : Mu) : Option Res := rdI μ 249 779 (((653 + (15 * p1)) + (3 * p2)) + p3) fun x1 => some (μ, 0, x1)
set_option maxRecDepth 100000 in
theorem c_X11_appealPart (X : kX) (p1 : Int) (p2 : Int) (p3 : Int)  (μ : Mu) : Cq X mX11_appealPart 0 1 μ [.ref (X.1 + 248), .int (iI p1), .int (iI p2), .int (iI p3)] (f_X11_appealPart p1 p2 p3 μ) := by
  intro res h
  refine ct_of (by decide +kernel) rfl (Nat.le_of_ble_eq_true rfl) ?_
  show KK X mX11_appealPart 0 1 res 0 [(0, .ref (X.1 + 248)), (1, .int (iI p1)), (2, .int (iI p2)), (3, .int (iI p3))] [] μ
  unfold f_X11_appealPart at h
  refine K_aload_n (md := mX11_appealPart) (pc := 0) 0 (kTab_at (pc := 0) tX11_appealPart_ok 0 rfl) rfl ?_
  refine K_getR (md := mX11_appealPart) (pc := 1) (b := 249) (kTab_at (pc := 1) tX11_appealPart_ok 1 rfl) fl_X11_7 sk_248 rfl rfl ?_
  refine K_sipush (md := mX11_appealPart) (pc := 4) (x := 653) (kTab_at (pc := 4) tX11_appealPart_ok 2 rfl) (by decide) ?_
  refine K_bipush (md := mX11_appealPart) (pc := 7) (x := 15) (kTab_at (pc := 7) tX11_appealPart_ok 3 rfl) (by decide) ?_
  refine K_iload_n (md := mX11_appealPart) (pc := 9) 1 (kTab_at (pc := 9) tX11_appealPart_ok 4 rfl) rfl ?_
  refine K_imul (md := mX11_appealPart) (pc := 10) (kTab_at (pc := 10) tX11_appealPart_ok 5 rfl) ?_
  refine K_iadd (md := mX11_appealPart) (pc := 11) (kTab_at (pc := 11) tX11_appealPart_ok 6 rfl) ?_
  refine K_iconst (md := mX11_appealPart) (pc := 12) (x := 3) (kTab_at (pc := 12) tX11_appealPart_ok 7 rfl) rfl ?_
  refine K_iload_n (md := mX11_appealPart) (pc := 13) 2 (kTab_at (pc := 13) tX11_appealPart_ok 8 rfl) rfl ?_
  refine K_imul (md := mX11_appealPart) (pc := 14) (kTab_at (pc := 14) tX11_appealPart_ok 9 rfl) ?_
  refine K_iadd (md := mX11_appealPart) (pc := 15) (kTab_at (pc := 15) tX11_appealPart_ok 10 rfl) ?_
  refine K_iload_n (md := mX11_appealPart) (pc := 16) 3 (kTab_at (pc := 16) tX11_appealPart_ok 11 rfl) rfl ?_
  refine K_iadd (md := mX11_appealPart) (pc := 17) (kTab_at (pc := 17) tX11_appealPart_ok 12 rfl) ?_
  refine Z_iald (md := mX11_appealPart) (pc := 18) (kTab_at (pc := 18) tX11_appealPart_ok 13 rfl) sk_249 (by decide) h (fun x1 h => ?_)
  exact Z_iret (md := mX11_appealPart) (pc := 19) (kTab_at (pc := 19) tX11_appealPart_ok 14 rfl) rfl rfl rfl h
def f_X11_state_62 (p1 : Int) (p2 : Int)  (s0 : Int) (μ : Mu) : Option Res := some (μ, 0, s0)
set_option maxRecDepth 100000 in
theorem c_X11_state_62 (X : kX) (p1 : Int) (p2 : Int)  {res : Res}  (s0 : Int) (μ : Mu) (h : f_X11_state_62 p1 p2 s0 μ = some res) : KK X mX11_state 5 1 res 62 [] [.int (iI s0)] μ := by
  unfold f_X11_state_62 at h
  exact Z_iret (md := mX11_state) (pc := 62) (kTab_at (pc := 62) tX11_state_ok 36 rfl) rfl rfl rfl h
def f_X11_state_61 (p1 : Int) (p2 : Int)   (μ : Mu) : Option Res := f_X11_state_62 p1 p2 0 μ
set_option maxRecDepth 100000 in
theorem c_X11_state_61 (X : kX) (p1 : Int) (p2 : Int)  {res : Res}  (μ : Mu) (h : f_X11_state_61 p1 p2 μ = some res) : KK X mX11_state 5 1 res 61 [] [] μ := by
  unfold f_X11_state_61 at h
  refine K_iconst (md := mX11_state) (pc := 61) (x := 0) (kTab_at (pc := 61) tX11_state_ok 35 rfl) rfl ?_
  refine c_X11_state_62 X p1 p2  0 μ h
def f_X11_state (p1 : Int) (p2 : Int) (μ : Mu) : Option Res := rb (f_X11_appealPart p1 p2 0 μ) fun μ x1 => i_eq x1 3 (some (μ, 0, 0)) (rb (f_X11_finds p1 p2 μ) fun μ _ => rdF μ 248 13 fun x2 => i_eq x2 0 (f_X11_state_62 p1 p2 1 μ) (rdF μ 248 13 fun x3 => i_eq x3 2 (rdI μ 255 3 0 fun x4 => rdI μ 255 3 1 fun x5 => rb (f_X11_agree x4 x5 μ) fun μ x6 => i_eq x6 0 (f_X11_state_62 p1 p2 2 μ) (f_X11_state_61 p1 p2 μ)) (f_X11_state_61 p1 p2 μ)))
set_option maxRecDepth 100000 in
theorem c_X11_state (X : kX) (p1 : Int) (p2 : Int)  (μ : Mu) : Cq X mX11_state 5 1 μ [.ref (X.1 + 248), .int (iI p1), .int (iI p2)] (f_X11_state p1 p2 μ) := by
  intro res h
  refine ct_of (by decide +kernel) rfl (Nat.le_of_ble_eq_true rfl) ?_
  show KK X mX11_state 5 1 res 0 [(0, .ref (X.1 + 248)), (1, .int (iI p1)), (2, .int (iI p2))] [] μ
  unfold f_X11_state at h
  refine K_aload_n (md := mX11_state) (pc := 0) 0 (kTab_at (pc := 0) tX11_state_ok 0 rfl) rfl ?_
  refine K_iload_n (md := mX11_state) (pc := 1) 1 (kTab_at (pc := 1) tX11_state_ok 1 rfl) rfl ?_
  refine K_iload_n (md := mX11_state) (pc := 2) 2 (kTab_at (pc := 2) tX11_state_ok 2 rfl) rfl ?_
  refine K_iconst (md := mX11_state) (pc := 3) (x := 0) (kTab_at (pc := 3) tX11_state_ok 3 rfl) rfl ?_
  refine Z_callV (md := mX11_state) (pc := 4) (st := []) (sv := (fun x1 => [.int (iI x1)])) (kTab_at (pc := 4) tX11_state_ok 4 rfl) mv_X11_105 sk_248 rfl (Nat.le_of_ble_eq_true rfl) (by decide) rfl (c_X11_appealPart X p1 p2 0 μ) (fun _ => rfl) h (fun μ x1 h => ?_) rfl
  refine K_iconst (md := mX11_state) (pc := 7) (x := 3) (kTab_at (pc := 7) tX11_state_ok 5 rfl) rfl ?_
  refine K_icmp_ne (md := mX11_state) (pc := 8) (kTab_at (pc := 8) tX11_state_ok 6 rfl) (tgt := 13) rfl h (fun h => ?_) (fun h => ?_)
  · refine K_aload_n (md := mX11_state) (pc := 13) 0 (kTab_at (pc := 13) tX11_state_ok 9 rfl) rfl ?_
    refine K_iload_n (md := mX11_state) (pc := 14) 1 (kTab_at (pc := 14) tX11_state_ok 10 rfl) rfl ?_
    refine K_iload_n (md := mX11_state) (pc := 15) 2 (kTab_at (pc := 15) tX11_state_ok 11 rfl) rfl ?_
    refine Z_callV (md := mX11_state) (pc := 16) (st := []) (sv := (fun _ => [])) (kTab_at (pc := 16) tX11_state_ok 12 rfl) mv_X11_108 sk_248 rfl (Nat.le_of_ble_eq_true rfl) (by decide) rfl (c_X11_finds X p1 p2 μ) (fun _ => rfl) h (fun μ _ h => ?_) rfl
    refine K_aload_n (md := mX11_state) (pc := 19) 0 (kTab_at (pc := 19) tX11_state_ok 13 rfl) rfl ?_
    refine Z_getI (md := mX11_state) (pc := 20) (kTab_at (pc := 20) tX11_state_ok 14 rfl) fl_X11_95 sk_248 (Or.inl rfl) h (fun x2 h => ?_)
    refine K_if_ne (md := mX11_state) (pc := 23) (kTab_at (pc := 23) tX11_state_ok 15 rfl) (tgt := 30) rfl h (fun h => ?_) (fun h => ?_)
    · refine K_aload_n (md := mX11_state) (pc := 30) 0 (kTab_at (pc := 30) tX11_state_ok 18 rfl) rfl ?_
      refine Z_getI (md := mX11_state) (pc := 31) (kTab_at (pc := 31) tX11_state_ok 19 rfl) fl_X11_95 sk_248 (Or.inl rfl) h (fun x3 h => ?_)
      refine K_iconst (md := mX11_state) (pc := 34) (x := 2) (kTab_at (pc := 34) tX11_state_ok 20 rfl) rfl ?_
      refine K_icmp_ne (md := mX11_state) (pc := 35) (kTab_at (pc := 35) tX11_state_ok 21 rfl) (tgt := 61) rfl h (fun h => ?_) (fun h => ?_)
      · refine K_sub [] rfl ?_
        refine c_X11_state_61 X p1 p2  μ h
      · refine K_aload_n (md := mX11_state) (pc := 38) 0 (kTab_at (pc := 38) tX11_state_ok 22 rfl) rfl ?_
        refine K_aload_n (md := mX11_state) (pc := 39) 0 (kTab_at (pc := 39) tX11_state_ok 23 rfl) rfl ?_
        refine K_getR (md := mX11_state) (pc := 40) (b := 255) (kTab_at (pc := 40) tX11_state_ok 24 rfl) fl_X11_32 sk_248 rfl rfl ?_
        refine K_iconst (md := mX11_state) (pc := 43) (x := 0) (kTab_at (pc := 43) tX11_state_ok 25 rfl) rfl ?_
        refine Z_iald (md := mX11_state) (pc := 44) (kTab_at (pc := 44) tX11_state_ok 26 rfl) sk_255 (by decide) h (fun x4 h => ?_)
        refine K_aload_n (md := mX11_state) (pc := 45) 0 (kTab_at (pc := 45) tX11_state_ok 27 rfl) rfl ?_
        refine K_getR (md := mX11_state) (pc := 46) (b := 255) (kTab_at (pc := 46) tX11_state_ok 28 rfl) fl_X11_32 sk_248 rfl rfl ?_
        refine K_iconst (md := mX11_state) (pc := 49) (x := 1) (kTab_at (pc := 49) tX11_state_ok 29 rfl) rfl ?_
        refine Z_iald (md := mX11_state) (pc := 50) (kTab_at (pc := 50) tX11_state_ok 30 rfl) sk_255 (by decide) h (fun x5 h => ?_)
        refine Z_callV (md := mX11_state) (pc := 51) (st := []) (sv := (fun x6 => [.int (iI x6)])) (kTab_at (pc := 51) tX11_state_ok 31 rfl) mv_X11_112 sk_248 rfl (Nat.le_of_ble_eq_true rfl) (by decide) rfl (c_X11_agree X x4 x5 μ) (fun _ => rfl) h (fun μ x6 h => ?_) rfl
        refine K_if_ne (md := mX11_state) (pc := 54) (kTab_at (pc := 54) tX11_state_ok 32 rfl) (tgt := 61) rfl h (fun h => ?_) (fun h => ?_)
        · refine K_sub [] rfl ?_
          refine c_X11_state_61 X p1 p2  μ h
        · refine K_iconst (md := mX11_state) (pc := 57) (x := 2) (kTab_at (pc := 57) tX11_state_ok 33 rfl) rfl ?_
          refine K_goto (md := mX11_state) (pc := 58) (tgt := 62) (kTab_at (pc := 58) tX11_state_ok 34 rfl) rfl ?_
          refine K_sub [] rfl ?_
          refine c_X11_state_62 X p1 p2  2 μ h
    · refine K_iconst (md := mX11_state) (pc := 26) (x := 1) (kTab_at (pc := 26) tX11_state_ok 16 rfl) rfl ?_
      refine K_goto (md := mX11_state) (pc := 27) (tgt := 62) (kTab_at (pc := 27) tX11_state_ok 17 rfl) rfl ?_
      refine K_sub [] rfl ?_
      refine c_X11_state_62 X p1 p2  1 μ h
  · refine K_iconst (md := mX11_state) (pc := 11) (x := 0) (kTab_at (pc := 11) tX11_state_ok 7 rfl) rfl ?_
    exact Z_iret (md := mX11_state) (pc := 12) (kTab_at (pc := 12) tX11_state_ok 8 rfl) rfl rfl rfl h
def f_X11_settled_183 (p1 : Int) (p2 : Int)  (s0 : Int) (s1 : Int) (μ : Mu) : Option Res := i_div (s0 + s1) 2 fun x1 => some (μ, 0, x1)
set_option maxRecDepth 100000 in
theorem c_X11_settled_183 (X : kX) (p1 : Int) (p2 : Int)  {res : Res}  (s0 : Int) (s1 : Int) (μ : Mu) (h : f_X11_settled_183 p1 p2 s0 s1 μ = some res) : KK X mX11_settled 5 1 res 183 [] [.int (iI s1), .int (iI s0)] μ := by
  unfold f_X11_settled_183 at h
  refine K_iadd (md := mX11_settled) (pc := 183) (kTab_at (pc := 183) tX11_settled_ok 115 rfl) ?_
  refine K_iconst (md := mX11_settled) (pc := 184) (x := 2) (kTab_at (pc := 184) tX11_settled_ok 116 rfl) rfl ?_
  refine Z_idiv (md := mX11_settled) (pc := 185) (kTab_at (pc := 185) tX11_settled_ok 117 rfl) h (fun x1 h => ?_)
  exact Z_iret (md := mX11_settled) (pc := 186) (kTab_at (pc := 186) tX11_settled_ok 118 rfl) rfl rfl rfl h
def f_X11_settled_117 (p1 : Int) (p2 : Int)  (s0 : Int) (μ : Mu) : Option Res := rdI μ 255 3 0 fun x1 => rdI μ 255 3 1 fun x2 => bnd ((x1 + x2) - s0) fun x3 => rdF μ 248 13 fun x4 => i_eq x4 2 (some (μ, 0, s0)) (rdI μ 255 3 2 fun x5 => rdI μ 255 3 2 fun x6 => rb (f_X11_amount (x6 - x3) μ) fun μ x7 => rdI μ 255 3 2 fun x8 => rb (f_X11_amount (x8 - s0) μ) fun μ x9 => i_lt x9 x7 (f_X11_settled_183 p1 p2 x5 s0 μ) (f_X11_settled_183 p1 p2 x5 x3 μ))
set_option maxRecDepth 100000 in
theorem c_X11_settled_117 (X : kX) (p1 : Int) (p2 : Int)  {res : Res}  (s0 : Int) (μ : Mu) (h : f_X11_settled_117 p1 p2 s0 μ = some res) : KK X mX11_settled 5 1 res 117 [(0, .ref (X.1 + 248))] [.int (iI s0)] μ := by
  unfold f_X11_settled_117 at h
  refine K_istore_n (md := mX11_settled) (pc := 117) (l' := [(3, .int (iI s0)), (0, .ref (X.1 + 248))]) (kTab_at (pc := 117) tX11_settled_ok 74 rfl) (Nat.le_of_ble_eq_true rfl) rfl ?_
  refine K_aload_n (md := mX11_settled) (pc := 118) 1 (kTab_at (pc := 118) tX11_settled_ok 75 rfl) rfl ?_
  refine K_getR (md := mX11_settled) (pc := 119) (b := 255) (kTab_at (pc := 119) tX11_settled_ok 76 rfl) fl_X11_32 sk_248 rfl rfl ?_
  refine K_iconst (md := mX11_settled) (pc := 122) (x := 0) (kTab_at (pc := 122) tX11_settled_ok 77 rfl) rfl ?_
  refine Z_iald (md := mX11_settled) (pc := 123) (kTab_at (pc := 123) tX11_settled_ok 78 rfl) sk_255 (by decide) h (fun x1 h => ?_)
  refine K_aload_n (md := mX11_settled) (pc := 124) 1 (kTab_at (pc := 124) tX11_settled_ok 79 rfl) rfl ?_
  refine K_getR (md := mX11_settled) (pc := 125) (b := 255) (kTab_at (pc := 125) tX11_settled_ok 80 rfl) fl_X11_32 sk_248 rfl rfl ?_
  refine K_iconst (md := mX11_settled) (pc := 128) (x := 1) (kTab_at (pc := 128) tX11_settled_ok 81 rfl) rfl ?_
  refine Z_iald (md := mX11_settled) (pc := 129) (kTab_at (pc := 129) tX11_settled_ok 82 rfl) sk_255 (by decide) h (fun x2 h => ?_)
  refine K_iadd (md := mX11_settled) (pc := 130) (kTab_at (pc := 130) tX11_settled_ok 83 rfl) ?_
  refine K_iload_n (md := mX11_settled) (pc := 131) 0 (kTab_at (pc := 131) tX11_settled_ok 84 rfl) rfl ?_
  refine K_isub (md := mX11_settled) (pc := 132) (kTab_at (pc := 132) tX11_settled_ok 85 rfl) ?_
  refine Z_bnd (md := mX11_settled) (pc := 133) h (fun x3 h => ?_)
  refine K_istore (md := mX11_settled) (pc := 133) (l' := [(4, .int (iI x3)), (3, .int (iI s0)), (0, .ref (X.1 + 248))]) (kTab_at (pc := 133) tX11_settled_ok 86 rfl) (Nat.le_of_ble_eq_true rfl) rfl ?_
  refine K_aload_n (md := mX11_settled) (pc := 135) 2 (kTab_at (pc := 135) tX11_settled_ok 87 rfl) rfl ?_
  refine Z_getI (md := mX11_settled) (pc := 136) (kTab_at (pc := 136) tX11_settled_ok 88 rfl) fl_X11_95 sk_248 (Or.inl rfl) h (fun x4 h => ?_)
  refine K_iconst (md := mX11_settled) (pc := 139) (x := 2) (kTab_at (pc := 139) tX11_settled_ok 89 rfl) rfl ?_
  refine K_icmp_ne (md := mX11_settled) (pc := 140) (kTab_at (pc := 140) tX11_settled_ok 90 rfl) (tgt := 145) rfl h (fun h => ?_) (fun h => ?_)
  · refine K_aload_n (md := mX11_settled) (pc := 145) 2 (kTab_at (pc := 145) tX11_settled_ok 93 rfl) rfl ?_
    refine K_getR (md := mX11_settled) (pc := 146) (b := 255) (kTab_at (pc := 146) tX11_settled_ok 94 rfl) fl_X11_32 sk_248 rfl rfl ?_
    refine K_iconst (md := mX11_settled) (pc := 149) (x := 2) (kTab_at (pc := 149) tX11_settled_ok 95 rfl) rfl ?_
    refine Z_iald (md := mX11_settled) (pc := 150) (kTab_at (pc := 150) tX11_settled_ok 96 rfl) sk_255 (by decide) h (fun x5 h => ?_)
    refine K_aload_n (md := mX11_settled) (pc := 151) 2 (kTab_at (pc := 151) tX11_settled_ok 97 rfl) rfl ?_
    refine K_getR (md := mX11_settled) (pc := 152) (b := 255) (kTab_at (pc := 152) tX11_settled_ok 98 rfl) fl_X11_32 sk_248 rfl rfl ?_
    refine K_iconst (md := mX11_settled) (pc := 155) (x := 2) (kTab_at (pc := 155) tX11_settled_ok 99 rfl) rfl ?_
    refine Z_iald (md := mX11_settled) (pc := 156) (kTab_at (pc := 156) tX11_settled_ok 100 rfl) sk_255 (by decide) h (fun x6 h => ?_)
    refine K_iload (md := mX11_settled) (pc := 157) 0 (kTab_at (pc := 157) tX11_settled_ok 101 rfl) rfl ?_
    refine K_isub (md := mX11_settled) (pc := 159) (kTab_at (pc := 159) tX11_settled_ok 102 rfl) ?_
    refine Z_callS (md := mX11_settled) (pc := 160) (st := [.int (iI x5)]) (sv := (fun x7 => [.int (iI x7), .int (iI x5)])) (kTab_at (pc := 160) tX11_settled_ok 103 rfl) ms_X11_74 rfl (Nat.le_of_ble_eq_true rfl) (by decide) rfl (c_X11_amount X (x6 - x3) μ) (fun _ => rfl) h (fun μ x7 h => ?_) rfl
    refine K_aload_n (md := mX11_settled) (pc := 163) 2 (kTab_at (pc := 163) tX11_settled_ok 104 rfl) rfl ?_
    refine K_getR (md := mX11_settled) (pc := 164) (b := 255) (kTab_at (pc := 164) tX11_settled_ok 105 rfl) fl_X11_32 sk_248 rfl rfl ?_
    refine K_iconst (md := mX11_settled) (pc := 167) (x := 2) (kTab_at (pc := 167) tX11_settled_ok 106 rfl) rfl ?_
    refine Z_iald (md := mX11_settled) (pc := 168) (kTab_at (pc := 168) tX11_settled_ok 107 rfl) sk_255 (by decide) h (fun x8 h => ?_)
    refine K_iload_n (md := mX11_settled) (pc := 169) 1 (kTab_at (pc := 169) tX11_settled_ok 108 rfl) rfl ?_
    refine K_isub (md := mX11_settled) (pc := 170) (kTab_at (pc := 170) tX11_settled_ok 109 rfl) ?_
    refine Z_callS (md := mX11_settled) (pc := 171) (st := [.int (iI x7), .int (iI x5)]) (sv := (fun x9 => [.int (iI x9), .int (iI x7), .int (iI x5)])) (kTab_at (pc := 171) tX11_settled_ok 110 rfl) ms_X11_74 rfl (Nat.le_of_ble_eq_true rfl) (by decide) rfl (c_X11_amount X (x8 - s0) μ) (fun _ => rfl) h (fun μ x9 h => ?_) rfl
    refine K_icmp_gt (md := mX11_settled) (pc := 174) (kTab_at (pc := 174) tX11_settled_ok 111 rfl) (tgt := 182) rfl h (fun h => ?_) (fun h => ?_)
    · refine K_iload_n (md := mX11_settled) (pc := 182) 1 (kTab_at (pc := 182) tX11_settled_ok 114 rfl) rfl ?_
      refine K_sub [] rfl ?_
      refine c_X11_settled_183 X p1 p2  x5 s0 μ h
    · refine K_iload (md := mX11_settled) (pc := 177) 0 (kTab_at (pc := 177) tX11_settled_ok 112 rfl) rfl ?_
      refine K_goto (md := mX11_settled) (pc := 179) (tgt := 183) (kTab_at (pc := 179) tX11_settled_ok 113 rfl) rfl ?_
      refine K_sub [] rfl ?_
      refine c_X11_settled_183 X p1 p2  x5 x3 μ h
  · refine K_iload_n (md := mX11_settled) (pc := 143) 1 (kTab_at (pc := 143) tX11_settled_ok 91 rfl) rfl ?_
    exact Z_iret (md := mX11_settled) (pc := 144) (kTab_at (pc := 144) tX11_settled_ok 92 rfl) rfl rfl rfl h
def f_X11_settled (p1 : Int) (p2 : Int) (μ : Mu) : Option Res := rb (f_X11_appealPart p1 p2 0 μ) fun μ x1 => i_eq x1 3 (rb (f_X11_appealPart p1 p2 2 μ) fun μ x15 => some (μ, 0, (x15 * 120))) (rb (f_X11_finds p1 p2 μ) fun μ _ => rdF μ 248 13 fun x2 => i_eq x2 0 (some (μ, 0, 0)) (rdF μ 248 13 fun x3 => i_eq x3 1 (rdI μ 255 3 0 fun x14 => some (μ, 0, x14)) (rdI μ 255 3 0 fun x4 => rdI μ 255 3 1 fun x5 => rb (f_X11_agree x4 x5 μ) fun μ x6 => i_eq x6 0 (rdI μ 255 3 0 fun x7 => rdI μ 255 3 1 fun x8 => i_lt x7 x8 (rdI μ 255 3 0 fun x10 => f_X11_settled_117 p1 p2 x10 μ) (rdI μ 255 3 1 fun x9 => f_X11_settled_117 p1 p2 x9 μ)) (rdI μ 255 3 0 fun x11 => rdI μ 255 3 1 fun x12 => i_div (x11 + x12) 2 fun x13 => some (μ, 0, x13)))))
set_option maxRecDepth 100000 in
theorem c_X11_settled (X : kX) (p1 : Int) (p2 : Int)  (μ : Mu) : Cq X mX11_settled 5 1 μ [.ref (X.1 + 248), .int (iI p1), .int (iI p2)] (f_X11_settled p1 p2 μ) := by
  intro res h
  refine ct_of (by decide +kernel) rfl (Nat.le_of_ble_eq_true rfl) ?_
  show KK X mX11_settled 5 1 res 0 [(0, .ref (X.1 + 248)), (1, .int (iI p1)), (2, .int (iI p2))] [] μ
  unfold f_X11_settled at h
  refine K_aload_n (md := mX11_settled) (pc := 0) 0 (kTab_at (pc := 0) tX11_settled_ok 0 rfl) rfl ?_
  refine K_iload_n (md := mX11_settled) (pc := 1) 1 (kTab_at (pc := 1) tX11_settled_ok 1 rfl) rfl ?_
  refine K_iload_n (md := mX11_settled) (pc := 2) 2 (kTab_at (pc := 2) tX11_settled_ok 2 rfl) rfl ?_
  refine K_iconst (md := mX11_settled) (pc := 3) (x := 0) (kTab_at (pc := 3) tX11_settled_ok 3 rfl) rfl ?_
  refine Z_callV (md := mX11_settled) (pc := 4) (st := []) (sv := (fun x1 => [.int (iI x1)])) (kTab_at (pc := 4) tX11_settled_ok 4 rfl) mv_X11_105 sk_248 rfl (Nat.le_of_ble_eq_true rfl) (by decide) rfl (c_X11_appealPart X p1 p2 0 μ) (fun _ => rfl) h (fun μ x1 h => ?_) rfl
  refine K_iconst (md := mX11_settled) (pc := 7) (x := 3) (kTab_at (pc := 7) tX11_settled_ok 5 rfl) rfl ?_
  refine K_icmp_ne (md := mX11_settled) (pc := 8) (kTab_at (pc := 8) tX11_settled_ok 6 rfl) (tgt := 22) rfl h (fun h => ?_) (fun h => ?_)
  · refine K_aload_n (md := mX11_settled) (pc := 22) 0 (kTab_at (pc := 22) tX11_settled_ok 15 rfl) rfl ?_
    refine K_iload_n (md := mX11_settled) (pc := 23) 1 (kTab_at (pc := 23) tX11_settled_ok 16 rfl) rfl ?_
    refine K_iload_n (md := mX11_settled) (pc := 24) 2 (kTab_at (pc := 24) tX11_settled_ok 17 rfl) rfl ?_
    refine Z_callV (md := mX11_settled) (pc := 25) (st := []) (sv := (fun _ => [])) (kTab_at (pc := 25) tX11_settled_ok 18 rfl) mv_X11_108 sk_248 rfl (Nat.le_of_ble_eq_true rfl) (by decide) rfl (c_X11_finds X p1 p2 μ) (fun _ => rfl) h (fun μ _ h => ?_) rfl
    refine K_aload_n (md := mX11_settled) (pc := 28) 0 (kTab_at (pc := 28) tX11_settled_ok 19 rfl) rfl ?_
    refine Z_getI (md := mX11_settled) (pc := 29) (kTab_at (pc := 29) tX11_settled_ok 20 rfl) fl_X11_95 sk_248 (Or.inl rfl) h (fun x2 h => ?_)
    refine K_if_ne (md := mX11_settled) (pc := 32) (kTab_at (pc := 32) tX11_settled_ok 21 rfl) (tgt := 37) rfl h (fun h => ?_) (fun h => ?_)
    · refine K_aload_n (md := mX11_settled) (pc := 37) 0 (kTab_at (pc := 37) tX11_settled_ok 24 rfl) rfl ?_
      refine Z_getI (md := mX11_settled) (pc := 38) (kTab_at (pc := 38) tX11_settled_ok 25 rfl) fl_X11_95 sk_248 (Or.inl rfl) h (fun x3 h => ?_)
      refine K_iconst (md := mX11_settled) (pc := 41) (x := 1) (kTab_at (pc := 41) tX11_settled_ok 26 rfl) rfl ?_
      refine K_icmp_ne (md := mX11_settled) (pc := 42) (kTab_at (pc := 42) tX11_settled_ok 27 rfl) (tgt := 52) rfl h (fun h => ?_) (fun h => ?_)
      · refine K_aload_n (md := mX11_settled) (pc := 52) 0 (kTab_at (pc := 52) tX11_settled_ok 33 rfl) rfl ?_
        refine K_aload_n (md := mX11_settled) (pc := 53) 0 (kTab_at (pc := 53) tX11_settled_ok 34 rfl) rfl ?_
        refine K_getR (md := mX11_settled) (pc := 54) (b := 255) (kTab_at (pc := 54) tX11_settled_ok 35 rfl) fl_X11_32 sk_248 rfl rfl ?_
        refine K_iconst (md := mX11_settled) (pc := 57) (x := 0) (kTab_at (pc := 57) tX11_settled_ok 36 rfl) rfl ?_
        refine Z_iald (md := mX11_settled) (pc := 58) (kTab_at (pc := 58) tX11_settled_ok 37 rfl) sk_255 (by decide) h (fun x4 h => ?_)
        refine K_aload_n (md := mX11_settled) (pc := 59) 0 (kTab_at (pc := 59) tX11_settled_ok 38 rfl) rfl ?_
        refine K_getR (md := mX11_settled) (pc := 60) (b := 255) (kTab_at (pc := 60) tX11_settled_ok 39 rfl) fl_X11_32 sk_248 rfl rfl ?_
        refine K_iconst (md := mX11_settled) (pc := 63) (x := 1) (kTab_at (pc := 63) tX11_settled_ok 40 rfl) rfl ?_
        refine Z_iald (md := mX11_settled) (pc := 64) (kTab_at (pc := 64) tX11_settled_ok 41 rfl) sk_255 (by decide) h (fun x5 h => ?_)
        refine Z_callV (md := mX11_settled) (pc := 65) (st := []) (sv := (fun x6 => [.int (iI x6)])) (kTab_at (pc := 65) tX11_settled_ok 42 rfl) mv_X11_112 sk_248 rfl (Nat.le_of_ble_eq_true rfl) (by decide) rfl (c_X11_agree X x4 x5 μ) (fun _ => rfl) h (fun μ x6 h => ?_) rfl
        refine K_if_eq (md := mX11_settled) (pc := 68) (kTab_at (pc := 68) tX11_settled_ok 43 rfl) (tgt := 87) rfl h (fun h => ?_) (fun h => ?_)
        · refine K_aload_n (md := mX11_settled) (pc := 87) 0 (kTab_at (pc := 87) tX11_settled_ok 56 rfl) rfl ?_
          refine K_getR (md := mX11_settled) (pc := 88) (b := 255) (kTab_at (pc := 88) tX11_settled_ok 57 rfl) fl_X11_32 sk_248 rfl rfl ?_
          refine K_iconst (md := mX11_settled) (pc := 91) (x := 0) (kTab_at (pc := 91) tX11_settled_ok 58 rfl) rfl ?_
          refine Z_iald (md := mX11_settled) (pc := 92) (kTab_at (pc := 92) tX11_settled_ok 59 rfl) sk_255 (by decide) h (fun x7 h => ?_)
          refine K_aload_n (md := mX11_settled) (pc := 93) 0 (kTab_at (pc := 93) tX11_settled_ok 60 rfl) rfl ?_
          refine K_getR (md := mX11_settled) (pc := 94) (b := 255) (kTab_at (pc := 94) tX11_settled_ok 61 rfl) fl_X11_32 sk_248 rfl rfl ?_
          refine K_iconst (md := mX11_settled) (pc := 97) (x := 1) (kTab_at (pc := 97) tX11_settled_ok 62 rfl) rfl ?_
          refine Z_iald (md := mX11_settled) (pc := 98) (kTab_at (pc := 98) tX11_settled_ok 63 rfl) sk_255 (by decide) h (fun x8 h => ?_)
          refine K_icmp_ge (md := mX11_settled) (pc := 99) (kTab_at (pc := 99) tX11_settled_ok 64 rfl) (tgt := 111) rfl h (fun h => ?_) (fun h => ?_)
          · refine K_aload_n (md := mX11_settled) (pc := 111) 0 (kTab_at (pc := 111) tX11_settled_ok 70 rfl) rfl ?_
            refine K_getR (md := mX11_settled) (pc := 112) (b := 255) (kTab_at (pc := 112) tX11_settled_ok 71 rfl) fl_X11_32 sk_248 rfl rfl ?_
            refine K_iconst (md := mX11_settled) (pc := 115) (x := 1) (kTab_at (pc := 115) tX11_settled_ok 72 rfl) rfl ?_
            refine Z_iald (md := mX11_settled) (pc := 116) (kTab_at (pc := 116) tX11_settled_ok 73 rfl) sk_255 (by decide) h (fun x9 h => ?_)
            refine K_sub [0] rfl ?_
            refine c_X11_settled_117 X p1 p2  x9 μ h
          · refine K_aload_n (md := mX11_settled) (pc := 102) 0 (kTab_at (pc := 102) tX11_settled_ok 65 rfl) rfl ?_
            refine K_getR (md := mX11_settled) (pc := 103) (b := 255) (kTab_at (pc := 103) tX11_settled_ok 66 rfl) fl_X11_32 sk_248 rfl rfl ?_
            refine K_iconst (md := mX11_settled) (pc := 106) (x := 0) (kTab_at (pc := 106) tX11_settled_ok 67 rfl) rfl ?_
            refine Z_iald (md := mX11_settled) (pc := 107) (kTab_at (pc := 107) tX11_settled_ok 68 rfl) sk_255 (by decide) h (fun x10 h => ?_)
            refine K_goto (md := mX11_settled) (pc := 108) (tgt := 117) (kTab_at (pc := 108) tX11_settled_ok 69 rfl) rfl ?_
            refine K_sub [0] rfl ?_
            refine c_X11_settled_117 X p1 p2  x10 μ h
        · refine K_aload_n (md := mX11_settled) (pc := 71) 0 (kTab_at (pc := 71) tX11_settled_ok 44 rfl) rfl ?_
          refine K_getR (md := mX11_settled) (pc := 72) (b := 255) (kTab_at (pc := 72) tX11_settled_ok 45 rfl) fl_X11_32 sk_248 rfl rfl ?_
          refine K_iconst (md := mX11_settled) (pc := 75) (x := 0) (kTab_at (pc := 75) tX11_settled_ok 46 rfl) rfl ?_
          refine Z_iald (md := mX11_settled) (pc := 76) (kTab_at (pc := 76) tX11_settled_ok 47 rfl) sk_255 (by decide) h (fun x11 h => ?_)
          refine K_aload_n (md := mX11_settled) (pc := 77) 0 (kTab_at (pc := 77) tX11_settled_ok 48 rfl) rfl ?_
          refine K_getR (md := mX11_settled) (pc := 78) (b := 255) (kTab_at (pc := 78) tX11_settled_ok 49 rfl) fl_X11_32 sk_248 rfl rfl ?_
          refine K_iconst (md := mX11_settled) (pc := 81) (x := 1) (kTab_at (pc := 81) tX11_settled_ok 50 rfl) rfl ?_
          refine Z_iald (md := mX11_settled) (pc := 82) (kTab_at (pc := 82) tX11_settled_ok 51 rfl) sk_255 (by decide) h (fun x12 h => ?_)
          refine K_iadd (md := mX11_settled) (pc := 83) (kTab_at (pc := 83) tX11_settled_ok 52 rfl) ?_
          refine K_iconst (md := mX11_settled) (pc := 84) (x := 2) (kTab_at (pc := 84) tX11_settled_ok 53 rfl) rfl ?_
          refine Z_idiv (md := mX11_settled) (pc := 85) (kTab_at (pc := 85) tX11_settled_ok 54 rfl) h (fun x13 h => ?_)
          exact Z_iret (md := mX11_settled) (pc := 86) (kTab_at (pc := 86) tX11_settled_ok 55 rfl) rfl rfl rfl h
      · refine K_aload_n (md := mX11_settled) (pc := 45) 0 (kTab_at (pc := 45) tX11_settled_ok 28 rfl) rfl ?_
        refine K_getR (md := mX11_settled) (pc := 46) (b := 255) (kTab_at (pc := 46) tX11_settled_ok 29 rfl) fl_X11_32 sk_248 rfl rfl ?_
        refine K_iconst (md := mX11_settled) (pc := 49) (x := 0) (kTab_at (pc := 49) tX11_settled_ok 30 rfl) rfl ?_
        refine Z_iald (md := mX11_settled) (pc := 50) (kTab_at (pc := 50) tX11_settled_ok 31 rfl) sk_255 (by decide) h (fun x14 h => ?_)
        exact Z_iret (md := mX11_settled) (pc := 51) (kTab_at (pc := 51) tX11_settled_ok 32 rfl) rfl rfl rfl h
    · refine K_iconst (md := mX11_settled) (pc := 35) (x := 0) (kTab_at (pc := 35) tX11_settled_ok 22 rfl) rfl ?_
      exact Z_iret (md := mX11_settled) (pc := 36) (kTab_at (pc := 36) tX11_settled_ok 23 rfl) rfl rfl rfl h
  · refine K_aload_n (md := mX11_settled) (pc := 11) 0 (kTab_at (pc := 11) tX11_settled_ok 7 rfl) rfl ?_
    refine K_iload_n (md := mX11_settled) (pc := 12) 1 (kTab_at (pc := 12) tX11_settled_ok 8 rfl) rfl ?_
    refine K_iload_n (md := mX11_settled) (pc := 13) 2 (kTab_at (pc := 13) tX11_settled_ok 9 rfl) rfl ?_
    refine K_iconst (md := mX11_settled) (pc := 14) (x := 2) (kTab_at (pc := 14) tX11_settled_ok 10 rfl) rfl ?_
    refine Z_callV (md := mX11_settled) (pc := 15) (st := []) (sv := (fun x15 => [.int (iI x15)])) (kTab_at (pc := 15) tX11_settled_ok 11 rfl) mv_X11_105 sk_248 rfl (Nat.le_of_ble_eq_true rfl) (by decide) rfl (c_X11_appealPart X p1 p2 2 μ) (fun _ => rfl) h (fun μ x15 h => ?_) rfl
    refine K_bipush (md := mX11_settled) (pc := 18) (x := 120) (kTab_at (pc := 18) tX11_settled_ok 12 rfl) (by decide) ?_
    refine K_imul (md := mX11_settled) (pc := 20) (kTab_at (pc := 20) tX11_settled_ok 13 rfl) ?_
    exact Z_iret (md := mX11_settled) (pc := 21) (kTab_at (pc := 21) tX11_settled_ok 14 rfl) rfl rfl rfl h
def f_X11_hasGrade_35 (p1 : Int) (k4 : Int → Int → Mu → Option Res) (v3 : Int) (s0 : Int) (μ : Mu) : Option Res := k4 s0 (v3 + 1) μ
set_option maxRecDepth 100000 in
theorem c_X11_hasGrade_35 (X : kX) (p1 : Int)  {res : Res} (k4 : Int → Int → Mu → Option Res) (hk4 : ∀ (v2 : Int), ∀ (v3 : Int), ∀ (μ : Mu), k4 v2 v3 μ = some res → KK X mX11_hasGrade 1 1 res 4 [(0, .ref (X.1 + 248)), (1, .int (iI p1)), (2, .int (iI v2)), (3, .int (iI v3))] [] μ) (v3 : Int) (s0 : Int) (μ : Mu) (h : f_X11_hasGrade_35 p1 k4 v3 s0 μ = some res) : KK X mX11_hasGrade 1 1 res 35 [(0, .ref (X.1 + 248)), (1, .int (iI p1)), (3, .int (iI v3))] [.int (iI s0)] μ := by
  unfold f_X11_hasGrade_35 at h
  refine K_istore_n (md := mX11_hasGrade) (pc := 35) (l' := [(2, .int (iI s0)), (0, .ref (X.1 + 248)), (1, .int (iI p1)), (3, .int (iI v3))]) (kTab_at (pc := 35) tX11_hasGrade_ok 21 rfl) (Nat.le_of_ble_eq_true rfl) rfl ?_
  refine K_iinc (md := mX11_hasGrade) (pc := 36) (l' := [(3, .int (iI (v3 + 1))), (2, .int (iI s0)), (0, .ref (X.1 + 248)), (1, .int (iI p1))]) 3 (kTab_at (pc := 36) tX11_hasGrade_ok 22 rfl) rfl (Nat.le_of_ble_eq_true rfl) rfl ?_
  refine K_goto (md := mX11_hasGrade) (pc := 39) (tgt := 4) (kTab_at (pc := 39) tX11_hasGrade_ok 23 rfl) rfl ?_
  refine K_sub [2, 3, 1, 0] rfl ?_
  exact hk4 s0 (v3 + 1) μ h
def f_X11_hasGrade_30 (p1 : Int) (k4 : Int → Int → Mu → Option Res) (v3 : Int) (μ : Mu) : Option Res := f_X11_hasGrade_35 p1 k4 v3 1 μ
set_option maxRecDepth 100000 in
theorem c_X11_hasGrade_30 (X : kX) (p1 : Int)  {res : Res} (k4 : Int → Int → Mu → Option Res) (hk4 : ∀ (v2 : Int), ∀ (v3 : Int), ∀ (μ : Mu), k4 v2 v3 μ = some res → KK X mX11_hasGrade 1 1 res 4 [(0, .ref (X.1 + 248)), (1, .int (iI p1)), (2, .int (iI v2)), (3, .int (iI v3))] [] μ) (v3 : Int) (μ : Mu) (h : f_X11_hasGrade_30 p1 k4 v3 μ = some res) : KK X mX11_hasGrade 1 1 res 30 [(0, .ref (X.1 + 248)), (1, .int (iI p1)), (3, .int (iI v3))] [] μ := by
  unfold f_X11_hasGrade_30 at h
  refine K_iconst (md := mX11_hasGrade) (pc := 30) (x := 1) (kTab_at (pc := 30) tX11_hasGrade_ok 18 rfl) rfl ?_
  refine K_goto (md := mX11_hasGrade) (pc := 31) (tgt := 35) (kTab_at (pc := 31) tX11_hasGrade_ok 19 rfl) rfl ?_
  refine c_X11_hasGrade_35 X p1 _ hk4 v3 1 μ h
def f_X11_hasGrade_4 (p1 : Int) (k42 : Int → Mu → Option Res) : Nat → Int → Int → Mu → Option Res
  | 0, _, _, _ => none
  | fu + 1, v2, v3, μ => rdI μ 249 779 144 fun x1 => i_lt v3 x1 (i_eq v2 0 (rb (f_X11_part v3 1 μ) fun μ x2 => i_eq x2 p1 (f_X11_hasGrade_30 p1 (f_X11_hasGrade_4 p1 k42 fu) v3 μ) (f_X11_hasGrade_35 p1 (f_X11_hasGrade_4 p1 k42 fu) v3 0 μ)) (f_X11_hasGrade_30 p1 (f_X11_hasGrade_4 p1 k42 fu) v3 μ)) (k42 v2 μ)
set_option maxRecDepth 100000 in
theorem c_X11_hasGrade_4 (X : kX) (p1 : Int)  {res : Res} (k42 : Int → Mu → Option Res) (hk42 : ∀ (v2 : Int), ∀ (μ : Mu), k42 v2 μ = some res → KK X mX11_hasGrade 1 1 res 42 [(2, .int (iI v2))] [] μ) : ∀ (fu : Nat)  (v2 : Int) (v3 : Int) (μ : Mu), f_X11_hasGrade_4 p1 k42 fu v2 v3 μ = some res → KK X mX11_hasGrade 1 1 res 4 [(0, .ref (X.1 + 248)), (1, .int (iI p1)), (2, .int (iI v2)), (3, .int (iI v3))] [] μ := by
  intro fu
  induction fu with
  | zero => intro v2 v3 μ h; exact nomatch h
  | succ fu ih =>
    intro v2 v3 μ h
    refine K_iload_n (md := mX11_hasGrade) (pc := 4) 3 (kTab_at (pc := 4) tX11_hasGrade_ok 4 rfl) rfl ?_
    refine K_aload_n (md := mX11_hasGrade) (pc := 5) 0 (kTab_at (pc := 5) tX11_hasGrade_ok 5 rfl) rfl ?_
    refine K_getR (md := mX11_hasGrade) (pc := 6) (b := 249) (kTab_at (pc := 6) tX11_hasGrade_ok 6 rfl) fl_X11_7 sk_248 rfl rfl ?_
    refine K_sipush (md := mX11_hasGrade) (pc := 9) (x := 144) (kTab_at (pc := 9) tX11_hasGrade_ok 7 rfl) (by decide) ?_
    refine Z_iald (md := mX11_hasGrade) (pc := 12) (kTab_at (pc := 12) tX11_hasGrade_ok 8 rfl) sk_249 (by decide) h (fun x1 h => ?_)
    refine K_icmp_ge (md := mX11_hasGrade) (pc := 13) (kTab_at (pc := 13) tX11_hasGrade_ok 9 rfl) (tgt := 42) rfl h (fun h => ?_) (fun h => ?_)
    · refine K_sub [2] rfl ?_
      exact hk42 v2 μ h
    · refine K_iload_n (md := mX11_hasGrade) (pc := 16) 2 (kTab_at (pc := 16) tX11_hasGrade_ok 10 rfl) rfl ?_
      refine K_if_ne (md := mX11_hasGrade) (pc := 17) (kTab_at (pc := 17) tX11_hasGrade_ok 11 rfl) (tgt := 30) rfl h (fun h => ?_) (fun h => ?_)
      · refine K_sub [0, 1, 3] rfl ?_
        refine c_X11_hasGrade_30 X p1 _ ih v3 μ h
      · refine K_aload_n (md := mX11_hasGrade) (pc := 20) 0 (kTab_at (pc := 20) tX11_hasGrade_ok 12 rfl) rfl ?_
        refine K_iload_n (md := mX11_hasGrade) (pc := 21) 3 (kTab_at (pc := 21) tX11_hasGrade_ok 13 rfl) rfl ?_
        refine K_iconst (md := mX11_hasGrade) (pc := 22) (x := 1) (kTab_at (pc := 22) tX11_hasGrade_ok 14 rfl) rfl ?_
        refine Z_callV (md := mX11_hasGrade) (pc := 23) (st := []) (sv := (fun x2 => [.int (iI x2)])) (kTab_at (pc := 23) tX11_hasGrade_ok 15 rfl) mv_X11_81 sk_248 rfl (Nat.le_of_ble_eq_true rfl) (by decide) rfl (c_X11_part X v3 1 μ) (fun _ => rfl) h (fun μ x2 h => ?_) rfl
        refine K_iload_n (md := mX11_hasGrade) (pc := 26) 1 (kTab_at (pc := 26) tX11_hasGrade_ok 16 rfl) rfl ?_
        refine K_icmp_ne (md := mX11_hasGrade) (pc := 27) (kTab_at (pc := 27) tX11_hasGrade_ok 17 rfl) (tgt := 34) rfl h (fun h => ?_) (fun h => ?_)
        · refine K_iconst (md := mX11_hasGrade) (pc := 34) (x := 0) (kTab_at (pc := 34) tX11_hasGrade_ok 20 rfl) rfl ?_
          refine K_sub [0, 1, 3] rfl ?_
          refine c_X11_hasGrade_35 X p1 _ ih v3 0 μ h
        · refine K_sub [0, 1, 3] rfl ?_
          refine c_X11_hasGrade_30 X p1 _ ih v3 μ h
def f_X11_hasGrade (p1 : Int) (μ : Mu) : Option Res := f_X11_hasGrade_4 p1 (fun v2 μ => retZ μ v2) FU 0 0 μ
set_option maxRecDepth 100000 in
theorem c_X11_hasGrade (X : kX) (p1 : Int)  (μ : Mu) : Cq X mX11_hasGrade 1 1 μ [.ref (X.1 + 248), .int (iI p1)] (f_X11_hasGrade p1 μ) := by
  intro res h
  refine ct_of (by decide +kernel) rfl (Nat.le_of_ble_eq_true rfl) ?_
  show KK X mX11_hasGrade 1 1 res 0 [(0, .ref (X.1 + 248)), (1, .int (iI p1))] [] μ
  unfold f_X11_hasGrade at h
  refine K_iconst (md := mX11_hasGrade) (pc := 0) (x := 0) (kTab_at (pc := 0) tX11_hasGrade_ok 0 rfl) rfl ?_
  refine K_istore_n (md := mX11_hasGrade) (pc := 1) (l' := [(2, .int (iI 0)), (0, .ref (X.1 + 248)), (1, .int (iI p1))]) (kTab_at (pc := 1) tX11_hasGrade_ok 1 rfl) (Nat.le_of_ble_eq_true rfl) rfl ?_
  refine K_iconst (md := mX11_hasGrade) (pc := 2) (x := 0) (kTab_at (pc := 2) tX11_hasGrade_ok 2 rfl) rfl ?_
  refine K_istore_n (md := mX11_hasGrade) (pc := 3) (l' := [(3, .int (iI 0)), (2, .int (iI 0)), (0, .ref (X.1 + 248)), (1, .int (iI p1))]) (kTab_at (pc := 3) tX11_hasGrade_ok 3 rfl) (Nat.le_of_ble_eq_true rfl) rfl ?_
  refine K_sub [2, 3, 1, 0] rfl ?_
  refine c_X11_hasGrade_4 X p1 _ ?_ _ 0 0 μ h
  · intro v2 μ h
    refine K_iload_n (md := mX11_hasGrade) (pc := 42) 0 (kTab_at (pc := 42) tX11_hasGrade_ok 24 rfl) rfl ?_
    exact Z_zret (md := mX11_hasGrade) (pc := 43) (kTab_at (pc := 43) tX11_hasGrade_ok 25 rfl) rfl rfl h
def f_X11_withGrades_24  (k4 : Int → Int → Mu → Option Res) (v2 : Int) (s0 : Int) (s1 : Int) (μ : Mu) : Option Res := bnd (s0 + s1) fun x1 => k4 x1 (v2 + 1) μ
set_option maxRecDepth 100000 in
theorem c_X11_withGrades_24 (X : kX)   {res : Res} (k4 : Int → Int → Mu → Option Res) (hk4 : ∀ (v1 : Int), ∀ (v2 : Int), ∀ (μ : Mu), k4 v1 v2 μ = some res → KK X mX11_withGrades 2 1 res 4 [(0, .ref (X.1 + 248)), (1, .int (iI v1)), (2, .int (iI v2))] [] μ) (v2 : Int) (s0 : Int) (s1 : Int) (μ : Mu) (h : f_X11_withGrades_24 k4 v2 s0 s1 μ = some res) : KK X mX11_withGrades 2 1 res 24 [(0, .ref (X.1 + 248)), (2, .int (iI v2))] [.int (iI s1), .int (iI s0)] μ := by
  unfold f_X11_withGrades_24 at h
  refine K_iadd (md := mX11_withGrades) (pc := 24) (kTab_at (pc := 24) tX11_withGrades_ok 15 rfl) ?_
  refine Z_bnd (md := mX11_withGrades) (pc := 25) h (fun x1 h => ?_)
  refine K_istore_n (md := mX11_withGrades) (pc := 25) (l' := [(1, .int (iI x1)), (0, .ref (X.1 + 248)), (2, .int (iI v2))]) (kTab_at (pc := 25) tX11_withGrades_ok 16 rfl) (Nat.le_of_ble_eq_true rfl) rfl ?_
  refine K_iinc (md := mX11_withGrades) (pc := 26) (l' := [(2, .int (iI (v2 + 1))), (1, .int (iI x1)), (0, .ref (X.1 + 248))]) 2 (kTab_at (pc := 26) tX11_withGrades_ok 17 rfl) rfl (Nat.le_of_ble_eq_true rfl) rfl ?_
  refine K_goto (md := mX11_withGrades) (pc := 29) (tgt := 4) (kTab_at (pc := 29) tX11_withGrades_ok 18 rfl) rfl ?_
  refine K_sub [2, 1, 0] rfl ?_
  exact hk4 x1 (v2 + 1) μ h
def f_X11_withGrades_4  (k32 : Int → Mu → Option Res) : Nat → Int → Int → Mu → Option Res
  | 0, _, _, _ => none
  | fu + 1, v1, v2, μ => i_lt v2 8 (rb (f_X11_hasGrade v2 μ) fun μ x1 => i_eq x1 0 (f_X11_withGrades_24 (f_X11_withGrades_4 k32 fu) v2 v1 0 μ) (f_X11_withGrades_24 (f_X11_withGrades_4 k32 fu) v2 v1 1 μ)) (k32 v1 μ)
set_option maxRecDepth 100000 in
theorem c_X11_withGrades_4 (X : kX)   {res : Res} (k32 : Int → Mu → Option Res) (hk32 : ∀ (v1 : Int), ∀ (μ : Mu), k32 v1 μ = some res → KK X mX11_withGrades 2 1 res 32 [(1, .int (iI v1))] [] μ) : ∀ (fu : Nat)  (v1 : Int) (v2 : Int) (μ : Mu), f_X11_withGrades_4 k32 fu v1 v2 μ = some res → KK X mX11_withGrades 2 1 res 4 [(0, .ref (X.1 + 248)), (1, .int (iI v1)), (2, .int (iI v2))] [] μ := by
  intro fu
  induction fu with
  | zero => intro v1 v2 μ h; exact nomatch h
  | succ fu ih =>
    intro v1 v2 μ h
    refine K_iload_n (md := mX11_withGrades) (pc := 4) 2 (kTab_at (pc := 4) tX11_withGrades_ok 4 rfl) rfl ?_
    refine K_bipush (md := mX11_withGrades) (pc := 5) (x := 8) (kTab_at (pc := 5) tX11_withGrades_ok 5 rfl) (by decide) ?_
    refine K_icmp_ge (md := mX11_withGrades) (pc := 7) (kTab_at (pc := 7) tX11_withGrades_ok 6 rfl) (tgt := 32) rfl h (fun h => ?_) (fun h => ?_)
    · refine K_sub [1] rfl ?_
      exact hk32 v1 μ h
    · refine K_iload_n (md := mX11_withGrades) (pc := 10) 1 (kTab_at (pc := 10) tX11_withGrades_ok 7 rfl) rfl ?_
      refine K_aload_n (md := mX11_withGrades) (pc := 11) 0 (kTab_at (pc := 11) tX11_withGrades_ok 8 rfl) rfl ?_
      refine K_iload_n (md := mX11_withGrades) (pc := 12) 2 (kTab_at (pc := 12) tX11_withGrades_ok 9 rfl) rfl ?_
      refine Z_callV (md := mX11_withGrades) (pc := 13) (st := [.int (iI v1)]) (sv := (fun x1 => [.int (iI x1), .int (iI v1)])) (kTab_at (pc := 13) tX11_withGrades_ok 10 rfl) mv_X11_115 sk_248 rfl (Nat.le_of_ble_eq_true rfl) (by decide) rfl (c_X11_hasGrade X v2 μ) (fun _ => rfl) h (fun μ x1 h => ?_) rfl
      refine K_if_eq (md := mX11_withGrades) (pc := 16) (kTab_at (pc := 16) tX11_withGrades_ok 11 rfl) (tgt := 23) rfl h (fun h => ?_) (fun h => ?_)
      · refine K_iconst (md := mX11_withGrades) (pc := 23) (x := 0) (kTab_at (pc := 23) tX11_withGrades_ok 14 rfl) rfl ?_
        refine K_sub [0, 2] rfl ?_
        refine c_X11_withGrades_24 X  _ ih v2 v1 0 μ h
      · refine K_iconst (md := mX11_withGrades) (pc := 19) (x := 1) (kTab_at (pc := 19) tX11_withGrades_ok 12 rfl) rfl ?_
        refine K_goto (md := mX11_withGrades) (pc := 20) (tgt := 24) (kTab_at (pc := 20) tX11_withGrades_ok 13 rfl) rfl ?_
        refine K_sub [0, 2] rfl ?_
        refine c_X11_withGrades_24 X  _ ih v2 v1 1 μ h
def f_X11_withGrades  (μ : Mu) : Option Res := f_X11_withGrades_4 (fun v1 μ => some (μ, 0, v1)) FU 0 0 μ
set_option maxRecDepth 100000 in
theorem c_X11_withGrades (X : kX)   (μ : Mu) : Cq X mX11_withGrades 2 1 μ [.ref (X.1 + 248)] (f_X11_withGrades  μ) := by
  intro res h
  refine ct_of (by decide +kernel) rfl (Nat.le_of_ble_eq_true rfl) ?_
  show KK X mX11_withGrades 2 1 res 0 [(0, .ref (X.1 + 248))] [] μ
  unfold f_X11_withGrades at h
  refine K_iconst (md := mX11_withGrades) (pc := 0) (x := 0) (kTab_at (pc := 0) tX11_withGrades_ok 0 rfl) rfl ?_
  refine K_istore_n (md := mX11_withGrades) (pc := 1) (l' := [(1, .int (iI 0)), (0, .ref (X.1 + 248))]) (kTab_at (pc := 1) tX11_withGrades_ok 1 rfl) (Nat.le_of_ble_eq_true rfl) rfl ?_
  refine K_iconst (md := mX11_withGrades) (pc := 2) (x := 0) (kTab_at (pc := 2) tX11_withGrades_ok 2 rfl) rfl ?_
  refine K_istore_n (md := mX11_withGrades) (pc := 3) (l' := [(2, .int (iI 0)), (1, .int (iI 0)), (0, .ref (X.1 + 248))]) (kTab_at (pc := 3) tX11_withGrades_ok 3 rfl) (Nat.le_of_ble_eq_true rfl) rfl ?_
  refine K_sub [2, 1, 0] rfl ?_
  refine c_X11_withGrades_4 X  _ ?_ _ 0 0 μ h
  · intro v1 μ h
    refine K_iload_n (md := mX11_withGrades) (pc := 32) 0 (kTab_at (pc := 32) tX11_withGrades_ok 19 rfl) rfl ?_
    exact Z_iret (md := mX11_withGrades) (pc := 33) (kTab_at (pc := 33) tX11_withGrades_ok 20 rfl) rfl rfl rfl h

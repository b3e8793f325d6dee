def f_X11_append_57 (p1 : Int) (k10 : Int → Int → Mu → Option Res) (v3 : Int) (s0 : Int) (s1 : Int) (μ : Mu) : Option Res := bnd (s0 + s1) fun x1 => k10 x1 (v3 + (-8)) μ
set_option maxRecDepth 100000 in
theorem c_X11_append_57 (X : kX) (p1 : Int)  {res : Res} (k10 : Int → Int → Mu → Option Res) (hk10 : ∀ (v2 : Int), ∀ (v3 : Int), ∀ (μ : Mu), k10 v2 v3 μ = some res → KK X mX11_append 1 1 res 10 [(0, .ref (X.1 + 248)), (1, .int (iI p1)), (2, .int (iI v2)), (3, .int (iI v3))] [] μ) (v3 : Int) (s0 : Int) (s1 : Int) (μ : Mu) (h : f_X11_append_57 p1 k10 v3 s0 s1 μ = some res) : KK X mX11_append 1 1 res 57 [(0, .ref (X.1 + 248)), (1, .int (iI p1)), (3, .int (iI v3))] [.int (iI s1), .int (iI s0)] μ := by
  unfold f_X11_append_57 at h
  refine K_iadd (md := mX11_append) (pc := 57) (kTab_at (pc := 57) tX11_append_ok 32 rfl) ?_
  refine Z_bnd (md := mX11_append) (pc := 58) h (fun x1 h => ?_)
  refine K_istore_n (md := mX11_append) (pc := 58) (l' := [(2, .int (iI x1)), (0, .ref (X.1 + 248)), (1, .int (iI p1)), (3, .int (iI v3))]) (kTab_at (pc := 58) tX11_append_ok 33 rfl) (Nat.le_of_ble_eq_true rfl) rfl ?_
  refine K_iinc (md := mX11_append) (pc := 59) (l' := [(3, .int (iI (v3 + (-8)))), (2, .int (iI x1)), (0, .ref (X.1 + 248)), (1, .int (iI p1))]) 3 (kTab_at (pc := 59) tX11_append_ok 34 rfl) rfl (Nat.le_of_ble_eq_true rfl) rfl ?_
  refine K_goto (md := mX11_append) (pc := 62) (tgt := 10) (kTab_at (pc := 62) tX11_append_ok 35 rfl) rfl ?_
  refine K_sub [2, 3, 1, 0] rfl ?_
  exact hk10 x1 (v3 + (-8)) μ h
def f_X11_append_46 (p1 : Int) (k10 : Int → Int → Mu → Option Res) (v2 : Int) (v3 : Int) (v4 : Int) (μ : Mu) : Option Res := i_eq v4 0 (f_X11_append_57 p1 k10 v3 v2 0 μ) (f_X11_append_57 p1 k10 v3 v2 1 μ)
set_option maxRecDepth 100000 in
theorem c_X11_append_46 (X : kX) (p1 : Int)  {res : Res} (k10 : Int → Int → Mu → Option Res) (hk10 : ∀ (v2 : Int), ∀ (v3 : Int), ∀ (μ : Mu), k10 v2 v3 μ = some res → KK X mX11_append 1 1 res 10 [(0, .ref (X.1 + 248)), (1, .int (iI p1)), (2, .int (iI v2)), (3, .int (iI v3))] [] μ) (v2 : Int) (v3 : Int) (v4 : Int) (μ : Mu) (h : f_X11_append_46 p1 k10 v2 v3 v4 μ = some res) : KK X mX11_append 1 1 res 46 [(0, .ref (X.1 + 248)), (1, .int (iI p1)), (2, .int (iI v2)), (3, .int (iI v3)), (4, .int (iI v4))] [] μ := by
  unfold f_X11_append_46 at h
  refine K_iload_n (md := mX11_append) (pc := 46) 2 (kTab_at (pc := 46) tX11_append_ok 26 rfl) rfl ?_
  refine K_iload (md := mX11_append) (pc := 47) 4 (kTab_at (pc := 47) tX11_append_ok 27 rfl) rfl ?_
  refine K_if_eq (md := mX11_append) (pc := 49) (kTab_at (pc := 49) tX11_append_ok 28 rfl) (tgt := 56) rfl h (fun h => ?_) (fun h => ?_)
  · refine K_iconst (md := mX11_append) (pc := 56) (x := 0) (kTab_at (pc := 56) tX11_append_ok 31 rfl) rfl ?_
    refine K_sub [0, 1, 3] rfl ?_
    refine c_X11_append_57 X p1 _ hk10 v3 v2 0 μ h
  · refine K_iconst (md := mX11_append) (pc := 52) (x := 1) (kTab_at (pc := 52) tX11_append_ok 29 rfl) rfl ?_
    refine K_goto (md := mX11_append) (pc := 53) (tgt := 57) (kTab_at (pc := 53) tX11_append_ok 30 rfl) rfl ?_
    refine K_sub [0, 1, 3] rfl ?_
    refine c_X11_append_57 X p1 _ hk10 v3 v2 1 μ h
def f_X11_append_124 (p1 : Int) (k85 : Int → Mu → Option Res) (v3 : Int) (μ : Mu) : Option Res := k85 (v3 + (-8)) μ
set_option maxRecDepth 100000 in
theorem c_X11_append_124 (X : kX) (p1 : Int)  {res : Res} (k85 : Int → Mu → Option Res) (hk85 : ∀ (v3 : Int), ∀ (μ : Mu), k85 v3 μ = some res → KK X mX11_append 1 1 res 85 [(0, .ref (X.1 + 248)), (1, .int (iI p1)), (3, .int (iI v3))] [] μ) (v3 : Int) (μ : Mu) (h : f_X11_append_124 p1 k85 v3 μ = some res) : KK X mX11_append 1 1 res 124 [(0, .ref (X.1 + 248)), (1, .int (iI p1)), (3, .int (iI v3))] [] μ := by
  unfold f_X11_append_124 at h
  refine K_iinc (md := mX11_append) (pc := 124) (l' := [(3, .int (iI (v3 + (-8)))), (0, .ref (X.1 + 248)), (1, .int (iI p1))]) 2 (kTab_at (pc := 124) tX11_append_ok 70 rfl) rfl (Nat.le_of_ble_eq_true rfl) rfl ?_
  refine K_goto (md := mX11_append) (pc := 127) (tgt := 85) (kTab_at (pc := 127) tX11_append_ok 71 rfl) rfl ?_
  refine K_sub [1, 2, 0] rfl ?_
  exact hk85 (v3 + (-8)) μ h
def f_X11_append_85 (p1 : Int) (k130 : Mu → Option Res) : Nat → Int → Mu → Option Res
  | 0, _, _ => none
  | fu + 1, v3, μ => i_lt v3 0 (k130 μ) (bnd (andI (ushrI p1 v3) 255) fun x1 => i_eq x1 0 (f_X11_append_124 p1 (f_X11_append_85 p1 k130 fu) v3 μ) (rdF μ 248 8 fun x2 => wrI μ 253 60 x2 x1 fun μ => rdF μ 248 8 fun x3 => wrF μ 248 8 (x3 + 1) fun μ => f_X11_append_124 p1 (f_X11_append_85 p1 k130 fu) v3 μ))
set_option maxRecDepth 100000 in
theorem c_X11_append_85 (X : kX) (p1 : Int)  {res : Res} (k130 : Mu → Option Res) (hk130 : ∀ (μ : Mu), k130 μ = some res → KK X mX11_append 1 1 res 130 [(0, .ref (X.1 + 248))] [] μ) : ∀ (fu : Nat)  (v3 : Int) (μ : Mu), f_X11_append_85 p1 k130 fu v3 μ = some res → KK X mX11_append 1 1 res 85 [(0, .ref (X.1 + 248)), (1, .int (iI p1)), (3, .int (iI v3))] [] μ := by
  intro fu
  induction fu with
  | zero => intro v3 μ h; exact nomatch h
  | succ fu ih =>
    intro v3 μ h
    refine K_iload_n (md := mX11_append) (pc := 85) 2 (kTab_at (pc := 85) tX11_append_ok 48 rfl) rfl ?_
    refine K_if_lt (md := mX11_append) (pc := 86) (kTab_at (pc := 86) tX11_append_ok 49 rfl) (tgt := 130) rfl h (fun h => ?_) (fun h => ?_)
    · refine K_sub [0] rfl ?_
      exact hk130 μ h
    · refine K_iload_n (md := mX11_append) (pc := 89) 1 (kTab_at (pc := 89) tX11_append_ok 50 rfl) rfl ?_
      refine K_iload_n (md := mX11_append) (pc := 90) 2 (kTab_at (pc := 90) tX11_append_ok 51 rfl) rfl ?_
      refine K_iushr (md := mX11_append) (pc := 91) (kTab_at (pc := 91) tX11_append_ok 52 rfl) ?_
      refine K_sipush (md := mX11_append) (pc := 92) (x := 255) (kTab_at (pc := 92) tX11_append_ok 53 rfl) (by decide) ?_
      refine K_iand (md := mX11_append) (pc := 95) (kTab_at (pc := 95) tX11_append_ok 54 rfl) ?_
      refine Z_bnd (md := mX11_append) (pc := 96) h (fun x1 h => ?_)
      refine K_istore (md := mX11_append) (pc := 96) (l' := [(4, .int (iI x1)), (0, .ref (X.1 + 248)), (1, .int (iI p1)), (3, .int (iI v3))]) (kTab_at (pc := 96) tX11_append_ok 55 rfl) (Nat.le_of_ble_eq_true rfl) rfl ?_
      refine K_iload (md := mX11_append) (pc := 98) 0 (kTab_at (pc := 98) tX11_append_ok 56 rfl) rfl ?_
      refine K_if_eq (md := mX11_append) (pc := 100) (kTab_at (pc := 100) tX11_append_ok 57 rfl) (tgt := 124) rfl h (fun h => ?_) (fun h => ?_)
      · refine K_sub [1, 2, 3] rfl ?_
        refine c_X11_append_124 X p1 _ ih v3 μ h
      · refine K_aload_n (md := mX11_append) (pc := 103) 1 (kTab_at (pc := 103) tX11_append_ok 58 rfl) rfl ?_
        refine K_getR (md := mX11_append) (pc := 104) (b := 253) (kTab_at (pc := 104) tX11_append_ok 59 rfl) fl_X11_22 sk_248 rfl rfl ?_
        refine K_aload_n (md := mX11_append) (pc := 107) 1 (kTab_at (pc := 107) tX11_append_ok 60 rfl) rfl ?_
        refine Z_getI (md := mX11_append) (pc := 108) (kTab_at (pc := 108) tX11_append_ok 61 rfl) fl_X11_228 sk_248 (Or.inl rfl) h (fun x2 h => ?_)
        refine K_iload (md := mX11_append) (pc := 111) 0 (kTab_at (pc := 111) tX11_append_ok 62 rfl) rfl ?_
        refine Z_iast (md := mX11_append) (pc := 113) (kTab_at (pc := 113) tX11_append_ok 63 rfl) sk_253 (by decide) h (fun μ h => ?_)
        refine K_aload_n (md := mX11_append) (pc := 114) 1 (kTab_at (pc := 114) tX11_append_ok 64 rfl) rfl ?_
        refine K_dup (md := mX11_append) (pc := 115) (kTab_at (pc := 115) tX11_append_ok 65 rfl) rfl ?_
        refine Z_getI (md := mX11_append) (pc := 116) (kTab_at (pc := 116) tX11_append_ok 66 rfl) fl_X11_228 sk_248 (Or.inl rfl) h (fun x3 h => ?_)
        refine K_iconst (md := mX11_append) (pc := 119) (x := 1) (kTab_at (pc := 119) tX11_append_ok 67 rfl) rfl ?_
        refine K_iadd (md := mX11_append) (pc := 120) (kTab_at (pc := 120) tX11_append_ok 68 rfl) ?_
        refine Z_putI (md := mX11_append) (pc := 121) (kTab_at (pc := 121) tX11_append_ok 69 rfl) fl_X11_228 sk_248 rfl h (fun μ h => ?_)
        refine K_sub [1, 2, 3] rfl ?_
        refine c_X11_append_124 X p1 _ ih v3 μ h
def f_X11_append_10 (p1 : Int) (k40 : Mu → Option Res) (k65 : Int → Mu → Option Res) : Nat → Int → Int → Mu → Option Res
  | 0, _, _, _ => none
  | fu + 1, v2, v3, μ => i_lt v3 0 (k65 v2 μ) (bnd (andI (ushrI p1 v3) 255) fun x1 => i_eq x1 0 (f_X11_append_46 p1 (f_X11_append_10 p1 k40 k65 fu) v2 v3 x1 μ) (rb (f_X11_in x1 33 126 μ) fun μ x2 => i_eq x2 0 (k40 μ) (f_X11_append_46 p1 (f_X11_append_10 p1 k40 k65 fu) v2 v3 x1 μ)))
set_option maxRecDepth 100000 in
theorem c_X11_append_10 (X : kX) (p1 : Int)  {res : Res} (k40 : Mu → Option Res) (hk40 : ∀ (μ : Mu), k40 μ = some res → KK X mX11_append 1 1 res 40 [(0, .ref (X.1 + 248))] [] μ) (k65 : Int → Mu → Option Res) (hk65 : ∀ (v2 : Int), ∀ (μ : Mu), k65 v2 μ = some res → KK X mX11_append 1 1 res 65 [(0, .ref (X.1 + 248)), (1, .int (iI p1)), (2, .int (iI v2))] [] μ) : ∀ (fu : Nat)  (v2 : Int) (v3 : Int) (μ : Mu), f_X11_append_10 p1 k40 k65 fu v2 v3 μ = some res → KK X mX11_append 1 1 res 10 [(0, .ref (X.1 + 248)), (1, .int (iI p1)), (2, .int (iI v2)), (3, .int (iI v3))] [] μ := by
  intro fu
  induction fu with
  | zero => intro v2 v3 μ h; exact nomatch h
  | succ fu ih =>
    intro v2 v3 μ h
    refine K_iload_n (md := mX11_append) (pc := 10) 3 (kTab_at (pc := 10) tX11_append_ok 7 rfl) rfl ?_
    refine K_if_lt (md := mX11_append) (pc := 11) (kTab_at (pc := 11) tX11_append_ok 8 rfl) (tgt := 65) rfl h (fun h => ?_) (fun h => ?_)
    · refine K_sub [0, 1, 2] rfl ?_
      exact hk65 v2 μ h
    · refine K_iload_n (md := mX11_append) (pc := 14) 1 (kTab_at (pc := 14) tX11_append_ok 9 rfl) rfl ?_
      refine K_iload_n (md := mX11_append) (pc := 15) 3 (kTab_at (pc := 15) tX11_append_ok 10 rfl) rfl ?_
      refine K_iushr (md := mX11_append) (pc := 16) (kTab_at (pc := 16) tX11_append_ok 11 rfl) ?_
      refine K_sipush (md := mX11_append) (pc := 17) (x := 255) (kTab_at (pc := 17) tX11_append_ok 12 rfl) (by decide) ?_
      refine K_iand (md := mX11_append) (pc := 20) (kTab_at (pc := 20) tX11_append_ok 13 rfl) ?_
      refine Z_bnd (md := mX11_append) (pc := 21) h (fun x1 h => ?_)
      refine K_istore (md := mX11_append) (pc := 21) (l' := [(4, .int (iI x1)), (0, .ref (X.1 + 248)), (1, .int (iI p1)), (2, .int (iI v2)), (3, .int (iI v3))]) (kTab_at (pc := 21) tX11_append_ok 14 rfl) (Nat.le_of_ble_eq_true rfl) rfl ?_
      refine K_iload (md := mX11_append) (pc := 23) 0 (kTab_at (pc := 23) tX11_append_ok 15 rfl) rfl ?_
      refine K_if_eq (md := mX11_append) (pc := 25) (kTab_at (pc := 25) tX11_append_ok 16 rfl) (tgt := 46) rfl h (fun h => ?_) (fun h => ?_)
      · refine K_sub [1, 2, 3, 4, 0] rfl ?_
        refine c_X11_append_46 X p1 _ ih v2 v3 x1 μ h
      · refine K_iload (md := mX11_append) (pc := 28) 0 (kTab_at (pc := 28) tX11_append_ok 17 rfl) rfl ?_
        refine K_bipush (md := mX11_append) (pc := 30) (x := 33) (kTab_at (pc := 30) tX11_append_ok 18 rfl) (by decide) ?_
        refine K_bipush (md := mX11_append) (pc := 32) (x := 126) (kTab_at (pc := 32) tX11_append_ok 19 rfl) (by decide) ?_
        refine Z_callS (md := mX11_append) (pc := 34) (st := []) (sv := (fun x2 => [.int (iI x2)])) (kTab_at (pc := 34) tX11_append_ok 20 rfl) ms_X11_51 rfl (Nat.le_of_ble_eq_true rfl) (by decide) rfl (c_X11_in X x1 33 126 μ) (fun _ => rfl) h (fun μ x2 h => ?_) rfl
        refine K_if_ne (md := mX11_append) (pc := 37) (kTab_at (pc := 37) tX11_append_ok 21 rfl) (tgt := 46) rfl h (fun h => ?_) (fun h => ?_)
        · refine K_sub [1, 2, 3, 4, 0] rfl ?_
          refine c_X11_append_46 X p1 _ ih v2 v3 x1 μ h
        · refine K_sub [1] rfl ?_
          exact hk40 μ h
def f_X11_append (p1 : Int) (μ : Mu) : Option Res := wrF μ 248 0 0 fun μ => f_X11_append_10 p1 (fun μ => rb (f_X11_fails 1 μ) fun μ x1 => some (μ, 0, x1)) (fun v2 μ => rdF μ 248 8 fun x2 => i_lt 60 (x2 + v2) (rb (f_X11_fails 2 μ) fun μ x4 => some (μ, 0, x4)) (f_X11_append_85 p1 (fun μ => rdF μ 248 8 fun x3 => some (μ, 0, x3)) FU 24 μ)) FU 0 24 μ
set_option maxRecDepth 100000 in
theorem c_X11_append (X : kX) (p1 : Int)  (μ : Mu) : Cq X mX11_append 1 1 μ [.ref (X.1 + 248), .int (iI p1)] (f_X11_append p1 μ) := by
  intro res h
  refine ct_of (by decide +kernel) rfl (Nat.le_of_ble_eq_true rfl) ?_
  show KK X mX11_append 1 1 res 0 [(0, .ref (X.1 + 248)), (1, .int (iI p1))] [] μ
  unfold f_X11_append at h
  refine K_aload_n (md := mX11_append) (pc := 0) 0 (kTab_at (pc := 0) tX11_append_ok 0 rfl) rfl ?_
  refine K_iconst (md := mX11_append) (pc := 1) (x := 0) (kTab_at (pc := 1) tX11_append_ok 1 rfl) rfl ?_
  refine Z_putI (md := mX11_append) (pc := 2) (kTab_at (pc := 2) tX11_append_ok 2 rfl) fl_X11_48 sk_248 rfl h (fun μ h => ?_)
  refine K_iconst (md := mX11_append) (pc := 5) (x := 0) (kTab_at (pc := 5) tX11_append_ok 3 rfl) rfl ?_
  refine K_istore_n (md := mX11_append) (pc := 6) (l' := [(2, .int (iI 0)), (0, .ref (X.1 + 248)), (1, .int (iI p1))]) (kTab_at (pc := 6) tX11_append_ok 4 rfl) (Nat.le_of_ble_eq_true rfl) rfl ?_
  refine K_bipush (md := mX11_append) (pc := 7) (x := 24) (kTab_at (pc := 7) tX11_append_ok 5 rfl) (by decide) ?_
  refine K_istore_n (md := mX11_append) (pc := 9) (l' := [(3, .int (iI 24)), (2, .int (iI 0)), (0, .ref (X.1 + 248)), (1, .int (iI p1))]) (kTab_at (pc := 9) tX11_append_ok 6 rfl) (Nat.le_of_ble_eq_true rfl) rfl ?_
  refine K_sub [2, 3, 1, 0] rfl ?_
  refine c_X11_append_10 X p1 _ ?_ _ ?_ _ 0 24 μ h
  · intro  μ h
    refine K_aload_n (md := mX11_append) (pc := 40) 0 (kTab_at (pc := 40) tX11_append_ok 22 rfl) rfl ?_
    refine K_iconst (md := mX11_append) (pc := 41) (x := 1) (kTab_at (pc := 41) tX11_append_ok 23 rfl) rfl ?_
    refine Z_callV (md := mX11_append) (pc := 42) (st := []) (sv := (fun x1 => [.int (iI x1)])) (kTab_at (pc := 42) tX11_append_ok 24 rfl) mv_X11_177 sk_248 rfl (Nat.le_of_ble_eq_true rfl) (by decide) rfl (c_X11_fails X 1 μ) (fun _ => rfl) h (fun μ x1 h => ?_) rfl
    exact Z_iret (md := mX11_append) (pc := 45) (kTab_at (pc := 45) tX11_append_ok 25 rfl) rfl rfl rfl h
  · intro v2 μ h
    refine K_aload_n (md := mX11_append) (pc := 65) 0 (kTab_at (pc := 65) tX11_append_ok 36 rfl) rfl ?_
    refine Z_getI (md := mX11_append) (pc := 66) (kTab_at (pc := 66) tX11_append_ok 37 rfl) fl_X11_228 sk_248 (Or.inl rfl) h (fun x2 h => ?_)
    refine K_iload_n (md := mX11_append) (pc := 69) 2 (kTab_at (pc := 69) tX11_append_ok 38 rfl) rfl ?_
    refine K_iadd (md := mX11_append) (pc := 70) (kTab_at (pc := 70) tX11_append_ok 39 rfl) ?_
    refine K_bipush (md := mX11_append) (pc := 71) (x := 60) (kTab_at (pc := 71) tX11_append_ok 40 rfl) (by decide) ?_
    refine K_icmp_le (md := mX11_append) (pc := 73) (kTab_at (pc := 73) tX11_append_ok 41 rfl) (tgt := 82) rfl h (fun h => ?_) (fun h => ?_)
    · refine K_bipush (md := mX11_append) (pc := 82) (x := 24) (kTab_at (pc := 82) tX11_append_ok 46 rfl) (by decide) ?_
      refine K_istore_n (md := mX11_append) (pc := 84) (l' := [(3, .int (iI 24)), (0, .ref (X.1 + 248)), (1, .int (iI p1)), (2, .int (iI v2))]) (kTab_at (pc := 84) tX11_append_ok 47 rfl) (Nat.le_of_ble_eq_true rfl) rfl ?_
      refine K_sub [1, 2, 0] rfl ?_
      refine c_X11_append_85 X p1 _ ?_ _ 24 μ h
      · intro  μ h
        refine K_aload_n (md := mX11_append) (pc := 130) 0 (kTab_at (pc := 130) tX11_append_ok 72 rfl) rfl ?_
        refine Z_getI (md := mX11_append) (pc := 131) (kTab_at (pc := 131) tX11_append_ok 73 rfl) fl_X11_228 sk_248 (Or.inl rfl) h (fun x3 h => ?_)
        exact Z_iret (md := mX11_append) (pc := 134) (kTab_at (pc := 134) tX11_append_ok 74 rfl) rfl rfl rfl h
    · refine K_aload_n (md := mX11_append) (pc := 76) 0 (kTab_at (pc := 76) tX11_append_ok 42 rfl) rfl ?_
      refine K_iconst (md := mX11_append) (pc := 77) (x := 2) (kTab_at (pc := 77) tX11_append_ok 43 rfl) rfl ?_
      refine Z_callV (md := mX11_append) (pc := 78) (st := []) (sv := (fun x4 => [.int (iI x4)])) (kTab_at (pc := 78) tX11_append_ok 44 rfl) mv_X11_177 sk_248 rfl (Nat.le_of_ble_eq_true rfl) (by decide) rfl (c_X11_fails X 2 μ) (fun _ => rfl) h (fun μ x4 h => ?_) rfl
      exact Z_iret (md := mX11_append) (pc := 81) (kTab_at (pc := 81) tX11_append_ok 45 rfl) rfl rfl rfl h
def f_X11_here_24   (s0 : Int) (μ : Mu) : Option Res := some (μ, 0, s0)
set_option maxRecDepth 100000 in
theorem c_X11_here_24 (X : kX)   {res : Res}  (s0 : Int) (μ : Mu) (h : f_X11_here_24 s0 μ = some res) : KK X mX11_here 0 1 res 24 [] [.int (iI s0)] μ := by
  unfold f_X11_here_24 at h
  exact Z_iret (md := mX11_here) (pc := 24) (kTab_at (pc := 24) tX11_here_ok 12 rfl) rfl rfl rfl h
def f_X11_here  (μ : Mu) : Option Res := rdF μ 248 21 fun x1 => rdF μ 248 8 fun x2 => i_lt x1 x2 (rdF μ 248 21 fun x3 => rdI μ 253 60 x3 fun x4 => f_X11_here_24 x4 μ) (f_X11_here_24 (-1) μ)
set_option maxRecDepth 100000 in
theorem c_X11_here (X : kX)   (μ : Mu) : Cq X mX11_here 0 1 μ [.ref (X.1 + 248)] (f_X11_here  μ) := by
  intro res h
  refine ct_of (by decide +kernel) rfl (Nat.le_of_ble_eq_true rfl) ?_
  show KK X mX11_here 0 1 res 0 [(0, .ref (X.1 + 248))] [] μ
  unfold f_X11_here at h
  refine K_aload_n (md := mX11_here) (pc := 0) 0 (kTab_at (pc := 0) tX11_here_ok 0 rfl) rfl ?_
  refine Z_getI (md := mX11_here) (pc := 1) (kTab_at (pc := 1) tX11_here_ok 1 rfl) fl_X11_231 sk_248 (Or.inl rfl) h (fun x1 h => ?_)
  refine K_aload_n (md := mX11_here) (pc := 4) 0 (kTab_at (pc := 4) tX11_here_ok 2 rfl) rfl ?_
  refine Z_getI (md := mX11_here) (pc := 5) (kTab_at (pc := 5) tX11_here_ok 3 rfl) fl_X11_228 sk_248 (Or.inl rfl) h (fun x2 h => ?_)
  refine K_icmp_ge (md := mX11_here) (pc := 8) (kTab_at (pc := 8) tX11_here_ok 4 rfl) (tgt := 23) rfl h (fun h => ?_) (fun h => ?_)
  · refine K_iconst (md := mX11_here) (pc := 23) (x := -1) (kTab_at (pc := 23) tX11_here_ok 11 rfl) rfl ?_
    refine K_sub [] rfl ?_
    refine c_X11_here_24 X   (-1) μ h
  · refine K_aload_n (md := mX11_here) (pc := 11) 0 (kTab_at (pc := 11) tX11_here_ok 5 rfl) rfl ?_
    refine K_getR (md := mX11_here) (pc := 12) (b := 253) (kTab_at (pc := 12) tX11_here_ok 6 rfl) fl_X11_22 sk_248 rfl rfl ?_
    refine K_aload_n (md := mX11_here) (pc := 15) 0 (kTab_at (pc := 15) tX11_here_ok 7 rfl) rfl ?_
    refine Z_getI (md := mX11_here) (pc := 16) (kTab_at (pc := 16) tX11_here_ok 8 rfl) fl_X11_231 sk_248 (Or.inl rfl) h (fun x3 h => ?_)
    refine Z_iald (md := mX11_here) (pc := 19) (kTab_at (pc := 19) tX11_here_ok 9 rfl) sk_253 (by decide) h (fun x4 h => ?_)
    refine K_goto (md := mX11_here) (pc := 20) (tgt := 24) (kTab_at (pc := 20) tX11_here_ok 10 rfl) rfl ?_
    refine K_sub [] rfl ?_
    refine c_X11_here_24 X   x4 μ h
def f_X11_must_41 (p1 : Int)  (s1 : Int) (s2 : Int) (μ : Mu) : Option Res := wrF μ 248 21 (s1 + s2) fun μ => some (μ, 0, 0)
set_option maxRecDepth 100000 in
theorem c_X11_must_41 (X : kX) (p1 : Int)  {res : Res}  (s1 : Int) (s2 : Int) (μ : Mu) (h : f_X11_must_41 p1 s1 s2 μ = some res) : KK X mX11_must 1 0 res 41 [] [.int (iI s2), .int (iI s1), .ref (X.1 + 248)] μ := by
  unfold f_X11_must_41 at h
  refine K_iadd (md := mX11_must) (pc := 41) (kTab_at (pc := 41) tX11_must_ok 21 rfl) ?_
  refine Z_putI (md := mX11_must) (pc := 42) (kTab_at (pc := 42) tX11_must_ok 22 rfl) fl_X11_231 sk_248 rfl h (fun μ h => ?_)
  exact Z_vret (md := mX11_must) (pc := 45) (kTab_at (pc := 45) tX11_must_ok 23 rfl) rfl rfl h
def f_X11_must_21 (p1 : Int)  (s1 : Int) (μ : Mu) : Option Res := wrZ μ 248 22 s1 fun μ => rdF μ 248 21 fun x1 => rdF μ 248 22 fun x2 => i_eq x2 0 (f_X11_must_41 p1 x1 0 μ) (f_X11_must_41 p1 x1 1 μ)
set_option maxRecDepth 100000 in
theorem c_X11_must_21 (X : kX) (p1 : Int)  {res : Res}  (s1 : Int) (μ : Mu) (h : f_X11_must_21 p1 s1 μ = some res) : KK X mX11_must 1 0 res 21 [(0, .ref (X.1 + 248))] [.int (iI s1), .ref (X.1 + 248)] μ := by
  unfold f_X11_must_21 at h
  refine Z_putZ (md := mX11_must) (pc := 21) (kTab_at (pc := 21) tX11_must_ok 11 rfl) fl_X11_234 sk_248 rfl h (fun μ h => ?_)
  refine K_aload_n (md := mX11_must) (pc := 24) 0 (kTab_at (pc := 24) tX11_must_ok 12 rfl) rfl ?_
  refine K_dup (md := mX11_must) (pc := 25) (kTab_at (pc := 25) tX11_must_ok 13 rfl) rfl ?_
  refine Z_getI (md := mX11_must) (pc := 26) (kTab_at (pc := 26) tX11_must_ok 14 rfl) fl_X11_231 sk_248 (Or.inl rfl) h (fun x1 h => ?_)
  refine K_aload_n (md := mX11_must) (pc := 29) 0 (kTab_at (pc := 29) tX11_must_ok 15 rfl) rfl ?_
  refine Z_getI (md := mX11_must) (pc := 30) (kTab_at (pc := 30) tX11_must_ok 16 rfl) fl_X11_234 sk_248 (Or.inr rfl) h (fun x2 h => ?_)
  refine K_if_eq (md := mX11_must) (pc := 33) (kTab_at (pc := 33) tX11_must_ok 17 rfl) (tgt := 40) rfl h (fun h => ?_) (fun h => ?_)
  · refine K_iconst (md := mX11_must) (pc := 40) (x := 0) (kTab_at (pc := 40) tX11_must_ok 20 rfl) rfl ?_
    refine K_sub [] rfl ?_
    refine c_X11_must_41 X p1  x1 0 μ h
  · refine K_iconst (md := mX11_must) (pc := 36) (x := 1) (kTab_at (pc := 36) tX11_must_ok 18 rfl) rfl ?_
    refine K_goto (md := mX11_must) (pc := 37) (tgt := 41) (kTab_at (pc := 37) tX11_must_ok 19 rfl) rfl ?_
    refine K_sub [] rfl ?_
    refine c_X11_must_41 X p1  x1 1 μ h
def f_X11_must_20 (p1 : Int)   (μ : Mu) : Option Res := f_X11_must_21 p1 0 μ
set_option maxRecDepth 100000 in
theorem c_X11_must_20 (X : kX) (p1 : Int)  {res : Res}  (μ : Mu) (h : f_X11_must_20 p1 μ = some res) : KK X mX11_must 1 0 res 20 [(0, .ref (X.1 + 248))] [.ref (X.1 + 248)] μ := by
  unfold f_X11_must_20 at h
  refine K_iconst (md := mX11_must) (pc := 20) (x := 0) (kTab_at (pc := 20) tX11_must_ok 10 rfl) rfl ?_
  refine c_X11_must_21 X p1  0 μ h
def f_X11_must (p1 : Int) (μ : Mu) : Option Res := rdF μ 248 22 fun x1 => i_eq x1 0 (f_X11_must_20 p1 μ) (rb (f_X11_here μ) fun μ x2 => i_eq x2 p1 (f_X11_must_21 p1 1 μ) (f_X11_must_20 p1 μ))
set_option maxRecDepth 100000 in
theorem c_X11_must (X : kX) (p1 : Int)  (μ : Mu) : Cq X mX11_must 1 0 μ [.ref (X.1 + 248), .int (iI p1)] (f_X11_must p1 μ) := by
  intro res h
  refine ct_of (by decide +kernel) rfl (Nat.le_of_ble_eq_true rfl) ?_
  show KK X mX11_must 1 0 res 0 [(0, .ref (X.1 + 248)), (1, .int (iI p1))] [] μ
  unfold f_X11_must at h
  refine K_aload_n (md := mX11_must) (pc := 0) 0 (kTab_at (pc := 0) tX11_must_ok 0 rfl) rfl ?_
  refine K_aload_n (md := mX11_must) (pc := 1) 0 (kTab_at (pc := 1) tX11_must_ok 1 rfl) rfl ?_
  refine Z_getI (md := mX11_must) (pc := 2) (kTab_at (pc := 2) tX11_must_ok 2 rfl) fl_X11_234 sk_248 (Or.inr rfl) h (fun x1 h => ?_)
  refine K_if_eq (md := mX11_must) (pc := 5) (kTab_at (pc := 5) tX11_must_ok 3 rfl) (tgt := 20) rfl h (fun h => ?_) (fun h => ?_)
  · refine K_sub [0] rfl ?_
    refine c_X11_must_20 X p1  μ h
  · refine K_aload_n (md := mX11_must) (pc := 8) 0 (kTab_at (pc := 8) tX11_must_ok 4 rfl) rfl ?_
    refine Z_callV (md := mX11_must) (pc := 9) (st := [.ref (X.1 + 248)]) (sv := (fun x2 => [.int (iI x2), .ref (X.1 + 248)])) (kTab_at (pc := 9) tX11_must_ok 5 rfl) mv_X11_238 sk_248 rfl (Nat.le_of_ble_eq_true rfl) (by decide) rfl (c_X11_here X μ) (fun _ => rfl) h (fun μ x2 h => ?_) rfl
    refine K_iload_n (md := mX11_must) (pc := 12) 1 (kTab_at (pc := 12) tX11_must_ok 6 rfl) rfl ?_
    refine K_icmp_ne (md := mX11_must) (pc := 13) (kTab_at (pc := 13) tX11_must_ok 7 rfl) (tgt := 20) rfl h (fun h => ?_) (fun h => ?_)
    · refine K_sub [0] rfl ?_
      refine c_X11_must_20 X p1  μ h
    · refine K_iconst (md := mX11_must) (pc := 16) (x := 1) (kTab_at (pc := 16) tX11_must_ok 8 rfl) rfl ?_
      refine K_goto (md := mX11_must) (pc := 17) (tgt := 21) (kTab_at (pc := 17) tX11_must_ok 9 rfl) rfl ?_
      refine K_sub [0] rfl ?_
      refine c_X11_must_21 X p1  1 μ h
def f_X11_digit_26 (p1 : Int)  (s1 : Int) (μ : Mu) : Option Res := wrZ μ 248 22 s1 fun μ => rdF μ 248 22 fun x1 => i_eq x1 0 (some (μ, 0, 0)) (rdF μ 248 21 fun x2 => wrF μ 248 21 (x2 + 1) fun μ => rdF μ 248 21 fun x3 => rdI μ 253 60 (x3 - 1) fun x4 => some (μ, 0, (x4 - 48)))
set_option maxRecDepth 100000 in
theorem c_X11_digit_26 (X : kX) (p1 : Int)  {res : Res}  (s1 : Int) (μ : Mu) (h : f_X11_digit_26 p1 s1 μ = some res) : KK X mX11_digit 1 1 res 26 [(0, .ref (X.1 + 248))] [.int (iI s1), .ref (X.1 + 248)] μ := by
  unfold f_X11_digit_26 at h
  refine Z_putZ (md := mX11_digit) (pc := 26) (kTab_at (pc := 26) tX11_digit_ok 13 rfl) fl_X11_234 sk_248 rfl h (fun μ h => ?_)
  refine K_aload_n (md := mX11_digit) (pc := 29) 0 (kTab_at (pc := 29) tX11_digit_ok 14 rfl) rfl ?_
  refine Z_getI (md := mX11_digit) (pc := 30) (kTab_at (pc := 30) tX11_digit_ok 15 rfl) fl_X11_234 sk_248 (Or.inr rfl) h (fun x1 h => ?_)
  refine K_if_ne (md := mX11_digit) (pc := 33) (kTab_at (pc := 33) tX11_digit_ok 16 rfl) (tgt := 38) rfl h (fun h => ?_) (fun h => ?_)
  · refine K_aload_n (md := mX11_digit) (pc := 38) 0 (kTab_at (pc := 38) tX11_digit_ok 19 rfl) rfl ?_
    refine K_dup (md := mX11_digit) (pc := 39) (kTab_at (pc := 39) tX11_digit_ok 20 rfl) rfl ?_
    refine Z_getI (md := mX11_digit) (pc := 40) (kTab_at (pc := 40) tX11_digit_ok 21 rfl) fl_X11_231 sk_248 (Or.inl rfl) h (fun x2 h => ?_)
    refine K_iconst (md := mX11_digit) (pc := 43) (x := 1) (kTab_at (pc := 43) tX11_digit_ok 22 rfl) rfl ?_
    refine K_iadd (md := mX11_digit) (pc := 44) (kTab_at (pc := 44) tX11_digit_ok 23 rfl) ?_
    refine Z_putI (md := mX11_digit) (pc := 45) (kTab_at (pc := 45) tX11_digit_ok 24 rfl) fl_X11_231 sk_248 rfl h (fun μ h => ?_)
    refine K_aload_n (md := mX11_digit) (pc := 48) 0 (kTab_at (pc := 48) tX11_digit_ok 25 rfl) rfl ?_
    refine K_getR (md := mX11_digit) (pc := 49) (b := 253) (kTab_at (pc := 49) tX11_digit_ok 26 rfl) fl_X11_22 sk_248 rfl rfl ?_
    refine K_aload_n (md := mX11_digit) (pc := 52) 0 (kTab_at (pc := 52) tX11_digit_ok 27 rfl) rfl ?_
    refine Z_getI (md := mX11_digit) (pc := 53) (kTab_at (pc := 53) tX11_digit_ok 28 rfl) fl_X11_231 sk_248 (Or.inl rfl) h (fun x3 h => ?_)
    refine K_iconst (md := mX11_digit) (pc := 56) (x := 1) (kTab_at (pc := 56) tX11_digit_ok 29 rfl) rfl ?_
    refine K_isub (md := mX11_digit) (pc := 57) (kTab_at (pc := 57) tX11_digit_ok 30 rfl) ?_
    refine Z_iald (md := mX11_digit) (pc := 58) (kTab_at (pc := 58) tX11_digit_ok 31 rfl) sk_253 (by decide) h (fun x4 h => ?_)
    refine K_bipush (md := mX11_digit) (pc := 59) (x := 48) (kTab_at (pc := 59) tX11_digit_ok 32 rfl) (by decide) ?_
    refine K_isub (md := mX11_digit) (pc := 61) (kTab_at (pc := 61) tX11_digit_ok 33 rfl) ?_
    exact Z_iret (md := mX11_digit) (pc := 62) (kTab_at (pc := 62) tX11_digit_ok 34 rfl) rfl rfl rfl h
  · refine K_iconst (md := mX11_digit) (pc := 36) (x := 0) (kTab_at (pc := 36) tX11_digit_ok 17 rfl) rfl ?_
    exact Z_iret (md := mX11_digit) (pc := 37) (kTab_at (pc := 37) tX11_digit_ok 18 rfl) rfl rfl rfl h
def f_X11_digit_25 (p1 : Int)   (μ : Mu) : Option Res := f_X11_digit_26 p1 0 μ
set_option maxRecDepth 100000 in
theorem c_X11_digit_25 (X : kX) (p1 : Int)  {res : Res}  (μ : Mu) (h : f_X11_digit_25 p1 μ = some res) : KK X mX11_digit 1 1 res 25 [(0, .ref (X.1 + 248))] [.ref (X.1 + 248)] μ := by
  unfold f_X11_digit_25 at h
  refine K_iconst (md := mX11_digit) (pc := 25) (x := 0) (kTab_at (pc := 25) tX11_digit_ok 12 rfl) rfl ?_
  refine c_X11_digit_26 X p1  0 μ h
def f_X11_digit (p1 : Int) (μ : Mu) : Option Res := rdF μ 248 22 fun x1 => i_eq x1 0 (f_X11_digit_25 p1 μ) (rb (f_X11_here μ) fun μ x2 => rb (f_X11_in x2 48 p1 μ) fun μ x3 => i_eq x3 0 (f_X11_digit_25 p1 μ) (f_X11_digit_26 p1 1 μ))
set_option maxRecDepth 100000 in
theorem c_X11_digit (X : kX) (p1 : Int)  (μ : Mu) : Cq X mX11_digit 1 1 μ [.ref (X.1 + 248), .int (iI p1)] (f_X11_digit p1 μ) := by
  intro res h
  refine ct_of (by decide +kernel) rfl (Nat.le_of_ble_eq_true rfl) ?_
  show KK X mX11_digit 1 1 res 0 [(0, .ref (X.1 + 248)), (1, .int (iI p1))] [] μ
  unfold f_X11_digit at h
  refine K_aload_n (md := mX11_digit) (pc := 0) 0 (kTab_at (pc := 0) tX11_digit_ok 0 rfl) rfl ?_
  refine K_aload_n (md := mX11_digit) (pc := 1) 0 (kTab_at (pc := 1) tX11_digit_ok 1 rfl) rfl ?_
  refine Z_getI (md := mX11_digit) (pc := 2) (kTab_at (pc := 2) tX11_digit_ok 2 rfl) fl_X11_234 sk_248 (Or.inr rfl) h (fun x1 h => ?_)
  refine K_if_eq (md := mX11_digit) (pc := 5) (kTab_at (pc := 5) tX11_digit_ok 3 rfl) (tgt := 25) rfl h (fun h => ?_) (fun h => ?_)
  · refine K_sub [0] rfl ?_
    refine c_X11_digit_25 X p1  μ h
  · refine K_aload_n (md := mX11_digit) (pc := 8) 0 (kTab_at (pc := 8) tX11_digit_ok 4 rfl) rfl ?_
    refine Z_callV (md := mX11_digit) (pc := 9) (st := [.ref (X.1 + 248)]) (sv := (fun x2 => [.int (iI x2), .ref (X.1 + 248)])) (kTab_at (pc := 9) tX11_digit_ok 5 rfl) mv_X11_238 sk_248 rfl (Nat.le_of_ble_eq_true rfl) (by decide) rfl (c_X11_here X μ) (fun _ => rfl) h (fun μ x2 h => ?_) rfl
    refine K_bipush (md := mX11_digit) (pc := 12) (x := 48) (kTab_at (pc := 12) tX11_digit_ok 6 rfl) (by decide) ?_
    refine K_iload_n (md := mX11_digit) (pc := 14) 1 (kTab_at (pc := 14) tX11_digit_ok 7 rfl) rfl ?_
    refine Z_callS (md := mX11_digit) (pc := 15) (st := [.ref (X.1 + 248)]) (sv := (fun x3 => [.int (iI x3), .ref (X.1 + 248)])) (kTab_at (pc := 15) tX11_digit_ok 8 rfl) ms_X11_51 rfl (Nat.le_of_ble_eq_true rfl) (by decide) rfl (c_X11_in X x2 48 p1 μ) (fun _ => rfl) h (fun μ x3 h => ?_) rfl
    refine K_if_eq (md := mX11_digit) (pc := 18) (kTab_at (pc := 18) tX11_digit_ok 9 rfl) (tgt := 25) rfl h (fun h => ?_) (fun h => ?_)
    · refine K_sub [0] rfl ?_
      refine c_X11_digit_25 X p1  μ h
    · refine K_iconst (md := mX11_digit) (pc := 21) (x := 1) (kTab_at (pc := 21) tX11_digit_ok 10 rfl) rfl ?_
      refine K_goto (md := mX11_digit) (pc := 22) (tgt := 26) (kTab_at (pc := 22) tX11_digit_ok 11 rfl) rfl ?_
      refine K_sub [0] rfl ?_
      refine c_X11_digit_26 X p1  1 μ h
def f_X11_readsEntry_72    (μ : Mu) : Option Res := some (μ, 0, 0)
set_option maxRecDepth 100000 in
theorem c_X11_readsEntry_72 (X : kX)   {res : Res}  (μ : Mu) (h : f_X11_readsEntry_72 μ = some res) : KK X mX11_readsEntry 2 0 res 72 [] [] μ := by
  unfold f_X11_readsEntry_72 at h
  exact Z_vret (md := mX11_readsEntry) (pc := 72) (kTab_at (pc := 72) tX11_readsEntry_ok 35 rfl) rfl rfl h
def f_X11_readsEntry  (μ : Mu) : Option Res := rb (f_X11_digit 55 μ) fun μ x1 => wrF μ 248 23 x1 fun μ => rb (f_X11_must 61 μ) fun μ _ => rb (f_X11_digit 57 μ) fun μ x2 => wrF μ 248 24 x2 fun μ => rdF μ 248 22 fun x3 => i_eq x3 0 (f_X11_readsEntry_72 μ) (rdF μ 248 24 fun x4 => i_lt 0 x4 (rb (f_X11_here μ) fun μ x5 => rb (f_X11_in x5 48 57 μ) fun μ x6 => i_eq x6 0 (f_X11_readsEntry_72 μ) (rdF μ 248 24 fun x7 => rb (f_X11_digit 57 μ) fun μ x8 => wrF μ 248 24 ((10 * x7) + x8) fun μ => f_X11_readsEntry_72 μ)) (f_X11_readsEntry_72 μ))
set_option maxRecDepth 100000 in
theorem c_X11_readsEntry (X : kX)   (μ : Mu) : Cq X mX11_readsEntry 2 0 μ [.ref (X.1 + 248)] (f_X11_readsEntry  μ) := by
  intro res h
  refine ct_of (by decide +kernel) rfl (Nat.le_of_ble_eq_true rfl) ?_
  show KK X mX11_readsEntry 2 0 res 0 [(0, .ref (X.1 + 248))] [] μ
  unfold f_X11_readsEntry at h
  refine K_aload_n (md := mX11_readsEntry) (pc := 0) 0 (kTab_at (pc := 0) tX11_readsEntry_ok 0 rfl) rfl ?_
  refine K_aload_n (md := mX11_readsEntry) (pc := 1) 0 (kTab_at (pc := 1) tX11_readsEntry_ok 1 rfl) rfl ?_
  refine K_bipush (md := mX11_readsEntry) (pc := 2) (x := 55) (kTab_at (pc := 2) tX11_readsEntry_ok 2 rfl) (by decide) ?_
  refine Z_callV (md := mX11_readsEntry) (pc := 4) (st := [.ref (X.1 + 248)]) (sv := (fun x1 => [.int (iI x1), .ref (X.1 + 248)])) (kTab_at (pc := 4) tX11_readsEntry_ok 3 rfl) mv_X11_241 sk_248 rfl (Nat.le_of_ble_eq_true rfl) (by decide) rfl (c_X11_digit X 55 μ) (fun _ => rfl) h (fun μ x1 h => ?_) rfl
  refine Z_putI (md := mX11_readsEntry) (pc := 7) (kTab_at (pc := 7) tX11_readsEntry_ok 4 rfl) fl_X11_245 sk_248 rfl h (fun μ h => ?_)
  refine K_aload_n (md := mX11_readsEntry) (pc := 10) 0 (kTab_at (pc := 10) tX11_readsEntry_ok 5 rfl) rfl ?_
  refine K_bipush (md := mX11_readsEntry) (pc := 11) (x := 61) (kTab_at (pc := 11) tX11_readsEntry_ok 6 rfl) (by decide) ?_
  refine Z_callV (md := mX11_readsEntry) (pc := 13) (st := []) (sv := (fun _ => [])) (kTab_at (pc := 13) tX11_readsEntry_ok 7 rfl) mv_X11_248 sk_248 rfl (Nat.le_of_ble_eq_true rfl) (by decide) rfl (c_X11_must X 61 μ) (fun _ => rfl) h (fun μ _ h => ?_) rfl
  refine K_aload_n (md := mX11_readsEntry) (pc := 16) 0 (kTab_at (pc := 16) tX11_readsEntry_ok 8 rfl) rfl ?_
  refine K_aload_n (md := mX11_readsEntry) (pc := 17) 0 (kTab_at (pc := 17) tX11_readsEntry_ok 9 rfl) rfl ?_
  refine K_bipush (md := mX11_readsEntry) (pc := 18) (x := 57) (kTab_at (pc := 18) tX11_readsEntry_ok 10 rfl) (by decide) ?_
  refine Z_callV (md := mX11_readsEntry) (pc := 20) (st := [.ref (X.1 + 248)]) (sv := (fun x2 => [.int (iI x2), .ref (X.1 + 248)])) (kTab_at (pc := 20) tX11_readsEntry_ok 11 rfl) mv_X11_241 sk_248 rfl (Nat.le_of_ble_eq_true rfl) (by decide) rfl (c_X11_digit X 57 μ) (fun _ => rfl) h (fun μ x2 h => ?_) rfl
  refine Z_putI (md := mX11_readsEntry) (pc := 23) (kTab_at (pc := 23) tX11_readsEntry_ok 12 rfl) fl_X11_251 sk_248 rfl h (fun μ h => ?_)
  refine K_aload_n (md := mX11_readsEntry) (pc := 26) 0 (kTab_at (pc := 26) tX11_readsEntry_ok 13 rfl) rfl ?_
  refine Z_getI (md := mX11_readsEntry) (pc := 27) (kTab_at (pc := 27) tX11_readsEntry_ok 14 rfl) fl_X11_234 sk_248 (Or.inr rfl) h (fun x3 h => ?_)
  refine K_if_eq (md := mX11_readsEntry) (pc := 30) (kTab_at (pc := 30) tX11_readsEntry_ok 15 rfl) (tgt := 72) rfl h (fun h => ?_) (fun h => ?_)
  · refine K_sub [] rfl ?_
    refine c_X11_readsEntry_72 X   μ h
  · refine K_aload_n (md := mX11_readsEntry) (pc := 33) 0 (kTab_at (pc := 33) tX11_readsEntry_ok 16 rfl) rfl ?_
    refine Z_getI (md := mX11_readsEntry) (pc := 34) (kTab_at (pc := 34) tX11_readsEntry_ok 17 rfl) fl_X11_251 sk_248 (Or.inl rfl) h (fun x4 h => ?_)
    refine K_if_le (md := mX11_readsEntry) (pc := 37) (kTab_at (pc := 37) tX11_readsEntry_ok 18 rfl) (tgt := 72) rfl h (fun h => ?_) (fun h => ?_)
    · refine K_sub [] rfl ?_
      refine c_X11_readsEntry_72 X   μ h
    · refine K_aload_n (md := mX11_readsEntry) (pc := 40) 0 (kTab_at (pc := 40) tX11_readsEntry_ok 19 rfl) rfl ?_
      refine Z_callV (md := mX11_readsEntry) (pc := 41) (st := []) (sv := (fun x5 => [.int (iI x5)])) (kTab_at (pc := 41) tX11_readsEntry_ok 20 rfl) mv_X11_238 sk_248 rfl (Nat.le_of_ble_eq_true rfl) (by decide) rfl (c_X11_here X μ) (fun _ => rfl) h (fun μ x5 h => ?_) rfl
      refine K_bipush (md := mX11_readsEntry) (pc := 44) (x := 48) (kTab_at (pc := 44) tX11_readsEntry_ok 21 rfl) (by decide) ?_
      refine K_bipush (md := mX11_readsEntry) (pc := 46) (x := 57) (kTab_at (pc := 46) tX11_readsEntry_ok 22 rfl) (by decide) ?_
      refine Z_callS (md := mX11_readsEntry) (pc := 48) (st := []) (sv := (fun x6 => [.int (iI x6)])) (kTab_at (pc := 48) tX11_readsEntry_ok 23 rfl) ms_X11_51 rfl (Nat.le_of_ble_eq_true rfl) (by decide) rfl (c_X11_in X x5 48 57 μ) (fun _ => rfl) h (fun μ x6 h => ?_) rfl
      refine K_if_eq (md := mX11_readsEntry) (pc := 51) (kTab_at (pc := 51) tX11_readsEntry_ok 24 rfl) (tgt := 72) rfl h (fun h => ?_) (fun h => ?_)
      · refine K_sub [] rfl ?_
        refine c_X11_readsEntry_72 X   μ h
      · refine K_aload_n (md := mX11_readsEntry) (pc := 54) 0 (kTab_at (pc := 54) tX11_readsEntry_ok 25 rfl) rfl ?_
        refine K_bipush (md := mX11_readsEntry) (pc := 55) (x := 10) (kTab_at (pc := 55) tX11_readsEntry_ok 26 rfl) (by decide) ?_
        refine K_aload_n (md := mX11_readsEntry) (pc := 57) 0 (kTab_at (pc := 57) tX11_readsEntry_ok 27 rfl) rfl ?_
        refine Z_getI (md := mX11_readsEntry) (pc := 58) (kTab_at (pc := 58) tX11_readsEntry_ok 28 rfl) fl_X11_251 sk_248 (Or.inl rfl) h (fun x7 h => ?_)
        refine K_imul (md := mX11_readsEntry) (pc := 61) (kTab_at (pc := 61) tX11_readsEntry_ok 29 rfl) ?_
        refine K_aload_n (md := mX11_readsEntry) (pc := 62) 0 (kTab_at (pc := 62) tX11_readsEntry_ok 30 rfl) rfl ?_
        refine K_bipush (md := mX11_readsEntry) (pc := 63) (x := 57) (kTab_at (pc := 63) tX11_readsEntry_ok 31 rfl) (by decide) ?_
        refine Z_callV (md := mX11_readsEntry) (pc := 65) (st := [.int (iI (10 * x7)), .ref (X.1 + 248)]) (sv := (fun x8 => [.int (iI x8), .int (iI (10 * x7)), .ref (X.1 + 248)])) (kTab_at (pc := 65) tX11_readsEntry_ok 32 rfl) mv_X11_241 sk_248 rfl (Nat.le_of_ble_eq_true rfl) (by decide) rfl (c_X11_digit X 57 μ) (fun _ => rfl) h (fun μ x8 h => ?_) rfl
        refine K_iadd (md := mX11_readsEntry) (pc := 68) (kTab_at (pc := 68) tX11_readsEntry_ok 33 rfl) ?_
        refine Z_putI (md := mX11_readsEntry) (pc := 69) (kTab_at (pc := 69) tX11_readsEntry_ok 34 rfl) fl_X11_251 sk_248 rfl h (fun μ h => ?_)
        refine K_sub [] rfl ?_
        refine c_X11_readsEntry_72 X   μ h
def f_X11_isSheet_97   (s1 : Int) (μ : Mu) : Option Res := wrZ μ 248 22 s1 fun μ => rdF μ 248 22 fun x1 => retZ μ x1
set_option maxRecDepth 100000 in
theorem c_X11_isSheet_97 (X : kX)   {res : Res}  (s1 : Int) (μ : Mu) (h : f_X11_isSheet_97 s1 μ = some res) : KK X mX11_isSheet 3 1 res 97 [(0, .ref (X.1 + 248))] [.int (iI s1), .ref (X.1 + 248)] μ := by
  unfold f_X11_isSheet_97 at h
  refine Z_putZ (md := mX11_isSheet) (pc := 97) (kTab_at (pc := 97) tX11_isSheet_ok 50 rfl) fl_X11_234 sk_248 rfl h (fun μ h => ?_)
  refine K_aload_n (md := mX11_isSheet) (pc := 100) 0 (kTab_at (pc := 100) tX11_isSheet_ok 51 rfl) rfl ?_
  refine Z_getI (md := mX11_isSheet) (pc := 101) (kTab_at (pc := 101) tX11_isSheet_ok 52 rfl) fl_X11_234 sk_248 (Or.inr rfl) h (fun x1 h => ?_)
  exact Z_zret (md := mX11_isSheet) (pc := 104) (kTab_at (pc := 104) tX11_isSheet_ok 53 rfl) rfl rfl h
def f_X11_isSheet_96    (μ : Mu) : Option Res := f_X11_isSheet_97 0 μ
set_option maxRecDepth 100000 in
theorem c_X11_isSheet_96 (X : kX)   {res : Res}  (μ : Mu) (h : f_X11_isSheet_96 μ = some res) : KK X mX11_isSheet 3 1 res 96 [(0, .ref (X.1 + 248))] [.ref (X.1 + 248)] μ := by
  unfold f_X11_isSheet_96 at h
  refine K_iconst (md := mX11_isSheet) (pc := 96) (x := 0) (kTab_at (pc := 96) tX11_isSheet_ok 49 rfl) rfl ?_
  refine c_X11_isSheet_97 X   0 μ h
def f_X11_isSheet_73    (μ : Mu) : Option Res := rdF μ 248 22 fun x1 => i_eq x1 0 (f_X11_isSheet_96 μ) (rdF μ 248 21 fun x2 => rdF μ 248 8 fun x3 => i_eq x2 x3 (f_X11_isSheet_97 1 μ) (f_X11_isSheet_96 μ))
set_option maxRecDepth 100000 in
theorem c_X11_isSheet_73 (X : kX)   {res : Res}  (μ : Mu) (h : f_X11_isSheet_73 μ = some res) : KK X mX11_isSheet 3 1 res 73 [(0, .ref (X.1 + 248))] [] μ := by
  unfold f_X11_isSheet_73 at h
  refine K_aload_n (md := mX11_isSheet) (pc := 73) 0 (kTab_at (pc := 73) tX11_isSheet_ok 38 rfl) rfl ?_
  refine K_aload_n (md := mX11_isSheet) (pc := 74) 0 (kTab_at (pc := 74) tX11_isSheet_ok 39 rfl) rfl ?_
  refine Z_getI (md := mX11_isSheet) (pc := 75) (kTab_at (pc := 75) tX11_isSheet_ok 40 rfl) fl_X11_234 sk_248 (Or.inr rfl) h (fun x1 h => ?_)
  refine K_if_eq (md := mX11_isSheet) (pc := 78) (kTab_at (pc := 78) tX11_isSheet_ok 41 rfl) (tgt := 96) rfl h (fun h => ?_) (fun h => ?_)
  · refine c_X11_isSheet_96 X   μ h
  · refine K_aload_n (md := mX11_isSheet) (pc := 81) 0 (kTab_at (pc := 81) tX11_isSheet_ok 42 rfl) rfl ?_
    refine Z_getI (md := mX11_isSheet) (pc := 82) (kTab_at (pc := 82) tX11_isSheet_ok 43 rfl) fl_X11_231 sk_248 (Or.inl rfl) h (fun x2 h => ?_)
    refine K_aload_n (md := mX11_isSheet) (pc := 85) 0 (kTab_at (pc := 85) tX11_isSheet_ok 44 rfl) rfl ?_
    refine Z_getI (md := mX11_isSheet) (pc := 86) (kTab_at (pc := 86) tX11_isSheet_ok 45 rfl) fl_X11_228 sk_248 (Or.inl rfl) h (fun x3 h => ?_)
    refine K_icmp_ne (md := mX11_isSheet) (pc := 89) (kTab_at (pc := 89) tX11_isSheet_ok 46 rfl) (tgt := 96) rfl h (fun h => ?_) (fun h => ?_)
    · refine c_X11_isSheet_96 X   μ h
    · refine K_iconst (md := mX11_isSheet) (pc := 92) (x := 1) (kTab_at (pc := 92) tX11_isSheet_ok 47 rfl) rfl ?_
      refine K_goto (md := mX11_isSheet) (pc := 93) (tgt := 97) (kTab_at (pc := 93) tX11_isSheet_ok 48 rfl) rfl ?_
      refine c_X11_isSheet_97 X   1 μ h
def f_X11_isSheet_40  (k73 : Mu → Option Res) : Nat → Mu → Option Res
  | 0, _ => none
  | fu + 1, μ => rdF μ 248 22 fun x1 => i_eq x1 0 (k73 μ) (rb (f_X11_here μ) fun μ x2 => i_eq x2 44 (rdF μ 248 21 fun x3 => wrF μ 248 21 (x3 + 1) fun μ => rb (f_X11_readsEntry μ) fun μ _ => (f_X11_isSheet_40 k73 fu) μ) (k73 μ))
set_option maxRecDepth 100000 in
theorem c_X11_isSheet_40 (X : kX)   {res : Res} (k73 : Mu → Option Res) (hk73 : ∀ (μ : Mu), k73 μ = some res → KK X mX11_isSheet 3 1 res 73 [(0, .ref (X.1 + 248))] [] μ) : ∀ (fu : Nat) (μ : Mu), f_X11_isSheet_40 k73 fu μ = some res → KK X mX11_isSheet 3 1 res 40 [(0, .ref (X.1 + 248))] [] μ := by
  intro fu
  induction fu with
  | zero => intro  μ h; exact nomatch h
  | succ fu ih =>
    intro  μ h
    refine K_aload_n (md := mX11_isSheet) (pc := 40) 0 (kTab_at (pc := 40) tX11_isSheet_ok 22 rfl) rfl ?_
    refine Z_getI (md := mX11_isSheet) (pc := 41) (kTab_at (pc := 41) tX11_isSheet_ok 23 rfl) fl_X11_234 sk_248 (Or.inr rfl) h (fun x1 h => ?_)
    refine K_if_eq (md := mX11_isSheet) (pc := 44) (kTab_at (pc := 44) tX11_isSheet_ok 24 rfl) (tgt := 73) rfl h (fun h => ?_) (fun h => ?_)
    · exact hk73 μ h
    · refine K_aload_n (md := mX11_isSheet) (pc := 47) 0 (kTab_at (pc := 47) tX11_isSheet_ok 25 rfl) rfl ?_
      refine Z_callV (md := mX11_isSheet) (pc := 48) (st := []) (sv := (fun x2 => [.int (iI x2)])) (kTab_at (pc := 48) tX11_isSheet_ok 26 rfl) mv_X11_238 sk_248 rfl (Nat.le_of_ble_eq_true rfl) (by decide) rfl (c_X11_here X μ) (fun _ => rfl) h (fun μ x2 h => ?_) rfl
      refine K_bipush (md := mX11_isSheet) (pc := 51) (x := 44) (kTab_at (pc := 51) tX11_isSheet_ok 27 rfl) (by decide) ?_
      refine K_icmp_ne (md := mX11_isSheet) (pc := 53) (kTab_at (pc := 53) tX11_isSheet_ok 28 rfl) (tgt := 73) rfl h (fun h => ?_) (fun h => ?_)
      · exact hk73 μ h
      · refine K_aload_n (md := mX11_isSheet) (pc := 56) 0 (kTab_at (pc := 56) tX11_isSheet_ok 29 rfl) rfl ?_
        refine K_dup (md := mX11_isSheet) (pc := 57) (kTab_at (pc := 57) tX11_isSheet_ok 30 rfl) rfl ?_
        refine Z_getI (md := mX11_isSheet) (pc := 58) (kTab_at (pc := 58) tX11_isSheet_ok 31 rfl) fl_X11_231 sk_248 (Or.inl rfl) h (fun x3 h => ?_)
        refine K_iconst (md := mX11_isSheet) (pc := 61) (x := 1) (kTab_at (pc := 61) tX11_isSheet_ok 32 rfl) rfl ?_
        refine K_iadd (md := mX11_isSheet) (pc := 62) (kTab_at (pc := 62) tX11_isSheet_ok 33 rfl) ?_
        refine Z_putI (md := mX11_isSheet) (pc := 63) (kTab_at (pc := 63) tX11_isSheet_ok 34 rfl) fl_X11_231 sk_248 rfl h (fun μ h => ?_)
        refine K_aload_n (md := mX11_isSheet) (pc := 66) 0 (kTab_at (pc := 66) tX11_isSheet_ok 35 rfl) rfl ?_
        refine Z_callV (md := mX11_isSheet) (pc := 67) (st := []) (sv := (fun _ => [])) (kTab_at (pc := 67) tX11_isSheet_ok 36 rfl) mv_X11_254 sk_248 rfl (Nat.le_of_ble_eq_true rfl) (by decide) rfl (c_X11_readsEntry X μ) (fun _ => rfl) h (fun μ _ h => ?_) rfl
        refine K_goto (md := mX11_isSheet) (pc := 70) (tgt := 40) (kTab_at (pc := 70) tX11_isSheet_ok 37 rfl) rfl ?_
        exact ih μ h
def f_X11_isSheet  (μ : Mu) : Option Res := wrF μ 248 21 0 fun μ => wrZ μ 248 22 1 fun μ => rb (f_X11_digit 51 μ) fun μ x1 => rb (f_X11_must 47 μ) fun μ _ => rb (f_X11_digit 52 μ) fun μ x2 => rb (f_X11_must 58 μ) fun μ _ => rb (f_X11_readsEntry μ) fun μ _ => f_X11_isSheet_40 (fun μ => f_X11_isSheet_73 μ) FU μ
set_option maxRecDepth 100000 in
theorem c_X11_isSheet (X : kX)   (μ : Mu) : Cq X mX11_isSheet 3 1 μ [.ref (X.1 + 248)] (f_X11_isSheet  μ) := by
  intro res h
  refine ct_of (by decide +kernel) rfl (Nat.le_of_ble_eq_true rfl) ?_
  show KK X mX11_isSheet 3 1 res 0 [(0, .ref (X.1 + 248))] [] μ
  unfold f_X11_isSheet at h
  refine K_aload_n (md := mX11_isSheet) (pc := 0) 0 (kTab_at (pc := 0) tX11_isSheet_ok 0 rfl) rfl ?_
  refine K_iconst (md := mX11_isSheet) (pc := 1) (x := 0) (kTab_at (pc := 1) tX11_isSheet_ok 1 rfl) rfl ?_
  refine Z_putI (md := mX11_isSheet) (pc := 2) (kTab_at (pc := 2) tX11_isSheet_ok 2 rfl) fl_X11_231 sk_248 rfl h (fun μ h => ?_)
  refine K_aload_n (md := mX11_isSheet) (pc := 5) 0 (kTab_at (pc := 5) tX11_isSheet_ok 3 rfl) rfl ?_
  refine K_iconst (md := mX11_isSheet) (pc := 6) (x := 1) (kTab_at (pc := 6) tX11_isSheet_ok 4 rfl) rfl ?_
  refine Z_putZ (md := mX11_isSheet) (pc := 7) (kTab_at (pc := 7) tX11_isSheet_ok 5 rfl) fl_X11_234 sk_248 rfl h (fun μ h => ?_)
  refine K_aload_n (md := mX11_isSheet) (pc := 10) 0 (kTab_at (pc := 10) tX11_isSheet_ok 6 rfl) rfl ?_
  refine K_bipush (md := mX11_isSheet) (pc := 11) (x := 51) (kTab_at (pc := 11) tX11_isSheet_ok 7 rfl) (by decide) ?_
  refine Z_callV (md := mX11_isSheet) (pc := 13) (st := []) (sv := (fun x1 => [.int (iI x1)])) (kTab_at (pc := 13) tX11_isSheet_ok 8 rfl) mv_X11_241 sk_248 rfl (Nat.le_of_ble_eq_true rfl) (by decide) rfl (c_X11_digit X 51 μ) (fun _ => rfl) h (fun μ x1 h => ?_) rfl
  refine K_pop (md := mX11_isSheet) (pc := 16) (kTab_at (pc := 16) tX11_isSheet_ok 9 rfl) rfl ?_
  refine K_aload_n (md := mX11_isSheet) (pc := 17) 0 (kTab_at (pc := 17) tX11_isSheet_ok 10 rfl) rfl ?_
  refine K_bipush (md := mX11_isSheet) (pc := 18) (x := 47) (kTab_at (pc := 18) tX11_isSheet_ok 11 rfl) (by decide) ?_
  refine Z_callV (md := mX11_isSheet) (pc := 20) (st := []) (sv := (fun _ => [])) (kTab_at (pc := 20) tX11_isSheet_ok 12 rfl) mv_X11_248 sk_248 rfl (Nat.le_of_ble_eq_true rfl) (by decide) rfl (c_X11_must X 47 μ) (fun _ => rfl) h (fun μ _ h => ?_) rfl
  refine K_aload_n (md := mX11_isSheet) (pc := 23) 0 (kTab_at (pc := 23) tX11_isSheet_ok 13 rfl) rfl ?_
  refine K_bipush (md := mX11_isSheet) (pc := 24) (x := 52) (kTab_at (pc := 24) tX11_isSheet_ok 14 rfl) (by decide) ?_
  refine Z_callV (md := mX11_isSheet) (pc := 26) (st := []) (sv := (fun x2 => [.int (iI x2)])) (kTab_at (pc := 26) tX11_isSheet_ok 15 rfl) mv_X11_241 sk_248 rfl (Nat.le_of_ble_eq_true rfl) (by decide) rfl (c_X11_digit X 52 μ) (fun _ => rfl) h (fun μ x2 h => ?_) rfl
  refine K_pop (md := mX11_isSheet) (pc := 29) (kTab_at (pc := 29) tX11_isSheet_ok 16 rfl) rfl ?_
  refine K_aload_n (md := mX11_isSheet) (pc := 30) 0 (kTab_at (pc := 30) tX11_isSheet_ok 17 rfl) rfl ?_
  refine K_bipush (md := mX11_isSheet) (pc := 31) (x := 58) (kTab_at (pc := 31) tX11_isSheet_ok 18 rfl) (by decide) ?_
  refine Z_callV (md := mX11_isSheet) (pc := 33) (st := []) (sv := (fun _ => [])) (kTab_at (pc := 33) tX11_isSheet_ok 19 rfl) mv_X11_248 sk_248 rfl (Nat.le_of_ble_eq_true rfl) (by decide) rfl (c_X11_must X 58 μ) (fun _ => rfl) h (fun μ _ h => ?_) rfl
  refine K_aload_n (md := mX11_isSheet) (pc := 36) 0 (kTab_at (pc := 36) tX11_isSheet_ok 20 rfl) rfl ?_
  refine Z_callV (md := mX11_isSheet) (pc := 37) (st := []) (sv := (fun _ => [])) (kTab_at (pc := 37) tX11_isSheet_ok 21 rfl) mv_X11_254 sk_248 rfl (Nat.le_of_ble_eq_true rfl) (by decide) rfl (c_X11_readsEntry X μ) (fun _ => rfl) h (fun μ _ h => ?_) rfl
  refine c_X11_isSheet_40 X  _ ?_ _ μ h
  · intro  μ h
    refine c_X11_isSheet_73 X   μ h
def f_X11_sheet_196  (k224 : Int → Int → Mu → Option Res) : Nat → Int → Int → Int → Mu → Option Res
  | 0, _, _, _, _ => none
  | fu + 1, v5, v6, v7, μ => i_lt v7 779 (rdI μ 251 779 v7 fun x1 => wrI μ 249 779 v7 x1 fun μ => (f_X11_sheet_196 k224 fu) v5 v6 (v7 + 1) μ) (k224 v5 v6 μ)
set_option maxRecDepth 100000 in
theorem c_X11_sheet_196 (X : kX)   {res : Res} (k224 : Int → Int → Mu → Option Res) (hk224 : ∀ (v5 : Int), ∀ (v6 : Int), ∀ (μ : Mu), k224 v5 v6 μ = some res → KK X mX11_sheet 6 1 res 224 [(0, .ref (X.1 + 248)), (5, .int (iI v5)), (6, .int (iI v6))] [] μ) : ∀ (fu : Nat)  (v5 : Int) (v6 : Int) (v7 : Int) (μ : Mu), f_X11_sheet_196 k224 fu v5 v6 v7 μ = some res → KK X mX11_sheet 6 1 res 196 [(0, .ref (X.1 + 248)), (5, .int (iI v5)), (6, .int (iI v6)), (7, .int (iI v7))] [] μ := by
  intro fu
  induction fu with
  | zero => intro v5 v6 v7 μ h; exact nomatch h
  | succ fu ih =>
    intro v5 v6 v7 μ h
    refine K_iload (md := mX11_sheet) (pc := 196) 3 (kTab_at (pc := 196) tX11_sheet_ok 106 rfl) rfl ?_
    refine K_sipush (md := mX11_sheet) (pc := 198) (x := 779) (kTab_at (pc := 198) tX11_sheet_ok 107 rfl) (by decide) ?_
    refine K_icmp_ge (md := mX11_sheet) (pc := 201) (kTab_at (pc := 201) tX11_sheet_ok 108 rfl) (tgt := 224) rfl h (fun h => ?_) (fun h => ?_)
    · refine K_sub [0, 1, 2] rfl ?_
      exact hk224 v5 v6 μ h
    · refine K_aload_n (md := mX11_sheet) (pc := 204) 0 (kTab_at (pc := 204) tX11_sheet_ok 109 rfl) rfl ?_
      refine K_getR (md := mX11_sheet) (pc := 205) (b := 249) (kTab_at (pc := 205) tX11_sheet_ok 110 rfl) fl_X11_7 sk_248 rfl rfl ?_
      refine K_iload (md := mX11_sheet) (pc := 208) 3 (kTab_at (pc := 208) tX11_sheet_ok 111 rfl) rfl ?_
      refine K_aload_n (md := mX11_sheet) (pc := 210) 0 (kTab_at (pc := 210) tX11_sheet_ok 112 rfl) rfl ?_
      refine K_getR (md := mX11_sheet) (pc := 211) (b := 251) (kTab_at (pc := 211) tX11_sheet_ok 113 rfl) fl_X11_16 sk_248 rfl rfl ?_
      refine K_iload (md := mX11_sheet) (pc := 214) 3 (kTab_at (pc := 214) tX11_sheet_ok 114 rfl) rfl ?_
      refine Z_iald (md := mX11_sheet) (pc := 216) (kTab_at (pc := 216) tX11_sheet_ok 115 rfl) sk_251 (by decide) h (fun x1 h => ?_)
      refine Z_iast (md := mX11_sheet) (pc := 217) (kTab_at (pc := 217) tX11_sheet_ok 116 rfl) sk_249 (by decide) h (fun μ h => ?_)
      refine K_iinc (md := mX11_sheet) (pc := 218) (l' := [(7, .int (iI (v7 + 1))), (0, .ref (X.1 + 248)), (5, .int (iI v5)), (6, .int (iI v6))]) 3 (kTab_at (pc := 218) tX11_sheet_ok 117 rfl) rfl (Nat.le_of_ble_eq_true rfl) rfl ?_
      refine K_goto (md := mX11_sheet) (pc := 221) (tgt := 196) (kTab_at (pc := 221) tX11_sheet_ok 118 rfl) rfl ?_
      refine K_sub [1, 2, 3, 0] rfl ?_
      exact ih v5 v6 (v7 + 1) μ h
def f_X11_sheet_176   (v5 : Int) (v6 : Int) (μ : Mu) : Option Res := wrF μ 248 8 0 fun μ => i_eq v6 0 (rb (f_X11_keeps μ) fun μ _ => some (μ, 0, v5)) (f_X11_sheet_196 (fun v5 v6 μ => rdF μ 248 20 fun x1 => rb (f_X11_reports 1 v5 v6 x1 2 μ) fun μ x2 => some (μ, 0, x2)) FU v5 v6 0 μ)
set_option maxRecDepth 100000 in
theorem c_X11_sheet_176 (X : kX)   {res : Res}  (v5 : Int) (v6 : Int) (μ : Mu) (h : f_X11_sheet_176 v5 v6 μ = some res) : KK X mX11_sheet 6 1 res 176 [(0, .ref (X.1 + 248)), (5, .int (iI v5)), (6, .int (iI v6))] [] μ := by
  unfold f_X11_sheet_176 at h
  refine K_aload_n (md := mX11_sheet) (pc := 176) 0 (kTab_at (pc := 176) tX11_sheet_ok 95 rfl) rfl ?_
  refine K_iconst (md := mX11_sheet) (pc := 177) (x := 0) (kTab_at (pc := 177) tX11_sheet_ok 96 rfl) rfl ?_
  refine Z_putI (md := mX11_sheet) (pc := 178) (kTab_at (pc := 178) tX11_sheet_ok 97 rfl) fl_X11_228 sk_248 rfl h (fun μ h => ?_)
  refine K_iload (md := mX11_sheet) (pc := 181) 2 (kTab_at (pc := 181) tX11_sheet_ok 98 rfl) rfl ?_
  refine K_if_ne (md := mX11_sheet) (pc := 183) (kTab_at (pc := 183) tX11_sheet_ok 99 rfl) (tgt := 193) rfl h (fun h => ?_) (fun h => ?_)
  · refine K_iconst (md := mX11_sheet) (pc := 193) (x := 0) (kTab_at (pc := 193) tX11_sheet_ok 104 rfl) rfl ?_
    refine K_istore (md := mX11_sheet) (pc := 194) (l' := [(7, .int (iI 0)), (0, .ref (X.1 + 248)), (5, .int (iI v5)), (6, .int (iI v6))]) (kTab_at (pc := 194) tX11_sheet_ok 105 rfl) (Nat.le_of_ble_eq_true rfl) rfl ?_
    refine K_sub [1, 2, 3, 0] rfl ?_
    refine c_X11_sheet_196 X  _ ?_ _ v5 v6 0 μ h
    · intro v5 v6 μ h
      refine K_aload_n (md := mX11_sheet) (pc := 224) 0 (kTab_at (pc := 224) tX11_sheet_ok 119 rfl) rfl ?_
      refine K_iconst (md := mX11_sheet) (pc := 225) (x := 1) (kTab_at (pc := 225) tX11_sheet_ok 120 rfl) rfl ?_
      refine K_iload (md := mX11_sheet) (pc := 226) 1 (kTab_at (pc := 226) tX11_sheet_ok 121 rfl) rfl ?_
      refine K_iload (md := mX11_sheet) (pc := 228) 2 (kTab_at (pc := 228) tX11_sheet_ok 122 rfl) rfl ?_
      refine K_aload_n (md := mX11_sheet) (pc := 230) 0 (kTab_at (pc := 230) tX11_sheet_ok 123 rfl) rfl ?_
      refine Z_getI (md := mX11_sheet) (pc := 231) (kTab_at (pc := 231) tX11_sheet_ok 124 rfl) fl_X11_205 sk_248 (Or.inl rfl) h (fun x1 h => ?_)
      refine K_iconst (md := mX11_sheet) (pc := 234) (x := 2) (kTab_at (pc := 234) tX11_sheet_ok 125 rfl) rfl ?_
      refine Z_callV (md := mX11_sheet) (pc := 235) (st := []) (sv := (fun x2 => [.int (iI x2)])) (kTab_at (pc := 235) tX11_sheet_ok 126 rfl) mv_X11_221 sk_248 rfl (Nat.le_of_ble_eq_true rfl) (by decide) rfl (c_X11_reports X 1 v5 v6 x1 2 μ) (fun _ => rfl) h (fun μ x2 h => ?_) rfl
      exact Z_iret (md := mX11_sheet) (pc := 238) (kTab_at (pc := 238) tX11_sheet_ok 127 rfl) rfl rfl rfl h
  · refine K_aload_n (md := mX11_sheet) (pc := 186) 0 (kTab_at (pc := 186) tX11_sheet_ok 100 rfl) rfl ?_
    refine Z_callV (md := mX11_sheet) (pc := 187) (st := []) (sv := (fun _ => [])) (kTab_at (pc := 187) tX11_sheet_ok 101 rfl) mv_X11_61 sk_248 rfl (Nat.le_of_ble_eq_true rfl) (by decide) rfl (c_X11_keeps X μ) (fun _ => rfl) h (fun μ _ h => ?_) rfl
    refine K_iload (md := mX11_sheet) (pc := 190) 1 (kTab_at (pc := 190) tX11_sheet_ok 102 rfl) rfl ?_
    exact Z_iret (md := mX11_sheet) (pc := 192) (kTab_at (pc := 192) tX11_sheet_ok 103 rfl) rfl rfl rfl h
def f_X11_sheet_170  (k91 : Int → Int → Int → Int → Mu → Option Res) (v3 : Int) (v4 : Int) (v6 : Int) (s0 : Int) (s1 : Int) (μ : Mu) : Option Res := bnd (s0 + s1) fun x1 => k91 v3 v4 x1 v6 μ
set_option maxRecDepth 100000 in
theorem c_X11_sheet_170 (X : kX)   {res : Res} (k91 : Int → Int → Int → Int → Mu → Option Res) (hk91 : ∀ (v3 : Int), ∀ (v4 : Int), ∀ (v5 : Int), ∀ (v6 : Int), ∀ (μ : Mu), k91 v3 v4 v5 v6 μ = some res → KK X mX11_sheet 6 1 res 91 [(0, .ref (X.1 + 248)), (3, .int (iI v3)), (4, .int (iI v4)), (5, .int (iI v5)), (6, .int (iI v6))] [] μ) (v3 : Int) (v4 : Int) (v6 : Int) (s0 : Int) (s1 : Int) (μ : Mu) (h : f_X11_sheet_170 k91 v3 v4 v6 s0 s1 μ = some res) : KK X mX11_sheet 6 1 res 170 [(0, .ref (X.1 + 248)), (3, .int (iI v3)), (4, .int (iI v4)), (6, .int (iI v6))] [.int (iI s1), .int (iI s0)] μ := by
  unfold f_X11_sheet_170 at h
  refine K_iadd (md := mX11_sheet) (pc := 170) (kTab_at (pc := 170) tX11_sheet_ok 92 rfl) ?_
  refine Z_bnd (md := mX11_sheet) (pc := 171) h (fun x1 h => ?_)
  refine K_istore (md := mX11_sheet) (pc := 171) (l' := [(5, .int (iI x1)), (0, .ref (X.1 + 248)), (3, .int (iI v3)), (4, .int (iI v4)), (6, .int (iI v6))]) (kTab_at (pc := 171) tX11_sheet_ok 93 rfl) (Nat.le_of_ble_eq_true rfl) rfl ?_
  refine K_goto (md := mX11_sheet) (pc := 173) (tgt := 91) (kTab_at (pc := 173) tX11_sheet_ok 94 rfl) rfl ?_
  refine K_sub [1, 2, 3, 0, 4] rfl ?_
  exact hk91 v3 v4 x1 v6 μ h
def f_X11_sheet_158  (k91 : Int → Int → Int → Int → Mu → Option Res) (v3 : Int) (v4 : Int) (v5 : Int) (v6 : Int) (μ : Mu) : Option Res := i_eq v6 0 (f_X11_sheet_170 k91 v3 v4 v6 v5 1 μ) (f_X11_sheet_170 k91 v3 v4 v6 v5 0 μ)
set_option maxRecDepth 100000 in
theorem c_X11_sheet_158 (X : kX)   {res : Res} (k91 : Int → Int → Int → Int → Mu → Option Res) (hk91 : ∀ (v3 : Int), ∀ (v4 : Int), ∀ (v5 : Int), ∀ (v6 : Int), ∀ (μ : Mu), k91 v3 v4 v5 v6 μ = some res → KK X mX11_sheet 6 1 res 91 [(0, .ref (X.1 + 248)), (3, .int (iI v3)), (4, .int (iI v4)), (5, .int (iI v5)), (6, .int (iI v6))] [] μ) (v3 : Int) (v4 : Int) (v5 : Int) (v6 : Int) (μ : Mu) (h : f_X11_sheet_158 k91 v3 v4 v5 v6 μ = some res) : KK X mX11_sheet 6 1 res 158 [(0, .ref (X.1 + 248)), (3, .int (iI v3)), (4, .int (iI v4)), (5, .int (iI v5)), (6, .int (iI v6))] [] μ := by
  unfold f_X11_sheet_158 at h
  refine K_iload (md := mX11_sheet) (pc := 158) 3 (kTab_at (pc := 158) tX11_sheet_ok 86 rfl) rfl ?_
  refine K_iload (md := mX11_sheet) (pc := 160) 4 (kTab_at (pc := 160) tX11_sheet_ok 87 rfl) rfl ?_
  refine K_if_ne (md := mX11_sheet) (pc := 162) (kTab_at (pc := 162) tX11_sheet_ok 88 rfl) (tgt := 169) rfl h (fun h => ?_) (fun h => ?_)
  · refine K_iconst (md := mX11_sheet) (pc := 169) (x := 0) (kTab_at (pc := 169) tX11_sheet_ok 91 rfl) rfl ?_
    refine K_sub [0, 1, 2, 4] rfl ?_
    refine c_X11_sheet_170 X  _ hk91 v3 v4 v6 v5 0 μ h
  · refine K_iconst (md := mX11_sheet) (pc := 165) (x := 1) (kTab_at (pc := 165) tX11_sheet_ok 89 rfl) rfl ?_
    refine K_goto (md := mX11_sheet) (pc := 166) (tgt := 170) (kTab_at (pc := 166) tX11_sheet_ok 90 rfl) rfl ?_
    refine K_sub [0, 1, 2, 4] rfl ?_
    refine c_X11_sheet_170 X  _ hk91 v3 v4 v6 v5 1 μ h
def f_X11_sheet_91  (k176 : Int → Int → Mu → Option Res) : Nat → Int → Int → Int → Int → Mu → Option Res
  | 0, _, _, _, _, _ => none
  | fu + 1, v3, v4, v5, v6, μ => i_eq v6 0 (rdF μ 248 21 fun x1 => rdF μ 248 8 fun x2 => i_lt x1 x2 (rdF μ 248 21 fun x3 => wrF μ 248 21 (x3 + 1) fun μ => rb (f_X11_readsEntry μ) fun μ _ => rdF μ 248 23 fun x4 => rdF μ 248 24 fun x5 => rb (f_X11_refusal v3 x4 v4 x5 μ) fun μ x6 => i_eq x6 0 (rdF μ 248 23 fun x7 => rdF μ 248 24 fun x8 => rb (f_X11_enters v3 x7 v4 x8 μ) fun μ _ => f_X11_sheet_158 (f_X11_sheet_91 k176 fu) v3 v4 v5 x6 μ) (f_X11_sheet_158 (f_X11_sheet_91 k176 fu) v3 v4 v5 x6 μ)) (k176 v5 v6 μ)) (k176 v5 v6 μ)
set_option maxRecDepth 100000 in
theorem c_X11_sheet_91 (X : kX)   {res : Res} (k176 : Int → Int → Mu → Option Res) (hk176 : ∀ (v5 : Int), ∀ (v6 : Int), ∀ (μ : Mu), k176 v5 v6 μ = some res → KK X mX11_sheet 6 1 res 176 [(0, .ref (X.1 + 248)), (5, .int (iI v5)), (6, .int (iI v6))] [] μ) : ∀ (fu : Nat)  (v3 : Int) (v4 : Int) (v5 : Int) (v6 : Int) (μ : Mu), f_X11_sheet_91 k176 fu v3 v4 v5 v6 μ = some res → KK X mX11_sheet 6 1 res 91 [(0, .ref (X.1 + 248)), (3, .int (iI v3)), (4, .int (iI v4)), (5, .int (iI v5)), (6, .int (iI v6))] [] μ := by
  intro fu
  induction fu with
  | zero => intro v3 v4 v5 v6 μ h; exact nomatch h
  | succ fu ih =>
    intro v3 v4 v5 v6 μ h
    refine K_iload (md := mX11_sheet) (pc := 91) 4 (kTab_at (pc := 91) tX11_sheet_ok 52 rfl) rfl ?_
    refine K_if_ne (md := mX11_sheet) (pc := 93) (kTab_at (pc := 93) tX11_sheet_ok 53 rfl) (tgt := 176) rfl h (fun h => ?_) (fun h => ?_)
    · refine K_sub [0, 3, 4] rfl ?_
      exact hk176 v5 v6 μ h
    · refine K_aload_n (md := mX11_sheet) (pc := 96) 0 (kTab_at (pc := 96) tX11_sheet_ok 54 rfl) rfl ?_
      refine Z_getI (md := mX11_sheet) (pc := 97) (kTab_at (pc := 97) tX11_sheet_ok 55 rfl) fl_X11_231 sk_248 (Or.inl rfl) h (fun x1 h => ?_)
      refine K_aload_n (md := mX11_sheet) (pc := 100) 0 (kTab_at (pc := 100) tX11_sheet_ok 56 rfl) rfl ?_
      refine Z_getI (md := mX11_sheet) (pc := 101) (kTab_at (pc := 101) tX11_sheet_ok 57 rfl) fl_X11_228 sk_248 (Or.inl rfl) h (fun x2 h => ?_)
      refine K_icmp_ge (md := mX11_sheet) (pc := 104) (kTab_at (pc := 104) tX11_sheet_ok 58 rfl) (tgt := 176) rfl h (fun h => ?_) (fun h => ?_)
      · refine K_sub [0, 3, 4] rfl ?_
        exact hk176 v5 v6 μ h
      · refine K_aload_n (md := mX11_sheet) (pc := 107) 0 (kTab_at (pc := 107) tX11_sheet_ok 59 rfl) rfl ?_
        refine K_dup (md := mX11_sheet) (pc := 108) (kTab_at (pc := 108) tX11_sheet_ok 60 rfl) rfl ?_
        refine Z_getI (md := mX11_sheet) (pc := 109) (kTab_at (pc := 109) tX11_sheet_ok 61 rfl) fl_X11_231 sk_248 (Or.inl rfl) h (fun x3 h => ?_)
        refine K_iconst (md := mX11_sheet) (pc := 112) (x := 1) (kTab_at (pc := 112) tX11_sheet_ok 62 rfl) rfl ?_
        refine K_iadd (md := mX11_sheet) (pc := 113) (kTab_at (pc := 113) tX11_sheet_ok 63 rfl) ?_
        refine Z_putI (md := mX11_sheet) (pc := 114) (kTab_at (pc := 114) tX11_sheet_ok 64 rfl) fl_X11_231 sk_248 rfl h (fun μ h => ?_)
        refine K_aload_n (md := mX11_sheet) (pc := 117) 0 (kTab_at (pc := 117) tX11_sheet_ok 65 rfl) rfl ?_
        refine Z_callV (md := mX11_sheet) (pc := 118) (st := []) (sv := (fun _ => [])) (kTab_at (pc := 118) tX11_sheet_ok 66 rfl) mv_X11_254 sk_248 rfl (Nat.le_of_ble_eq_true rfl) (by decide) rfl (c_X11_readsEntry X μ) (fun _ => rfl) h (fun μ _ h => ?_) rfl
        refine K_aload_n (md := mX11_sheet) (pc := 121) 0 (kTab_at (pc := 121) tX11_sheet_ok 67 rfl) rfl ?_
        refine K_iload_n (md := mX11_sheet) (pc := 122) 1 (kTab_at (pc := 122) tX11_sheet_ok 68 rfl) rfl ?_
        refine K_aload_n (md := mX11_sheet) (pc := 123) 0 (kTab_at (pc := 123) tX11_sheet_ok 69 rfl) rfl ?_
        refine Z_getI (md := mX11_sheet) (pc := 124) (kTab_at (pc := 124) tX11_sheet_ok 70 rfl) fl_X11_245 sk_248 (Or.inl rfl) h (fun x4 h => ?_)
        refine K_iload (md := mX11_sheet) (pc := 127) 2 (kTab_at (pc := 127) tX11_sheet_ok 71 rfl) rfl ?_
        refine K_aload_n (md := mX11_sheet) (pc := 129) 0 (kTab_at (pc := 129) tX11_sheet_ok 72 rfl) rfl ?_
        refine Z_getI (md := mX11_sheet) (pc := 130) (kTab_at (pc := 130) tX11_sheet_ok 73 rfl) fl_X11_251 sk_248 (Or.inl rfl) h (fun x5 h => ?_)
        refine Z_callV (md := mX11_sheet) (pc := 133) (st := []) (sv := (fun x6 => [.int (iI x6)])) (kTab_at (pc := 133) tX11_sheet_ok 74 rfl) mv_X11_217 sk_248 rfl (Nat.le_of_ble_eq_true rfl) (by decide) rfl (c_X11_refusal X v3 x4 v4 x5 μ) (fun _ => rfl) h (fun μ x6 h => ?_) rfl
        refine K_istore (md := mX11_sheet) (pc := 136) (l' := [(6, .int (iI x6)), (0, .ref (X.1 + 248)), (3, .int (iI v3)), (4, .int (iI v4)), (5, .int (iI v5))]) (kTab_at (pc := 136) tX11_sheet_ok 75 rfl) (Nat.le_of_ble_eq_true rfl) rfl ?_
        refine K_iload (md := mX11_sheet) (pc := 138) 0 (kTab_at (pc := 138) tX11_sheet_ok 76 rfl) rfl ?_
        refine K_if_ne (md := mX11_sheet) (pc := 140) (kTab_at (pc := 140) tX11_sheet_ok 77 rfl) (tgt := 158) rfl h (fun h => ?_) (fun h => ?_)
        · refine K_sub [1, 2, 3, 4, 0] rfl ?_
          refine c_X11_sheet_158 X  _ ih v3 v4 v5 x6 μ h
        · refine K_aload_n (md := mX11_sheet) (pc := 143) 1 (kTab_at (pc := 143) tX11_sheet_ok 78 rfl) rfl ?_
          refine K_iload_n (md := mX11_sheet) (pc := 144) 2 (kTab_at (pc := 144) tX11_sheet_ok 79 rfl) rfl ?_
          refine K_aload_n (md := mX11_sheet) (pc := 145) 1 (kTab_at (pc := 145) tX11_sheet_ok 80 rfl) rfl ?_
          refine Z_getI (md := mX11_sheet) (pc := 146) (kTab_at (pc := 146) tX11_sheet_ok 81 rfl) fl_X11_245 sk_248 (Or.inl rfl) h (fun x7 h => ?_)
          refine K_iload (md := mX11_sheet) (pc := 149) 3 (kTab_at (pc := 149) tX11_sheet_ok 82 rfl) rfl ?_
          refine K_aload_n (md := mX11_sheet) (pc := 151) 1 (kTab_at (pc := 151) tX11_sheet_ok 83 rfl) rfl ?_
          refine Z_getI (md := mX11_sheet) (pc := 152) (kTab_at (pc := 152) tX11_sheet_ok 84 rfl) fl_X11_251 sk_248 (Or.inl rfl) h (fun x8 h => ?_)
          refine Z_callV (md := mX11_sheet) (pc := 155) (st := []) (sv := (fun _ => [])) (kTab_at (pc := 155) tX11_sheet_ok 85 rfl) mv_X11_224 sk_248 rfl (Nat.le_of_ble_eq_true rfl) (by decide) rfl (c_X11_enters X v3 x7 v4 x8 μ) (fun _ => rfl) h (fun μ _ h => ?_) rfl
          refine K_sub [1, 2, 3, 4, 0] rfl ?_
          refine c_X11_sheet_158 X  _ ih v3 v4 v5 x6 μ h
def f_X11_sheet_23   (v1 : Int) (s1 : Int) (μ : Mu) : Option Res := wrF μ 248 9 s1 fun μ => rdF μ 248 8 fun x1 => wrF μ 248 8 0 fun μ => i_eq v1 0 (rb (f_X11_fails 1 μ) fun μ x5 => some (μ, 0, x5)) (rb (f_X11_frames μ) fun μ _ => wrF μ 248 8 x1 fun μ => wrF μ 248 21 0 fun μ => rb (f_X11_digit 51 μ) fun μ x2 => rdF μ 248 21 fun x3 => wrF μ 248 21 (x3 + 1) fun μ => rb (f_X11_digit 52 μ) fun μ x4 => f_X11_sheet_91 (fun v5 v6 μ => f_X11_sheet_176 v5 v6 μ) FU x2 x4 0 0 μ)
set_option maxRecDepth 100000 in
theorem c_X11_sheet_23 (X : kX)   {res : Res}  (v1 : Int) (s1 : Int) (μ : Mu) (h : f_X11_sheet_23 v1 s1 μ = some res) : KK X mX11_sheet 6 1 res 23 [(0, .ref (X.1 + 248)), (1, .int (iI v1))] [.int (iI s1), .ref (X.1 + 248)] μ := by
  unfold f_X11_sheet_23 at h
  refine Z_putI (md := mX11_sheet) (pc := 23) (kTab_at (pc := 23) tX11_sheet_ok 13 rfl) fl_X11_25 sk_248 rfl h (fun μ h => ?_)
  refine K_aload_n (md := mX11_sheet) (pc := 26) 0 (kTab_at (pc := 26) tX11_sheet_ok 14 rfl) rfl ?_
  refine Z_getI (md := mX11_sheet) (pc := 27) (kTab_at (pc := 27) tX11_sheet_ok 15 rfl) fl_X11_228 sk_248 (Or.inl rfl) h (fun x1 h => ?_)
  refine K_istore_n (md := mX11_sheet) (pc := 30) (l' := [(2, .int (iI x1)), (0, .ref (X.1 + 248)), (1, .int (iI v1))]) (kTab_at (pc := 30) tX11_sheet_ok 16 rfl) (Nat.le_of_ble_eq_true rfl) rfl ?_
  refine K_aload_n (md := mX11_sheet) (pc := 31) 1 (kTab_at (pc := 31) tX11_sheet_ok 17 rfl) rfl ?_
  refine K_iconst (md := mX11_sheet) (pc := 32) (x := 0) (kTab_at (pc := 32) tX11_sheet_ok 18 rfl) rfl ?_
  refine Z_putI (md := mX11_sheet) (pc := 33) (kTab_at (pc := 33) tX11_sheet_ok 19 rfl) fl_X11_228 sk_248 rfl h (fun μ h => ?_)
  refine K_iload_n (md := mX11_sheet) (pc := 36) 2 (kTab_at (pc := 36) tX11_sheet_ok 20 rfl) rfl ?_
  refine K_if_ne (md := mX11_sheet) (pc := 37) (kTab_at (pc := 37) tX11_sheet_ok 21 rfl) (tgt := 46) rfl h (fun h => ?_) (fun h => ?_)
  · refine K_aload_n (md := mX11_sheet) (pc := 46) 1 (kTab_at (pc := 46) tX11_sheet_ok 26 rfl) rfl ?_
    refine Z_callV (md := mX11_sheet) (pc := 47) (st := []) (sv := (fun _ => [])) (kTab_at (pc := 47) tX11_sheet_ok 27 rfl) mv_X11_58 sk_248 rfl (Nat.le_of_ble_eq_true rfl) (by decide) rfl (c_X11_frames X μ) (fun _ => rfl) h (fun μ _ h => ?_) rfl
    refine K_aload_n (md := mX11_sheet) (pc := 50) 1 (kTab_at (pc := 50) tX11_sheet_ok 28 rfl) rfl ?_
    refine K_iload_n (md := mX11_sheet) (pc := 51) 0 (kTab_at (pc := 51) tX11_sheet_ok 29 rfl) rfl ?_
    refine Z_putI (md := mX11_sheet) (pc := 52) (kTab_at (pc := 52) tX11_sheet_ok 30 rfl) fl_X11_228 sk_248 rfl h (fun μ h => ?_)
    refine K_aload_n (md := mX11_sheet) (pc := 55) 1 (kTab_at (pc := 55) tX11_sheet_ok 31 rfl) rfl ?_
    refine K_iconst (md := mX11_sheet) (pc := 56) (x := 0) (kTab_at (pc := 56) tX11_sheet_ok 32 rfl) rfl ?_
    refine Z_putI (md := mX11_sheet) (pc := 57) (kTab_at (pc := 57) tX11_sheet_ok 33 rfl) fl_X11_231 sk_248 rfl h (fun μ h => ?_)
    refine K_aload_n (md := mX11_sheet) (pc := 60) 1 (kTab_at (pc := 60) tX11_sheet_ok 34 rfl) rfl ?_
    refine K_bipush (md := mX11_sheet) (pc := 61) (x := 51) (kTab_at (pc := 61) tX11_sheet_ok 35 rfl) (by decide) ?_
    refine Z_callV (md := mX11_sheet) (pc := 63) (st := []) (sv := (fun x2 => [.int (iI x2)])) (kTab_at (pc := 63) tX11_sheet_ok 36 rfl) mv_X11_241 sk_248 rfl (Nat.le_of_ble_eq_true rfl) (by decide) rfl (c_X11_digit X 51 μ) (fun _ => rfl) h (fun μ x2 h => ?_) rfl
    refine K_istore_n (md := mX11_sheet) (pc := 66) (l' := [(3, .int (iI x2)), (2, .int (iI x1)), (0, .ref (X.1 + 248)), (1, .int (iI v1))]) (kTab_at (pc := 66) tX11_sheet_ok 37 rfl) (Nat.le_of_ble_eq_true rfl) rfl ?_
    refine K_aload_n (md := mX11_sheet) (pc := 67) 2 (kTab_at (pc := 67) tX11_sheet_ok 38 rfl) rfl ?_
    refine K_dup (md := mX11_sheet) (pc := 68) (kTab_at (pc := 68) tX11_sheet_ok 39 rfl) rfl ?_
    refine Z_getI (md := mX11_sheet) (pc := 69) (kTab_at (pc := 69) tX11_sheet_ok 40 rfl) fl_X11_231 sk_248 (Or.inl rfl) h (fun x3 h => ?_)
    refine K_iconst (md := mX11_sheet) (pc := 72) (x := 1) (kTab_at (pc := 72) tX11_sheet_ok 41 rfl) rfl ?_
    refine K_iadd (md := mX11_sheet) (pc := 73) (kTab_at (pc := 73) tX11_sheet_ok 42 rfl) ?_
    refine Z_putI (md := mX11_sheet) (pc := 74) (kTab_at (pc := 74) tX11_sheet_ok 43 rfl) fl_X11_231 sk_248 rfl h (fun μ h => ?_)
    refine K_aload_n (md := mX11_sheet) (pc := 77) 2 (kTab_at (pc := 77) tX11_sheet_ok 44 rfl) rfl ?_
    refine K_bipush (md := mX11_sheet) (pc := 78) (x := 52) (kTab_at (pc := 78) tX11_sheet_ok 45 rfl) (by decide) ?_
    refine Z_callV (md := mX11_sheet) (pc := 80) (st := []) (sv := (fun x4 => [.int (iI x4)])) (kTab_at (pc := 80) tX11_sheet_ok 46 rfl) mv_X11_241 sk_248 rfl (Nat.le_of_ble_eq_true rfl) (by decide) rfl (c_X11_digit X 52 μ) (fun _ => rfl) h (fun μ x4 h => ?_) rfl
    refine K_istore (md := mX11_sheet) (pc := 83) (l' := [(4, .int (iI x4)), (3, .int (iI x2)), (2, .int (iI x1)), (0, .ref (X.1 + 248)), (1, .int (iI v1))]) (kTab_at (pc := 83) tX11_sheet_ok 47 rfl) (Nat.le_of_ble_eq_true rfl) rfl ?_
    refine K_iconst (md := mX11_sheet) (pc := 85) (x := 0) (kTab_at (pc := 85) tX11_sheet_ok 48 rfl) rfl ?_
    refine K_istore (md := mX11_sheet) (pc := 86) (l' := [(5, .int (iI 0)), (4, .int (iI x4)), (3, .int (iI x2)), (2, .int (iI x1)), (0, .ref (X.1 + 248)), (1, .int (iI v1))]) (kTab_at (pc := 86) tX11_sheet_ok 49 rfl) (Nat.le_of_ble_eq_true rfl) rfl ?_
    refine K_iconst (md := mX11_sheet) (pc := 88) (x := 0) (kTab_at (pc := 88) tX11_sheet_ok 50 rfl) rfl ?_
    refine K_istore (md := mX11_sheet) (pc := 89) (l' := [(6, .int (iI 0)), (5, .int (iI 0)), (4, .int (iI x4)), (3, .int (iI x2)), (2, .int (iI x1)), (0, .ref (X.1 + 248)), (1, .int (iI v1))]) (kTab_at (pc := 89) tX11_sheet_ok 51 rfl) (Nat.le_of_ble_eq_true rfl) rfl ?_
    refine K_sub [5, 3, 2, 1, 0] rfl ?_
    refine c_X11_sheet_91 X  _ ?_ _ x2 x4 0 0 μ h
    · intro v5 v6 μ h
      refine c_X11_sheet_176 X   v5 v6 μ h
  · refine K_aload_n (md := mX11_sheet) (pc := 40) 1 (kTab_at (pc := 40) tX11_sheet_ok 22 rfl) rfl ?_
    refine K_iconst (md := mX11_sheet) (pc := 41) (x := 1) (kTab_at (pc := 41) tX11_sheet_ok 23 rfl) rfl ?_
    refine Z_callV (md := mX11_sheet) (pc := 42) (st := []) (sv := (fun x5 => [.int (iI x5)])) (kTab_at (pc := 42) tX11_sheet_ok 24 rfl) mv_X11_177 sk_248 rfl (Nat.le_of_ble_eq_true rfl) (by decide) rfl (c_X11_fails X 1 μ) (fun _ => rfl) h (fun μ x5 h => ?_) rfl
    exact Z_iret (md := mX11_sheet) (pc := 45) (kTab_at (pc := 45) tX11_sheet_ok 25 rfl) rfl rfl rfl h
def f_X11_sheet  (μ : Mu) : Option Res := wrF μ 248 0 0 fun μ => rb (f_X11_isSheet μ) fun μ x1 => i_eq x1 0 (rdF μ 248 21 fun x2 => f_X11_sheet_23 x1 x2 μ) (f_X11_sheet_23 x1 (-1) μ)
set_option maxRecDepth 100000 in
theorem c_X11_sheet (X : kX)   (μ : Mu) : Cq X mX11_sheet 6 1 μ [.ref (X.1 + 248)] (f_X11_sheet  μ) := by
  intro res h
  refine ct_of (by decide +kernel) rfl (Nat.le_of_ble_eq_true rfl) ?_
  show KK X mX11_sheet 6 1 res 0 [(0, .ref (X.1 + 248))] [] μ
  unfold f_X11_sheet at h
  refine K_aload_n (md := mX11_sheet) (pc := 0) 0 (kTab_at (pc := 0) tX11_sheet_ok 0 rfl) rfl ?_
  refine K_iconst (md := mX11_sheet) (pc := 1) (x := 0) (kTab_at (pc := 1) tX11_sheet_ok 1 rfl) rfl ?_
  refine Z_putI (md := mX11_sheet) (pc := 2) (kTab_at (pc := 2) tX11_sheet_ok 2 rfl) fl_X11_48 sk_248 rfl h (fun μ h => ?_)
  refine K_aload_n (md := mX11_sheet) (pc := 5) 0 (kTab_at (pc := 5) tX11_sheet_ok 3 rfl) rfl ?_
  refine Z_callV (md := mX11_sheet) (pc := 6) (st := []) (sv := (fun x1 => [.int (iI x1)])) (kTab_at (pc := 6) tX11_sheet_ok 4 rfl) mv_X11_257 sk_248 rfl (Nat.le_of_ble_eq_true rfl) (by decide) rfl (c_X11_isSheet X μ) (fun _ => rfl) h (fun μ x1 h => ?_) rfl
  refine K_istore_n (md := mX11_sheet) (pc := 9) (l' := [(1, .int (iI x1)), (0, .ref (X.1 + 248))]) (kTab_at (pc := 9) tX11_sheet_ok 5 rfl) (Nat.le_of_ble_eq_true rfl) rfl ?_
  refine K_aload_n (md := mX11_sheet) (pc := 10) 1 (kTab_at (pc := 10) tX11_sheet_ok 6 rfl) rfl ?_
  refine K_iload_n (md := mX11_sheet) (pc := 11) 0 (kTab_at (pc := 11) tX11_sheet_ok 7 rfl) rfl ?_
  refine K_if_eq (md := mX11_sheet) (pc := 12) (kTab_at (pc := 12) tX11_sheet_ok 8 rfl) (tgt := 19) rfl h (fun h => ?_) (fun h => ?_)
  · refine K_aload_n (md := mX11_sheet) (pc := 19) 1 (kTab_at (pc := 19) tX11_sheet_ok 11 rfl) rfl ?_
    refine Z_getI (md := mX11_sheet) (pc := 20) (kTab_at (pc := 20) tX11_sheet_ok 12 rfl) fl_X11_231 sk_248 (Or.inl rfl) h (fun x2 h => ?_)
    refine K_sub [1, 0] rfl ?_
    refine c_X11_sheet_23 X   x1 x2 μ h
  · refine K_iconst (md := mX11_sheet) (pc := 15) (x := -1) (kTab_at (pc := 15) tX11_sheet_ok 9 rfl) rfl ?_
    refine K_goto (md := mX11_sheet) (pc := 16) (tgt := 23) (kTab_at (pc := 16) tX11_sheet_ok 10 rfl) rfl ?_
    refine K_sub [1, 0] rfl ?_
    refine c_X11_sheet_23 X   x1 (-1) μ h
def f_X11_errorPosition  (μ : Mu) : Option Res := wrF μ 248 0 0 fun μ => rdF μ 248 9 fun x1 => some (μ, 0, x1)
set_option maxRecDepth 100000 in
theorem c_X11_errorPosition (X : kX)   (μ : Mu) : Cq X mX11_errorPosition 0 1 μ [.ref (X.1 + 248)] (f_X11_errorPosition  μ) := by
  intro res h
  refine ct_of (by decide +kernel) rfl (Nat.le_of_ble_eq_true rfl) ?_
  show KK X mX11_errorPosition 0 1 res 0 [(0, .ref (X.1 + 248))] [] μ
  unfold f_X11_errorPosition at h
  refine K_aload_n (md := mX11_errorPosition) (pc := 0) 0 (kTab_at (pc := 0) tX11_errorPosition_ok 0 rfl) rfl ?_
  refine K_iconst (md := mX11_errorPosition) (pc := 1) (x := 0) (kTab_at (pc := 1) tX11_errorPosition_ok 1 rfl) rfl ?_
  refine Z_putI (md := mX11_errorPosition) (pc := 2) (kTab_at (pc := 2) tX11_errorPosition_ok 2 rfl) fl_X11_48 sk_248 rfl h (fun μ h => ?_)
  refine K_aload_n (md := mX11_errorPosition) (pc := 5) 0 (kTab_at (pc := 5) tX11_errorPosition_ok 3 rfl) rfl ?_
  refine Z_getI (md := mX11_errorPosition) (pc := 6) (kTab_at (pc := 6) tX11_errorPosition_ok 4 rfl) fl_X11_25 sk_248 (Or.inl rfl) h (fun x1 h => ?_)
  exact Z_iret (md := mX11_errorPosition) (pc := 9) (kTab_at (pc := 9) tX11_errorPosition_ok 5 rfl) rfl rfl rfl h
def f_X11_scriptRefusal_20 (p1 : Int) (p2 : Int)  (s1 : Int) (μ : Mu) : Option Res := wrF μ 248 0 s1 fun μ => rdF μ 248 0 fun x1 => some (μ, 0, x1)
set_option maxRecDepth 100000 in
theorem c_X11_scriptRefusal_20 (X : kX) (p1 : Int) (p2 : Int)  {res : Res}  (s1 : Int) (μ : Mu) (h : f_X11_scriptRefusal_20 p1 p2 s1 μ = some res) : KK X mX11_scriptRefusal 2 1 res 20 [(0, .ref (X.1 + 248))] [.int (iI s1), .ref (X.1 + 248)] μ := by
  unfold f_X11_scriptRefusal_20 at h
  refine Z_putI (md := mX11_scriptRefusal) (pc := 20) (kTab_at (pc := 20) tX11_scriptRefusal_ok 10 rfl) fl_X11_48 sk_248 rfl h (fun μ h => ?_)
  refine K_aload_n (md := mX11_scriptRefusal) (pc := 23) 0 (kTab_at (pc := 23) tX11_scriptRefusal_ok 11 rfl) rfl ?_
  refine Z_getI (md := mX11_scriptRefusal) (pc := 24) (kTab_at (pc := 24) tX11_scriptRefusal_ok 12 rfl) fl_X11_48 sk_248 (Or.inl rfl) h (fun x1 h => ?_)
  exact Z_iret (md := mX11_scriptRefusal) (pc := 27) (kTab_at (pc := 27) tX11_scriptRefusal_ok 13 rfl) rfl rfl rfl h
def f_X11_scriptRefusal_19 (p1 : Int) (p2 : Int)   (μ : Mu) : Option Res := f_X11_scriptRefusal_20 p1 p2 1 μ
set_option maxRecDepth 100000 in
theorem c_X11_scriptRefusal_19 (X : kX) (p1 : Int) (p2 : Int)  {res : Res}  (μ : Mu) (h : f_X11_scriptRefusal_19 p1 p2 μ = some res) : KK X mX11_scriptRefusal 2 1 res 19 [(0, .ref (X.1 + 248))] [.ref (X.1 + 248)] μ := by
  unfold f_X11_scriptRefusal_19 at h
  refine K_iconst (md := mX11_scriptRefusal) (pc := 19) (x := 1) (kTab_at (pc := 19) tX11_scriptRefusal_ok 9 rfl) rfl ?_
  refine c_X11_scriptRefusal_20 X p1 p2  1 μ h
def f_X11_scriptRefusal (p1 : Int) (p2 : Int) (μ : Mu) : Option Res := rb (f_X11_isCandidate p1 μ) fun μ x1 => i_eq x1 0 (f_X11_scriptRefusal_19 p1 p2 μ) (rb (f_X11_isQuestion p2 μ) fun μ x2 => i_eq x2 0 (f_X11_scriptRefusal_19 p1 p2 μ) (f_X11_scriptRefusal_20 p1 p2 0 μ))
set_option maxRecDepth 100000 in
theorem c_X11_scriptRefusal (X : kX) (p1 : Int) (p2 : Int)  (μ : Mu) : Cq X mX11_scriptRefusal 2 1 μ [.ref (X.1 + 248), .int (iI p1), .int (iI p2)] (f_X11_scriptRefusal p1 p2 μ) := by
  intro res h
  refine ct_of (by decide +kernel) rfl (Nat.le_of_ble_eq_true rfl) ?_
  show KK X mX11_scriptRefusal 2 1 res 0 [(0, .ref (X.1 + 248)), (1, .int (iI p1)), (2, .int (iI p2))] [] μ
  unfold f_X11_scriptRefusal at h
  refine K_aload_n (md := mX11_scriptRefusal) (pc := 0) 0 (kTab_at (pc := 0) tX11_scriptRefusal_ok 0 rfl) rfl ?_
  refine K_iload_n (md := mX11_scriptRefusal) (pc := 1) 1 (kTab_at (pc := 1) tX11_scriptRefusal_ok 1 rfl) rfl ?_
  refine Z_callS (md := mX11_scriptRefusal) (pc := 2) (st := [.ref (X.1 + 248)]) (sv := (fun x1 => [.int (iI x1), .ref (X.1 + 248)])) (kTab_at (pc := 2) tX11_scriptRefusal_ok 2 rfl) ms_X11_214 rfl (Nat.le_of_ble_eq_true rfl) (by decide) rfl (c_X11_isCandidate X p1 μ) (fun _ => rfl) h (fun μ x1 h => ?_) rfl
  refine K_if_eq (md := mX11_scriptRefusal) (pc := 5) (kTab_at (pc := 5) tX11_scriptRefusal_ok 3 rfl) (tgt := 19) rfl h (fun h => ?_) (fun h => ?_)
  · refine K_sub [0] rfl ?_
    refine c_X11_scriptRefusal_19 X p1 p2  μ h
  · refine K_iload_n (md := mX11_scriptRefusal) (pc := 8) 2 (kTab_at (pc := 8) tX11_scriptRefusal_ok 4 rfl) rfl ?_
    refine Z_callS (md := mX11_scriptRefusal) (pc := 9) (st := [.ref (X.1 + 248)]) (sv := (fun x2 => [.int (iI x2), .ref (X.1 + 248)])) (kTab_at (pc := 9) tX11_scriptRefusal_ok 5 rfl) ms_X11_180 rfl (Nat.le_of_ble_eq_true rfl) (by decide) rfl (c_X11_isQuestion X p2 μ) (fun _ => rfl) h (fun μ x2 h => ?_) rfl
    refine K_if_eq (md := mX11_scriptRefusal) (pc := 12) (kTab_at (pc := 12) tX11_scriptRefusal_ok 6 rfl) (tgt := 19) rfl h (fun h => ?_) (fun h => ?_)
    · refine K_sub [0] rfl ?_
      refine c_X11_scriptRefusal_19 X p1 p2  μ h
    · refine K_iconst (md := mX11_scriptRefusal) (pc := 15) (x := 0) (kTab_at (pc := 15) tX11_scriptRefusal_ok 7 rfl) rfl ?_
      refine K_goto (md := mX11_scriptRefusal) (pc := 16) (tgt := 20) (kTab_at (pc := 16) tX11_scriptRefusal_ok 8 rfl) rfl ?_
      refine K_sub [0] rfl ?_
      refine c_X11_scriptRefusal_20 X p1 p2  0 μ h
def f_X11_entry_109 (p1 : Int) (p2 : Int) (p3 : Int) (p4 : Int)  (s0 : Int) (μ : Mu) : Option Res := some (μ, 0, s0)
set_option maxRecDepth 100000 in
theorem c_X11_entry_109 (X : kX) (p1 : Int) (p2 : Int) (p3 : Int) (p4 : Int)  {res : Res}  (s0 : Int) (μ : Mu) (h : f_X11_entry_109 p1 p2 p3 p4 s0 μ = some res) : KK X mX11_entry 4 1 res 109 [] [.int (iI s0)] μ := by
  unfold f_X11_entry_109 at h
  exact Z_iret (md := mX11_entry) (pc := 109) (kTab_at (pc := 109) tX11_entry_ok 47 rfl) rfl rfl rfl h
def f_X11_entry_26 (p1 : Int) (p2 : Int) (p3 : Int) (p4 : Int)  (s0 : Int) (μ : Mu) : Option Res := i_eq s0 (-1) (rb (f_X11_fails 2 μ) fun μ x6 => some (μ, 0, x6)) (i_sw p4 0 [rb (f_X11_part s0 0 μ) fun μ x1 => some (μ, 0, x1), rb (f_X11_part s0 3 μ) fun μ x2 => some (μ, 0, x2), rb (f_X11_value s0 μ) fun μ x3 => some (μ, 0, x3), rb (f_X11_isValid s0 μ) fun μ x4 => i_eq x4 0 (f_X11_entry_109 p1 p2 p3 p4 0 μ) (f_X11_entry_109 p1 p2 p3 p4 1 μ)] (rb (f_X11_fails 3 μ) fun μ x5 => some (μ, 0, x5)))
set_option maxRecDepth 100000 in
theorem c_X11_entry_26 (X : kX) (p1 : Int) (p2 : Int) (p3 : Int) (p4 : Int)  {res : Res}  (s0 : Int) (μ : Mu) (h : f_X11_entry_26 p1 p2 p3 p4 s0 μ = some res) : KK X mX11_entry 4 1 res 26 [(0, .ref (X.1 + 248)), (4, .int (iI p4))] [.int (iI s0)] μ := by
  unfold f_X11_entry_26 at h
  refine K_istore (md := mX11_entry) (pc := 26) (l' := [(5, .int (iI s0)), (0, .ref (X.1 + 248)), (4, .int (iI p4))]) (kTab_at (pc := 26) tX11_entry_ok 16 rfl) (Nat.le_of_ble_eq_true rfl) rfl ?_
  refine K_iload (md := mX11_entry) (pc := 28) 0 (kTab_at (pc := 28) tX11_entry_ok 17 rfl) rfl ?_
  refine K_iconst (md := mX11_entry) (pc := 30) (x := -1) (kTab_at (pc := 30) tX11_entry_ok 18 rfl) rfl ?_
  refine K_icmp_ne (md := mX11_entry) (pc := 31) (kTab_at (pc := 31) tX11_entry_ok 19 rfl) (tgt := 40) rfl h (fun h => ?_) (fun h => ?_)
  · refine K_iload (md := mX11_entry) (pc := 40) 2 (kTab_at (pc := 40) tX11_entry_ok 24 rfl) rfl ?_
    refine K_tsw (md := mX11_entry) (pc := 42) (dt := 110) (kTab_at (pc := 42) tX11_entry_ok 25 rfl) rfl rfl h (And.intro (fun h => ⟨72, rfl, ?_⟩) (And.intro (fun h => ⟨80, rfl, ?_⟩) (And.intro (fun h => ⟨88, rfl, ?_⟩) (And.intro (fun h => ⟨95, rfl, ?_⟩) (True.intro))))) (fun h => ?_)
    · refine K_aload_n (md := mX11_entry) (pc := 72) 1 (kTab_at (pc := 72) tX11_entry_ok 26 rfl) rfl ?_
      refine K_iload (md := mX11_entry) (pc := 73) 0 (kTab_at (pc := 73) tX11_entry_ok 27 rfl) rfl ?_
      refine K_iconst (md := mX11_entry) (pc := 75) (x := 0) (kTab_at (pc := 75) tX11_entry_ok 28 rfl) rfl ?_
      refine Z_callV (md := mX11_entry) (pc := 76) (st := []) (sv := (fun x1 => [.int (iI x1)])) (kTab_at (pc := 76) tX11_entry_ok 29 rfl) mv_X11_81 sk_248 rfl (Nat.le_of_ble_eq_true rfl) (by decide) rfl (c_X11_part X s0 0 μ) (fun _ => rfl) h (fun μ x1 h => ?_) rfl
      exact Z_iret (md := mX11_entry) (pc := 79) (kTab_at (pc := 79) tX11_entry_ok 30 rfl) rfl rfl rfl h
    · refine K_aload_n (md := mX11_entry) (pc := 80) 1 (kTab_at (pc := 80) tX11_entry_ok 31 rfl) rfl ?_
      refine K_iload (md := mX11_entry) (pc := 81) 0 (kTab_at (pc := 81) tX11_entry_ok 32 rfl) rfl ?_
      refine K_iconst (md := mX11_entry) (pc := 83) (x := 3) (kTab_at (pc := 83) tX11_entry_ok 33 rfl) rfl ?_
      refine Z_callV (md := mX11_entry) (pc := 84) (st := []) (sv := (fun x2 => [.int (iI x2)])) (kTab_at (pc := 84) tX11_entry_ok 34 rfl) mv_X11_81 sk_248 rfl (Nat.le_of_ble_eq_true rfl) (by decide) rfl (c_X11_part X s0 3 μ) (fun _ => rfl) h (fun μ x2 h => ?_) rfl
      exact Z_iret (md := mX11_entry) (pc := 87) (kTab_at (pc := 87) tX11_entry_ok 35 rfl) rfl rfl rfl h
    · refine K_aload_n (md := mX11_entry) (pc := 88) 1 (kTab_at (pc := 88) tX11_entry_ok 36 rfl) rfl ?_
      refine K_iload (md := mX11_entry) (pc := 89) 0 (kTab_at (pc := 89) tX11_entry_ok 37 rfl) rfl ?_
      refine Z_callV (md := mX11_entry) (pc := 91) (st := []) (sv := (fun x3 => [.int (iI x3)])) (kTab_at (pc := 91) tX11_entry_ok 38 rfl) mv_X11_102 sk_248 rfl (Nat.le_of_ble_eq_true rfl) (by decide) rfl (c_X11_value X s0 μ) (fun _ => rfl) h (fun μ x3 h => ?_) rfl
      exact Z_iret (md := mX11_entry) (pc := 94) (kTab_at (pc := 94) tX11_entry_ok 39 rfl) rfl rfl rfl h
    · refine K_aload_n (md := mX11_entry) (pc := 95) 1 (kTab_at (pc := 95) tX11_entry_ok 40 rfl) rfl ?_
      refine K_iload (md := mX11_entry) (pc := 96) 0 (kTab_at (pc := 96) tX11_entry_ok 41 rfl) rfl ?_
      refine Z_callV (md := mX11_entry) (pc := 98) (st := []) (sv := (fun x4 => [.int (iI x4)])) (kTab_at (pc := 98) tX11_entry_ok 42 rfl) mv_X11_98 sk_248 rfl (Nat.le_of_ble_eq_true rfl) (by decide) rfl (c_X11_isValid X s0 μ) (fun _ => rfl) h (fun μ x4 h => ?_) rfl
      refine K_if_eq (md := mX11_entry) (pc := 101) (kTab_at (pc := 101) tX11_entry_ok 43 rfl) (tgt := 108) rfl h (fun h => ?_) (fun h => ?_)
      · refine K_iconst (md := mX11_entry) (pc := 108) (x := 0) (kTab_at (pc := 108) tX11_entry_ok 46 rfl) rfl ?_
        refine K_sub [] rfl ?_
        refine c_X11_entry_109 X p1 p2 p3 p4  0 μ h
      · refine K_iconst (md := mX11_entry) (pc := 104) (x := 1) (kTab_at (pc := 104) tX11_entry_ok 44 rfl) rfl ?_
        refine K_goto (md := mX11_entry) (pc := 105) (tgt := 109) (kTab_at (pc := 105) tX11_entry_ok 45 rfl) rfl ?_
        refine K_sub [] rfl ?_
        refine c_X11_entry_109 X p1 p2 p3 p4  1 μ h
    · refine K_aload_n (md := mX11_entry) (pc := 110) 1 (kTab_at (pc := 110) tX11_entry_ok 48 rfl) rfl ?_
      refine K_iconst (md := mX11_entry) (pc := 111) (x := 3) (kTab_at (pc := 111) tX11_entry_ok 49 rfl) rfl ?_
      refine Z_callV (md := mX11_entry) (pc := 112) (st := []) (sv := (fun x5 => [.int (iI x5)])) (kTab_at (pc := 112) tX11_entry_ok 50 rfl) mv_X11_177 sk_248 rfl (Nat.le_of_ble_eq_true rfl) (by decide) rfl (c_X11_fails X 3 μ) (fun _ => rfl) h (fun μ x5 h => ?_) rfl
      exact Z_iret (md := mX11_entry) (pc := 115) (kTab_at (pc := 115) tX11_entry_ok 51 rfl) rfl rfl rfl h
  · refine K_aload_n (md := mX11_entry) (pc := 34) 1 (kTab_at (pc := 34) tX11_entry_ok 20 rfl) rfl ?_
    refine K_iconst (md := mX11_entry) (pc := 35) (x := 2) (kTab_at (pc := 35) tX11_entry_ok 21 rfl) rfl ?_
    refine Z_callV (md := mX11_entry) (pc := 36) (st := []) (sv := (fun x6 => [.int (iI x6)])) (kTab_at (pc := 36) tX11_entry_ok 22 rfl) mv_X11_177 sk_248 rfl (Nat.le_of_ble_eq_true rfl) (by decide) rfl (c_X11_fails X 2 μ) (fun _ => rfl) h (fun μ x6 h => ?_) rfl
    exact Z_iret (md := mX11_entry) (pc := 39) (kTab_at (pc := 39) tX11_entry_ok 23 rfl) rfl rfl rfl h
def f_X11_entry (p1 : Int) (p2 : Int) (p3 : Int) (p4 : Int) (μ : Mu) : Option Res := rb (f_X11_scriptRefusal p1 p2 μ) fun μ x1 => i_lt 0 x1 (some (μ, 0, 0)) (i_lt p3 0 (f_X11_entry_26 p1 p2 p3 p4 (-1) μ) (rb (f_X11_entryOf p1 p2 p3 μ) fun μ x2 => f_X11_entry_26 p1 p2 p3 p4 x2 μ))
set_option maxRecDepth 100000 in
theorem c_X11_entry (X : kX) (p1 : Int) (p2 : Int) (p3 : Int) (p4 : Int)  (μ : Mu) : Cq X mX11_entry 4 1 μ [.ref (X.1 + 248), .int (iI p1), .int (iI p2), .int (iI p3), .int (iI p4)] (f_X11_entry p1 p2 p3 p4 μ) := by
  intro res h
  refine ct_of (by decide +kernel) rfl (Nat.le_of_ble_eq_true rfl) ?_
  show KK X mX11_entry 4 1 res 0 [(0, .ref (X.1 + 248)), (1, .int (iI p1)), (2, .int (iI p2)), (3, .int (iI p3)), (4, .int (iI p4))] [] μ
  unfold f_X11_entry at h
  refine K_aload_n (md := mX11_entry) (pc := 0) 0 (kTab_at (pc := 0) tX11_entry_ok 0 rfl) rfl ?_
  refine K_iload_n (md := mX11_entry) (pc := 1) 1 (kTab_at (pc := 1) tX11_entry_ok 1 rfl) rfl ?_
  refine K_iload_n (md := mX11_entry) (pc := 2) 2 (kTab_at (pc := 2) tX11_entry_ok 2 rfl) rfl ?_
  refine Z_callV (md := mX11_entry) (pc := 3) (st := []) (sv := (fun x1 => [.int (iI x1)])) (kTab_at (pc := 3) tX11_entry_ok 3 rfl) mv_X11_260 sk_248 rfl (Nat.le_of_ble_eq_true rfl) (by decide) rfl (c_X11_scriptRefusal X p1 p2 μ) (fun _ => rfl) h (fun μ x1 h => ?_) rfl
  refine K_if_le (md := mX11_entry) (pc := 6) (kTab_at (pc := 6) tX11_entry_ok 4 rfl) (tgt := 11) rfl h (fun h => ?_) (fun h => ?_)
  · refine K_iload_n (md := mX11_entry) (pc := 11) 3 (kTab_at (pc := 11) tX11_entry_ok 7 rfl) rfl ?_
    refine K_if_ge (md := mX11_entry) (pc := 12) (kTab_at (pc := 12) tX11_entry_ok 8 rfl) (tgt := 19) rfl h (fun h => ?_) (fun h => ?_)
    · refine K_aload_n (md := mX11_entry) (pc := 19) 0 (kTab_at (pc := 19) tX11_entry_ok 11 rfl) rfl ?_
      refine K_iload_n (md := mX11_entry) (pc := 20) 1 (kTab_at (pc := 20) tX11_entry_ok 12 rfl) rfl ?_
      refine K_iload_n (md := mX11_entry) (pc := 21) 2 (kTab_at (pc := 21) tX11_entry_ok 13 rfl) rfl ?_
      refine K_iload_n (md := mX11_entry) (pc := 22) 3 (kTab_at (pc := 22) tX11_entry_ok 14 rfl) rfl ?_
      refine Z_callV (md := mX11_entry) (pc := 23) (st := []) (sv := (fun x2 => [.int (iI x2)])) (kTab_at (pc := 23) tX11_entry_ok 15 rfl) mv_X11_263 sk_248 rfl (Nat.le_of_ble_eq_true rfl) (by decide) rfl (c_X11_entryOf X p1 p2 p3 μ) (fun _ => rfl) h (fun μ x2 h => ?_) rfl
      refine K_sub [0, 4] rfl ?_
      refine c_X11_entry_26 X p1 p2 p3 p4  x2 μ h
    · refine K_iconst (md := mX11_entry) (pc := 15) (x := -1) (kTab_at (pc := 15) tX11_entry_ok 9 rfl) rfl ?_
      refine K_goto (md := mX11_entry) (pc := 16) (tgt := 26) (kTab_at (pc := 16) tX11_entry_ok 10 rfl) rfl ?_
      refine K_sub [0, 4] rfl ?_
      refine c_X11_entry_26 X p1 p2 p3 p4  (-1) μ h
  · refine K_iconst (md := mX11_entry) (pc := 9) (x := 0) (kTab_at (pc := 9) tX11_entry_ok 5 rfl) rfl ?_
    exact Z_iret (md := mX11_entry) (pc := 10) (kTab_at (pc := 10) tX11_entry_ok 6 rfl) rfl rfl rfl h
def f_X11_script (p1 : Int) (p2 : Int) (p3 : Int) (μ : Mu) : Option Res := rb (f_X11_scriptRefusal p1 p2 μ) fun μ x1 => i_lt 0 x1 (some (μ, 0, 0)) (rb (f_X11_finds p1 p2 μ) fun μ _ => i_sw p3 0 [rb (f_X11_settled p1 p2 μ) fun μ x2 => some (μ, 0, x2), rb (f_X11_entries p1 p2 μ) fun μ x3 => some (μ, 0, x3), rdF μ 248 13 fun x4 => some (μ, 0, x4), rb (f_X11_state p1 p2 μ) fun μ x5 => some (μ, 0, x5), rb (f_X11_appealPart p1 p2 0 μ) fun μ x6 => some (μ, 0, x6)] (rb (f_X11_fails 2 μ) fun μ x7 => some (μ, 0, x7)))
set_option maxRecDepth 100000 in
theorem c_X11_script (X : kX) (p1 : Int) (p2 : Int) (p3 : Int)  (μ : Mu) : Cq X mX11_script 6 1 μ [.ref (X.1 + 248), .int (iI p1), .int (iI p2), .int (iI p3)] (f_X11_script p1 p2 p3 μ) := by
  intro res h
  refine ct_of (by decide +kernel) rfl (Nat.le_of_ble_eq_true rfl) ?_
  show KK X mX11_script 6 1 res 0 [(0, .ref (X.1 + 248)), (1, .int (iI p1)), (2, .int (iI p2)), (3, .int (iI p3))] [] μ
  unfold f_X11_script at h
  refine K_aload_n (md := mX11_script) (pc := 0) 0 (kTab_at (pc := 0) tX11_script_ok 0 rfl) rfl ?_
  refine K_iload_n (md := mX11_script) (pc := 1) 1 (kTab_at (pc := 1) tX11_script_ok 1 rfl) rfl ?_
  refine K_iload_n (md := mX11_script) (pc := 2) 2 (kTab_at (pc := 2) tX11_script_ok 2 rfl) rfl ?_
  refine Z_callV (md := mX11_script) (pc := 3) (st := []) (sv := (fun x1 => [.int (iI x1)])) (kTab_at (pc := 3) tX11_script_ok 3 rfl) mv_X11_260 sk_248 rfl (Nat.le_of_ble_eq_true rfl) (by decide) rfl (c_X11_scriptRefusal X p1 p2 μ) (fun _ => rfl) h (fun μ x1 h => ?_) rfl
  refine K_if_le (md := mX11_script) (pc := 6) (kTab_at (pc := 6) tX11_script_ok 4 rfl) (tgt := 11) rfl h (fun h => ?_) (fun h => ?_)
  · refine K_aload_n (md := mX11_script) (pc := 11) 0 (kTab_at (pc := 11) tX11_script_ok 7 rfl) rfl ?_
    refine K_iload_n (md := mX11_script) (pc := 12) 1 (kTab_at (pc := 12) tX11_script_ok 8 rfl) rfl ?_
    refine K_iload_n (md := mX11_script) (pc := 13) 2 (kTab_at (pc := 13) tX11_script_ok 9 rfl) rfl ?_
    refine Z_callV (md := mX11_script) (pc := 14) (st := []) (sv := (fun _ => [])) (kTab_at (pc := 14) tX11_script_ok 10 rfl) mv_X11_108 sk_248 rfl (Nat.le_of_ble_eq_true rfl) (by decide) rfl (c_X11_finds X p1 p2 μ) (fun _ => rfl) h (fun μ _ h => ?_) rfl
    refine K_iload_n (md := mX11_script) (pc := 17) 3 (kTab_at (pc := 17) tX11_script_ok 11 rfl) rfl ?_
    refine K_tsw (md := mX11_script) (pc := 18) (dt := 86) (kTab_at (pc := 18) tX11_script_ok 12 rfl) rfl rfl h (And.intro (fun h => ⟨52, rfl, ?_⟩) (And.intro (fun h => ⟨59, rfl, ?_⟩) (And.intro (fun h => ⟨66, rfl, ?_⟩) (And.intro (fun h => ⟨71, rfl, ?_⟩) (And.intro (fun h => ⟨78, rfl, ?_⟩) (True.intro)))))) (fun h => ?_)
    · refine K_aload_n (md := mX11_script) (pc := 52) 0 (kTab_at (pc := 52) tX11_script_ok 13 rfl) rfl ?_
      refine K_iload_n (md := mX11_script) (pc := 53) 1 (kTab_at (pc := 53) tX11_script_ok 14 rfl) rfl ?_
      refine K_iload_n (md := mX11_script) (pc := 54) 2 (kTab_at (pc := 54) tX11_script_ok 15 rfl) rfl ?_
      refine Z_callV (md := mX11_script) (pc := 55) (st := []) (sv := (fun x2 => [.int (iI x2)])) (kTab_at (pc := 55) tX11_script_ok 16 rfl) mv_X11_118 sk_248 rfl (Nat.le_of_ble_eq_true rfl) (by decide) rfl (c_X11_settled X p1 p2 μ) (fun _ => rfl) h (fun μ x2 h => ?_) rfl
      exact Z_iret (md := mX11_script) (pc := 58) (kTab_at (pc := 58) tX11_script_ok 17 rfl) rfl rfl rfl h
    · refine K_aload_n (md := mX11_script) (pc := 59) 0 (kTab_at (pc := 59) tX11_script_ok 18 rfl) rfl ?_
      refine K_iload_n (md := mX11_script) (pc := 60) 1 (kTab_at (pc := 60) tX11_script_ok 19 rfl) rfl ?_
      refine K_iload_n (md := mX11_script) (pc := 61) 2 (kTab_at (pc := 61) tX11_script_ok 20 rfl) rfl ?_
      refine Z_callV (md := mX11_script) (pc := 62) (st := []) (sv := (fun x3 => [.int (iI x3)])) (kTab_at (pc := 62) tX11_script_ok 21 rfl) mv_X11_211 sk_248 rfl (Nat.le_of_ble_eq_true rfl) (by decide) rfl (c_X11_entries X p1 p2 μ) (fun _ => rfl) h (fun μ x3 h => ?_) rfl
      exact Z_iret (md := mX11_script) (pc := 65) (kTab_at (pc := 65) tX11_script_ok 22 rfl) rfl rfl rfl h
    · refine K_aload_n (md := mX11_script) (pc := 66) 0 (kTab_at (pc := 66) tX11_script_ok 23 rfl) rfl ?_
      refine Z_getI (md := mX11_script) (pc := 67) (kTab_at (pc := 67) tX11_script_ok 24 rfl) fl_X11_95 sk_248 (Or.inl rfl) h (fun x4 h => ?_)
      exact Z_iret (md := mX11_script) (pc := 70) (kTab_at (pc := 70) tX11_script_ok 25 rfl) rfl rfl rfl h
    · refine K_aload_n (md := mX11_script) (pc := 71) 0 (kTab_at (pc := 71) tX11_script_ok 26 rfl) rfl ?_
      refine K_iload_n (md := mX11_script) (pc := 72) 1 (kTab_at (pc := 72) tX11_script_ok 27 rfl) rfl ?_
      refine K_iload_n (md := mX11_script) (pc := 73) 2 (kTab_at (pc := 73) tX11_script_ok 28 rfl) rfl ?_
      refine Z_callV (md := mX11_script) (pc := 74) (st := []) (sv := (fun x5 => [.int (iI x5)])) (kTab_at (pc := 74) tX11_script_ok 29 rfl) mv_X11_266 sk_248 rfl (Nat.le_of_ble_eq_true rfl) (by decide) rfl (c_X11_state X p1 p2 μ) (fun _ => rfl) h (fun μ x5 h => ?_) rfl
      exact Z_iret (md := mX11_script) (pc := 77) (kTab_at (pc := 77) tX11_script_ok 30 rfl) rfl rfl rfl h
    · refine K_aload_n (md := mX11_script) (pc := 78) 0 (kTab_at (pc := 78) tX11_script_ok 31 rfl) rfl ?_
      refine K_iload_n (md := mX11_script) (pc := 79) 1 (kTab_at (pc := 79) tX11_script_ok 32 rfl) rfl ?_
      refine K_iload_n (md := mX11_script) (pc := 80) 2 (kTab_at (pc := 80) tX11_script_ok 33 rfl) rfl ?_
      refine K_iconst (md := mX11_script) (pc := 81) (x := 0) (kTab_at (pc := 81) tX11_script_ok 34 rfl) rfl ?_
      refine Z_callV (md := mX11_script) (pc := 82) (st := []) (sv := (fun x6 => [.int (iI x6)])) (kTab_at (pc := 82) tX11_script_ok 35 rfl) mv_X11_105 sk_248 rfl (Nat.le_of_ble_eq_true rfl) (by decide) rfl (c_X11_appealPart X p1 p2 0 μ) (fun _ => rfl) h (fun μ x6 h => ?_) rfl
      exact Z_iret (md := mX11_script) (pc := 85) (kTab_at (pc := 85) tX11_script_ok 36 rfl) rfl rfl rfl h
    · refine K_aload_n (md := mX11_script) (pc := 86) 0 (kTab_at (pc := 86) tX11_script_ok 37 rfl) rfl ?_
      refine K_iconst (md := mX11_script) (pc := 87) (x := 2) (kTab_at (pc := 87) tX11_script_ok 38 rfl) rfl ?_
      refine Z_callV (md := mX11_script) (pc := 88) (st := []) (sv := (fun x7 => [.int (iI x7)])) (kTab_at (pc := 88) tX11_script_ok 39 rfl) mv_X11_177 sk_248 rfl (Nat.le_of_ble_eq_true rfl) (by decide) rfl (c_X11_fails X 2 μ) (fun _ => rfl) h (fun μ x7 h => ?_) rfl
      exact Z_iret (md := mX11_script) (pc := 91) (kTab_at (pc := 91) tX11_script_ok 40 rfl) rfl rfl rfl h
  · refine K_iconst (md := mX11_script) (pc := 9) (x := 0) (kTab_at (pc := 9) tX11_script_ok 5 rfl) rfl ?_
    exact Z_iret (md := mX11_script) (pc := 10) (kTab_at (pc := 10) tX11_script_ok 6 rfl) rfl rfl rfl h

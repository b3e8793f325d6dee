def f_X11_publish_77  (k28 : Int → Int → Mu → Option Res) (v1 : Int) (v2 : Int) (μ : Mu) : Option Res := k28 v1 (v2 + 1) μ
set_option maxRecDepth 100000 in
theorem c_X11_publish_77 (X : kX)   {res : Res} (k28 : Int → Int → Mu → Option Res) (hk28 : ∀ (v1 : Int), ∀ (v2 : Int), ∀ (μ : Mu), k28 v1 v2 μ = some res → KK X mX11_publish 6 1 res 28 [(0, .ref (X.1 + 248)), (1, .int (iI v1)), (2, .int (iI v2))] [] μ) (v1 : Int) (v2 : Int) (μ : Mu) (h : f_X11_publish_77 k28 v1 v2 μ = some res) : KK X mX11_publish 6 1 res 77 [(0, .ref (X.1 + 248)), (1, .int (iI v1)), (2, .int (iI v2))] [] μ := by
  unfold f_X11_publish_77 at h
  refine K_iinc (md := mX11_publish) (pc := 77) (l' := [(2, .int (iI (v2 + 1))), (0, .ref (X.1 + 248)), (1, .int (iI v1))]) 2 (kTab_at (pc := 77) tX11_publish_ok 47 rfl) rfl (Nat.le_of_ble_eq_true rfl) rfl ?_
  refine K_goto (md := mX11_publish) (pc := 80) (tgt := 28) (kTab_at (pc := 80) tX11_publish_ok 48 rfl) rfl ?_
  refine K_sub [1, 2, 0] rfl ?_
  exact hk28 v1 (v2 + 1) μ h
def f_X11_publish_28  (k59 : Int → Int → Mu → Option Res) (k83 : Int → Mu → Option Res) : Nat → Int → Int → Mu → Option Res
  | 0, _, _, _ => none
  | fu + 1, v1, v2, μ => i_lt v2 5 (rb (f_X11_hasGrade v1 μ) fun μ x1 => i_eq x1 0 (f_X11_publish_77 (f_X11_publish_28 k59 k83 fu) v1 v2 μ) (rb (f_X11_isExcused v1 v2 μ) fun μ x2 => i_eq x2 0 (rb (f_X11_state v1 v2 μ) fun μ x3 => i_lt 0 x3 (k59 v1 v2 μ) (f_X11_publish_77 (f_X11_publish_28 k59 k83 fu) v1 v2 μ)) (f_X11_publish_77 (f_X11_publish_28 k59 k83 fu) v1 v2 μ))) (k83 v1 μ)
set_option maxRecDepth 100000 in
theorem c_X11_publish_28 (X : kX)   {res : Res} (k59 : Int → Int → Mu → Option Res) (hk59 : ∀ (v1 : Int), ∀ (v2 : Int), ∀ (μ : Mu), k59 v1 v2 μ = some res → KK X mX11_publish 6 1 res 59 [(0, .ref (X.1 + 248)), (1, .int (iI v1)), (2, .int (iI v2))] [] μ) (k83 : Int → Mu → Option Res) (hk83 : ∀ (v1 : Int), ∀ (μ : Mu), k83 v1 μ = some res → KK X mX11_publish 6 1 res 83 [(0, .ref (X.1 + 248)), (1, .int (iI v1))] [] μ) : ∀ (fu : Nat)  (v1 : Int) (v2 : Int) (μ : Mu), f_X11_publish_28 k59 k83 fu v1 v2 μ = some res → KK X mX11_publish 6 1 res 28 [(0, .ref (X.1 + 248)), (1, .int (iI v1)), (2, .int (iI v2))] [] μ := by
  intro fu
  induction fu with
  | zero => intro v1 v2 μ h; exact nomatch h
  | succ fu ih =>
    intro v1 v2 μ h
    refine K_iload_n (md := mX11_publish) (pc := 28) 2 (kTab_at (pc := 28) tX11_publish_ok 17 rfl) rfl ?_
    refine K_iconst (md := mX11_publish) (pc := 29) (x := 5) (kTab_at (pc := 29) tX11_publish_ok 18 rfl) rfl ?_
    refine K_icmp_ge (md := mX11_publish) (pc := 30) (kTab_at (pc := 30) tX11_publish_ok 19 rfl) (tgt := 83) rfl h (fun h => ?_) (fun h => ?_)
    · refine K_sub [0, 1] rfl ?_
      exact hk83 v1 μ h
    · refine K_aload_n (md := mX11_publish) (pc := 33) 0 (kTab_at (pc := 33) tX11_publish_ok 20 rfl) rfl ?_
      refine K_iload_n (md := mX11_publish) (pc := 34) 1 (kTab_at (pc := 34) tX11_publish_ok 21 rfl) rfl ?_
      refine Z_callV (md := mX11_publish) (pc := 35) (st := []) (sv := (fun x1 => [.int (iI x1)])) (kTab_at (pc := 35) tX11_publish_ok 22 rfl) mv_X11_115 sk_248 rfl (Nat.le_of_ble_eq_true rfl) (by decide) rfl (c_X11_hasGrade X v1 μ) (fun _ => rfl) h (fun μ x1 h => ?_) rfl
      refine K_if_eq (md := mX11_publish) (pc := 38) (kTab_at (pc := 38) tX11_publish_ok 23 rfl) (tgt := 77) rfl h (fun h => ?_) (fun h => ?_)
      · refine c_X11_publish_77 X  _ ih v1 v2 μ h
      · refine K_aload_n (md := mX11_publish) (pc := 41) 0 (kTab_at (pc := 41) tX11_publish_ok 24 rfl) rfl ?_
        refine K_iload_n (md := mX11_publish) (pc := 42) 1 (kTab_at (pc := 42) tX11_publish_ok 25 rfl) rfl ?_
        refine K_iload_n (md := mX11_publish) (pc := 43) 2 (kTab_at (pc := 43) tX11_publish_ok 26 rfl) rfl ?_
        refine Z_callV (md := mX11_publish) (pc := 44) (st := []) (sv := (fun x2 => [.int (iI x2)])) (kTab_at (pc := 44) tX11_publish_ok 27 rfl) mv_X11_121 sk_248 rfl (Nat.le_of_ble_eq_true rfl) (by decide) rfl (c_X11_isExcused X v1 v2 μ) (fun _ => rfl) h (fun μ x2 h => ?_) rfl
        refine K_if_ne (md := mX11_publish) (pc := 47) (kTab_at (pc := 47) tX11_publish_ok 28 rfl) (tgt := 77) rfl h (fun h => ?_) (fun h => ?_)
        · refine c_X11_publish_77 X  _ ih v1 v2 μ h
        · refine K_aload_n (md := mX11_publish) (pc := 50) 0 (kTab_at (pc := 50) tX11_publish_ok 29 rfl) rfl ?_
          refine K_iload_n (md := mX11_publish) (pc := 51) 1 (kTab_at (pc := 51) tX11_publish_ok 30 rfl) rfl ?_
          refine K_iload_n (md := mX11_publish) (pc := 52) 2 (kTab_at (pc := 52) tX11_publish_ok 31 rfl) rfl ?_
          refine Z_callV (md := mX11_publish) (pc := 53) (st := []) (sv := (fun x3 => [.int (iI x3)])) (kTab_at (pc := 53) tX11_publish_ok 32 rfl) mv_X11_266 sk_248 rfl (Nat.le_of_ble_eq_true rfl) (by decide) rfl (c_X11_state X v1 v2 μ) (fun _ => rfl) h (fun μ x3 h => ?_) rfl
          refine K_if_le (md := mX11_publish) (pc := 56) (kTab_at (pc := 56) tX11_publish_ok 33 rfl) (tgt := 77) rfl h (fun h => ?_) (fun h => ?_)
          · refine c_X11_publish_77 X  _ ih v1 v2 μ h
          · exact hk59 v1 v2 μ h
def f_X11_publish_20  (k59 : Int → Int → Mu → Option Res) (k89 : Mu → Option Res) : Nat → Int → Mu → Option Res
  | 0, _, _ => none
  | fu + 1, v1, μ => i_lt v1 8 (f_X11_publish_28 k59 (fun v1 μ => (f_X11_publish_20 k59 k89 fu) (v1 + 1) μ) FU v1 0 μ) (k89 μ)
set_option maxRecDepth 100000 in
theorem c_X11_publish_20 (X : kX)   {res : Res} (k59 : Int → Int → Mu → Option Res) (hk59 : ∀ (v1 : Int), ∀ (v2 : Int), ∀ (μ : Mu), k59 v1 v2 μ = some res → KK X mX11_publish 6 1 res 59 [(0, .ref (X.1 + 248)), (1, .int (iI v1)), (2, .int (iI v2))] [] μ) (k89 : Mu → Option Res) (hk89 : ∀ (μ : Mu), k89 μ = some res → KK X mX11_publish 6 1 res 89 [(0, .ref (X.1 + 248))] [] μ) : ∀ (fu : Nat)  (v1 : Int) (μ : Mu), f_X11_publish_20 k59 k89 fu v1 μ = some res → KK X mX11_publish 6 1 res 20 [(0, .ref (X.1 + 248)), (1, .int (iI v1))] [] μ := by
  intro fu
  induction fu with
  | zero => intro v1 μ h; exact nomatch h
  | succ fu ih =>
    intro v1 μ h
    refine K_iload_n (md := mX11_publish) (pc := 20) 1 (kTab_at (pc := 20) tX11_publish_ok 12 rfl) rfl ?_
    refine K_bipush (md := mX11_publish) (pc := 21) (x := 8) (kTab_at (pc := 21) tX11_publish_ok 13 rfl) (by decide) ?_
    refine K_icmp_ge (md := mX11_publish) (pc := 23) (kTab_at (pc := 23) tX11_publish_ok 14 rfl) (tgt := 89) rfl h (fun h => ?_) (fun h => ?_)
    · refine K_sub [0] rfl ?_
      exact hk89 μ h
    · refine K_iconst (md := mX11_publish) (pc := 26) (x := 0) (kTab_at (pc := 26) tX11_publish_ok 15 rfl) rfl ?_
      refine K_istore_n (md := mX11_publish) (pc := 27) (l' := [(2, .int (iI 0)), (0, .ref (X.1 + 248)), (1, .int (iI v1))]) (kTab_at (pc := 27) tX11_publish_ok 16 rfl) (Nat.le_of_ble_eq_true rfl) rfl ?_
      refine K_sub [1, 2, 0] rfl ?_
      refine c_X11_publish_28 X  _ hk59 _ ?_ _ v1 0 μ h
      · intro v1 μ h
        refine K_iinc (md := mX11_publish) (pc := 83) (l' := [(1, .int (iI (v1 + 1))), (0, .ref (X.1 + 248))]) 1 (kTab_at (pc := 83) tX11_publish_ok 49 rfl) rfl (Nat.le_of_ble_eq_true rfl) rfl ?_
        refine K_goto (md := mX11_publish) (pc := 86) (tgt := 20) (kTab_at (pc := 86) tX11_publish_ok 50 rfl) rfl ?_
        refine K_sub [1, 0] rfl ?_
        exact ih (v1 + 1) μ h
def f_X11_publish  (μ : Mu) : Option Res := wrF μ 248 0 0 fun μ => rb (f_X11_isPublished μ) fun μ x1 => i_eq x1 0 (f_X11_publish_20 (fun v1 v2 μ => rb (f_X11_state v1 v2 μ) fun μ x2 => rb (f_X11_reports 2 v1 (20 + x2) v2 2 μ) fun μ x3 => some (μ, 0, x3)) (fun μ => rb (f_X11_changes μ) fun μ _ => wrI μ 249 779 652 1 fun μ => rb (f_X11_withGrades μ) fun μ x4 => some (μ, 0, x4)) FU 0 μ) (rb (f_X11_fails 1 μ) fun μ x5 => some (μ, 0, x5))
set_option maxRecDepth 100000 in
theorem c_X11_publish (X : kX)   (μ : Mu) : Cq X mX11_publish 6 1 μ [.ref (X.1 + 248)] (f_X11_publish  μ) := by
  intro res h
  refine ct_of (by decide +kernel) rfl (Nat.le_of_ble_eq_true rfl) ?_
  show KK X mX11_publish 6 1 res 0 [(0, .ref (X.1 + 248))] [] μ
  unfold f_X11_publish at h
  refine K_aload_n (md := mX11_publish) (pc := 0) 0 (kTab_at (pc := 0) tX11_publish_ok 0 rfl) rfl ?_
  refine K_iconst (md := mX11_publish) (pc := 1) (x := 0) (kTab_at (pc := 1) tX11_publish_ok 1 rfl) rfl ?_
  refine Z_putI (md := mX11_publish) (pc := 2) (kTab_at (pc := 2) tX11_publish_ok 2 rfl) fl_X11_48 sk_248 rfl h (fun μ h => ?_)
  refine K_aload_n (md := mX11_publish) (pc := 5) 0 (kTab_at (pc := 5) tX11_publish_ok 3 rfl) rfl ?_
  refine Z_callV (md := mX11_publish) (pc := 6) (st := []) (sv := (fun x1 => [.int (iI x1)])) (kTab_at (pc := 6) tX11_publish_ok 4 rfl) mv_X11_183 sk_248 rfl (Nat.le_of_ble_eq_true rfl) (by decide) rfl (c_X11_isPublished X μ) (fun _ => rfl) h (fun μ x1 h => ?_) rfl
  refine K_if_eq (md := mX11_publish) (pc := 9) (kTab_at (pc := 9) tX11_publish_ok 5 rfl) (tgt := 18) rfl h (fun h => ?_) (fun h => ?_)
  · refine K_iconst (md := mX11_publish) (pc := 18) (x := 0) (kTab_at (pc := 18) tX11_publish_ok 10 rfl) rfl ?_
    refine K_istore_n (md := mX11_publish) (pc := 19) (l' := [(1, .int (iI 0)), (0, .ref (X.1 + 248))]) (kTab_at (pc := 19) tX11_publish_ok 11 rfl) (Nat.le_of_ble_eq_true rfl) rfl ?_
    refine K_sub [1, 0] rfl ?_
    refine c_X11_publish_20 X  _ ?_ _ ?_ _ 0 μ h
    · intro v1 v2 μ h
      refine K_aload_n (md := mX11_publish) (pc := 59) 0 (kTab_at (pc := 59) tX11_publish_ok 34 rfl) rfl ?_
      refine K_iconst (md := mX11_publish) (pc := 60) (x := 2) (kTab_at (pc := 60) tX11_publish_ok 35 rfl) rfl ?_
      refine K_iload_n (md := mX11_publish) (pc := 61) 1 (kTab_at (pc := 61) tX11_publish_ok 36 rfl) rfl ?_
      refine K_bipush (md := mX11_publish) (pc := 62) (x := 20) (kTab_at (pc := 62) tX11_publish_ok 37 rfl) (by decide) ?_
      refine K_aload_n (md := mX11_publish) (pc := 64) 0 (kTab_at (pc := 64) tX11_publish_ok 38 rfl) rfl ?_
      refine K_iload_n (md := mX11_publish) (pc := 65) 1 (kTab_at (pc := 65) tX11_publish_ok 39 rfl) rfl ?_
      refine K_iload_n (md := mX11_publish) (pc := 66) 2 (kTab_at (pc := 66) tX11_publish_ok 40 rfl) rfl ?_
      refine Z_callV (md := mX11_publish) (pc := 67) (st := [.int (iI 20), .int (iI v1), .int (iI 2), .ref (X.1 + 248)]) (sv := (fun x2 => [.int (iI x2), .int (iI 20), .int (iI v1), .int (iI 2), .ref (X.1 + 248)])) (kTab_at (pc := 67) tX11_publish_ok 41 rfl) mv_X11_266 sk_248 rfl (Nat.le_of_ble_eq_true rfl) (by decide) rfl (c_X11_state X v1 v2 μ) (fun _ => rfl) h (fun μ x2 h => ?_) rfl
      refine K_iadd (md := mX11_publish) (pc := 70) (kTab_at (pc := 70) tX11_publish_ok 42 rfl) ?_
      refine K_iload_n (md := mX11_publish) (pc := 71) 2 (kTab_at (pc := 71) tX11_publish_ok 43 rfl) rfl ?_
      refine K_iconst (md := mX11_publish) (pc := 72) (x := 2) (kTab_at (pc := 72) tX11_publish_ok 44 rfl) rfl ?_
      refine Z_callV (md := mX11_publish) (pc := 73) (st := []) (sv := (fun x3 => [.int (iI x3)])) (kTab_at (pc := 73) tX11_publish_ok 45 rfl) mv_X11_221 sk_248 rfl (Nat.le_of_ble_eq_true rfl) (by decide) rfl (c_X11_reports X 2 v1 (20 + x2) v2 2 μ) (fun _ => rfl) h (fun μ x3 h => ?_) rfl
      exact Z_iret (md := mX11_publish) (pc := 76) (kTab_at (pc := 76) tX11_publish_ok 46 rfl) rfl rfl rfl h
    · intro  μ h
      refine K_aload_n (md := mX11_publish) (pc := 89) 0 (kTab_at (pc := 89) tX11_publish_ok 51 rfl) rfl ?_
      refine Z_callV (md := mX11_publish) (pc := 90) (st := []) (sv := (fun _ => [])) (kTab_at (pc := 90) tX11_publish_ok 52 rfl) mv_X11_190 sk_248 rfl (Nat.le_of_ble_eq_true rfl) (by decide) rfl (c_X11_changes X μ) (fun _ => rfl) h (fun μ _ h => ?_) rfl
      refine K_aload_n (md := mX11_publish) (pc := 93) 0 (kTab_at (pc := 93) tX11_publish_ok 53 rfl) rfl ?_
      refine K_getR (md := mX11_publish) (pc := 94) (b := 249) (kTab_at (pc := 94) tX11_publish_ok 54 rfl) fl_X11_7 sk_248 rfl rfl ?_
      refine K_sipush (md := mX11_publish) (pc := 97) (x := 652) (kTab_at (pc := 97) tX11_publish_ok 55 rfl) (by decide) ?_
      refine K_iconst (md := mX11_publish) (pc := 100) (x := 1) (kTab_at (pc := 100) tX11_publish_ok 56 rfl) rfl ?_
      refine Z_iast (md := mX11_publish) (pc := 101) (kTab_at (pc := 101) tX11_publish_ok 57 rfl) sk_249 (by decide) h (fun μ h => ?_)
      refine K_aload_n (md := mX11_publish) (pc := 102) 0 (kTab_at (pc := 102) tX11_publish_ok 58 rfl) rfl ?_
      refine Z_callV (md := mX11_publish) (pc := 103) (st := []) (sv := (fun x4 => [.int (iI x4)])) (kTab_at (pc := 103) tX11_publish_ok 59 rfl) mv_X11_298 sk_248 rfl (Nat.le_of_ble_eq_true rfl) (by decide) rfl (c_X11_withGrades X μ) (fun _ => rfl) h (fun μ x4 h => ?_) rfl
      exact Z_iret (md := mX11_publish) (pc := 106) (kTab_at (pc := 106) tX11_publish_ok 60 rfl) rfl rfl rfl h
  · refine K_aload_n (md := mX11_publish) (pc := 12) 0 (kTab_at (pc := 12) tX11_publish_ok 6 rfl) rfl ?_
    refine K_iconst (md := mX11_publish) (pc := 13) (x := 1) (kTab_at (pc := 13) tX11_publish_ok 7 rfl) rfl ?_
    refine Z_callV (md := mX11_publish) (pc := 14) (st := []) (sv := (fun x5 => [.int (iI x5)])) (kTab_at (pc := 14) tX11_publish_ok 8 rfl) mv_X11_177 sk_248 rfl (Nat.le_of_ble_eq_true rfl) (by decide) rfl (c_X11_fails X 1 μ) (fun _ => rfl) h (fun μ x5 h => ?_) rfl
    exact Z_iret (md := mX11_publish) (pc := 17) (kTab_at (pc := 17) tX11_publish_ok 9 rfl) rfl rfl rfl h
def f_X11_appeals_35 (p1 : Int) (p2 : Int) (p3 : Int) (k6 : Int → Int → Mu → Option Res) (v5 : Int) (s0 : Int) (s1 : Int) (μ : Mu) : Option Res := bnd (s0 + s1) fun x1 => k6 x1 (v5 + 1) μ
set_option maxRecDepth 100000 in
theorem c_X11_appeals_35 (X : kX) (p1 : Int) (p2 : Int) (p3 : Int)  {res : Res} (k6 : Int → Int → Mu → Option Res) (hk6 : ∀ (v4 : Int), ∀ (v5 : Int), ∀ (μ : Mu), k6 v4 v5 μ = some res → KK X mX11_appeals 1 1 res 6 [(0, .ref (X.1 + 248)), (1, .int (iI p1)), (2, .int (iI p2)), (3, .int (iI p3)), (4, .int (iI v4)), (5, .int (iI v5))] [] μ) (v5 : Int) (s0 : Int) (s1 : Int) (μ : Mu) (h : f_X11_appeals_35 p1 p2 p3 k6 v5 s0 s1 μ = some res) : KK X mX11_appeals 1 1 res 35 [(0, .ref (X.1 + 248)), (1, .int (iI p1)), (2, .int (iI p2)), (3, .int (iI p3)), (5, .int (iI v5))] [.int (iI s1), .int (iI s0)] μ := by
  unfold f_X11_appeals_35 at h
  refine K_iadd (md := mX11_appeals) (pc := 35) (kTab_at (pc := 35) tX11_appeals_ok 20 rfl) ?_
  refine Z_bnd (md := mX11_appeals) (pc := 36) h (fun x1 h => ?_)
  refine K_istore (md := mX11_appeals) (pc := 36) (l' := [(4, .int (iI x1)), (0, .ref (X.1 + 248)), (1, .int (iI p1)), (2, .int (iI p2)), (3, .int (iI p3)), (5, .int (iI v5))]) (kTab_at (pc := 36) tX11_appeals_ok 21 rfl) (Nat.le_of_ble_eq_true rfl) rfl ?_
  refine K_iinc (md := mX11_appeals) (pc := 38) (l' := [(5, .int (iI (v5 + 1))), (4, .int (iI x1)), (0, .ref (X.1 + 248)), (1, .int (iI p1)), (2, .int (iI p2)), (3, .int (iI p3))]) 5 (kTab_at (pc := 38) tX11_appeals_ok 22 rfl) rfl (Nat.le_of_ble_eq_true rfl) rfl ?_
  refine K_goto (md := mX11_appeals) (pc := 41) (tgt := 6) (kTab_at (pc := 41) tX11_appeals_ok 23 rfl) rfl ?_
  refine K_sub [2, 3, 4, 5, 1, 0] rfl ?_
  exact hk6 x1 (v5 + 1) μ h
def f_X11_appeals_6 (p1 : Int) (p2 : Int) (p3 : Int) (k44 : Int → Mu → Option Res) : Nat → Int → Int → Mu → Option Res
  | 0, _, _, _ => none
  | fu + 1, v4, v5, μ => i_lt v5 5 (rb (f_X11_appealPart p1 v5 0 μ) fun μ x1 => rb (f_X11_in x1 p2 p3 μ) fun μ x2 => i_eq x2 0 (f_X11_appeals_35 p1 p2 p3 (f_X11_appeals_6 p1 p2 p3 k44 fu) v5 v4 0 μ) (f_X11_appeals_35 p1 p2 p3 (f_X11_appeals_6 p1 p2 p3 k44 fu) v5 v4 1 μ)) (k44 v4 μ)
set_option maxRecDepth 100000 in
theorem c_X11_appeals_6 (X : kX) (p1 : Int) (p2 : Int) (p3 : Int)  {res : Res} (k44 : Int → Mu → Option Res) (hk44 : ∀ (v4 : Int), ∀ (μ : Mu), k44 v4 μ = some res → KK X mX11_appeals 1 1 res 44 [(4, .int (iI v4))] [] μ) : ∀ (fu : Nat)  (v4 : Int) (v5 : Int) (μ : Mu), f_X11_appeals_6 p1 p2 p3 k44 fu v4 v5 μ = some res → KK X mX11_appeals 1 1 res 6 [(0, .ref (X.1 + 248)), (1, .int (iI p1)), (2, .int (iI p2)), (3, .int (iI p3)), (4, .int (iI v4)), (5, .int (iI v5))] [] μ := by
  intro fu
  induction fu with
  | zero => intro v4 v5 μ h; exact nomatch h
  | succ fu ih =>
    intro v4 v5 μ h
    refine K_iload (md := mX11_appeals) (pc := 6) 5 (kTab_at (pc := 6) tX11_appeals_ok 4 rfl) rfl ?_
    refine K_iconst (md := mX11_appeals) (pc := 8) (x := 5) (kTab_at (pc := 8) tX11_appeals_ok 5 rfl) rfl ?_
    refine K_icmp_ge (md := mX11_appeals) (pc := 9) (kTab_at (pc := 9) tX11_appeals_ok 6 rfl) (tgt := 44) rfl h (fun h => ?_) (fun h => ?_)
    · refine K_sub [4] rfl ?_
      exact hk44 v4 μ h
    · refine K_iload (md := mX11_appeals) (pc := 12) 4 (kTab_at (pc := 12) tX11_appeals_ok 7 rfl) rfl ?_
      refine K_aload_n (md := mX11_appeals) (pc := 14) 0 (kTab_at (pc := 14) tX11_appeals_ok 8 rfl) rfl ?_
      refine K_iload_n (md := mX11_appeals) (pc := 15) 1 (kTab_at (pc := 15) tX11_appeals_ok 9 rfl) rfl ?_
      refine K_iload (md := mX11_appeals) (pc := 16) 5 (kTab_at (pc := 16) tX11_appeals_ok 10 rfl) rfl ?_
      refine K_iconst (md := mX11_appeals) (pc := 18) (x := 0) (kTab_at (pc := 18) tX11_appeals_ok 11 rfl) rfl ?_
      refine Z_callV (md := mX11_appeals) (pc := 19) (st := [.int (iI v4)]) (sv := (fun x1 => [.int (iI x1), .int (iI v4)])) (kTab_at (pc := 19) tX11_appeals_ok 12 rfl) mv_X11_105 sk_248 rfl (Nat.le_of_ble_eq_true rfl) (by decide) rfl (c_X11_appealPart X p1 v5 0 μ) (fun _ => rfl) h (fun μ x1 h => ?_) rfl
      refine K_iload_n (md := mX11_appeals) (pc := 22) 2 (kTab_at (pc := 22) tX11_appeals_ok 13 rfl) rfl ?_
      refine K_iload_n (md := mX11_appeals) (pc := 23) 3 (kTab_at (pc := 23) tX11_appeals_ok 14 rfl) rfl ?_
      refine Z_callS (md := mX11_appeals) (pc := 24) (st := [.int (iI v4)]) (sv := (fun x2 => [.int (iI x2), .int (iI v4)])) (kTab_at (pc := 24) tX11_appeals_ok 15 rfl) ms_X11_51 rfl (Nat.le_of_ble_eq_true rfl) (by decide) rfl (c_X11_in X x1 p2 p3 μ) (fun _ => rfl) h (fun μ x2 h => ?_) rfl
      refine K_if_eq (md := mX11_appeals) (pc := 27) (kTab_at (pc := 27) tX11_appeals_ok 16 rfl) (tgt := 34) rfl h (fun h => ?_) (fun h => ?_)
      · refine K_iconst (md := mX11_appeals) (pc := 34) (x := 0) (kTab_at (pc := 34) tX11_appeals_ok 19 rfl) rfl ?_
        refine K_sub [0, 1, 2, 3, 5] rfl ?_
        refine c_X11_appeals_35 X p1 p2 p3 _ ih v5 v4 0 μ h
      · refine K_iconst (md := mX11_appeals) (pc := 30) (x := 1) (kTab_at (pc := 30) tX11_appeals_ok 17 rfl) rfl ?_
        refine K_goto (md := mX11_appeals) (pc := 31) (tgt := 35) (kTab_at (pc := 31) tX11_appeals_ok 18 rfl) rfl ?_
        refine K_sub [0, 1, 2, 3, 5] rfl ?_
        refine c_X11_appeals_35 X p1 p2 p3 _ ih v5 v4 1 μ h
def f_X11_appeals (p1 : Int) (p2 : Int) (p3 : Int) (μ : Mu) : Option Res := f_X11_appeals_6 p1 p2 p3 (fun v4 μ => some (μ, 0, v4)) FU 0 0 μ
set_option maxRecDepth 100000 in
theorem c_X11_appeals (X : kX) (p1 : Int) (p2 : Int) (p3 : Int)  (μ : Mu) : Cq X mX11_appeals 1 1 μ [.ref (X.1 + 248), .int (iI p1), .int (iI p2), .int (iI p3)] (f_X11_appeals p1 p2 p3 μ) := by
  intro res h
  refine ct_of (by decide +kernel) rfl (Nat.le_of_ble_eq_true rfl) ?_
  show KK X mX11_appeals 1 1 res 0 [(0, .ref (X.1 + 248)), (1, .int (iI p1)), (2, .int (iI p2)), (3, .int (iI p3))] [] μ
  unfold f_X11_appeals at h
  refine K_iconst (md := mX11_appeals) (pc := 0) (x := 0) (kTab_at (pc := 0) tX11_appeals_ok 0 rfl) rfl ?_
  refine K_istore (md := mX11_appeals) (pc := 1) (l' := [(4, .int (iI 0)), (0, .ref (X.1 + 248)), (1, .int (iI p1)), (2, .int (iI p2)), (3, .int (iI p3))]) (kTab_at (pc := 1) tX11_appeals_ok 1 rfl) (Nat.le_of_ble_eq_true rfl) rfl ?_
  refine K_iconst (md := mX11_appeals) (pc := 3) (x := 0) (kTab_at (pc := 3) tX11_appeals_ok 2 rfl) rfl ?_
  refine K_istore (md := mX11_appeals) (pc := 4) (l' := [(5, .int (iI 0)), (4, .int (iI 0)), (0, .ref (X.1 + 248)), (1, .int (iI p1)), (2, .int (iI p2)), (3, .int (iI p3))]) (kTab_at (pc := 4) tX11_appeals_ok 3 rfl) (Nat.le_of_ble_eq_true rfl) rfl ?_
  refine K_sub [2, 3, 4, 5, 1, 0] rfl ?_
  refine c_X11_appeals_6 X p1 p2 p3 _ ?_ _ 0 0 μ h
  · intro v4 μ h
    refine K_iload (md := mX11_appeals) (pc := 44) 0 (kTab_at (pc := 44) tX11_appeals_ok 24 rfl) rfl ?_
    exact Z_iret (md := mX11_appeals) (pc := 46) (kTab_at (pc := 46) tX11_appeals_ok 25 rfl) rfl rfl rfl h
def f_X11_allAppeals_5 (p1 : Int) (p2 : Int) (k29 : Int → Mu → Option Res) : Nat → Int → Int → Mu → Option Res
  | 0, _, _, _ => none
  | fu + 1, v3, v4, μ => i_lt v4 8 (rb (f_X11_appeals v4 p1 p2 μ) fun μ x1 => bnd (v3 + x1) fun x2 => (f_X11_allAppeals_5 p1 p2 k29 fu) x2 (v4 + 1) μ) (k29 v3 μ)
set_option maxRecDepth 100000 in
theorem c_X11_allAppeals_5 (X : kX) (p1 : Int) (p2 : Int)  {res : Res} (k29 : Int → Mu → Option Res) (hk29 : ∀ (v3 : Int), ∀ (μ : Mu), k29 v3 μ = some res → KK X mX11_allAppeals 2 1 res 29 [(3, .int (iI v3))] [] μ) : ∀ (fu : Nat)  (v3 : Int) (v4 : Int) (μ : Mu), f_X11_allAppeals_5 p1 p2 k29 fu v3 v4 μ = some res → KK X mX11_allAppeals 2 1 res 5 [(0, .ref (X.1 + 248)), (1, .int (iI p1)), (2, .int (iI p2)), (3, .int (iI v3)), (4, .int (iI v4))] [] μ := by
  intro fu
  induction fu with
  | zero => intro v3 v4 μ h; exact nomatch h
  | succ fu ih =>
    intro v3 v4 μ h
    refine K_iload (md := mX11_allAppeals) (pc := 5) 4 (kTab_at (pc := 5) tX11_allAppeals_ok 4 rfl) rfl ?_
    refine K_bipush (md := mX11_allAppeals) (pc := 7) (x := 8) (kTab_at (pc := 7) tX11_allAppeals_ok 5 rfl) (by decide) ?_
    refine K_icmp_ge (md := mX11_allAppeals) (pc := 9) (kTab_at (pc := 9) tX11_allAppeals_ok 6 rfl) (tgt := 29) rfl h (fun h => ?_) (fun h => ?_)
    · refine K_sub [3] rfl ?_
      exact hk29 v3 μ h
    · refine K_iload_n (md := mX11_allAppeals) (pc := 12) 3 (kTab_at (pc := 12) tX11_allAppeals_ok 7 rfl) rfl ?_
      refine K_aload_n (md := mX11_allAppeals) (pc := 13) 0 (kTab_at (pc := 13) tX11_allAppeals_ok 8 rfl) rfl ?_
      refine K_iload (md := mX11_allAppeals) (pc := 14) 4 (kTab_at (pc := 14) tX11_allAppeals_ok 9 rfl) rfl ?_
      refine K_iload_n (md := mX11_allAppeals) (pc := 16) 1 (kTab_at (pc := 16) tX11_allAppeals_ok 10 rfl) rfl ?_
      refine K_iload_n (md := mX11_allAppeals) (pc := 17) 2 (kTab_at (pc := 17) tX11_allAppeals_ok 11 rfl) rfl ?_
      refine Z_callV (md := mX11_allAppeals) (pc := 18) (st := [.int (iI v3)]) (sv := (fun x1 => [.int (iI x1), .int (iI v3)])) (kTab_at (pc := 18) tX11_allAppeals_ok 12 rfl) mv_X11_301 sk_248 rfl (Nat.le_of_ble_eq_true rfl) (by decide) rfl (c_X11_appeals X v4 p1 p2 μ) (fun _ => rfl) h (fun μ x1 h => ?_) rfl
      refine K_iadd (md := mX11_allAppeals) (pc := 21) (kTab_at (pc := 21) tX11_allAppeals_ok 13 rfl) ?_
      refine Z_bnd (md := mX11_allAppeals) (pc := 22) h (fun x2 h => ?_)
      refine K_istore_n (md := mX11_allAppeals) (pc := 22) (l' := [(3, .int (iI x2)), (0, .ref (X.1 + 248)), (1, .int (iI p1)), (2, .int (iI p2)), (4, .int (iI v4))]) (kTab_at (pc := 22) tX11_allAppeals_ok 14 rfl) (Nat.le_of_ble_eq_true rfl) rfl ?_
      refine K_iinc (md := mX11_allAppeals) (pc := 23) (l' := [(4, .int (iI (v4 + 1))), (3, .int (iI x2)), (0, .ref (X.1 + 248)), (1, .int (iI p1)), (2, .int (iI p2))]) 4 (kTab_at (pc := 23) tX11_allAppeals_ok 15 rfl) rfl (Nat.le_of_ble_eq_true rfl) rfl ?_
      refine K_goto (md := mX11_allAppeals) (pc := 26) (tgt := 5) (kTab_at (pc := 26) tX11_allAppeals_ok 16 rfl) rfl ?_
      refine K_sub [2, 3, 4, 1, 0] rfl ?_
      exact ih x2 (v4 + 1) μ h
def f_X11_allAppeals (p1 : Int) (p2 : Int) (μ : Mu) : Option Res := f_X11_allAppeals_5 p1 p2 (fun v3 μ => some (μ, 0, v3)) FU 0 0 μ
set_option maxRecDepth 100000 in
theorem c_X11_allAppeals (X : kX) (p1 : Int) (p2 : Int)  (μ : Mu) : Cq X mX11_allAppeals 2 1 μ [.ref (X.1 + 248), .int (iI p1), .int (iI p2)] (f_X11_allAppeals p1 p2 μ) := by
  intro res h
  refine ct_of (by decide +kernel) rfl (Nat.le_of_ble_eq_true rfl) ?_
  show KK X mX11_allAppeals 2 1 res 0 [(0, .ref (X.1 + 248)), (1, .int (iI p1)), (2, .int (iI p2))] [] μ
  unfold f_X11_allAppeals at h
  refine K_iconst (md := mX11_allAppeals) (pc := 0) (x := 0) (kTab_at (pc := 0) tX11_allAppeals_ok 0 rfl) rfl ?_
  refine K_istore_n (md := mX11_allAppeals) (pc := 1) (l' := [(3, .int (iI 0)), (0, .ref (X.1 + 248)), (1, .int (iI p1)), (2, .int (iI p2))]) (kTab_at (pc := 1) tX11_allAppeals_ok 1 rfl) (Nat.le_of_ble_eq_true rfl) rfl ?_
  refine K_iconst (md := mX11_allAppeals) (pc := 2) (x := 0) (kTab_at (pc := 2) tX11_allAppeals_ok 2 rfl) rfl ?_
  refine K_istore (md := mX11_allAppeals) (pc := 3) (l' := [(4, .int (iI 0)), (3, .int (iI 0)), (0, .ref (X.1 + 248)), (1, .int (iI p1)), (2, .int (iI p2))]) (kTab_at (pc := 3) tX11_allAppeals_ok 3 rfl) (Nat.le_of_ble_eq_true rfl) rfl ?_
  refine K_sub [2, 3, 4, 1, 0] rfl ?_
  refine c_X11_allAppeals_5 X p1 p2 _ ?_ _ 0 0 μ h
  · intro v3 μ h
    refine K_iload_n (md := mX11_allAppeals) (pc := 29) 0 (kTab_at (pc := 29) tX11_allAppeals_ok 17 rfl) rfl ?_
    exact Z_iret (md := mX11_allAppeals) (pc := 30) (kTab_at (pc := 30) tX11_allAppeals_ok 18 rfl) rfl rfl rfl h
def f_X11_withdraw  (μ : Mu) : Option Res := wrF μ 248 0 0 fun μ => rb (f_X11_isPublished μ) fun μ x1 => i_eq x1 0 (rb (f_X11_fails 1 μ) fun μ x5 => some (μ, 0, x5)) (rb (f_X11_allAppeals 1 3 μ) fun μ x2 => i_lt 0 x2 (rb (f_X11_fails 2 μ) fun μ x4 => some (μ, 0, x4)) (rb (f_X11_changes μ) fun μ _ => wrI μ 249 779 652 0 fun μ => rb (f_X11_withGrades μ) fun μ x3 => some (μ, 0, x3)))
set_option maxRecDepth 100000 in
theorem c_X11_withdraw (X : kX)   (μ : Mu) : Cq X mX11_withdraw 3 1 μ [.ref (X.1 + 248)] (f_X11_withdraw  μ) := by
  intro res h
  refine ct_of (by decide +kernel) rfl (Nat.le_of_ble_eq_true rfl) ?_
  show KK X mX11_withdraw 3 1 res 0 [(0, .ref (X.1 + 248))] [] μ
  unfold f_X11_withdraw at h
  refine K_aload_n (md := mX11_withdraw) (pc := 0) 0 (kTab_at (pc := 0) tX11_withdraw_ok 0 rfl) rfl ?_
  refine K_iconst (md := mX11_withdraw) (pc := 1) (x := 0) (kTab_at (pc := 1) tX11_withdraw_ok 1 rfl) rfl ?_
  refine Z_putI (md := mX11_withdraw) (pc := 2) (kTab_at (pc := 2) tX11_withdraw_ok 2 rfl) fl_X11_48 sk_248 rfl h (fun μ h => ?_)
  refine K_aload_n (md := mX11_withdraw) (pc := 5) 0 (kTab_at (pc := 5) tX11_withdraw_ok 3 rfl) rfl ?_
  refine Z_callV (md := mX11_withdraw) (pc := 6) (st := []) (sv := (fun x1 => [.int (iI x1)])) (kTab_at (pc := 6) tX11_withdraw_ok 4 rfl) mv_X11_183 sk_248 rfl (Nat.le_of_ble_eq_true rfl) (by decide) rfl (c_X11_isPublished X μ) (fun _ => rfl) h (fun μ x1 h => ?_) rfl
  refine K_if_ne (md := mX11_withdraw) (pc := 9) (kTab_at (pc := 9) tX11_withdraw_ok 5 rfl) (tgt := 18) rfl h (fun h => ?_) (fun h => ?_)
  · refine K_aload_n (md := mX11_withdraw) (pc := 18) 0 (kTab_at (pc := 18) tX11_withdraw_ok 10 rfl) rfl ?_
    refine K_iconst (md := mX11_withdraw) (pc := 19) (x := 1) (kTab_at (pc := 19) tX11_withdraw_ok 11 rfl) rfl ?_
    refine K_iconst (md := mX11_withdraw) (pc := 20) (x := 3) (kTab_at (pc := 20) tX11_withdraw_ok 12 rfl) rfl ?_
    refine Z_callV (md := mX11_withdraw) (pc := 21) (st := []) (sv := (fun x2 => [.int (iI x2)])) (kTab_at (pc := 21) tX11_withdraw_ok 13 rfl) mv_X11_304 sk_248 rfl (Nat.le_of_ble_eq_true rfl) (by decide) rfl (c_X11_allAppeals X 1 3 μ) (fun _ => rfl) h (fun μ x2 h => ?_) rfl
    refine K_if_le (md := mX11_withdraw) (pc := 24) (kTab_at (pc := 24) tX11_withdraw_ok 14 rfl) (tgt := 33) rfl h (fun h => ?_) (fun h => ?_)
    · refine K_aload_n (md := mX11_withdraw) (pc := 33) 0 (kTab_at (pc := 33) tX11_withdraw_ok 19 rfl) rfl ?_
      refine Z_callV (md := mX11_withdraw) (pc := 34) (st := []) (sv := (fun _ => [])) (kTab_at (pc := 34) tX11_withdraw_ok 20 rfl) mv_X11_190 sk_248 rfl (Nat.le_of_ble_eq_true rfl) (by decide) rfl (c_X11_changes X μ) (fun _ => rfl) h (fun μ _ h => ?_) rfl
      refine K_aload_n (md := mX11_withdraw) (pc := 37) 0 (kTab_at (pc := 37) tX11_withdraw_ok 21 rfl) rfl ?_
      refine K_getR (md := mX11_withdraw) (pc := 38) (b := 249) (kTab_at (pc := 38) tX11_withdraw_ok 22 rfl) fl_X11_7 sk_248 rfl rfl ?_
      refine K_sipush (md := mX11_withdraw) (pc := 41) (x := 652) (kTab_at (pc := 41) tX11_withdraw_ok 23 rfl) (by decide) ?_
      refine K_iconst (md := mX11_withdraw) (pc := 44) (x := 0) (kTab_at (pc := 44) tX11_withdraw_ok 24 rfl) rfl ?_
      refine Z_iast (md := mX11_withdraw) (pc := 45) (kTab_at (pc := 45) tX11_withdraw_ok 25 rfl) sk_249 (by decide) h (fun μ h => ?_)
      refine K_aload_n (md := mX11_withdraw) (pc := 46) 0 (kTab_at (pc := 46) tX11_withdraw_ok 26 rfl) rfl ?_
      refine Z_callV (md := mX11_withdraw) (pc := 47) (st := []) (sv := (fun x3 => [.int (iI x3)])) (kTab_at (pc := 47) tX11_withdraw_ok 27 rfl) mv_X11_298 sk_248 rfl (Nat.le_of_ble_eq_true rfl) (by decide) rfl (c_X11_withGrades X μ) (fun _ => rfl) h (fun μ x3 h => ?_) rfl
      exact Z_iret (md := mX11_withdraw) (pc := 50) (kTab_at (pc := 50) tX11_withdraw_ok 28 rfl) rfl rfl rfl h
    · refine K_aload_n (md := mX11_withdraw) (pc := 27) 0 (kTab_at (pc := 27) tX11_withdraw_ok 15 rfl) rfl ?_
      refine K_iconst (md := mX11_withdraw) (pc := 28) (x := 2) (kTab_at (pc := 28) tX11_withdraw_ok 16 rfl) rfl ?_
      refine Z_callV (md := mX11_withdraw) (pc := 29) (st := []) (sv := (fun x4 => [.int (iI x4)])) (kTab_at (pc := 29) tX11_withdraw_ok 17 rfl) mv_X11_177 sk_248 rfl (Nat.le_of_ble_eq_true rfl) (by decide) rfl (c_X11_fails X 2 μ) (fun _ => rfl) h (fun μ x4 h => ?_) rfl
      exact Z_iret (md := mX11_withdraw) (pc := 32) (kTab_at (pc := 32) tX11_withdraw_ok 18 rfl) rfl rfl rfl h
  · refine K_aload_n (md := mX11_withdraw) (pc := 12) 0 (kTab_at (pc := 12) tX11_withdraw_ok 6 rfl) rfl ?_
    refine K_iconst (md := mX11_withdraw) (pc := 13) (x := 1) (kTab_at (pc := 13) tX11_withdraw_ok 7 rfl) rfl ?_
    refine Z_callV (md := mX11_withdraw) (pc := 14) (st := []) (sv := (fun x5 => [.int (iI x5)])) (kTab_at (pc := 14) tX11_withdraw_ok 8 rfl) mv_X11_177 sk_248 rfl (Nat.le_of_ble_eq_true rfl) (by decide) rfl (c_X11_fails X 1 μ) (fun _ => rfl) h (fun μ x5 h => ?_) rfl
    exact Z_iret (md := mX11_withdraw) (pc := 17) (kTab_at (pc := 17) tX11_withdraw_ok 9 rfl) rfl rfl rfl h
def f_X11_appeal (p1 : Int) (p2 : Int) (μ : Mu) : Option Res := rb (f_X11_scriptRefusal p1 p2 μ) fun μ x1 => i_lt 0 x1 (some (μ, 0, 0)) (rb (f_X11_isPublished μ) fun μ x2 => i_eq x2 0 (rb (f_X11_reports 3 p1 31 0 2 μ) fun μ x14 => some (μ, 0, x14)) (rb (f_X11_hasGrade p1 μ) fun μ x3 => i_eq x3 0 (rb (f_X11_reports 3 p1 32 p1 2 μ) fun μ x13 => some (μ, 0, x13)) (rb (f_X11_appealPart p1 p2 0 μ) fun μ x4 => i_lt 0 x4 (rb (f_X11_reports 3 p1 33 p2 2 μ) fun μ x12 => some (μ, 0, x12)) (rb (f_X11_appeals p1 1 3 μ) fun μ x5 => i_eq x5 3 (rb (f_X11_reports 3 p1 34 3 2 μ) fun μ x11 => some (μ, 0, x11)) (rb (f_X11_changes μ) fun μ _ => bnd ((653 + (15 * p1)) + (3 * p2)) fun x6 => wrI μ 249 779 x6 1 fun μ => rb (f_X11_setting 4 μ) fun μ x7 => wrI μ 249 779 (x6 + 1) x7 fun μ => rdI μ 249 779 773 fun x8 => rb (f_X11_setting 4 μ) fun μ x9 => wrI μ 249 779 773 (x8 + x9) fun μ => rb (f_X11_setting 4 μ) fun μ x10 => some (μ, 0, x10))))))
set_option maxRecDepth 100000 in
theorem c_X11_appeal (X : kX) (p1 : Int) (p2 : Int)  (μ : Mu) : Cq X mX11_appeal 3 1 μ [.ref (X.1 + 248), .int (iI p1), .int (iI p2)] (f_X11_appeal p1 p2 μ) := by
  intro res h
  refine ct_of (by decide +kernel) rfl (Nat.le_of_ble_eq_true rfl) ?_
  show KK X mX11_appeal 3 1 res 0 [(0, .ref (X.1 + 248)), (1, .int (iI p1)), (2, .int (iI p2))] [] μ
  unfold f_X11_appeal at h
  refine K_aload_n (md := mX11_appeal) (pc := 0) 0 (kTab_at (pc := 0) tX11_appeal_ok 0 rfl) rfl ?_
  refine K_iload_n (md := mX11_appeal) (pc := 1) 1 (kTab_at (pc := 1) tX11_appeal_ok 1 rfl) rfl ?_
  refine K_iload_n (md := mX11_appeal) (pc := 2) 2 (kTab_at (pc := 2) tX11_appeal_ok 2 rfl) rfl ?_
  refine Z_callV (md := mX11_appeal) (pc := 3) (st := []) (sv := (fun x1 => [.int (iI x1)])) (kTab_at (pc := 3) tX11_appeal_ok 3 rfl) mv_X11_260 sk_248 rfl (Nat.le_of_ble_eq_true rfl) (by decide) rfl (c_X11_scriptRefusal X p1 p2 μ) (fun _ => rfl) h (fun μ x1 h => ?_) rfl
  refine K_if_le (md := mX11_appeal) (pc := 6) (kTab_at (pc := 6) tX11_appeal_ok 4 rfl) (tgt := 11) rfl h (fun h => ?_) (fun h => ?_)
  · refine K_aload_n (md := mX11_appeal) (pc := 11) 0 (kTab_at (pc := 11) tX11_appeal_ok 7 rfl) rfl ?_
    refine Z_callV (md := mX11_appeal) (pc := 12) (st := []) (sv := (fun x2 => [.int (iI x2)])) (kTab_at (pc := 12) tX11_appeal_ok 8 rfl) mv_X11_183 sk_248 rfl (Nat.le_of_ble_eq_true rfl) (by decide) rfl (c_X11_isPublished X μ) (fun _ => rfl) h (fun μ x2 h => ?_) rfl
    refine K_if_ne (md := mX11_appeal) (pc := 15) (kTab_at (pc := 15) tX11_appeal_ok 9 rfl) (tgt := 29) rfl h (fun h => ?_) (fun h => ?_)
    · refine K_aload_n (md := mX11_appeal) (pc := 29) 0 (kTab_at (pc := 29) tX11_appeal_ok 18 rfl) rfl ?_
      refine K_iload_n (md := mX11_appeal) (pc := 30) 1 (kTab_at (pc := 30) tX11_appeal_ok 19 rfl) rfl ?_
      refine Z_callV (md := mX11_appeal) (pc := 31) (st := []) (sv := (fun x3 => [.int (iI x3)])) (kTab_at (pc := 31) tX11_appeal_ok 20 rfl) mv_X11_115 sk_248 rfl (Nat.le_of_ble_eq_true rfl) (by decide) rfl (c_X11_hasGrade X p1 μ) (fun _ => rfl) h (fun μ x3 h => ?_) rfl
      refine K_if_ne (md := mX11_appeal) (pc := 34) (kTab_at (pc := 34) tX11_appeal_ok 21 rfl) (tgt := 48) rfl h (fun h => ?_) (fun h => ?_)
      · refine K_aload_n (md := mX11_appeal) (pc := 48) 0 (kTab_at (pc := 48) tX11_appeal_ok 30 rfl) rfl ?_
        refine K_iload_n (md := mX11_appeal) (pc := 49) 1 (kTab_at (pc := 49) tX11_appeal_ok 31 rfl) rfl ?_
        refine K_iload_n (md := mX11_appeal) (pc := 50) 2 (kTab_at (pc := 50) tX11_appeal_ok 32 rfl) rfl ?_
        refine K_iconst (md := mX11_appeal) (pc := 51) (x := 0) (kTab_at (pc := 51) tX11_appeal_ok 33 rfl) rfl ?_
        refine Z_callV (md := mX11_appeal) (pc := 52) (st := []) (sv := (fun x4 => [.int (iI x4)])) (kTab_at (pc := 52) tX11_appeal_ok 34 rfl) mv_X11_105 sk_248 rfl (Nat.le_of_ble_eq_true rfl) (by decide) rfl (c_X11_appealPart X p1 p2 0 μ) (fun _ => rfl) h (fun μ x4 h => ?_) rfl
        refine K_if_le (md := mX11_appeal) (pc := 55) (kTab_at (pc := 55) tX11_appeal_ok 35 rfl) (tgt := 69) rfl h (fun h => ?_) (fun h => ?_)
        · refine K_aload_n (md := mX11_appeal) (pc := 69) 0 (kTab_at (pc := 69) tX11_appeal_ok 44 rfl) rfl ?_
          refine K_iload_n (md := mX11_appeal) (pc := 70) 1 (kTab_at (pc := 70) tX11_appeal_ok 45 rfl) rfl ?_
          refine K_iconst (md := mX11_appeal) (pc := 71) (x := 1) (kTab_at (pc := 71) tX11_appeal_ok 46 rfl) rfl ?_
          refine K_iconst (md := mX11_appeal) (pc := 72) (x := 3) (kTab_at (pc := 72) tX11_appeal_ok 47 rfl) rfl ?_
          refine Z_callV (md := mX11_appeal) (pc := 73) (st := []) (sv := (fun x5 => [.int (iI x5)])) (kTab_at (pc := 73) tX11_appeal_ok 48 rfl) mv_X11_301 sk_248 rfl (Nat.le_of_ble_eq_true rfl) (by decide) rfl (c_X11_appeals X p1 1 3 μ) (fun _ => rfl) h (fun μ x5 h => ?_) rfl
          refine K_iconst (md := mX11_appeal) (pc := 76) (x := 3) (kTab_at (pc := 76) tX11_appeal_ok 49 rfl) rfl ?_
          refine K_icmp_ne (md := mX11_appeal) (pc := 77) (kTab_at (pc := 77) tX11_appeal_ok 50 rfl) (tgt := 91) rfl h (fun h => ?_) (fun h => ?_)
          · refine K_aload_n (md := mX11_appeal) (pc := 91) 0 (kTab_at (pc := 91) tX11_appeal_ok 59 rfl) rfl ?_
            refine Z_callV (md := mX11_appeal) (pc := 92) (st := []) (sv := (fun _ => [])) (kTab_at (pc := 92) tX11_appeal_ok 60 rfl) mv_X11_190 sk_248 rfl (Nat.le_of_ble_eq_true rfl) (by decide) rfl (c_X11_changes X μ) (fun _ => rfl) h (fun μ _ h => ?_) rfl
            refine K_sipush (md := mX11_appeal) (pc := 95) (x := 653) (kTab_at (pc := 95) tX11_appeal_ok 61 rfl) (by decide) ?_
            refine K_bipush (md := mX11_appeal) (pc := 98) (x := 15) (kTab_at (pc := 98) tX11_appeal_ok 62 rfl) (by decide) ?_
            refine K_iload_n (md := mX11_appeal) (pc := 100) 1 (kTab_at (pc := 100) tX11_appeal_ok 63 rfl) rfl ?_
            refine K_imul (md := mX11_appeal) (pc := 101) (kTab_at (pc := 101) tX11_appeal_ok 64 rfl) ?_
            refine K_iadd (md := mX11_appeal) (pc := 102) (kTab_at (pc := 102) tX11_appeal_ok 65 rfl) ?_
            refine K_iconst (md := mX11_appeal) (pc := 103) (x := 3) (kTab_at (pc := 103) tX11_appeal_ok 66 rfl) rfl ?_
            refine K_iload_n (md := mX11_appeal) (pc := 104) 2 (kTab_at (pc := 104) tX11_appeal_ok 67 rfl) rfl ?_
            refine K_imul (md := mX11_appeal) (pc := 105) (kTab_at (pc := 105) tX11_appeal_ok 68 rfl) ?_
            refine K_iadd (md := mX11_appeal) (pc := 106) (kTab_at (pc := 106) tX11_appeal_ok 69 rfl) ?_
            refine Z_bnd (md := mX11_appeal) (pc := 107) h (fun x6 h => ?_)
            refine K_istore_n (md := mX11_appeal) (pc := 107) (l' := [(3, .int (iI x6)), (0, .ref (X.1 + 248)), (1, .int (iI p1)), (2, .int (iI p2))]) (kTab_at (pc := 107) tX11_appeal_ok 70 rfl) (Nat.le_of_ble_eq_true rfl) rfl ?_
            refine K_aload_n (md := mX11_appeal) (pc := 108) 1 (kTab_at (pc := 108) tX11_appeal_ok 71 rfl) rfl ?_
            refine K_getR (md := mX11_appeal) (pc := 109) (b := 249) (kTab_at (pc := 109) tX11_appeal_ok 72 rfl) fl_X11_7 sk_248 rfl rfl ?_
            refine K_iload_n (md := mX11_appeal) (pc := 112) 0 (kTab_at (pc := 112) tX11_appeal_ok 73 rfl) rfl ?_
            refine K_iconst (md := mX11_appeal) (pc := 113) (x := 1) (kTab_at (pc := 113) tX11_appeal_ok 74 rfl) rfl ?_
            refine Z_iast (md := mX11_appeal) (pc := 114) (kTab_at (pc := 114) tX11_appeal_ok 75 rfl) sk_249 (by decide) h (fun μ h => ?_)
            refine K_aload_n (md := mX11_appeal) (pc := 115) 1 (kTab_at (pc := 115) tX11_appeal_ok 76 rfl) rfl ?_
            refine K_getR (md := mX11_appeal) (pc := 116) (b := 249) (kTab_at (pc := 116) tX11_appeal_ok 77 rfl) fl_X11_7 sk_248 rfl rfl ?_
            refine K_iload_n (md := mX11_appeal) (pc := 119) 0 (kTab_at (pc := 119) tX11_appeal_ok 78 rfl) rfl ?_
            refine K_iconst (md := mX11_appeal) (pc := 120) (x := 1) (kTab_at (pc := 120) tX11_appeal_ok 79 rfl) rfl ?_
            refine K_iadd (md := mX11_appeal) (pc := 121) (kTab_at (pc := 121) tX11_appeal_ok 80 rfl) ?_
            refine K_aload_n (md := mX11_appeal) (pc := 122) 1 (kTab_at (pc := 122) tX11_appeal_ok 81 rfl) rfl ?_
            refine K_iconst (md := mX11_appeal) (pc := 123) (x := 4) (kTab_at (pc := 123) tX11_appeal_ok 82 rfl) rfl ?_
            refine Z_callV (md := mX11_appeal) (pc := 124) (st := [.int (iI (x6 + 1)), .ref (X.1 + 249)]) (sv := (fun x7 => [.int (iI x7), .int (iI (x6 + 1)), .ref (X.1 + 249)])) (kTab_at (pc := 124) tX11_appeal_ok 83 rfl) mv_X11_78 sk_248 rfl (Nat.le_of_ble_eq_true rfl) (by decide) rfl (c_X11_setting X 4 μ) (fun _ => rfl) h (fun μ x7 h => ?_) rfl
            refine Z_iast (md := mX11_appeal) (pc := 127) (kTab_at (pc := 127) tX11_appeal_ok 84 rfl) sk_249 (by decide) h (fun μ h => ?_)
            refine K_aload_n (md := mX11_appeal) (pc := 128) 1 (kTab_at (pc := 128) tX11_appeal_ok 85 rfl) rfl ?_
            refine K_getR (md := mX11_appeal) (pc := 129) (b := 249) (kTab_at (pc := 129) tX11_appeal_ok 86 rfl) fl_X11_7 sk_248 rfl rfl ?_
            refine K_sipush (md := mX11_appeal) (pc := 132) (x := 773) (kTab_at (pc := 132) tX11_appeal_ok 87 rfl) (by decide) ?_
            refine K_dup2 (md := mX11_appeal) (pc := 135) (kTab_at (pc := 135) tX11_appeal_ok 88 rfl) rfl rfl ?_
            refine Z_iald (md := mX11_appeal) (pc := 136) (kTab_at (pc := 136) tX11_appeal_ok 89 rfl) sk_249 (by decide) h (fun x8 h => ?_)
            refine K_aload_n (md := mX11_appeal) (pc := 137) 1 (kTab_at (pc := 137) tX11_appeal_ok 90 rfl) rfl ?_
            refine K_iconst (md := mX11_appeal) (pc := 138) (x := 4) (kTab_at (pc := 138) tX11_appeal_ok 91 rfl) rfl ?_
            refine Z_callV (md := mX11_appeal) (pc := 139) (st := [.int (iI x8), .int (iI 773), .ref (X.1 + 249)]) (sv := (fun x9 => [.int (iI x9), .int (iI x8), .int (iI 773), .ref (X.1 + 249)])) (kTab_at (pc := 139) tX11_appeal_ok 92 rfl) mv_X11_78 sk_248 rfl (Nat.le_of_ble_eq_true rfl) (by decide) rfl (c_X11_setting X 4 μ) (fun _ => rfl) h (fun μ x9 h => ?_) rfl
            refine K_iadd (md := mX11_appeal) (pc := 142) (kTab_at (pc := 142) tX11_appeal_ok 93 rfl) ?_
            refine Z_iast (md := mX11_appeal) (pc := 143) (kTab_at (pc := 143) tX11_appeal_ok 94 rfl) sk_249 (by decide) h (fun μ h => ?_)
            refine K_aload_n (md := mX11_appeal) (pc := 144) 1 (kTab_at (pc := 144) tX11_appeal_ok 95 rfl) rfl ?_
            refine K_iconst (md := mX11_appeal) (pc := 145) (x := 4) (kTab_at (pc := 145) tX11_appeal_ok 96 rfl) rfl ?_
            refine Z_callV (md := mX11_appeal) (pc := 146) (st := []) (sv := (fun x10 => [.int (iI x10)])) (kTab_at (pc := 146) tX11_appeal_ok 97 rfl) mv_X11_78 sk_248 rfl (Nat.le_of_ble_eq_true rfl) (by decide) rfl (c_X11_setting X 4 μ) (fun _ => rfl) h (fun μ x10 h => ?_) rfl
            exact Z_iret (md := mX11_appeal) (pc := 149) (kTab_at (pc := 149) tX11_appeal_ok 98 rfl) rfl rfl rfl h
          · refine K_aload_n (md := mX11_appeal) (pc := 80) 0 (kTab_at (pc := 80) tX11_appeal_ok 51 rfl) rfl ?_
            refine K_iconst (md := mX11_appeal) (pc := 81) (x := 3) (kTab_at (pc := 81) tX11_appeal_ok 52 rfl) rfl ?_
            refine K_iload_n (md := mX11_appeal) (pc := 82) 1 (kTab_at (pc := 82) tX11_appeal_ok 53 rfl) rfl ?_
            refine K_bipush (md := mX11_appeal) (pc := 83) (x := 34) (kTab_at (pc := 83) tX11_appeal_ok 54 rfl) (by decide) ?_
            refine K_iconst (md := mX11_appeal) (pc := 85) (x := 3) (kTab_at (pc := 85) tX11_appeal_ok 55 rfl) rfl ?_
            refine K_iconst (md := mX11_appeal) (pc := 86) (x := 2) (kTab_at (pc := 86) tX11_appeal_ok 56 rfl) rfl ?_
            refine Z_callV (md := mX11_appeal) (pc := 87) (st := []) (sv := (fun x11 => [.int (iI x11)])) (kTab_at (pc := 87) tX11_appeal_ok 57 rfl) mv_X11_221 sk_248 rfl (Nat.le_of_ble_eq_true rfl) (by decide) rfl (c_X11_reports X 3 p1 34 3 2 μ) (fun _ => rfl) h (fun μ x11 h => ?_) rfl
            exact Z_iret (md := mX11_appeal) (pc := 90) (kTab_at (pc := 90) tX11_appeal_ok 58 rfl) rfl rfl rfl h
        · refine K_aload_n (md := mX11_appeal) (pc := 58) 0 (kTab_at (pc := 58) tX11_appeal_ok 36 rfl) rfl ?_
          refine K_iconst (md := mX11_appeal) (pc := 59) (x := 3) (kTab_at (pc := 59) tX11_appeal_ok 37 rfl) rfl ?_
          refine K_iload_n (md := mX11_appeal) (pc := 60) 1 (kTab_at (pc := 60) tX11_appeal_ok 38 rfl) rfl ?_
          refine K_bipush (md := mX11_appeal) (pc := 61) (x := 33) (kTab_at (pc := 61) tX11_appeal_ok 39 rfl) (by decide) ?_
          refine K_iload_n (md := mX11_appeal) (pc := 63) 2 (kTab_at (pc := 63) tX11_appeal_ok 40 rfl) rfl ?_
          refine K_iconst (md := mX11_appeal) (pc := 64) (x := 2) (kTab_at (pc := 64) tX11_appeal_ok 41 rfl) rfl ?_
          refine Z_callV (md := mX11_appeal) (pc := 65) (st := []) (sv := (fun x12 => [.int (iI x12)])) (kTab_at (pc := 65) tX11_appeal_ok 42 rfl) mv_X11_221 sk_248 rfl (Nat.le_of_ble_eq_true rfl) (by decide) rfl (c_X11_reports X 3 p1 33 p2 2 μ) (fun _ => rfl) h (fun μ x12 h => ?_) rfl
          exact Z_iret (md := mX11_appeal) (pc := 68) (kTab_at (pc := 68) tX11_appeal_ok 43 rfl) rfl rfl rfl h
      · refine K_aload_n (md := mX11_appeal) (pc := 37) 0 (kTab_at (pc := 37) tX11_appeal_ok 22 rfl) rfl ?_
        refine K_iconst (md := mX11_appeal) (pc := 38) (x := 3) (kTab_at (pc := 38) tX11_appeal_ok 23 rfl) rfl ?_
        refine K_iload_n (md := mX11_appeal) (pc := 39) 1 (kTab_at (pc := 39) tX11_appeal_ok 24 rfl) rfl ?_
        refine K_bipush (md := mX11_appeal) (pc := 40) (x := 32) (kTab_at (pc := 40) tX11_appeal_ok 25 rfl) (by decide) ?_
        refine K_iload_n (md := mX11_appeal) (pc := 42) 1 (kTab_at (pc := 42) tX11_appeal_ok 26 rfl) rfl ?_
        refine K_iconst (md := mX11_appeal) (pc := 43) (x := 2) (kTab_at (pc := 43) tX11_appeal_ok 27 rfl) rfl ?_
        refine Z_callV (md := mX11_appeal) (pc := 44) (st := []) (sv := (fun x13 => [.int (iI x13)])) (kTab_at (pc := 44) tX11_appeal_ok 28 rfl) mv_X11_221 sk_248 rfl (Nat.le_of_ble_eq_true rfl) (by decide) rfl (c_X11_reports X 3 p1 32 p1 2 μ) (fun _ => rfl) h (fun μ x13 h => ?_) rfl
        exact Z_iret (md := mX11_appeal) (pc := 47) (kTab_at (pc := 47) tX11_appeal_ok 29 rfl) rfl rfl rfl h
    · refine K_aload_n (md := mX11_appeal) (pc := 18) 0 (kTab_at (pc := 18) tX11_appeal_ok 10 rfl) rfl ?_
      refine K_iconst (md := mX11_appeal) (pc := 19) (x := 3) (kTab_at (pc := 19) tX11_appeal_ok 11 rfl) rfl ?_
      refine K_iload_n (md := mX11_appeal) (pc := 20) 1 (kTab_at (pc := 20) tX11_appeal_ok 12 rfl) rfl ?_
      refine K_bipush (md := mX11_appeal) (pc := 21) (x := 31) (kTab_at (pc := 21) tX11_appeal_ok 13 rfl) (by decide) ?_
      refine K_iconst (md := mX11_appeal) (pc := 23) (x := 0) (kTab_at (pc := 23) tX11_appeal_ok 14 rfl) rfl ?_
      refine K_iconst (md := mX11_appeal) (pc := 24) (x := 2) (kTab_at (pc := 24) tX11_appeal_ok 15 rfl) rfl ?_
      refine Z_callV (md := mX11_appeal) (pc := 25) (st := []) (sv := (fun x14 => [.int (iI x14)])) (kTab_at (pc := 25) tX11_appeal_ok 16 rfl) mv_X11_221 sk_248 rfl (Nat.le_of_ble_eq_true rfl) (by decide) rfl (c_X11_reports X 3 p1 31 0 2 μ) (fun _ => rfl) h (fun μ x14 h => ?_) rfl
      exact Z_iret (md := mX11_appeal) (pc := 28) (kTab_at (pc := 28) tX11_appeal_ok 17 rfl) rfl rfl rfl h
  · refine K_iconst (md := mX11_appeal) (pc := 9) (x := 0) (kTab_at (pc := 9) tX11_appeal_ok 5 rfl) rfl ?_
    exact Z_iret (md := mX11_appeal) (pc := 10) (kTab_at (pc := 10) tX11_appeal_ok 6 rfl) rfl rfl rfl h
def f_X11_remark_26 (p1 : Int) (p2 : Int) (p3 : Int) (p4 : Int)   (μ : Mu) : Option Res := rb (f_X11_fails 1 μ) fun μ x1 => some (μ, 0, x1)
set_option maxRecDepth 100000 in
theorem c_X11_remark_26 (X : kX) (p1 : Int) (p2 : Int) (p3 : Int) (p4 : Int)  {res : Res}  (μ : Mu) (h : f_X11_remark_26 p1 p2 p3 p4 μ = some res) : KK X mX11_remark 8 1 res 26 [(0, .ref (X.1 + 248))] [] μ := by
  unfold f_X11_remark_26 at h
  refine K_aload_n (md := mX11_remark) (pc := 26) 0 (kTab_at (pc := 26) tX11_remark_ok 12 rfl) rfl ?_
  refine K_iconst (md := mX11_remark) (pc := 27) (x := 1) (kTab_at (pc := 27) tX11_remark_ok 13 rfl) rfl ?_
  refine Z_callV (md := mX11_remark) (pc := 28) (st := []) (sv := (fun x1 => [.int (iI x1)])) (kTab_at (pc := 28) tX11_remark_ok 14 rfl) mv_X11_177 sk_248 rfl (Nat.le_of_ble_eq_true rfl) (by decide) rfl (c_X11_fails X 1 μ) (fun _ => rfl) h (fun μ x1 h => ?_) rfl
  exact Z_iret (md := mX11_remark) (pc := 31) (kTab_at (pc := 31) tX11_remark_ok 15 rfl) rfl rfl rfl h
def f_X11_remark_182 (p1 : Int) (p2 : Int) (p3 : Int) (p4 : Int)  (v5 : Int) (v6 : Int) (s1 : Int) (s2 : Int) (μ : Mu) : Option Res := wrI μ 249 779 s1 s2 fun μ => rb (f_X11_pays p1 p3 μ) fun μ _ => rb (f_X11_gradeOf p2 μ) fun μ x1 => i_lt x1 v5 (rdI μ 249 779 774 fun x2 => rdI μ 249 779 (v6 + 1) fun x3 => wrI μ 249 779 774 (x2 + x3) fun μ => rdI μ 249 779 (v6 + 1) fun x4 => some (μ, 0, x4)) (some (μ, 0, 0))
set_option maxRecDepth 100000 in
theorem c_X11_remark_182 (X : kX) (p1 : Int) (p2 : Int) (p3 : Int) (p4 : Int)  {res : Res}  (v5 : Int) (v6 : Int) (s1 : Int) (s2 : Int) (μ : Mu) (h : f_X11_remark_182 p1 p2 p3 p4 v5 v6 s1 s2 μ = some res) : KK X mX11_remark 8 1 res 182 [(0, .ref (X.1 + 248)), (1, .int (iI p1)), (2, .int (iI p2)), (3, .int (iI p3)), (5, .int (iI v5)), (6, .int (iI v6))] [.int (iI s2), .int (iI s1), .ref (X.1 + 249)] μ := by
  unfold f_X11_remark_182 at h
  refine Z_iast (md := mX11_remark) (pc := 182) (kTab_at (pc := 182) tX11_remark_ok 111 rfl) sk_249 (by decide) h (fun μ h => ?_)
  refine K_aload_n (md := mX11_remark) (pc := 183) 0 (kTab_at (pc := 183) tX11_remark_ok 112 rfl) rfl ?_
  refine K_iload_n (md := mX11_remark) (pc := 184) 1 (kTab_at (pc := 184) tX11_remark_ok 113 rfl) rfl ?_
  refine K_iload_n (md := mX11_remark) (pc := 185) 3 (kTab_at (pc := 185) tX11_remark_ok 114 rfl) rfl ?_
  refine Z_callV (md := mX11_remark) (pc := 186) (st := []) (sv := (fun _ => [])) (kTab_at (pc := 186) tX11_remark_ok 115 rfl) mv_X11_199 sk_248 rfl (Nat.le_of_ble_eq_true rfl) (by decide) rfl (c_X11_pays X p1 p3 μ) (fun _ => rfl) h (fun μ _ h => ?_) rfl
  refine K_aload_n (md := mX11_remark) (pc := 189) 0 (kTab_at (pc := 189) tX11_remark_ok 116 rfl) rfl ?_
  refine K_iload_n (md := mX11_remark) (pc := 190) 2 (kTab_at (pc := 190) tX11_remark_ok 117 rfl) rfl ?_
  refine Z_callV (md := mX11_remark) (pc := 191) (st := []) (sv := (fun x1 => [.int (iI x1)])) (kTab_at (pc := 191) tX11_remark_ok 118 rfl) mv_X11_278 sk_248 rfl (Nat.le_of_ble_eq_true rfl) (by decide) rfl (c_X11_gradeOf X p2 μ) (fun _ => rfl) h (fun μ x1 h => ?_) rfl
  refine K_iload (md := mX11_remark) (pc := 194) 4 (kTab_at (pc := 194) tX11_remark_ok 119 rfl) rfl ?_
  refine K_icmp_lt (md := mX11_remark) (pc := 196) (kTab_at (pc := 196) tX11_remark_ok 120 rfl) (tgt := 201) rfl h (fun h => ?_) (fun h => ?_)
  · refine K_aload_n (md := mX11_remark) (pc := 201) 0 (kTab_at (pc := 201) tX11_remark_ok 123 rfl) rfl ?_
    refine K_getR (md := mX11_remark) (pc := 202) (b := 249) (kTab_at (pc := 202) tX11_remark_ok 124 rfl) fl_X11_7 sk_248 rfl rfl ?_
    refine K_sipush (md := mX11_remark) (pc := 205) (x := 774) (kTab_at (pc := 205) tX11_remark_ok 125 rfl) (by decide) ?_
    refine K_dup2 (md := mX11_remark) (pc := 208) (kTab_at (pc := 208) tX11_remark_ok 126 rfl) rfl rfl ?_
    refine Z_iald (md := mX11_remark) (pc := 209) (kTab_at (pc := 209) tX11_remark_ok 127 rfl) sk_249 (by decide) h (fun x2 h => ?_)
    refine K_aload_n (md := mX11_remark) (pc := 210) 0 (kTab_at (pc := 210) tX11_remark_ok 128 rfl) rfl ?_
    refine K_getR (md := mX11_remark) (pc := 211) (b := 249) (kTab_at (pc := 211) tX11_remark_ok 129 rfl) fl_X11_7 sk_248 rfl rfl ?_
    refine K_iload (md := mX11_remark) (pc := 214) 5 (kTab_at (pc := 214) tX11_remark_ok 130 rfl) rfl ?_
    refine K_iconst (md := mX11_remark) (pc := 216) (x := 1) (kTab_at (pc := 216) tX11_remark_ok 131 rfl) rfl ?_
    refine K_iadd (md := mX11_remark) (pc := 217) (kTab_at (pc := 217) tX11_remark_ok 132 rfl) ?_
    refine Z_iald (md := mX11_remark) (pc := 218) (kTab_at (pc := 218) tX11_remark_ok 133 rfl) sk_249 (by decide) h (fun x3 h => ?_)
    refine K_iadd (md := mX11_remark) (pc := 219) (kTab_at (pc := 219) tX11_remark_ok 134 rfl) ?_
    refine Z_iast (md := mX11_remark) (pc := 220) (kTab_at (pc := 220) tX11_remark_ok 135 rfl) sk_249 (by decide) h (fun μ h => ?_)
    refine K_aload_n (md := mX11_remark) (pc := 221) 0 (kTab_at (pc := 221) tX11_remark_ok 136 rfl) rfl ?_
    refine K_getR (md := mX11_remark) (pc := 222) (b := 249) (kTab_at (pc := 222) tX11_remark_ok 137 rfl) fl_X11_7 sk_248 rfl rfl ?_
    refine K_iload (md := mX11_remark) (pc := 225) 5 (kTab_at (pc := 225) tX11_remark_ok 138 rfl) rfl ?_
    refine K_iconst (md := mX11_remark) (pc := 227) (x := 1) (kTab_at (pc := 227) tX11_remark_ok 139 rfl) rfl ?_
    refine K_iadd (md := mX11_remark) (pc := 228) (kTab_at (pc := 228) tX11_remark_ok 140 rfl) ?_
    refine Z_iald (md := mX11_remark) (pc := 229) (kTab_at (pc := 229) tX11_remark_ok 141 rfl) sk_249 (by decide) h (fun x4 h => ?_)
    exact Z_iret (md := mX11_remark) (pc := 230) (kTab_at (pc := 230) tX11_remark_ok 142 rfl) rfl rfl rfl h
  · refine K_iconst (md := mX11_remark) (pc := 199) (x := 0) (kTab_at (pc := 199) tX11_remark_ok 121 rfl) rfl ?_
    exact Z_iret (md := mX11_remark) (pc := 200) (kTab_at (pc := 200) tX11_remark_ok 122 rfl) rfl rfl rfl h
def f_X11_remark (p1 : Int) (p2 : Int) (p3 : Int) (p4 : Int) (μ : Mu) : Option Res := wrF μ 248 0 0 fun μ => rb (f_X11_isMarker p1 μ) fun μ x1 => i_eq x1 0 (f_X11_remark_26 p1 p2 p3 p4 μ) (rb (f_X11_isCandidate p2 μ) fun μ x2 => i_eq x2 0 (f_X11_remark_26 p1 p2 p3 p4 μ) (rb (f_X11_isQuestion p3 μ) fun μ x3 => i_eq x3 0 (f_X11_remark_26 p1 p2 p3 p4 μ) (i_lt p4 0 (rb (f_X11_fails 2 μ) fun μ x15 => some (μ, 0, x15)) (rb (f_X11_appealPart p2 p3 0 μ) fun μ x4 => i_eq x4 1 (rdI μ 249 779 (0 + p3) fun x5 => i_lt x5 p4 (rdI μ 249 779 (0 + p3) fun x12 => rb (f_X11_reports 4 p2 42 x12 3 μ) fun μ x13 => some (μ, 0, x13)) (rb (f_X11_hasEntered p1 p2 p3 μ) fun μ x6 => i_eq x6 0 (rb (f_X11_changes μ) fun μ _ => rb (f_X11_gradeOf p2 μ) fun μ x7 => bnd ((653 + (15 * p2)) + (3 * p3)) fun x8 => wrI μ 249 779 (x8 + 2) p4 fun μ => rb (f_X11_settled p2 p3 μ) fun μ x9 => rb (f_X11_agree (p4 * 120) x9 μ) fun μ x10 => i_eq x10 0 (f_X11_remark_182 p1 p2 p3 p4 x7 x8 x8 3 μ) (f_X11_remark_182 p1 p2 p3 p4 x7 x8 x8 2 μ)) (rb (f_X11_reports 4 p2 43 p1 3 μ) fun μ x11 => some (μ, 0, x11)))) (rb (f_X11_reports 4 p2 41 p3 3 μ) fun μ x14 => some (μ, 0, x14))))))
set_option maxRecDepth 100000 in
theorem c_X11_remark (X : kX) (p1 : Int) (p2 : Int) (p3 : Int) (p4 : Int)  (μ : Mu) : Cq X mX11_remark 8 1 μ [.ref (X.1 + 248), .int (iI p1), .int (iI p2), .int (iI p3), .int (iI p4)] (f_X11_remark p1 p2 p3 p4 μ) := by
  intro res h
  refine ct_of (by decide +kernel) rfl (Nat.le_of_ble_eq_true rfl) ?_
  show KK X mX11_remark 8 1 res 0 [(0, .ref (X.1 + 248)), (1, .int (iI p1)), (2, .int (iI p2)), (3, .int (iI p3)), (4, .int (iI p4))] [] μ
  unfold f_X11_remark at h
  refine K_aload_n (md := mX11_remark) (pc := 0) 0 (kTab_at (pc := 0) tX11_remark_ok 0 rfl) rfl ?_
  refine K_iconst (md := mX11_remark) (pc := 1) (x := 0) (kTab_at (pc := 1) tX11_remark_ok 1 rfl) rfl ?_
  refine Z_putI (md := mX11_remark) (pc := 2) (kTab_at (pc := 2) tX11_remark_ok 2 rfl) fl_X11_48 sk_248 rfl h (fun μ h => ?_)
  refine K_iload_n (md := mX11_remark) (pc := 5) 1 (kTab_at (pc := 5) tX11_remark_ok 3 rfl) rfl ?_
  refine Z_callS (md := mX11_remark) (pc := 6) (st := []) (sv := (fun x1 => [.int (iI x1)])) (kTab_at (pc := 6) tX11_remark_ok 4 rfl) ms_X11_196 rfl (Nat.le_of_ble_eq_true rfl) (by decide) rfl (c_X11_isMarker X p1 μ) (fun _ => rfl) h (fun μ x1 h => ?_) rfl
  refine K_if_eq (md := mX11_remark) (pc := 9) (kTab_at (pc := 9) tX11_remark_ok 5 rfl) (tgt := 26) rfl h (fun h => ?_) (fun h => ?_)
  · refine K_sub [0] rfl ?_
    refine c_X11_remark_26 X p1 p2 p3 p4  μ h
  · refine K_iload_n (md := mX11_remark) (pc := 12) 2 (kTab_at (pc := 12) tX11_remark_ok 6 rfl) rfl ?_
    refine Z_callS (md := mX11_remark) (pc := 13) (st := []) (sv := (fun x2 => [.int (iI x2)])) (kTab_at (pc := 13) tX11_remark_ok 7 rfl) ms_X11_214 rfl (Nat.le_of_ble_eq_true rfl) (by decide) rfl (c_X11_isCandidate X p2 μ) (fun _ => rfl) h (fun μ x2 h => ?_) rfl
    refine K_if_eq (md := mX11_remark) (pc := 16) (kTab_at (pc := 16) tX11_remark_ok 8 rfl) (tgt := 26) rfl h (fun h => ?_) (fun h => ?_)
    · refine K_sub [0] rfl ?_
      refine c_X11_remark_26 X p1 p2 p3 p4  μ h
    · refine K_iload_n (md := mX11_remark) (pc := 19) 3 (kTab_at (pc := 19) tX11_remark_ok 9 rfl) rfl ?_
      refine Z_callS (md := mX11_remark) (pc := 20) (st := []) (sv := (fun x3 => [.int (iI x3)])) (kTab_at (pc := 20) tX11_remark_ok 10 rfl) ms_X11_180 rfl (Nat.le_of_ble_eq_true rfl) (by decide) rfl (c_X11_isQuestion X p3 μ) (fun _ => rfl) h (fun μ x3 h => ?_) rfl
      refine K_if_ne (md := mX11_remark) (pc := 23) (kTab_at (pc := 23) tX11_remark_ok 11 rfl) (tgt := 32) rfl h (fun h => ?_) (fun h => ?_)
      · refine K_iload (md := mX11_remark) (pc := 32) 4 (kTab_at (pc := 32) tX11_remark_ok 16 rfl) rfl ?_
        refine K_if_ge (md := mX11_remark) (pc := 34) (kTab_at (pc := 34) tX11_remark_ok 17 rfl) (tgt := 43) rfl h (fun h => ?_) (fun h => ?_)
        · refine K_aload_n (md := mX11_remark) (pc := 43) 0 (kTab_at (pc := 43) tX11_remark_ok 22 rfl) rfl ?_
          refine K_iload_n (md := mX11_remark) (pc := 44) 2 (kTab_at (pc := 44) tX11_remark_ok 23 rfl) rfl ?_
          refine K_iload_n (md := mX11_remark) (pc := 45) 3 (kTab_at (pc := 45) tX11_remark_ok 24 rfl) rfl ?_
          refine K_iconst (md := mX11_remark) (pc := 46) (x := 0) (kTab_at (pc := 46) tX11_remark_ok 25 rfl) rfl ?_
          refine Z_callV (md := mX11_remark) (pc := 47) (st := []) (sv := (fun x4 => [.int (iI x4)])) (kTab_at (pc := 47) tX11_remark_ok 26 rfl) mv_X11_105 sk_248 rfl (Nat.le_of_ble_eq_true rfl) (by decide) rfl (c_X11_appealPart X p2 p3 0 μ) (fun _ => rfl) h (fun μ x4 h => ?_) rfl
          refine K_iconst (md := mX11_remark) (pc := 50) (x := 1) (kTab_at (pc := 50) tX11_remark_ok 27 rfl) rfl ?_
          refine K_icmp_eq (md := mX11_remark) (pc := 51) (kTab_at (pc := 51) tX11_remark_ok 28 rfl) (tgt := 65) rfl h (fun h => ?_) (fun h => ?_)
          · refine K_iload (md := mX11_remark) (pc := 65) 4 (kTab_at (pc := 65) tX11_remark_ok 37 rfl) rfl ?_
            refine K_aload_n (md := mX11_remark) (pc := 67) 0 (kTab_at (pc := 67) tX11_remark_ok 38 rfl) rfl ?_
            refine K_getR (md := mX11_remark) (pc := 68) (b := 249) (kTab_at (pc := 68) tX11_remark_ok 39 rfl) fl_X11_7 sk_248 rfl rfl ?_
            refine K_iconst (md := mX11_remark) (pc := 71) (x := 0) (kTab_at (pc := 71) tX11_remark_ok 40 rfl) rfl ?_
            refine K_iload_n (md := mX11_remark) (pc := 72) 3 (kTab_at (pc := 72) tX11_remark_ok 41 rfl) rfl ?_
            refine K_iadd (md := mX11_remark) (pc := 73) (kTab_at (pc := 73) tX11_remark_ok 42 rfl) ?_
            refine Z_iald (md := mX11_remark) (pc := 74) (kTab_at (pc := 74) tX11_remark_ok 43 rfl) sk_249 (by decide) h (fun x5 h => ?_)
            refine K_icmp_le (md := mX11_remark) (pc := 75) (kTab_at (pc := 75) tX11_remark_ok 44 rfl) (tgt := 96) rfl h (fun h => ?_) (fun h => ?_)
            · refine K_aload_n (md := mX11_remark) (pc := 96) 0 (kTab_at (pc := 96) tX11_remark_ok 58 rfl) rfl ?_
              refine K_iload_n (md := mX11_remark) (pc := 97) 1 (kTab_at (pc := 97) tX11_remark_ok 59 rfl) rfl ?_
              refine K_iload_n (md := mX11_remark) (pc := 98) 2 (kTab_at (pc := 98) tX11_remark_ok 60 rfl) rfl ?_
              refine K_iload_n (md := mX11_remark) (pc := 99) 3 (kTab_at (pc := 99) tX11_remark_ok 61 rfl) rfl ?_
              refine Z_callV (md := mX11_remark) (pc := 100) (st := []) (sv := (fun x6 => [.int (iI x6)])) (kTab_at (pc := 100) tX11_remark_ok 62 rfl) mv_X11_208 sk_248 rfl (Nat.le_of_ble_eq_true rfl) (by decide) rfl (c_X11_hasEntered X p1 p2 p3 μ) (fun _ => rfl) h (fun μ x6 h => ?_) rfl
              refine K_if_eq (md := mX11_remark) (pc := 103) (kTab_at (pc := 103) tX11_remark_ok 63 rfl) (tgt := 117) rfl h (fun h => ?_) (fun h => ?_)
              · refine K_aload_n (md := mX11_remark) (pc := 117) 0 (kTab_at (pc := 117) tX11_remark_ok 72 rfl) rfl ?_
                refine Z_callV (md := mX11_remark) (pc := 118) (st := []) (sv := (fun _ => [])) (kTab_at (pc := 118) tX11_remark_ok 73 rfl) mv_X11_190 sk_248 rfl (Nat.le_of_ble_eq_true rfl) (by decide) rfl (c_X11_changes X μ) (fun _ => rfl) h (fun μ _ h => ?_) rfl
                refine K_aload_n (md := mX11_remark) (pc := 121) 0 (kTab_at (pc := 121) tX11_remark_ok 74 rfl) rfl ?_
                refine K_iload_n (md := mX11_remark) (pc := 122) 2 (kTab_at (pc := 122) tX11_remark_ok 75 rfl) rfl ?_
                refine Z_callV (md := mX11_remark) (pc := 123) (st := []) (sv := (fun x7 => [.int (iI x7)])) (kTab_at (pc := 123) tX11_remark_ok 76 rfl) mv_X11_278 sk_248 rfl (Nat.le_of_ble_eq_true rfl) (by decide) rfl (c_X11_gradeOf X p2 μ) (fun _ => rfl) h (fun μ x7 h => ?_) rfl
                refine K_istore (md := mX11_remark) (pc := 126) (l' := [(5, .int (iI x7)), (0, .ref (X.1 + 248)), (1, .int (iI p1)), (2, .int (iI p2)), (3, .int (iI p3)), (4, .int (iI p4))]) (kTab_at (pc := 126) tX11_remark_ok 77 rfl) (Nat.le_of_ble_eq_true rfl) rfl ?_
                refine K_sipush (md := mX11_remark) (pc := 128) (x := 653) (kTab_at (pc := 128) tX11_remark_ok 78 rfl) (by decide) ?_
                refine K_bipush (md := mX11_remark) (pc := 131) (x := 15) (kTab_at (pc := 131) tX11_remark_ok 79 rfl) (by decide) ?_
                refine K_iload_n (md := mX11_remark) (pc := 133) 3 (kTab_at (pc := 133) tX11_remark_ok 80 rfl) rfl ?_
                refine K_imul (md := mX11_remark) (pc := 134) (kTab_at (pc := 134) tX11_remark_ok 81 rfl) ?_
                refine K_iadd (md := mX11_remark) (pc := 135) (kTab_at (pc := 135) tX11_remark_ok 82 rfl) ?_
                refine K_iconst (md := mX11_remark) (pc := 136) (x := 3) (kTab_at (pc := 136) tX11_remark_ok 83 rfl) rfl ?_
                refine K_iload_n (md := mX11_remark) (pc := 137) 4 (kTab_at (pc := 137) tX11_remark_ok 84 rfl) rfl ?_
                refine K_imul (md := mX11_remark) (pc := 138) (kTab_at (pc := 138) tX11_remark_ok 85 rfl) ?_
                refine K_iadd (md := mX11_remark) (pc := 139) (kTab_at (pc := 139) tX11_remark_ok 86 rfl) ?_
                refine Z_bnd (md := mX11_remark) (pc := 140) h (fun x8 h => ?_)
                refine K_istore (md := mX11_remark) (pc := 140) (l' := [(6, .int (iI x8)), (5, .int (iI x7)), (0, .ref (X.1 + 248)), (1, .int (iI p1)), (2, .int (iI p2)), (3, .int (iI p3)), (4, .int (iI p4))]) (kTab_at (pc := 140) tX11_remark_ok 87 rfl) (Nat.le_of_ble_eq_true rfl) rfl ?_
                refine K_aload_n (md := mX11_remark) (pc := 142) 2 (kTab_at (pc := 142) tX11_remark_ok 88 rfl) rfl ?_
                refine K_getR (md := mX11_remark) (pc := 143) (b := 249) (kTab_at (pc := 143) tX11_remark_ok 89 rfl) fl_X11_7 sk_248 rfl rfl ?_
                refine K_iload (md := mX11_remark) (pc := 146) 0 (kTab_at (pc := 146) tX11_remark_ok 90 rfl) rfl ?_
                refine K_iconst (md := mX11_remark) (pc := 148) (x := 2) (kTab_at (pc := 148) tX11_remark_ok 91 rfl) rfl ?_
                refine K_iadd (md := mX11_remark) (pc := 149) (kTab_at (pc := 149) tX11_remark_ok 92 rfl) ?_
                refine K_iload (md := mX11_remark) (pc := 150) 6 (kTab_at (pc := 150) tX11_remark_ok 93 rfl) rfl ?_
                refine Z_iast (md := mX11_remark) (pc := 152) (kTab_at (pc := 152) tX11_remark_ok 94 rfl) sk_249 (by decide) h (fun μ h => ?_)
                refine K_aload_n (md := mX11_remark) (pc := 153) 2 (kTab_at (pc := 153) tX11_remark_ok 95 rfl) rfl ?_
                refine K_getR (md := mX11_remark) (pc := 154) (b := 249) (kTab_at (pc := 154) tX11_remark_ok 96 rfl) fl_X11_7 sk_248 rfl rfl ?_
                refine K_iload (md := mX11_remark) (pc := 157) 0 (kTab_at (pc := 157) tX11_remark_ok 97 rfl) rfl ?_
                refine K_aload_n (md := mX11_remark) (pc := 159) 2 (kTab_at (pc := 159) tX11_remark_ok 98 rfl) rfl ?_
                refine K_iload (md := mX11_remark) (pc := 160) 6 (kTab_at (pc := 160) tX11_remark_ok 99 rfl) rfl ?_
                refine K_bipush (md := mX11_remark) (pc := 162) (x := 120) (kTab_at (pc := 162) tX11_remark_ok 100 rfl) (by decide) ?_
                refine K_imul (md := mX11_remark) (pc := 164) (kTab_at (pc := 164) tX11_remark_ok 101 rfl) ?_
                refine K_aload_n (md := mX11_remark) (pc := 165) 2 (kTab_at (pc := 165) tX11_remark_ok 102 rfl) rfl ?_
                refine K_iload_n (md := mX11_remark) (pc := 166) 4 (kTab_at (pc := 166) tX11_remark_ok 103 rfl) rfl ?_
                refine K_iload_n (md := mX11_remark) (pc := 167) 5 (kTab_at (pc := 167) tX11_remark_ok 104 rfl) rfl ?_
                refine Z_callV (md := mX11_remark) (pc := 168) (st := [.int (iI (p4 * 120)), .ref (X.1 + 248), .int (iI x8), .ref (X.1 + 249)]) (sv := (fun x9 => [.int (iI x9), .int (iI (p4 * 120)), .ref (X.1 + 248), .int (iI x8), .ref (X.1 + 249)])) (kTab_at (pc := 168) tX11_remark_ok 105 rfl) mv_X11_118 sk_248 rfl (Nat.le_of_ble_eq_true rfl) (by decide) rfl (c_X11_settled X p2 p3 μ) (fun _ => rfl) h (fun μ x9 h => ?_) rfl
                refine Z_callV (md := mX11_remark) (pc := 171) (st := [.int (iI x8), .ref (X.1 + 249)]) (sv := (fun x10 => [.int (iI x10), .int (iI x8), .ref (X.1 + 249)])) (kTab_at (pc := 171) tX11_remark_ok 106 rfl) mv_X11_112 sk_248 rfl (Nat.le_of_ble_eq_true rfl) (by decide) rfl (c_X11_agree X (p4 * 120) x9 μ) (fun _ => rfl) h (fun μ x10 h => ?_) rfl
                refine K_if_eq (md := mX11_remark) (pc := 174) (kTab_at (pc := 174) tX11_remark_ok 107 rfl) (tgt := 181) rfl h (fun h => ?_) (fun h => ?_)
                · refine K_iconst (md := mX11_remark) (pc := 181) (x := 3) (kTab_at (pc := 181) tX11_remark_ok 110 rfl) rfl ?_
                  refine K_sub [2, 3, 4, 5, 1, 0] rfl ?_
                  refine c_X11_remark_182 X p1 p2 p3 p4  x7 x8 x8 3 μ h
                · refine K_iconst (md := mX11_remark) (pc := 177) (x := 2) (kTab_at (pc := 177) tX11_remark_ok 108 rfl) rfl ?_
                  refine K_goto (md := mX11_remark) (pc := 178) (tgt := 182) (kTab_at (pc := 178) tX11_remark_ok 109 rfl) rfl ?_
                  refine K_sub [2, 3, 4, 5, 1, 0] rfl ?_
                  refine c_X11_remark_182 X p1 p2 p3 p4  x7 x8 x8 2 μ h
              · refine K_aload_n (md := mX11_remark) (pc := 106) 0 (kTab_at (pc := 106) tX11_remark_ok 64 rfl) rfl ?_
                refine K_iconst (md := mX11_remark) (pc := 107) (x := 4) (kTab_at (pc := 107) tX11_remark_ok 65 rfl) rfl ?_
                refine K_iload_n (md := mX11_remark) (pc := 108) 2 (kTab_at (pc := 108) tX11_remark_ok 66 rfl) rfl ?_
                refine K_bipush (md := mX11_remark) (pc := 109) (x := 43) (kTab_at (pc := 109) tX11_remark_ok 67 rfl) (by decide) ?_
                refine K_iload_n (md := mX11_remark) (pc := 111) 1 (kTab_at (pc := 111) tX11_remark_ok 68 rfl) rfl ?_
                refine K_iconst (md := mX11_remark) (pc := 112) (x := 3) (kTab_at (pc := 112) tX11_remark_ok 69 rfl) rfl ?_
                refine Z_callV (md := mX11_remark) (pc := 113) (st := []) (sv := (fun x11 => [.int (iI x11)])) (kTab_at (pc := 113) tX11_remark_ok 70 rfl) mv_X11_221 sk_248 rfl (Nat.le_of_ble_eq_true rfl) (by decide) rfl (c_X11_reports X 4 p2 43 p1 3 μ) (fun _ => rfl) h (fun μ x11 h => ?_) rfl
                exact Z_iret (md := mX11_remark) (pc := 116) (kTab_at (pc := 116) tX11_remark_ok 71 rfl) rfl rfl rfl h
            · refine K_aload_n (md := mX11_remark) (pc := 78) 0 (kTab_at (pc := 78) tX11_remark_ok 45 rfl) rfl ?_
              refine K_iconst (md := mX11_remark) (pc := 79) (x := 4) (kTab_at (pc := 79) tX11_remark_ok 46 rfl) rfl ?_
              refine K_iload_n (md := mX11_remark) (pc := 80) 2 (kTab_at (pc := 80) tX11_remark_ok 47 rfl) rfl ?_
              refine K_bipush (md := mX11_remark) (pc := 81) (x := 42) (kTab_at (pc := 81) tX11_remark_ok 48 rfl) (by decide) ?_
              refine K_aload_n (md := mX11_remark) (pc := 83) 0 (kTab_at (pc := 83) tX11_remark_ok 49 rfl) rfl ?_
              refine K_getR (md := mX11_remark) (pc := 84) (b := 249) (kTab_at (pc := 84) tX11_remark_ok 50 rfl) fl_X11_7 sk_248 rfl rfl ?_
              refine K_iconst (md := mX11_remark) (pc := 87) (x := 0) (kTab_at (pc := 87) tX11_remark_ok 51 rfl) rfl ?_
              refine K_iload_n (md := mX11_remark) (pc := 88) 3 (kTab_at (pc := 88) tX11_remark_ok 52 rfl) rfl ?_
              refine K_iadd (md := mX11_remark) (pc := 89) (kTab_at (pc := 89) tX11_remark_ok 53 rfl) ?_
              refine Z_iald (md := mX11_remark) (pc := 90) (kTab_at (pc := 90) tX11_remark_ok 54 rfl) sk_249 (by decide) h (fun x12 h => ?_)
              refine K_iconst (md := mX11_remark) (pc := 91) (x := 3) (kTab_at (pc := 91) tX11_remark_ok 55 rfl) rfl ?_
              refine Z_callV (md := mX11_remark) (pc := 92) (st := []) (sv := (fun x13 => [.int (iI x13)])) (kTab_at (pc := 92) tX11_remark_ok 56 rfl) mv_X11_221 sk_248 rfl (Nat.le_of_ble_eq_true rfl) (by decide) rfl (c_X11_reports X 4 p2 42 x12 3 μ) (fun _ => rfl) h (fun μ x13 h => ?_) rfl
              exact Z_iret (md := mX11_remark) (pc := 95) (kTab_at (pc := 95) tX11_remark_ok 57 rfl) rfl rfl rfl h
          · refine K_aload_n (md := mX11_remark) (pc := 54) 0 (kTab_at (pc := 54) tX11_remark_ok 29 rfl) rfl ?_
            refine K_iconst (md := mX11_remark) (pc := 55) (x := 4) (kTab_at (pc := 55) tX11_remark_ok 30 rfl) rfl ?_
            refine K_iload_n (md := mX11_remark) (pc := 56) 2 (kTab_at (pc := 56) tX11_remark_ok 31 rfl) rfl ?_
            refine K_bipush (md := mX11_remark) (pc := 57) (x := 41) (kTab_at (pc := 57) tX11_remark_ok 32 rfl) (by decide) ?_
            refine K_iload_n (md := mX11_remark) (pc := 59) 3 (kTab_at (pc := 59) tX11_remark_ok 33 rfl) rfl ?_
            refine K_iconst (md := mX11_remark) (pc := 60) (x := 3) (kTab_at (pc := 60) tX11_remark_ok 34 rfl) rfl ?_
            refine Z_callV (md := mX11_remark) (pc := 61) (st := []) (sv := (fun x14 => [.int (iI x14)])) (kTab_at (pc := 61) tX11_remark_ok 35 rfl) mv_X11_221 sk_248 rfl (Nat.le_of_ble_eq_true rfl) (by decide) rfl (c_X11_reports X 4 p2 41 p3 3 μ) (fun _ => rfl) h (fun μ x14 h => ?_) rfl
            exact Z_iret (md := mX11_remark) (pc := 64) (kTab_at (pc := 64) tX11_remark_ok 36 rfl) rfl rfl rfl h
        · refine K_aload_n (md := mX11_remark) (pc := 37) 0 (kTab_at (pc := 37) tX11_remark_ok 18 rfl) rfl ?_
          refine K_iconst (md := mX11_remark) (pc := 38) (x := 2) (kTab_at (pc := 38) tX11_remark_ok 19 rfl) rfl ?_
          refine Z_callV (md := mX11_remark) (pc := 39) (st := []) (sv := (fun x15 => [.int (iI x15)])) (kTab_at (pc := 39) tX11_remark_ok 20 rfl) mv_X11_177 sk_248 rfl (Nat.le_of_ble_eq_true rfl) (by decide) rfl (c_X11_fails X 2 μ) (fun _ => rfl) h (fun μ x15 h => ?_) rfl
          exact Z_iret (md := mX11_remark) (pc := 42) (kTab_at (pc := 42) tX11_remark_ok 21 rfl) rfl rfl rfl h
      · refine K_sub [0] rfl ?_
        refine c_X11_remark_26 X p1 p2 p3 p4  μ h
def f_X11_account_56 (p1 : Int)   (μ : Mu) : Option Res := rdI μ 249 779 (775 + p1) fun x1 => some (μ, 0, x1)
set_option maxRecDepth 100000 in
theorem c_X11_account_56 (X : kX) (p1 : Int)  {res : Res}  (μ : Mu) (h : f_X11_account_56 p1 μ = some res) : KK X mX11_account 3 1 res 56 [(0, .ref (X.1 + 248)), (1, .int (iI p1))] [] μ := by
  unfold f_X11_account_56 at h
  refine K_aload_n (md := mX11_account) (pc := 56) 0 (kTab_at (pc := 56) tX11_account_ok 5 rfl) rfl ?_
  refine K_getR (md := mX11_account) (pc := 57) (b := 249) (kTab_at (pc := 57) tX11_account_ok 6 rfl) fl_X11_7 sk_248 rfl rfl ?_
  refine K_sipush (md := mX11_account) (pc := 60) (x := 775) (kTab_at (pc := 60) tX11_account_ok 7 rfl) (by decide) ?_
  refine K_iload_n (md := mX11_account) (pc := 63) 1 (kTab_at (pc := 63) tX11_account_ok 8 rfl) rfl ?_
  refine K_iadd (md := mX11_account) (pc := 64) (kTab_at (pc := 64) tX11_account_ok 9 rfl) ?_
  refine Z_iald (md := mX11_account) (pc := 65) (kTab_at (pc := 65) tX11_account_ok 10 rfl) sk_249 (by decide) h (fun x1 h => ?_)
  exact Z_iret (md := mX11_account) (pc := 66) (kTab_at (pc := 66) tX11_account_ok 11 rfl) rfl rfl rfl h
def f_X11_account (p1 : Int) (μ : Mu) : Option Res := wrF μ 248 0 0 fun μ => i_sw p1 0 [f_X11_account_56 p1 μ, f_X11_account_56 p1 μ, f_X11_account_56 p1 μ, f_X11_account_56 p1 μ, rdI μ 249 779 775 fun x1 => rdI μ 249 779 776 fun x2 => rdI μ 249 779 777 fun x3 => rdI μ 249 779 778 fun x4 => some (μ, 0, (((x1 + x2) + x3) + x4)), rdI μ 249 779 773 fun x5 => some (μ, 0, x5), rdI μ 249 779 774 fun x6 => some (μ, 0, x6), rb (f_X11_allAppeals 1 3 μ) fun μ x7 => some (μ, 0, x7), rb (f_X11_allAppeals 1 1 μ) fun μ x8 => some (μ, 0, x8)] (rb (f_X11_fails 1 μ) fun μ x9 => some (μ, 0, x9))
set_option maxRecDepth 100000 in
theorem c_X11_account (X : kX) (p1 : Int)  (μ : Mu) : Cq X mX11_account 3 1 μ [.ref (X.1 + 248), .int (iI p1)] (f_X11_account p1 μ) := by
  intro res h
  refine ct_of (by decide +kernel) rfl (Nat.le_of_ble_eq_true rfl) ?_
  show KK X mX11_account 3 1 res 0 [(0, .ref (X.1 + 248)), (1, .int (iI p1))] [] μ
  unfold f_X11_account at h
  refine K_aload_n (md := mX11_account) (pc := 0) 0 (kTab_at (pc := 0) tX11_account_ok 0 rfl) rfl ?_
  refine K_iconst (md := mX11_account) (pc := 1) (x := 0) (kTab_at (pc := 1) tX11_account_ok 1 rfl) rfl ?_
  refine Z_putI (md := mX11_account) (pc := 2) (kTab_at (pc := 2) tX11_account_ok 2 rfl) fl_X11_48 sk_248 rfl h (fun μ h => ?_)
  refine K_iload_n (md := mX11_account) (pc := 5) 1 (kTab_at (pc := 5) tX11_account_ok 3 rfl) rfl ?_
  refine K_tsw (md := mX11_account) (pc := 6) (dt := 135) (kTab_at (pc := 6) tX11_account_ok 4 rfl) rfl rfl h (And.intro (fun h => ⟨56, rfl, ?_⟩) (And.intro (fun h => ⟨56, rfl, ?_⟩) (And.intro (fun h => ⟨56, rfl, ?_⟩) (And.intro (fun h => ⟨56, rfl, ?_⟩) (And.intro (fun h => ⟨67, rfl, ?_⟩) (And.intro (fun h => ⟨103, rfl, ?_⟩) (And.intro (fun h => ⟨112, rfl, ?_⟩) (And.intro (fun h => ⟨121, rfl, ?_⟩) (And.intro (fun h => ⟨128, rfl, ?_⟩) (True.intro)))))))))) (fun h => ?_)
  · refine c_X11_account_56 X p1  μ h
  · refine c_X11_account_56 X p1  μ h
  · refine c_X11_account_56 X p1  μ h
  · refine c_X11_account_56 X p1  μ h
  · refine K_aload_n (md := mX11_account) (pc := 67) 0 (kTab_at (pc := 67) tX11_account_ok 12 rfl) rfl ?_
    refine K_getR (md := mX11_account) (pc := 68) (b := 249) (kTab_at (pc := 68) tX11_account_ok 13 rfl) fl_X11_7 sk_248 rfl rfl ?_
    refine K_sipush (md := mX11_account) (pc := 71) (x := 775) (kTab_at (pc := 71) tX11_account_ok 14 rfl) (by decide) ?_
    refine Z_iald (md := mX11_account) (pc := 74) (kTab_at (pc := 74) tX11_account_ok 15 rfl) sk_249 (by decide) h (fun x1 h => ?_)
    refine K_aload_n (md := mX11_account) (pc := 75) 0 (kTab_at (pc := 75) tX11_account_ok 16 rfl) rfl ?_
    refine K_getR (md := mX11_account) (pc := 76) (b := 249) (kTab_at (pc := 76) tX11_account_ok 17 rfl) fl_X11_7 sk_248 rfl rfl ?_
    refine K_sipush (md := mX11_account) (pc := 79) (x := 776) (kTab_at (pc := 79) tX11_account_ok 18 rfl) (by decide) ?_
    refine Z_iald (md := mX11_account) (pc := 82) (kTab_at (pc := 82) tX11_account_ok 19 rfl) sk_249 (by decide) h (fun x2 h => ?_)
    refine K_iadd (md := mX11_account) (pc := 83) (kTab_at (pc := 83) tX11_account_ok 20 rfl) ?_
    refine K_aload_n (md := mX11_account) (pc := 84) 0 (kTab_at (pc := 84) tX11_account_ok 21 rfl) rfl ?_
    refine K_getR (md := mX11_account) (pc := 85) (b := 249) (kTab_at (pc := 85) tX11_account_ok 22 rfl) fl_X11_7 sk_248 rfl rfl ?_
    refine K_sipush (md := mX11_account) (pc := 88) (x := 777) (kTab_at (pc := 88) tX11_account_ok 23 rfl) (by decide) ?_
    refine Z_iald (md := mX11_account) (pc := 91) (kTab_at (pc := 91) tX11_account_ok 24 rfl) sk_249 (by decide) h (fun x3 h => ?_)
    refine K_iadd (md := mX11_account) (pc := 92) (kTab_at (pc := 92) tX11_account_ok 25 rfl) ?_
    refine K_aload_n (md := mX11_account) (pc := 93) 0 (kTab_at (pc := 93) tX11_account_ok 26 rfl) rfl ?_
    refine K_getR (md := mX11_account) (pc := 94) (b := 249) (kTab_at (pc := 94) tX11_account_ok 27 rfl) fl_X11_7 sk_248 rfl rfl ?_
    refine K_sipush (md := mX11_account) (pc := 97) (x := 778) (kTab_at (pc := 97) tX11_account_ok 28 rfl) (by decide) ?_
    refine Z_iald (md := mX11_account) (pc := 100) (kTab_at (pc := 100) tX11_account_ok 29 rfl) sk_249 (by decide) h (fun x4 h => ?_)
    refine K_iadd (md := mX11_account) (pc := 101) (kTab_at (pc := 101) tX11_account_ok 30 rfl) ?_
    exact Z_iret (md := mX11_account) (pc := 102) (kTab_at (pc := 102) tX11_account_ok 31 rfl) rfl rfl rfl h
  · refine K_aload_n (md := mX11_account) (pc := 103) 0 (kTab_at (pc := 103) tX11_account_ok 32 rfl) rfl ?_
    refine K_getR (md := mX11_account) (pc := 104) (b := 249) (kTab_at (pc := 104) tX11_account_ok 33 rfl) fl_X11_7 sk_248 rfl rfl ?_
    refine K_sipush (md := mX11_account) (pc := 107) (x := 773) (kTab_at (pc := 107) tX11_account_ok 34 rfl) (by decide) ?_
    refine Z_iald (md := mX11_account) (pc := 110) (kTab_at (pc := 110) tX11_account_ok 35 rfl) sk_249 (by decide) h (fun x5 h => ?_)
    exact Z_iret (md := mX11_account) (pc := 111) (kTab_at (pc := 111) tX11_account_ok 36 rfl) rfl rfl rfl h
  · refine K_aload_n (md := mX11_account) (pc := 112) 0 (kTab_at (pc := 112) tX11_account_ok 37 rfl) rfl ?_
    refine K_getR (md := mX11_account) (pc := 113) (b := 249) (kTab_at (pc := 113) tX11_account_ok 38 rfl) fl_X11_7 sk_248 rfl rfl ?_
    refine K_sipush (md := mX11_account) (pc := 116) (x := 774) (kTab_at (pc := 116) tX11_account_ok 39 rfl) (by decide) ?_
    refine Z_iald (md := mX11_account) (pc := 119) (kTab_at (pc := 119) tX11_account_ok 40 rfl) sk_249 (by decide) h (fun x6 h => ?_)
    exact Z_iret (md := mX11_account) (pc := 120) (kTab_at (pc := 120) tX11_account_ok 41 rfl) rfl rfl rfl h
  · refine K_aload_n (md := mX11_account) (pc := 121) 0 (kTab_at (pc := 121) tX11_account_ok 42 rfl) rfl ?_
    refine K_iconst (md := mX11_account) (pc := 122) (x := 1) (kTab_at (pc := 122) tX11_account_ok 43 rfl) rfl ?_
    refine K_iconst (md := mX11_account) (pc := 123) (x := 3) (kTab_at (pc := 123) tX11_account_ok 44 rfl) rfl ?_
    refine Z_callV (md := mX11_account) (pc := 124) (st := []) (sv := (fun x7 => [.int (iI x7)])) (kTab_at (pc := 124) tX11_account_ok 45 rfl) mv_X11_304 sk_248 rfl (Nat.le_of_ble_eq_true rfl) (by decide) rfl (c_X11_allAppeals X 1 3 μ) (fun _ => rfl) h (fun μ x7 h => ?_) rfl
    exact Z_iret (md := mX11_account) (pc := 127) (kTab_at (pc := 127) tX11_account_ok 46 rfl) rfl rfl rfl h
  · refine K_aload_n (md := mX11_account) (pc := 128) 0 (kTab_at (pc := 128) tX11_account_ok 47 rfl) rfl ?_
    refine K_iconst (md := mX11_account) (pc := 129) (x := 1) (kTab_at (pc := 129) tX11_account_ok 48 rfl) rfl ?_
    refine K_iconst (md := mX11_account) (pc := 130) (x := 1) (kTab_at (pc := 130) tX11_account_ok 49 rfl) rfl ?_
    refine Z_callV (md := mX11_account) (pc := 131) (st := []) (sv := (fun x8 => [.int (iI x8)])) (kTab_at (pc := 131) tX11_account_ok 50 rfl) mv_X11_304 sk_248 rfl (Nat.le_of_ble_eq_true rfl) (by decide) rfl (c_X11_allAppeals X 1 1 μ) (fun _ => rfl) h (fun μ x8 h => ?_) rfl
    exact Z_iret (md := mX11_account) (pc := 134) (kTab_at (pc := 134) tX11_account_ok 51 rfl) rfl rfl rfl h
  · refine K_aload_n (md := mX11_account) (pc := 135) 0 (kTab_at (pc := 135) tX11_account_ok 52 rfl) rfl ?_
    refine K_iconst (md := mX11_account) (pc := 136) (x := 1) (kTab_at (pc := 136) tX11_account_ok 53 rfl) rfl ?_
    refine Z_callV (md := mX11_account) (pc := 137) (st := []) (sv := (fun x9 => [.int (iI x9)])) (kTab_at (pc := 137) tX11_account_ok 54 rfl) mv_X11_177 sk_248 rfl (Nat.le_of_ble_eq_true rfl) (by decide) rfl (c_X11_fails X 1 μ) (fun _ => rfl) h (fun μ x9 h => ?_) rfl
    exact Z_iret (md := mX11_account) (pc := 140) (kTab_at (pc := 140) tX11_account_ok 55 rfl) rfl rfl rfl h
def f_X11_levels  (μ : Mu) : Option Res := wrF μ 248 0 0 fun μ => rdF μ 248 11 fun x1 => some (μ, 0, x1)
set_option maxRecDepth 100000 in
theorem c_X11_levels (X : kX)   (μ : Mu) : Cq X mX11_levels 0 1 μ [.ref (X.1 + 248)] (f_X11_levels  μ) := by
  intro res h
  refine ct_of (by decide +kernel) rfl (Nat.le_of_ble_eq_true rfl) ?_
  show KK X mX11_levels 0 1 res 0 [(0, .ref (X.1 + 248))] [] μ
  unfold f_X11_levels at h
  refine K_aload_n (md := mX11_levels) (pc := 0) 0 (kTab_at (pc := 0) tX11_levels_ok 0 rfl) rfl ?_
  refine K_iconst (md := mX11_levels) (pc := 1) (x := 0) (kTab_at (pc := 1) tX11_levels_ok 1 rfl) rfl ?_
  refine Z_putI (md := mX11_levels) (pc := 2) (kTab_at (pc := 2) tX11_levels_ok 2 rfl) fl_X11_48 sk_248 rfl h (fun μ h => ?_)
  refine K_aload_n (md := mX11_levels) (pc := 5) 0 (kTab_at (pc := 5) tX11_levels_ok 3 rfl) rfl ?_
  refine Z_getI (md := mX11_levels) (pc := 6) (kTab_at (pc := 6) tX11_levels_ok 4 rfl) fl_X11_174 sk_248 (Or.inl rfl) h (fun x1 h => ?_)
  exact Z_iret (md := mX11_levels) (pc := 9) (kTab_at (pc := 9) tX11_levels_ok 5 rfl) rfl rfl rfl h
def f_X11_report_52 (p1 : Int) (p2 : Int)  (s0 : Int) (μ : Mu) : Option Res := some (μ, 0, s0)
set_option maxRecDepth 100000 in
theorem c_X11_report_52 (X : kX) (p1 : Int) (p2 : Int)  {res : Res}  (s0 : Int) (μ : Mu) (h : f_X11_report_52 p1 p2 s0 μ = some res) : KK X mX11_report 1 1 res 52 [] [.int (iI s0)] μ := by
  unfold f_X11_report_52 at h
  exact Z_iret (md := mX11_report) (pc := 52) (kTab_at (pc := 52) tX11_report_ok 32 rfl) rfl rfl rfl h
def f_X11_report (p1 : Int) (p2 : Int) (μ : Mu) : Option Res := wrF μ 248 0 0 fun μ => rdF μ 248 11 fun x1 => rb (f_X11_in p1 0 (x1 - 1) μ) fun μ x2 => i_eq x2 0 (rb (f_X11_fails 1 μ) fun μ x6 => some (μ, 0, x6)) (rb (f_X11_in p2 0 1 μ) fun μ x3 => i_eq x3 0 (rb (f_X11_fails 2 μ) fun μ x4 => f_X11_report_52 p1 p2 x4 μ) (rdI μ 254 4 ((2 * p1) + p2) fun x5 => f_X11_report_52 p1 p2 x5 μ))
set_option maxRecDepth 100000 in
theorem c_X11_report (X : kX) (p1 : Int) (p2 : Int)  (μ : Mu) : Cq X mX11_report 1 1 μ [.ref (X.1 + 248), .int (iI p1), .int (iI p2)] (f_X11_report p1 p2 μ) := by
  intro res h
  refine ct_of (by decide +kernel) rfl (Nat.le_of_ble_eq_true rfl) ?_
  show KK X mX11_report 1 1 res 0 [(0, .ref (X.1 + 248)), (1, .int (iI p1)), (2, .int (iI p2))] [] μ
  unfold f_X11_report at h
  refine K_aload_n (md := mX11_report) (pc := 0) 0 (kTab_at (pc := 0) tX11_report_ok 0 rfl) rfl ?_
  refine K_iconst (md := mX11_report) (pc := 1) (x := 0) (kTab_at (pc := 1) tX11_report_ok 1 rfl) rfl ?_
  refine Z_putI (md := mX11_report) (pc := 2) (kTab_at (pc := 2) tX11_report_ok 2 rfl) fl_X11_48 sk_248 rfl h (fun μ h => ?_)
  refine K_iload_n (md := mX11_report) (pc := 5) 1 (kTab_at (pc := 5) tX11_report_ok 3 rfl) rfl ?_
  refine K_iconst (md := mX11_report) (pc := 6) (x := 0) (kTab_at (pc := 6) tX11_report_ok 4 rfl) rfl ?_
  refine K_aload_n (md := mX11_report) (pc := 7) 0 (kTab_at (pc := 7) tX11_report_ok 5 rfl) rfl ?_
  refine Z_getI (md := mX11_report) (pc := 8) (kTab_at (pc := 8) tX11_report_ok 6 rfl) fl_X11_174 sk_248 (Or.inl rfl) h (fun x1 h => ?_)
  refine K_iconst (md := mX11_report) (pc := 11) (x := 1) (kTab_at (pc := 11) tX11_report_ok 7 rfl) rfl ?_
  refine K_isub (md := mX11_report) (pc := 12) (kTab_at (pc := 12) tX11_report_ok 8 rfl) ?_
  refine Z_callS (md := mX11_report) (pc := 13) (st := []) (sv := (fun x2 => [.int (iI x2)])) (kTab_at (pc := 13) tX11_report_ok 9 rfl) ms_X11_51 rfl (Nat.le_of_ble_eq_true rfl) (by decide) rfl (c_X11_in X p1 0 (x1 - 1) μ) (fun _ => rfl) h (fun μ x2 h => ?_) rfl
  refine K_if_ne (md := mX11_report) (pc := 16) (kTab_at (pc := 16) tX11_report_ok 10 rfl) (tgt := 25) rfl h (fun h => ?_) (fun h => ?_)
  · refine K_iload_n (md := mX11_report) (pc := 25) 2 (kTab_at (pc := 25) tX11_report_ok 15 rfl) rfl ?_
    refine K_iconst (md := mX11_report) (pc := 26) (x := 0) (kTab_at (pc := 26) tX11_report_ok 16 rfl) rfl ?_
    refine K_iconst (md := mX11_report) (pc := 27) (x := 1) (kTab_at (pc := 27) tX11_report_ok 17 rfl) rfl ?_
    refine Z_callS (md := mX11_report) (pc := 28) (st := []) (sv := (fun x3 => [.int (iI x3)])) (kTab_at (pc := 28) tX11_report_ok 18 rfl) ms_X11_51 rfl (Nat.le_of_ble_eq_true rfl) (by decide) rfl (c_X11_in X p2 0 1 μ) (fun _ => rfl) h (fun μ x3 h => ?_) rfl
    refine K_if_eq (md := mX11_report) (pc := 31) (kTab_at (pc := 31) tX11_report_ok 19 rfl) (tgt := 47) rfl h (fun h => ?_) (fun h => ?_)
    · refine K_aload_n (md := mX11_report) (pc := 47) 0 (kTab_at (pc := 47) tX11_report_ok 29 rfl) rfl ?_
      refine K_iconst (md := mX11_report) (pc := 48) (x := 2) (kTab_at (pc := 48) tX11_report_ok 30 rfl) rfl ?_
      refine Z_callV (md := mX11_report) (pc := 49) (st := []) (sv := (fun x4 => [.int (iI x4)])) (kTab_at (pc := 49) tX11_report_ok 31 rfl) mv_X11_177 sk_248 rfl (Nat.le_of_ble_eq_true rfl) (by decide) rfl (c_X11_fails X 2 μ) (fun _ => rfl) h (fun μ x4 h => ?_) rfl
      refine K_sub [] rfl ?_
      refine c_X11_report_52 X p1 p2  x4 μ h
    · refine K_aload_n (md := mX11_report) (pc := 34) 0 (kTab_at (pc := 34) tX11_report_ok 20 rfl) rfl ?_
      refine K_getR (md := mX11_report) (pc := 35) (b := 254) (kTab_at (pc := 35) tX11_report_ok 21 rfl) fl_X11_29 sk_248 rfl rfl ?_
      refine K_iconst (md := mX11_report) (pc := 38) (x := 2) (kTab_at (pc := 38) tX11_report_ok 22 rfl) rfl ?_
      refine K_iload_n (md := mX11_report) (pc := 39) 1 (kTab_at (pc := 39) tX11_report_ok 23 rfl) rfl ?_
      refine K_imul (md := mX11_report) (pc := 40) (kTab_at (pc := 40) tX11_report_ok 24 rfl) ?_
      refine K_iload_n (md := mX11_report) (pc := 41) 2 (kTab_at (pc := 41) tX11_report_ok 25 rfl) rfl ?_
      refine K_iadd (md := mX11_report) (pc := 42) (kTab_at (pc := 42) tX11_report_ok 26 rfl) ?_
      refine Z_iald (md := mX11_report) (pc := 43) (kTab_at (pc := 43) tX11_report_ok 27 rfl) sk_254 (by decide) h (fun x5 h => ?_)
      refine K_goto (md := mX11_report) (pc := 44) (tgt := 52) (kTab_at (pc := 44) tX11_report_ok 28 rfl) rfl ?_
      refine K_sub [] rfl ?_
      refine c_X11_report_52 X p1 p2  x5 μ h
  · refine K_aload_n (md := mX11_report) (pc := 19) 0 (kTab_at (pc := 19) tX11_report_ok 11 rfl) rfl ?_
    refine K_iconst (md := mX11_report) (pc := 20) (x := 1) (kTab_at (pc := 20) tX11_report_ok 12 rfl) rfl ?_
    refine Z_callV (md := mX11_report) (pc := 21) (st := []) (sv := (fun x6 => [.int (iI x6)])) (kTab_at (pc := 21) tX11_report_ok 13 rfl) mv_X11_177 sk_248 rfl (Nat.le_of_ble_eq_true rfl) (by decide) rfl (c_X11_fails X 1 μ) (fun _ => rfl) h (fun μ x6 h => ?_) rfl
    exact Z_iret (md := mX11_report) (pc := 24) (kTab_at (pc := 24) tX11_report_ok 14 rfl) rfl rfl rfl h
def f_X11_seeds_4  (k27 : Int → Mu → Option Res) : Nat → Int → Int → Mu → Option Res
  | 0, _, _, _ => none
  | fu + 1, v1, v2, μ => i_lt v2 5 (rdI μ 249 779 (14 + v2) fun x1 => bnd (v1 + x1) fun x2 => (f_X11_seeds_4 k27 fu) x2 (v2 + 1) μ) (k27 v1 μ)
set_option maxRecDepth 100000 in
theorem c_X11_seeds_4 (X : kX)   {res : Res} (k27 : Int → Mu → Option Res) (hk27 : ∀ (v1 : Int), ∀ (μ : Mu), k27 v1 μ = some res → KK X mX11_seeds 0 1 res 27 [(1, .int (iI v1))] [] μ) : ∀ (fu : Nat)  (v1 : Int) (v2 : Int) (μ : Mu), f_X11_seeds_4 k27 fu v1 v2 μ = some res → KK X mX11_seeds 0 1 res 4 [(0, .ref (X.1 + 248)), (1, .int (iI v1)), (2, .int (iI v2))] [] μ := by
  intro fu
  induction fu with
  | zero => intro v1 v2 μ h; exact nomatch h
  | succ fu ih =>
    intro v1 v2 μ h
    refine K_iload_n (md := mX11_seeds) (pc := 4) 2 (kTab_at (pc := 4) tX11_seeds_ok 4 rfl) rfl ?_
    refine K_iconst (md := mX11_seeds) (pc := 5) (x := 5) (kTab_at (pc := 5) tX11_seeds_ok 5 rfl) rfl ?_
    refine K_icmp_ge (md := mX11_seeds) (pc := 6) (kTab_at (pc := 6) tX11_seeds_ok 6 rfl) (tgt := 27) rfl h (fun h => ?_) (fun h => ?_)
    · refine K_sub [1] rfl ?_
      exact hk27 v1 μ h
    · refine K_iload_n (md := mX11_seeds) (pc := 9) 1 (kTab_at (pc := 9) tX11_seeds_ok 7 rfl) rfl ?_
      refine K_aload_n (md := mX11_seeds) (pc := 10) 0 (kTab_at (pc := 10) tX11_seeds_ok 8 rfl) rfl ?_
      refine K_getR (md := mX11_seeds) (pc := 11) (b := 249) (kTab_at (pc := 11) tX11_seeds_ok 9 rfl) fl_X11_7 sk_248 rfl rfl ?_
      refine K_bipush (md := mX11_seeds) (pc := 14) (x := 14) (kTab_at (pc := 14) tX11_seeds_ok 10 rfl) (by decide) ?_
      refine K_iload_n (md := mX11_seeds) (pc := 16) 2 (kTab_at (pc := 16) tX11_seeds_ok 11 rfl) rfl ?_
      refine K_iadd (md := mX11_seeds) (pc := 17) (kTab_at (pc := 17) tX11_seeds_ok 12 rfl) ?_
      refine Z_iald (md := mX11_seeds) (pc := 18) (kTab_at (pc := 18) tX11_seeds_ok 13 rfl) sk_249 (by decide) h (fun x1 h => ?_)
      refine K_iadd (md := mX11_seeds) (pc := 19) (kTab_at (pc := 19) tX11_seeds_ok 14 rfl) ?_
      refine Z_bnd (md := mX11_seeds) (pc := 20) h (fun x2 h => ?_)
      refine K_istore_n (md := mX11_seeds) (pc := 20) (l' := [(1, .int (iI x2)), (0, .ref (X.1 + 248)), (2, .int (iI v2))]) (kTab_at (pc := 20) tX11_seeds_ok 15 rfl) (Nat.le_of_ble_eq_true rfl) rfl ?_
      refine K_iinc (md := mX11_seeds) (pc := 21) (l' := [(2, .int (iI (v2 + 1))), (1, .int (iI x2)), (0, .ref (X.1 + 248))]) 2 (kTab_at (pc := 21) tX11_seeds_ok 16 rfl) rfl (Nat.le_of_ble_eq_true rfl) rfl ?_
      refine K_goto (md := mX11_seeds) (pc := 24) (tgt := 4) (kTab_at (pc := 24) tX11_seeds_ok 17 rfl) rfl ?_
      refine K_sub [2, 1, 0] rfl ?_
      exact ih x2 (v2 + 1) μ h
def f_X11_seeds  (μ : Mu) : Option Res := f_X11_seeds_4 (fun v1 μ => some (μ, 0, v1)) FU 0 0 μ
set_option maxRecDepth 100000 in
theorem c_X11_seeds (X : kX)   (μ : Mu) : Cq X mX11_seeds 0 1 μ [.ref (X.1 + 248)] (f_X11_seeds  μ) := by
  intro res h
  refine ct_of (by decide +kernel) rfl (Nat.le_of_ble_eq_true rfl) ?_
  show KK X mX11_seeds 0 1 res 0 [(0, .ref (X.1 + 248))] [] μ
  unfold f_X11_seeds at h
  refine K_iconst (md := mX11_seeds) (pc := 0) (x := 0) (kTab_at (pc := 0) tX11_seeds_ok 0 rfl) rfl ?_
  refine K_istore_n (md := mX11_seeds) (pc := 1) (l' := [(1, .int (iI 0)), (0, .ref (X.1 + 248))]) (kTab_at (pc := 1) tX11_seeds_ok 1 rfl) (Nat.le_of_ble_eq_true rfl) rfl ?_
  refine K_iconst (md := mX11_seeds) (pc := 2) (x := 0) (kTab_at (pc := 2) tX11_seeds_ok 2 rfl) rfl ?_
  refine K_istore_n (md := mX11_seeds) (pc := 3) (l' := [(2, .int (iI 0)), (1, .int (iI 0)), (0, .ref (X.1 + 248))]) (kTab_at (pc := 3) tX11_seeds_ok 3 rfl) (Nat.le_of_ble_eq_true rfl) rfl ?_
  refine K_sub [2, 1, 0] rfl ?_
  refine c_X11_seeds_4 X  _ ?_ _ 0 0 μ h
  · intro v1 μ h
    refine K_iload_n (md := mX11_seeds) (pc := 27) 0 (kTab_at (pc := 27) tX11_seeds_ok 18 rfl) rfl ?_
    exact Z_iret (md := mX11_seeds) (pc := 28) (kTab_at (pc := 28) tX11_seeds_ok 19 rfl) rfl rfl rfl h
def f_X11_seedMarks_27  (k5 : Int → Int → Mu → Option Res) (v2 : Int) (s0 : Int) (s1 : Int) (μ : Mu) : Option Res := bnd (s0 + s1) fun x1 => k5 x1 (v2 + 1) μ
set_option maxRecDepth 100000 in
theorem c_X11_seedMarks_27 (X : kX)   {res : Res} (k5 : Int → Int → Mu → Option Res) (hk5 : ∀ (v1 : Int), ∀ (v2 : Int), ∀ (μ : Mu), k5 v1 v2 μ = some res → KK X mX11_seedMarks 0 1 res 5 [(0, .ref (X.1 + 248)), (1, .int (iI v1)), (2, .int (iI v2))] [] μ) (v2 : Int) (s0 : Int) (s1 : Int) (μ : Mu) (h : f_X11_seedMarks_27 k5 v2 s0 s1 μ = some res) : KK X mX11_seedMarks 0 1 res 27 [(0, .ref (X.1 + 248)), (2, .int (iI v2))] [.int (iI s1), .int (iI s0)] μ := by
  unfold f_X11_seedMarks_27 at h
  refine K_iadd (md := mX11_seedMarks) (pc := 27) (kTab_at (pc := 27) tX11_seedMarks_ok 16 rfl) ?_
  refine Z_bnd (md := mX11_seedMarks) (pc := 28) h (fun x1 h => ?_)
  refine K_istore_n (md := mX11_seedMarks) (pc := 28) (l' := [(1, .int (iI x1)), (0, .ref (X.1 + 248)), (2, .int (iI v2))]) (kTab_at (pc := 28) tX11_seedMarks_ok 17 rfl) (Nat.le_of_ble_eq_true rfl) rfl ?_
  refine K_iinc (md := mX11_seedMarks) (pc := 29) (l' := [(2, .int (iI (v2 + 1))), (1, .int (iI x1)), (0, .ref (X.1 + 248))]) 2 (kTab_at (pc := 29) tX11_seedMarks_ok 18 rfl) rfl (Nat.le_of_ble_eq_true rfl) rfl ?_
  refine K_goto (md := mX11_seedMarks) (pc := 32) (tgt := 5) (kTab_at (pc := 32) tX11_seedMarks_ok 19 rfl) rfl ?_
  refine K_sub [2, 1, 0] rfl ?_
  exact hk5 x1 (v2 + 1) μ h
def f_X11_seedMarks_5  (k35 : Int → Mu → Option Res) : Nat → Int → Int → Mu → Option Res
  | 0, _, _, _ => none
  | fu + 1, v1, v2, μ => i_lt v2 144 (rdI μ 249 779 v2 fun x1 => i_lt 0 x1 (f_X11_seedMarks_27 (f_X11_seedMarks_5 k35 fu) v2 v1 1 μ) (f_X11_seedMarks_27 (f_X11_seedMarks_5 k35 fu) v2 v1 0 μ)) (k35 v1 μ)
set_option maxRecDepth 100000 in
theorem c_X11_seedMarks_5 (X : kX)   {res : Res} (k35 : Int → Mu → Option Res) (hk35 : ∀ (v1 : Int), ∀ (μ : Mu), k35 v1 μ = some res → KK X mX11_seedMarks 0 1 res 35 [(1, .int (iI v1))] [] μ) : ∀ (fu : Nat)  (v1 : Int) (v2 : Int) (μ : Mu), f_X11_seedMarks_5 k35 fu v1 v2 μ = some res → KK X mX11_seedMarks 0 1 res 5 [(0, .ref (X.1 + 248)), (1, .int (iI v1)), (2, .int (iI v2))] [] μ := by
  intro fu
  induction fu with
  | zero => intro v1 v2 μ h; exact nomatch h
  | succ fu ih =>
    intro v1 v2 μ h
    refine K_iload_n (md := mX11_seedMarks) (pc := 5) 2 (kTab_at (pc := 5) tX11_seedMarks_ok 4 rfl) rfl ?_
    refine K_sipush (md := mX11_seedMarks) (pc := 6) (x := 144) (kTab_at (pc := 6) tX11_seedMarks_ok 5 rfl) (by decide) ?_
    refine K_icmp_ge (md := mX11_seedMarks) (pc := 9) (kTab_at (pc := 9) tX11_seedMarks_ok 6 rfl) (tgt := 35) rfl h (fun h => ?_) (fun h => ?_)
    · refine K_sub [1] rfl ?_
      exact hk35 v1 μ h
    · refine K_iload_n (md := mX11_seedMarks) (pc := 12) 1 (kTab_at (pc := 12) tX11_seedMarks_ok 7 rfl) rfl ?_
      refine K_aload_n (md := mX11_seedMarks) (pc := 13) 0 (kTab_at (pc := 13) tX11_seedMarks_ok 8 rfl) rfl ?_
      refine K_getR (md := mX11_seedMarks) (pc := 14) (b := 249) (kTab_at (pc := 14) tX11_seedMarks_ok 9 rfl) fl_X11_7 sk_248 rfl rfl ?_
      refine K_iload_n (md := mX11_seedMarks) (pc := 17) 2 (kTab_at (pc := 17) tX11_seedMarks_ok 10 rfl) rfl ?_
      refine Z_iald (md := mX11_seedMarks) (pc := 18) (kTab_at (pc := 18) tX11_seedMarks_ok 11 rfl) sk_249 (by decide) h (fun x1 h => ?_)
      refine K_if_le (md := mX11_seedMarks) (pc := 19) (kTab_at (pc := 19) tX11_seedMarks_ok 12 rfl) (tgt := 26) rfl h (fun h => ?_) (fun h => ?_)
      · refine K_iconst (md := mX11_seedMarks) (pc := 26) (x := 0) (kTab_at (pc := 26) tX11_seedMarks_ok 15 rfl) rfl ?_
        refine K_sub [0, 2] rfl ?_
        refine c_X11_seedMarks_27 X  _ ih v2 v1 0 μ h
      · refine K_iconst (md := mX11_seedMarks) (pc := 22) (x := 1) (kTab_at (pc := 22) tX11_seedMarks_ok 13 rfl) rfl ?_
        refine K_goto (md := mX11_seedMarks) (pc := 23) (tgt := 27) (kTab_at (pc := 23) tX11_seedMarks_ok 14 rfl) rfl ?_
        refine K_sub [0, 2] rfl ?_
        refine c_X11_seedMarks_27 X  _ ih v2 v1 1 μ h
def f_X11_seedMarks  (μ : Mu) : Option Res := f_X11_seedMarks_5 (fun v1 μ => some (μ, 0, v1)) FU 0 44 μ
set_option maxRecDepth 100000 in
theorem c_X11_seedMarks (X : kX)   (μ : Mu) : Cq X mX11_seedMarks 0 1 μ [.ref (X.1 + 248)] (f_X11_seedMarks  μ) := by
  intro res h
  refine ct_of (by decide +kernel) rfl (Nat.le_of_ble_eq_true rfl) ?_
  show KK X mX11_seedMarks 0 1 res 0 [(0, .ref (X.1 + 248))] [] μ
  unfold f_X11_seedMarks at h
  refine K_iconst (md := mX11_seedMarks) (pc := 0) (x := 0) (kTab_at (pc := 0) tX11_seedMarks_ok 0 rfl) rfl ?_
  refine K_istore_n (md := mX11_seedMarks) (pc := 1) (l' := [(1, .int (iI 0)), (0, .ref (X.1 + 248))]) (kTab_at (pc := 1) tX11_seedMarks_ok 1 rfl) (Nat.le_of_ble_eq_true rfl) rfl ?_
  refine K_bipush (md := mX11_seedMarks) (pc := 2) (x := 44) (kTab_at (pc := 2) tX11_seedMarks_ok 2 rfl) (by decide) ?_
  refine K_istore_n (md := mX11_seedMarks) (pc := 4) (l' := [(2, .int (iI 44)), (1, .int (iI 0)), (0, .ref (X.1 + 248))]) (kTab_at (pc := 4) tX11_seedMarks_ok 3 rfl) (Nat.le_of_ble_eq_true rfl) rfl ?_
  refine K_sub [2, 1, 0] rfl ?_
  refine c_X11_seedMarks_5 X  _ ?_ _ 0 44 μ h
  · intro v1 μ h
    refine K_iload_n (md := mX11_seedMarks) (pc := 35) 0 (kTab_at (pc := 35) tX11_seedMarks_ok 20 rfl) rfl ?_
    exact Z_iret (md := mX11_seedMarks) (pc := 36) (kTab_at (pc := 36) tX11_seedMarks_ok 21 rfl) rfl rfl rfl h

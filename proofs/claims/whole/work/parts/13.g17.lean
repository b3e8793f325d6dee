def f_X11_disputed_42  (k12 : Int → Int → Int → Mu → Option Res) (v2 : Int) (v3 : Int) (s0 : Int) (s1 : Int) (μ : Mu) : Option Res := bnd (s0 + s1) fun x1 => k12 x1 v2 (v3 + 1) μ
set_option maxRecDepth 100000 in
theorem c_X11_disputed_42 (X : kX)   {res : Res} (k12 : Int → Int → Int → Mu → Option Res) (hk12 : ∀ (v1 : Int), ∀ (v2 : Int), ∀ (v3 : Int), ∀ (μ : Mu), k12 v1 v2 v3 μ = some res → KK X mX11_disputed 6 1 res 12 [(0, .ref (X.1 + 248)), (1, .int (iI v1)), (2, .int (iI v2)), (3, .int (iI v3))] [] μ) (v2 : Int) (v3 : Int) (s0 : Int) (s1 : Int) (μ : Mu) (h : f_X11_disputed_42 k12 v2 v3 s0 s1 μ = some res) : KK X mX11_disputed 6 1 res 42 [(0, .ref (X.1 + 248)), (2, .int (iI v2)), (3, .int (iI v3))] [.int (iI s1), .int (iI s0)] μ := by
  unfold f_X11_disputed_42 at h
  refine K_iadd (md := mX11_disputed) (pc := 42) (kTab_at (pc := 42) tX11_disputed_ok 27 rfl) ?_
  refine Z_bnd (md := mX11_disputed) (pc := 43) h (fun x1 h => ?_)
  refine K_istore_n (md := mX11_disputed) (pc := 43) (l' := [(1, .int (iI x1)), (0, .ref (X.1 + 248)), (2, .int (iI v2)), (3, .int (iI v3))]) (kTab_at (pc := 43) tX11_disputed_ok 28 rfl) (Nat.le_of_ble_eq_true rfl) rfl ?_
  refine K_iinc (md := mX11_disputed) (pc := 44) (l' := [(3, .int (iI (v3 + 1))), (1, .int (iI x1)), (0, .ref (X.1 + 248)), (2, .int (iI v2))]) 3 (kTab_at (pc := 44) tX11_disputed_ok 29 rfl) rfl (Nat.le_of_ble_eq_true rfl) rfl ?_
  refine K_goto (md := mX11_disputed) (pc := 47) (tgt := 12) (kTab_at (pc := 47) tX11_disputed_ok 30 rfl) rfl ?_
  refine K_sub [2, 1, 3, 0] rfl ?_
  exact hk12 x1 v2 (v3 + 1) μ h
def f_X11_disputed_41  (k12 : Int → Int → Int → Mu → Option Res) (v2 : Int) (v3 : Int) (s0 : Int) (μ : Mu) : Option Res := f_X11_disputed_42 k12 v2 v3 s0 0 μ
set_option maxRecDepth 100000 in
theorem c_X11_disputed_41 (X : kX)   {res : Res} (k12 : Int → Int → Int → Mu → Option Res) (hk12 : ∀ (v1 : Int), ∀ (v2 : Int), ∀ (v3 : Int), ∀ (μ : Mu), k12 v1 v2 v3 μ = some res → KK X mX11_disputed 6 1 res 12 [(0, .ref (X.1 + 248)), (1, .int (iI v1)), (2, .int (iI v2)), (3, .int (iI v3))] [] μ) (v2 : Int) (v3 : Int) (s0 : Int) (μ : Mu) (h : f_X11_disputed_41 k12 v2 v3 s0 μ = some res) : KK X mX11_disputed 6 1 res 41 [(0, .ref (X.1 + 248)), (2, .int (iI v2)), (3, .int (iI v3))] [.int (iI s0)] μ := by
  unfold f_X11_disputed_41 at h
  refine K_iconst (md := mX11_disputed) (pc := 41) (x := 0) (kTab_at (pc := 41) tX11_disputed_ok 26 rfl) rfl ?_
  refine c_X11_disputed_42 X  _ hk12 v2 v3 s0 0 μ h
def f_X11_disputed_12  (k50 : Int → Int → Mu → Option Res) : Nat → Int → Int → Int → Mu → Option Res
  | 0, _, _, _, _ => none
  | fu + 1, v1, v2, v3, μ => i_lt v3 5 (rb (f_X11_isExcused v2 v3 μ) fun μ x1 => i_eq x1 0 (rb (f_X11_state v2 v3 μ) fun μ x2 => i_eq x2 2 (f_X11_disputed_42 (f_X11_disputed_12 k50 fu) v2 v3 v1 1 μ) (f_X11_disputed_41 (f_X11_disputed_12 k50 fu) v2 v3 v1 μ)) (f_X11_disputed_41 (f_X11_disputed_12 k50 fu) v2 v3 v1 μ)) (k50 v1 v2 μ)
set_option maxRecDepth 100000 in
theorem c_X11_disputed_12 (X : kX)   {res : Res} (k50 : Int → Int → Mu → Option Res) (hk50 : ∀ (v1 : Int), ∀ (v2 : Int), ∀ (μ : Mu), k50 v1 v2 μ = some res → KK X mX11_disputed 6 1 res 50 [(0, .ref (X.1 + 248)), (1, .int (iI v1)), (2, .int (iI v2))] [] μ) : ∀ (fu : Nat)  (v1 : Int) (v2 : Int) (v3 : Int) (μ : Mu), f_X11_disputed_12 k50 fu v1 v2 v3 μ = some res → KK X mX11_disputed 6 1 res 12 [(0, .ref (X.1 + 248)), (1, .int (iI v1)), (2, .int (iI v2)), (3, .int (iI v3))] [] μ := by
  intro fu
  induction fu with
  | zero => intro v1 v2 v3 μ h; exact nomatch h
  | succ fu ih =>
    intro v1 v2 v3 μ h
    refine K_iload_n (md := mX11_disputed) (pc := 12) 3 (kTab_at (pc := 12) tX11_disputed_ok 9 rfl) rfl ?_
    refine K_iconst (md := mX11_disputed) (pc := 13) (x := 5) (kTab_at (pc := 13) tX11_disputed_ok 10 rfl) rfl ?_
    refine K_icmp_ge (md := mX11_disputed) (pc := 14) (kTab_at (pc := 14) tX11_disputed_ok 11 rfl) (tgt := 50) rfl h (fun h => ?_) (fun h => ?_)
    · refine K_sub [0, 1, 2] rfl ?_
      exact hk50 v1 v2 μ h
    · refine K_iload_n (md := mX11_disputed) (pc := 17) 1 (kTab_at (pc := 17) tX11_disputed_ok 12 rfl) rfl ?_
      refine K_aload_n (md := mX11_disputed) (pc := 18) 0 (kTab_at (pc := 18) tX11_disputed_ok 13 rfl) rfl ?_
      refine K_iload_n (md := mX11_disputed) (pc := 19) 2 (kTab_at (pc := 19) tX11_disputed_ok 14 rfl) rfl ?_
      refine K_iload_n (md := mX11_disputed) (pc := 20) 3 (kTab_at (pc := 20) tX11_disputed_ok 15 rfl) rfl ?_
      refine Z_callV (md := mX11_disputed) (pc := 21) (st := [.int (iI v1)]) (sv := (fun x1 => [.int (iI x1), .int (iI v1)])) (kTab_at (pc := 21) tX11_disputed_ok 16 rfl) mv_X11_121 sk_248 rfl (Nat.le_of_ble_eq_true rfl) (by decide) rfl (c_X11_isExcused X v2 v3 μ) (fun _ => rfl) h (fun μ x1 h => ?_) rfl
      refine K_if_ne (md := mX11_disputed) (pc := 24) (kTab_at (pc := 24) tX11_disputed_ok 17 rfl) (tgt := 41) rfl h (fun h => ?_) (fun h => ?_)
      · refine K_sub [0, 2, 3] rfl ?_
        refine c_X11_disputed_41 X  _ ih v2 v3 v1 μ h
      · refine K_aload_n (md := mX11_disputed) (pc := 27) 0 (kTab_at (pc := 27) tX11_disputed_ok 18 rfl) rfl ?_
        refine K_iload_n (md := mX11_disputed) (pc := 28) 2 (kTab_at (pc := 28) tX11_disputed_ok 19 rfl) rfl ?_
        refine K_iload_n (md := mX11_disputed) (pc := 29) 3 (kTab_at (pc := 29) tX11_disputed_ok 20 rfl) rfl ?_
        refine Z_callV (md := mX11_disputed) (pc := 30) (st := [.int (iI v1)]) (sv := (fun x2 => [.int (iI x2), .int (iI v1)])) (kTab_at (pc := 30) tX11_disputed_ok 21 rfl) mv_X11_266 sk_248 rfl (Nat.le_of_ble_eq_true rfl) (by decide) rfl (c_X11_state X v2 v3 μ) (fun _ => rfl) h (fun μ x2 h => ?_) rfl
        refine K_iconst (md := mX11_disputed) (pc := 33) (x := 2) (kTab_at (pc := 33) tX11_disputed_ok 22 rfl) rfl ?_
        refine K_icmp_ne (md := mX11_disputed) (pc := 34) (kTab_at (pc := 34) tX11_disputed_ok 23 rfl) (tgt := 41) rfl h (fun h => ?_) (fun h => ?_)
        · refine K_sub [0, 2, 3] rfl ?_
          refine c_X11_disputed_41 X  _ ih v2 v3 v1 μ h
        · refine K_iconst (md := mX11_disputed) (pc := 37) (x := 1) (kTab_at (pc := 37) tX11_disputed_ok 24 rfl) rfl ?_
          refine K_goto (md := mX11_disputed) (pc := 38) (tgt := 42) (kTab_at (pc := 38) tX11_disputed_ok 25 rfl) rfl ?_
          refine K_sub [0, 2, 3] rfl ?_
          refine c_X11_disputed_42 X  _ ih v2 v3 v1 1 μ h
def f_X11_disputed_4  (k56 : Int → Mu → Option Res) : Nat → Int → Int → Mu → Option Res
  | 0, _, _, _ => none
  | fu + 1, v1, v2, μ => i_lt v2 8 (f_X11_disputed_12 (fun v1 v2 μ => (f_X11_disputed_4 k56 fu) v1 (v2 + 1) μ) FU v1 v2 0 μ) (k56 v1 μ)
set_option maxRecDepth 100000 in
theorem c_X11_disputed_4 (X : kX)   {res : Res} (k56 : Int → Mu → Option Res) (hk56 : ∀ (v1 : Int), ∀ (μ : Mu), k56 v1 μ = some res → KK X mX11_disputed 6 1 res 56 [(1, .int (iI v1))] [] μ) : ∀ (fu : Nat)  (v1 : Int) (v2 : Int) (μ : Mu), f_X11_disputed_4 k56 fu v1 v2 μ = some res → KK X mX11_disputed 6 1 res 4 [(0, .ref (X.1 + 248)), (1, .int (iI v1)), (2, .int (iI v2))] [] μ := by
  intro fu
  induction fu with
  | zero => intro v1 v2 μ h; exact nomatch h
  | succ fu ih =>
    intro v1 v2 μ h
    refine K_iload_n (md := mX11_disputed) (pc := 4) 2 (kTab_at (pc := 4) tX11_disputed_ok 4 rfl) rfl ?_
    refine K_bipush (md := mX11_disputed) (pc := 5) (x := 8) (kTab_at (pc := 5) tX11_disputed_ok 5 rfl) (by decide) ?_
    refine K_icmp_ge (md := mX11_disputed) (pc := 7) (kTab_at (pc := 7) tX11_disputed_ok 6 rfl) (tgt := 56) rfl h (fun h => ?_) (fun h => ?_)
    · refine K_sub [1] rfl ?_
      exact hk56 v1 μ h
    · refine K_iconst (md := mX11_disputed) (pc := 10) (x := 0) (kTab_at (pc := 10) tX11_disputed_ok 7 rfl) rfl ?_
      refine K_istore_n (md := mX11_disputed) (pc := 11) (l' := [(3, .int (iI 0)), (0, .ref (X.1 + 248)), (1, .int (iI v1)), (2, .int (iI v2))]) (kTab_at (pc := 11) tX11_disputed_ok 8 rfl) (Nat.le_of_ble_eq_true rfl) rfl ?_
      refine K_sub [1, 2, 3, 0] rfl ?_
      refine c_X11_disputed_12 X  _ ?_ _ v1 v2 0 μ h
      · intro v1 v2 μ h
        refine K_iinc (md := mX11_disputed) (pc := 50) (l' := [(2, .int (iI (v2 + 1))), (0, .ref (X.1 + 248)), (1, .int (iI v1))]) 2 (kTab_at (pc := 50) tX11_disputed_ok 31 rfl) rfl (Nat.le_of_ble_eq_true rfl) rfl ?_
        refine K_goto (md := mX11_disputed) (pc := 53) (tgt := 4) (kTab_at (pc := 53) tX11_disputed_ok 32 rfl) rfl ?_
        refine K_sub [1, 2, 0] rfl ?_
        exact ih v1 (v2 + 1) μ h
def f_X11_disputed  (μ : Mu) : Option Res := f_X11_disputed_4 (fun v1 μ => some (μ, 0, v1)) FU 0 0 μ
set_option maxRecDepth 100000 in
theorem c_X11_disputed (X : kX)   (μ : Mu) : Cq X mX11_disputed 6 1 μ [.ref (X.1 + 248)] (f_X11_disputed  μ) := by
  intro res h
  refine ct_of (by decide +kernel) rfl (Nat.le_of_ble_eq_true rfl) ?_
  show KK X mX11_disputed 6 1 res 0 [(0, .ref (X.1 + 248))] [] μ
  unfold f_X11_disputed at h
  refine K_iconst (md := mX11_disputed) (pc := 0) (x := 0) (kTab_at (pc := 0) tX11_disputed_ok 0 rfl) rfl ?_
  refine K_istore_n (md := mX11_disputed) (pc := 1) (l' := [(1, .int (iI 0)), (0, .ref (X.1 + 248))]) (kTab_at (pc := 1) tX11_disputed_ok 1 rfl) (Nat.le_of_ble_eq_true rfl) rfl ?_
  refine K_iconst (md := mX11_disputed) (pc := 2) (x := 0) (kTab_at (pc := 2) tX11_disputed_ok 2 rfl) rfl ?_
  refine K_istore_n (md := mX11_disputed) (pc := 3) (l' := [(2, .int (iI 0)), (1, .int (iI 0)), (0, .ref (X.1 + 248))]) (kTab_at (pc := 3) tX11_disputed_ok 3 rfl) (Nat.le_of_ble_eq_true rfl) rfl ?_
  refine K_sub [2, 1, 0] rfl ?_
  refine c_X11_disputed_4 X  _ ?_ _ 0 0 μ h
  · intro v1 μ h
    refine K_iload_n (md := mX11_disputed) (pc := 56) 0 (kTab_at (pc := 56) tX11_disputed_ok 33 rfl) rfl ?_
    exact Z_iret (md := mX11_disputed) (pc := 57) (kTab_at (pc := 57) tX11_disputed_ok 34 rfl) rfl rfl rfl h
def f_X11_count (p1 : Int) (μ : Mu) : Option Res := wrF μ 248 0 0 fun μ => i_sw p1 0 [rdI μ 249 779 144 fun x1 => some (μ, 0, x1), rb (f_X11_withGrades μ) fun μ x2 => some (μ, 0, x2), rb (f_X11_seeds μ) fun μ x3 => some (μ, 0, x3), rb (f_X11_seedMarks μ) fun μ x4 => some (μ, 0, x4), rdI μ 249 779 641 fun x5 => some (μ, 0, x5), rdI μ 249 779 652 fun x6 => some (μ, 0, x6), rb (f_X11_full μ) fun μ x7 => some (μ, 0, x7), rdF μ 248 8 fun x8 => some (μ, 0, x8), rdF μ 248 5 fun x9 => some (μ, 0, x9), rb (f_X11_disputed μ) fun μ x10 => some (μ, 0, x10)] (rb (f_X11_fails 1 μ) fun μ x11 => some (μ, 0, x11))
set_option maxRecDepth 100000 in
theorem c_X11_count (X : kX) (p1 : Int)  (μ : Mu) : Cq X mX11_count 7 1 μ [.ref (X.1 + 248), .int (iI p1)] (f_X11_count p1 μ) := by
  intro res h
  refine ct_of (by decide +kernel) rfl (Nat.le_of_ble_eq_true rfl) ?_
  show KK X mX11_count 7 1 res 0 [(0, .ref (X.1 + 248)), (1, .int (iI p1))] [] μ
  unfold f_X11_count at h
  refine K_aload_n (md := mX11_count) (pc := 0) 0 (kTab_at (pc := 0) tX11_count_ok 0 rfl) rfl ?_
  refine K_iconst (md := mX11_count) (pc := 1) (x := 0) (kTab_at (pc := 1) tX11_count_ok 1 rfl) rfl ?_
  refine Z_putI (md := mX11_count) (pc := 2) (kTab_at (pc := 2) tX11_count_ok 2 rfl) fl_X11_48 sk_248 rfl h (fun μ h => ?_)
  refine K_iload_n (md := mX11_count) (pc := 5) 1 (kTab_at (pc := 5) tX11_count_ok 3 rfl) rfl ?_
  refine K_tsw (md := mX11_count) (pc := 6) (dt := 122) (kTab_at (pc := 6) tX11_count_ok 4 rfl) rfl rfl h (And.intro (fun h => ⟨60, rfl, ?_⟩) (And.intro (fun h => ⟨69, rfl, ?_⟩) (And.intro (fun h => ⟨74, rfl, ?_⟩) (And.intro (fun h => ⟨79, rfl, ?_⟩) (And.intro (fun h => ⟨84, rfl, ?_⟩) (And.intro (fun h => ⟨93, rfl, ?_⟩) (And.intro (fun h => ⟨102, rfl, ?_⟩) (And.intro (fun h => ⟨107, rfl, ?_⟩) (And.intro (fun h => ⟨112, rfl, ?_⟩) (And.intro (fun h => ⟨117, rfl, ?_⟩) (True.intro))))))))))) (fun h => ?_)
  · refine K_aload_n (md := mX11_count) (pc := 60) 0 (kTab_at (pc := 60) tX11_count_ok 5 rfl) rfl ?_
    refine K_getR (md := mX11_count) (pc := 61) (b := 249) (kTab_at (pc := 61) tX11_count_ok 6 rfl) fl_X11_7 sk_248 rfl rfl ?_
    refine K_sipush (md := mX11_count) (pc := 64) (x := 144) (kTab_at (pc := 64) tX11_count_ok 7 rfl) (by decide) ?_
    refine Z_iald (md := mX11_count) (pc := 67) (kTab_at (pc := 67) tX11_count_ok 8 rfl) sk_249 (by decide) h (fun x1 h => ?_)
    exact Z_iret (md := mX11_count) (pc := 68) (kTab_at (pc := 68) tX11_count_ok 9 rfl) rfl rfl rfl h
  · refine K_aload_n (md := mX11_count) (pc := 69) 0 (kTab_at (pc := 69) tX11_count_ok 10 rfl) rfl ?_
    refine Z_callV (md := mX11_count) (pc := 70) (st := []) (sv := (fun x2 => [.int (iI x2)])) (kTab_at (pc := 70) tX11_count_ok 11 rfl) mv_X11_298 sk_248 rfl (Nat.le_of_ble_eq_true rfl) (by decide) rfl (c_X11_withGrades X μ) (fun _ => rfl) h (fun μ x2 h => ?_) rfl
    exact Z_iret (md := mX11_count) (pc := 73) (kTab_at (pc := 73) tX11_count_ok 12 rfl) rfl rfl rfl h
  · refine K_aload_n (md := mX11_count) (pc := 74) 0 (kTab_at (pc := 74) tX11_count_ok 13 rfl) rfl ?_
    refine Z_callV (md := mX11_count) (pc := 75) (st := []) (sv := (fun x3 => [.int (iI x3)])) (kTab_at (pc := 75) tX11_count_ok 14 rfl) mv_X11_307 sk_248 rfl (Nat.le_of_ble_eq_true rfl) (by decide) rfl (c_X11_seeds X μ) (fun _ => rfl) h (fun μ x3 h => ?_) rfl
    exact Z_iret (md := mX11_count) (pc := 78) (kTab_at (pc := 78) tX11_count_ok 15 rfl) rfl rfl rfl h
  · refine K_aload_n (md := mX11_count) (pc := 79) 0 (kTab_at (pc := 79) tX11_count_ok 16 rfl) rfl ?_
    refine Z_callV (md := mX11_count) (pc := 80) (st := []) (sv := (fun x4 => [.int (iI x4)])) (kTab_at (pc := 80) tX11_count_ok 17 rfl) mv_X11_310 sk_248 rfl (Nat.le_of_ble_eq_true rfl) (by decide) rfl (c_X11_seedMarks X μ) (fun _ => rfl) h (fun μ x4 h => ?_) rfl
    exact Z_iret (md := mX11_count) (pc := 83) (kTab_at (pc := 83) tX11_count_ok 18 rfl) rfl rfl rfl h
  · refine K_aload_n (md := mX11_count) (pc := 84) 0 (kTab_at (pc := 84) tX11_count_ok 19 rfl) rfl ?_
    refine K_getR (md := mX11_count) (pc := 85) (b := 249) (kTab_at (pc := 85) tX11_count_ok 20 rfl) fl_X11_7 sk_248 rfl rfl ?_
    refine K_sipush (md := mX11_count) (pc := 88) (x := 641) (kTab_at (pc := 88) tX11_count_ok 21 rfl) (by decide) ?_
    refine Z_iald (md := mX11_count) (pc := 91) (kTab_at (pc := 91) tX11_count_ok 22 rfl) sk_249 (by decide) h (fun x5 h => ?_)
    exact Z_iret (md := mX11_count) (pc := 92) (kTab_at (pc := 92) tX11_count_ok 23 rfl) rfl rfl rfl h
  · refine K_aload_n (md := mX11_count) (pc := 93) 0 (kTab_at (pc := 93) tX11_count_ok 24 rfl) rfl ?_
    refine K_getR (md := mX11_count) (pc := 94) (b := 249) (kTab_at (pc := 94) tX11_count_ok 25 rfl) fl_X11_7 sk_248 rfl rfl ?_
    refine K_sipush (md := mX11_count) (pc := 97) (x := 652) (kTab_at (pc := 97) tX11_count_ok 26 rfl) (by decide) ?_
    refine Z_iald (md := mX11_count) (pc := 100) (kTab_at (pc := 100) tX11_count_ok 27 rfl) sk_249 (by decide) h (fun x6 h => ?_)
    exact Z_iret (md := mX11_count) (pc := 101) (kTab_at (pc := 101) tX11_count_ok 28 rfl) rfl rfl rfl h
  · refine K_aload_n (md := mX11_count) (pc := 102) 0 (kTab_at (pc := 102) tX11_count_ok 29 rfl) rfl ?_
    refine Z_callV (md := mX11_count) (pc := 103) (st := []) (sv := (fun x7 => [.int (iI x7)])) (kTab_at (pc := 103) tX11_count_ok 30 rfl) mv_X11_124 sk_248 rfl (Nat.le_of_ble_eq_true rfl) (by decide) rfl (c_X11_full X μ) (fun _ => rfl) h (fun μ x7 h => ?_) rfl
    exact Z_iret (md := mX11_count) (pc := 106) (kTab_at (pc := 106) tX11_count_ok 31 rfl) rfl rfl rfl h
  · refine K_aload_n (md := mX11_count) (pc := 107) 0 (kTab_at (pc := 107) tX11_count_ok 32 rfl) rfl ?_
    refine Z_getI (md := mX11_count) (pc := 108) (kTab_at (pc := 108) tX11_count_ok 33 rfl) fl_X11_228 sk_248 (Or.inl rfl) h (fun x8 h => ?_)
    exact Z_iret (md := mX11_count) (pc := 111) (kTab_at (pc := 111) tX11_count_ok 34 rfl) rfl rfl rfl h
  · refine K_aload_n (md := mX11_count) (pc := 112) 0 (kTab_at (pc := 112) tX11_count_ok 35 rfl) rfl ?_
    refine Z_getI (md := mX11_count) (pc := 113) (kTab_at (pc := 113) tX11_count_ok 36 rfl) fl_X11_55 sk_248 (Or.inl rfl) h (fun x9 h => ?_)
    exact Z_iret (md := mX11_count) (pc := 116) (kTab_at (pc := 116) tX11_count_ok 37 rfl) rfl rfl rfl h
  · refine K_aload_n (md := mX11_count) (pc := 117) 0 (kTab_at (pc := 117) tX11_count_ok 38 rfl) rfl ?_
    refine Z_callV (md := mX11_count) (pc := 118) (st := []) (sv := (fun x10 => [.int (iI x10)])) (kTab_at (pc := 118) tX11_count_ok 39 rfl) mv_X11_313 sk_248 rfl (Nat.le_of_ble_eq_true rfl) (by decide) rfl (c_X11_disputed X μ) (fun _ => rfl) h (fun μ x10 h => ?_) rfl
    exact Z_iret (md := mX11_count) (pc := 121) (kTab_at (pc := 121) tX11_count_ok 40 rfl) rfl rfl rfl h
  · refine K_aload_n (md := mX11_count) (pc := 122) 0 (kTab_at (pc := 122) tX11_count_ok 41 rfl) rfl ?_
    refine K_iconst (md := mX11_count) (pc := 123) (x := 1) (kTab_at (pc := 123) tX11_count_ok 42 rfl) rfl ?_
    refine Z_callV (md := mX11_count) (pc := 124) (st := []) (sv := (fun x11 => [.int (iI x11)])) (kTab_at (pc := 124) tX11_count_ok 43 rfl) mv_X11_177 sk_248 rfl (Nat.le_of_ble_eq_true rfl) (by decide) rfl (c_X11_fails X 1 μ) (fun _ => rfl) h (fun μ x11 h => ?_) rfl
    exact Z_iret (md := mX11_count) (pc := 127) (kTab_at (pc := 127) tX11_count_ok 44 rfl) rfl rfl rfl h
def f_X11_undo_30  (k64 : Mu → Option Res) : Nat → Int → Mu → Option Res
  | 0, _, _ => none
  | fu + 1, v1, μ => i_lt v1 779 (rdF μ 248 5 fun x1 => rdI μ 252 4674 ((779 * x1) + v1) fun x2 => wrI μ 249 779 v1 x2 fun μ => (f_X11_undo_30 k64 fu) (v1 + 1) μ) (k64 μ)
set_option maxRecDepth 100000 in
theorem c_X11_undo_30 (X : kX)   {res : Res} (k64 : Mu → Option Res) (hk64 : ∀ (μ : Mu), k64 μ = some res → KK X mX11_undo 1 1 res 64 [(0, .ref (X.1 + 248))] [] μ) : ∀ (fu : Nat)  (v1 : Int) (μ : Mu), f_X11_undo_30 k64 fu v1 μ = some res → KK X mX11_undo 1 1 res 30 [(0, .ref (X.1 + 248)), (1, .int (iI v1))] [] μ := by
  intro fu
  induction fu with
  | zero => intro v1 μ h; exact nomatch h
  | succ fu ih =>
    intro v1 μ h
    refine K_iload_n (md := mX11_undo) (pc := 30) 1 (kTab_at (pc := 30) tX11_undo_ok 18 rfl) rfl ?_
    refine K_sipush (md := mX11_undo) (pc := 31) (x := 779) (kTab_at (pc := 31) tX11_undo_ok 19 rfl) (by decide) ?_
    refine K_icmp_ge (md := mX11_undo) (pc := 34) (kTab_at (pc := 34) tX11_undo_ok 20 rfl) (tgt := 64) rfl h (fun h => ?_) (fun h => ?_)
    · refine K_sub [0] rfl ?_
      exact hk64 μ h
    · refine K_aload_n (md := mX11_undo) (pc := 37) 0 (kTab_at (pc := 37) tX11_undo_ok 21 rfl) rfl ?_
      refine K_getR (md := mX11_undo) (pc := 38) (b := 249) (kTab_at (pc := 38) tX11_undo_ok 22 rfl) fl_X11_7 sk_248 rfl rfl ?_
      refine K_iload_n (md := mX11_undo) (pc := 41) 1 (kTab_at (pc := 41) tX11_undo_ok 23 rfl) rfl ?_
      refine K_aload_n (md := mX11_undo) (pc := 42) 0 (kTab_at (pc := 42) tX11_undo_ok 24 rfl) rfl ?_
      refine K_getR (md := mX11_undo) (pc := 43) (b := 252) (kTab_at (pc := 43) tX11_undo_ok 25 rfl) fl_X11_19 sk_248 rfl rfl ?_
      refine K_sipush (md := mX11_undo) (pc := 46) (x := 779) (kTab_at (pc := 46) tX11_undo_ok 26 rfl) (by decide) ?_
      refine K_aload_n (md := mX11_undo) (pc := 49) 0 (kTab_at (pc := 49) tX11_undo_ok 27 rfl) rfl ?_
      refine Z_getI (md := mX11_undo) (pc := 50) (kTab_at (pc := 50) tX11_undo_ok 28 rfl) fl_X11_55 sk_248 (Or.inl rfl) h (fun x1 h => ?_)
      refine K_imul (md := mX11_undo) (pc := 53) (kTab_at (pc := 53) tX11_undo_ok 29 rfl) ?_
      refine K_iload_n (md := mX11_undo) (pc := 54) 1 (kTab_at (pc := 54) tX11_undo_ok 30 rfl) rfl ?_
      refine K_iadd (md := mX11_undo) (pc := 55) (kTab_at (pc := 55) tX11_undo_ok 31 rfl) ?_
      refine Z_iald (md := mX11_undo) (pc := 56) (kTab_at (pc := 56) tX11_undo_ok 32 rfl) sk_252 (by decide) h (fun x2 h => ?_)
      refine Z_iast (md := mX11_undo) (pc := 57) (kTab_at (pc := 57) tX11_undo_ok 33 rfl) sk_249 (by decide) h (fun μ h => ?_)
      refine K_iinc (md := mX11_undo) (pc := 58) (l' := [(1, .int (iI (v1 + 1))), (0, .ref (X.1 + 248))]) 1 (kTab_at (pc := 58) tX11_undo_ok 34 rfl) rfl (Nat.le_of_ble_eq_true rfl) rfl ?_
      refine K_goto (md := mX11_undo) (pc := 61) (tgt := 30) (kTab_at (pc := 61) tX11_undo_ok 35 rfl) rfl ?_
      refine K_sub [1, 0] rfl ?_
      exact ih (v1 + 1) μ h
def f_X11_undo  (μ : Mu) : Option Res := wrF μ 248 0 0 fun μ => rdF μ 248 5 fun x1 => i_eq x1 0 (rb (f_X11_fails 1 μ) fun μ x4 => some (μ, 0, x4)) (rdF μ 248 5 fun x2 => wrF μ 248 5 (x2 - 1) fun μ => f_X11_undo_30 (fun μ => rdF μ 248 5 fun x3 => some (μ, 0, x3)) FU 0 μ)
set_option maxRecDepth 100000 in
theorem c_X11_undo (X : kX)   (μ : Mu) : Cq X mX11_undo 1 1 μ [.ref (X.1 + 248)] (f_X11_undo  μ) := by
  intro res h
  refine ct_of (by decide +kernel) rfl (Nat.le_of_ble_eq_true rfl) ?_
  show KK X mX11_undo 1 1 res 0 [(0, .ref (X.1 + 248))] [] μ
  unfold f_X11_undo at h
  refine K_aload_n (md := mX11_undo) (pc := 0) 0 (kTab_at (pc := 0) tX11_undo_ok 0 rfl) rfl ?_
  refine K_iconst (md := mX11_undo) (pc := 1) (x := 0) (kTab_at (pc := 1) tX11_undo_ok 1 rfl) rfl ?_
  refine Z_putI (md := mX11_undo) (pc := 2) (kTab_at (pc := 2) tX11_undo_ok 2 rfl) fl_X11_48 sk_248 rfl h (fun μ h => ?_)
  refine K_aload_n (md := mX11_undo) (pc := 5) 0 (kTab_at (pc := 5) tX11_undo_ok 3 rfl) rfl ?_
  refine Z_getI (md := mX11_undo) (pc := 6) (kTab_at (pc := 6) tX11_undo_ok 4 rfl) fl_X11_55 sk_248 (Or.inl rfl) h (fun x1 h => ?_)
  refine K_if_ne (md := mX11_undo) (pc := 9) (kTab_at (pc := 9) tX11_undo_ok 5 rfl) (tgt := 18) rfl h (fun h => ?_) (fun h => ?_)
  · refine K_aload_n (md := mX11_undo) (pc := 18) 0 (kTab_at (pc := 18) tX11_undo_ok 10 rfl) rfl ?_
    refine K_dup (md := mX11_undo) (pc := 19) (kTab_at (pc := 19) tX11_undo_ok 11 rfl) rfl ?_
    refine Z_getI (md := mX11_undo) (pc := 20) (kTab_at (pc := 20) tX11_undo_ok 12 rfl) fl_X11_55 sk_248 (Or.inl rfl) h (fun x2 h => ?_)
    refine K_iconst (md := mX11_undo) (pc := 23) (x := 1) (kTab_at (pc := 23) tX11_undo_ok 13 rfl) rfl ?_
    refine K_isub (md := mX11_undo) (pc := 24) (kTab_at (pc := 24) tX11_undo_ok 14 rfl) ?_
    refine Z_putI (md := mX11_undo) (pc := 25) (kTab_at (pc := 25) tX11_undo_ok 15 rfl) fl_X11_55 sk_248 rfl h (fun μ h => ?_)
    refine K_iconst (md := mX11_undo) (pc := 28) (x := 0) (kTab_at (pc := 28) tX11_undo_ok 16 rfl) rfl ?_
    refine K_istore_n (md := mX11_undo) (pc := 29) (l' := [(1, .int (iI 0)), (0, .ref (X.1 + 248))]) (kTab_at (pc := 29) tX11_undo_ok 17 rfl) (Nat.le_of_ble_eq_true rfl) rfl ?_
    refine K_sub [1, 0] rfl ?_
    refine c_X11_undo_30 X  _ ?_ _ 0 μ h
    · intro  μ h
      refine K_aload_n (md := mX11_undo) (pc := 64) 0 (kTab_at (pc := 64) tX11_undo_ok 36 rfl) rfl ?_
      refine Z_getI (md := mX11_undo) (pc := 65) (kTab_at (pc := 65) tX11_undo_ok 37 rfl) fl_X11_55 sk_248 (Or.inl rfl) h (fun x3 h => ?_)
      exact Z_iret (md := mX11_undo) (pc := 68) (kTab_at (pc := 68) tX11_undo_ok 38 rfl) rfl rfl rfl h
  · refine K_aload_n (md := mX11_undo) (pc := 12) 0 (kTab_at (pc := 12) tX11_undo_ok 6 rfl) rfl ?_
    refine K_iconst (md := mX11_undo) (pc := 13) (x := 1) (kTab_at (pc := 13) tX11_undo_ok 7 rfl) rfl ?_
    refine Z_callV (md := mX11_undo) (pc := 14) (st := []) (sv := (fun x4 => [.int (iI x4)])) (kTab_at (pc := 14) tX11_undo_ok 8 rfl) mv_X11_177 sk_248 rfl (Nat.le_of_ble_eq_true rfl) (by decide) rfl (c_X11_fails X 1 μ) (fun _ => rfl) h (fun μ x4 h => ?_) rfl
    exact Z_iret (md := mX11_undo) (pc := 17) (kTab_at (pc := 17) tX11_undo_ok 9 rfl) rfl rfl rfl h
def f_X11_save_7  (k32 : Mu → Option Res) : Nat → Int → Mu → Option Res
  | 0, _, _ => none
  | fu + 1, v1, μ => i_lt v1 779 (rdI μ 249 779 v1 fun x1 => wrI μ 250 779 v1 x1 fun μ => (f_X11_save_7 k32 fu) (v1 + 1) μ) (k32 μ)
set_option maxRecDepth 100000 in
theorem c_X11_save_7 (X : kX)   {res : Res} (k32 : Mu → Option Res) (hk32 : ∀ (μ : Mu), k32 μ = some res → KK X mX11_save 0 1 res 32 [(0, .ref (X.1 + 248))] [] μ) : ∀ (fu : Nat)  (v1 : Int) (μ : Mu), f_X11_save_7 k32 fu v1 μ = some res → KK X mX11_save 0 1 res 7 [(0, .ref (X.1 + 248)), (1, .int (iI v1))] [] μ := by
  intro fu
  induction fu with
  | zero => intro v1 μ h; exact nomatch h
  | succ fu ih =>
    intro v1 μ h
    refine K_iload_n (md := mX11_save) (pc := 7) 1 (kTab_at (pc := 7) tX11_save_ok 5 rfl) rfl ?_
    refine K_sipush (md := mX11_save) (pc := 8) (x := 779) (kTab_at (pc := 8) tX11_save_ok 6 rfl) (by decide) ?_
    refine K_icmp_ge (md := mX11_save) (pc := 11) (kTab_at (pc := 11) tX11_save_ok 7 rfl) (tgt := 32) rfl h (fun h => ?_) (fun h => ?_)
    · refine K_sub [0] rfl ?_
      exact hk32 μ h
    · refine K_aload_n (md := mX11_save) (pc := 14) 0 (kTab_at (pc := 14) tX11_save_ok 8 rfl) rfl ?_
      refine K_getR (md := mX11_save) (pc := 15) (b := 250) (kTab_at (pc := 15) tX11_save_ok 9 rfl) fl_X11_13 sk_248 rfl rfl ?_
      refine K_iload_n (md := mX11_save) (pc := 18) 1 (kTab_at (pc := 18) tX11_save_ok 10 rfl) rfl ?_
      refine K_aload_n (md := mX11_save) (pc := 19) 0 (kTab_at (pc := 19) tX11_save_ok 11 rfl) rfl ?_
      refine K_getR (md := mX11_save) (pc := 20) (b := 249) (kTab_at (pc := 20) tX11_save_ok 12 rfl) fl_X11_7 sk_248 rfl rfl ?_
      refine K_iload_n (md := mX11_save) (pc := 23) 1 (kTab_at (pc := 23) tX11_save_ok 13 rfl) rfl ?_
      refine Z_iald (md := mX11_save) (pc := 24) (kTab_at (pc := 24) tX11_save_ok 14 rfl) sk_249 (by decide) h (fun x1 h => ?_)
      refine Z_iast (md := mX11_save) (pc := 25) (kTab_at (pc := 25) tX11_save_ok 15 rfl) sk_250 (by decide) h (fun μ h => ?_)
      refine K_iinc (md := mX11_save) (pc := 26) (l' := [(1, .int (iI (v1 + 1))), (0, .ref (X.1 + 248))]) 1 (kTab_at (pc := 26) tX11_save_ok 16 rfl) rfl (Nat.le_of_ble_eq_true rfl) rfl ?_
      refine K_goto (md := mX11_save) (pc := 29) (tgt := 7) (kTab_at (pc := 29) tX11_save_ok 17 rfl) rfl ?_
      refine K_sub [1, 0] rfl ?_
      exact ih (v1 + 1) μ h
def f_X11_save  (μ : Mu) : Option Res := wrF μ 248 0 0 fun μ => f_X11_save_7 (fun μ => wrZ μ 248 6 1 fun μ => rdI μ 249 779 144 fun x1 => some (μ, 0, x1)) FU 0 μ
set_option maxRecDepth 100000 in
theorem c_X11_save (X : kX)   (μ : Mu) : Cq X mX11_save 0 1 μ [.ref (X.1 + 248)] (f_X11_save  μ) := by
  intro res h
  refine ct_of (by decide +kernel) rfl (Nat.le_of_ble_eq_true rfl) ?_
  show KK X mX11_save 0 1 res 0 [(0, .ref (X.1 + 248))] [] μ
  unfold f_X11_save at h
  refine K_aload_n (md := mX11_save) (pc := 0) 0 (kTab_at (pc := 0) tX11_save_ok 0 rfl) rfl ?_
  refine K_iconst (md := mX11_save) (pc := 1) (x := 0) (kTab_at (pc := 1) tX11_save_ok 1 rfl) rfl ?_
  refine Z_putI (md := mX11_save) (pc := 2) (kTab_at (pc := 2) tX11_save_ok 2 rfl) fl_X11_48 sk_248 rfl h (fun μ h => ?_)
  refine K_iconst (md := mX11_save) (pc := 5) (x := 0) (kTab_at (pc := 5) tX11_save_ok 3 rfl) rfl ?_
  refine K_istore_n (md := mX11_save) (pc := 6) (l' := [(1, .int (iI 0)), (0, .ref (X.1 + 248))]) (kTab_at (pc := 6) tX11_save_ok 4 rfl) (Nat.le_of_ble_eq_true rfl) rfl ?_
  refine K_sub [1, 0] rfl ?_
  refine c_X11_save_7 X  _ ?_ _ 0 μ h
  · intro  μ h
    refine K_aload_n (md := mX11_save) (pc := 32) 0 (kTab_at (pc := 32) tX11_save_ok 18 rfl) rfl ?_
    refine K_iconst (md := mX11_save) (pc := 33) (x := 1) (kTab_at (pc := 33) tX11_save_ok 19 rfl) rfl ?_
    refine Z_putZ (md := mX11_save) (pc := 34) (kTab_at (pc := 34) tX11_save_ok 20 rfl) fl_X11_316 sk_248 rfl h (fun μ h => ?_)
    refine K_aload_n (md := mX11_save) (pc := 37) 0 (kTab_at (pc := 37) tX11_save_ok 21 rfl) rfl ?_
    refine K_getR (md := mX11_save) (pc := 38) (b := 249) (kTab_at (pc := 38) tX11_save_ok 22 rfl) fl_X11_7 sk_248 rfl rfl ?_
    refine K_sipush (md := mX11_save) (pc := 41) (x := 144) (kTab_at (pc := 41) tX11_save_ok 23 rfl) (by decide) ?_
    refine Z_iald (md := mX11_save) (pc := 44) (kTab_at (pc := 44) tX11_save_ok 24 rfl) sk_249 (by decide) h (fun x1 h => ?_)
    exact Z_iret (md := mX11_save) (pc := 45) (kTab_at (pc := 45) tX11_save_ok 25 rfl) rfl rfl rfl h
def f_X11_restore_24  (k49 : Mu → Option Res) : Nat → Int → Mu → Option Res
  | 0, _, _ => none
  | fu + 1, v1, μ => i_lt v1 779 (rdI μ 250 779 v1 fun x1 => wrI μ 249 779 v1 x1 fun μ => (f_X11_restore_24 k49 fu) (v1 + 1) μ) (k49 μ)
set_option maxRecDepth 100000 in
theorem c_X11_restore_24 (X : kX)   {res : Res} (k49 : Mu → Option Res) (hk49 : ∀ (μ : Mu), k49 μ = some res → KK X mX11_restore 2 1 res 49 [(0, .ref (X.1 + 248))] [] μ) : ∀ (fu : Nat)  (v1 : Int) (μ : Mu), f_X11_restore_24 k49 fu v1 μ = some res → KK X mX11_restore 2 1 res 24 [(0, .ref (X.1 + 248)), (1, .int (iI v1))] [] μ := by
  intro fu
  induction fu with
  | zero => intro v1 μ h; exact nomatch h
  | succ fu ih =>
    intro v1 μ h
    refine K_iload_n (md := mX11_restore) (pc := 24) 1 (kTab_at (pc := 24) tX11_restore_ok 14 rfl) rfl ?_
    refine K_sipush (md := mX11_restore) (pc := 25) (x := 779) (kTab_at (pc := 25) tX11_restore_ok 15 rfl) (by decide) ?_
    refine K_icmp_ge (md := mX11_restore) (pc := 28) (kTab_at (pc := 28) tX11_restore_ok 16 rfl) (tgt := 49) rfl h (fun h => ?_) (fun h => ?_)
    · refine K_sub [0] rfl ?_
      exact hk49 μ h
    · refine K_aload_n (md := mX11_restore) (pc := 31) 0 (kTab_at (pc := 31) tX11_restore_ok 17 rfl) rfl ?_
      refine K_getR (md := mX11_restore) (pc := 32) (b := 249) (kTab_at (pc := 32) tX11_restore_ok 18 rfl) fl_X11_7 sk_248 rfl rfl ?_
      refine K_iload_n (md := mX11_restore) (pc := 35) 1 (kTab_at (pc := 35) tX11_restore_ok 19 rfl) rfl ?_
      refine K_aload_n (md := mX11_restore) (pc := 36) 0 (kTab_at (pc := 36) tX11_restore_ok 20 rfl) rfl ?_
      refine K_getR (md := mX11_restore) (pc := 37) (b := 250) (kTab_at (pc := 37) tX11_restore_ok 21 rfl) fl_X11_13 sk_248 rfl rfl ?_
      refine K_iload_n (md := mX11_restore) (pc := 40) 1 (kTab_at (pc := 40) tX11_restore_ok 22 rfl) rfl ?_
      refine Z_iald (md := mX11_restore) (pc := 41) (kTab_at (pc := 41) tX11_restore_ok 23 rfl) sk_250 (by decide) h (fun x1 h => ?_)
      refine Z_iast (md := mX11_restore) (pc := 42) (kTab_at (pc := 42) tX11_restore_ok 24 rfl) sk_249 (by decide) h (fun μ h => ?_)
      refine K_iinc (md := mX11_restore) (pc := 43) (l' := [(1, .int (iI (v1 + 1))), (0, .ref (X.1 + 248))]) 1 (kTab_at (pc := 43) tX11_restore_ok 25 rfl) rfl (Nat.le_of_ble_eq_true rfl) rfl ?_
      refine K_goto (md := mX11_restore) (pc := 46) (tgt := 24) (kTab_at (pc := 46) tX11_restore_ok 26 rfl) rfl ?_
      refine K_sub [1, 0] rfl ?_
      exact ih (v1 + 1) μ h
def f_X11_restore  (μ : Mu) : Option Res := wrF μ 248 0 0 fun μ => rdF μ 248 6 fun x1 => i_eq x1 0 (rb (f_X11_fails 1 μ) fun μ x3 => some (μ, 0, x3)) (rb (f_X11_changes μ) fun μ _ => f_X11_restore_24 (fun μ => rdI μ 249 779 144 fun x2 => some (μ, 0, x2)) FU 0 μ)
set_option maxRecDepth 100000 in
theorem c_X11_restore (X : kX)   (μ : Mu) : Cq X mX11_restore 2 1 μ [.ref (X.1 + 248)] (f_X11_restore  μ) := by
  intro res h
  refine ct_of (by decide +kernel) rfl (Nat.le_of_ble_eq_true rfl) ?_
  show KK X mX11_restore 2 1 res 0 [(0, .ref (X.1 + 248))] [] μ
  unfold f_X11_restore at h
  refine K_aload_n (md := mX11_restore) (pc := 0) 0 (kTab_at (pc := 0) tX11_restore_ok 0 rfl) rfl ?_
  refine K_iconst (md := mX11_restore) (pc := 1) (x := 0) (kTab_at (pc := 1) tX11_restore_ok 1 rfl) rfl ?_
  refine Z_putI (md := mX11_restore) (pc := 2) (kTab_at (pc := 2) tX11_restore_ok 2 rfl) fl_X11_48 sk_248 rfl h (fun μ h => ?_)
  refine K_aload_n (md := mX11_restore) (pc := 5) 0 (kTab_at (pc := 5) tX11_restore_ok 3 rfl) rfl ?_
  refine Z_getI (md := mX11_restore) (pc := 6) (kTab_at (pc := 6) tX11_restore_ok 4 rfl) fl_X11_316 sk_248 (Or.inr rfl) h (fun x1 h => ?_)
  refine K_if_ne (md := mX11_restore) (pc := 9) (kTab_at (pc := 9) tX11_restore_ok 5 rfl) (tgt := 18) rfl h (fun h => ?_) (fun h => ?_)
  · refine K_aload_n (md := mX11_restore) (pc := 18) 0 (kTab_at (pc := 18) tX11_restore_ok 10 rfl) rfl ?_
    refine Z_callV (md := mX11_restore) (pc := 19) (st := []) (sv := (fun _ => [])) (kTab_at (pc := 19) tX11_restore_ok 11 rfl) mv_X11_190 sk_248 rfl (Nat.le_of_ble_eq_true rfl) (by decide) rfl (c_X11_changes X μ) (fun _ => rfl) h (fun μ _ h => ?_) rfl
    refine K_iconst (md := mX11_restore) (pc := 22) (x := 0) (kTab_at (pc := 22) tX11_restore_ok 12 rfl) rfl ?_
    refine K_istore_n (md := mX11_restore) (pc := 23) (l' := [(1, .int (iI 0)), (0, .ref (X.1 + 248))]) (kTab_at (pc := 23) tX11_restore_ok 13 rfl) (Nat.le_of_ble_eq_true rfl) rfl ?_
    refine K_sub [1, 0] rfl ?_
    refine c_X11_restore_24 X  _ ?_ _ 0 μ h
    · intro  μ h
      refine K_aload_n (md := mX11_restore) (pc := 49) 0 (kTab_at (pc := 49) tX11_restore_ok 27 rfl) rfl ?_
      refine K_getR (md := mX11_restore) (pc := 50) (b := 249) (kTab_at (pc := 50) tX11_restore_ok 28 rfl) fl_X11_7 sk_248 rfl rfl ?_
      refine K_sipush (md := mX11_restore) (pc := 53) (x := 144) (kTab_at (pc := 53) tX11_restore_ok 29 rfl) (by decide) ?_
      refine Z_iald (md := mX11_restore) (pc := 56) (kTab_at (pc := 56) tX11_restore_ok 30 rfl) sk_249 (by decide) h (fun x2 h => ?_)
      exact Z_iret (md := mX11_restore) (pc := 57) (kTab_at (pc := 57) tX11_restore_ok 31 rfl) rfl rfl rfl h
  · refine K_aload_n (md := mX11_restore) (pc := 12) 0 (kTab_at (pc := 12) tX11_restore_ok 6 rfl) rfl ?_
    refine K_iconst (md := mX11_restore) (pc := 13) (x := 1) (kTab_at (pc := 13) tX11_restore_ok 7 rfl) rfl ?_
    refine Z_callV (md := mX11_restore) (pc := 14) (st := []) (sv := (fun x3 => [.int (iI x3)])) (kTab_at (pc := 14) tX11_restore_ok 8 rfl) mv_X11_177 sk_248 rfl (Nat.le_of_ble_eq_true rfl) (by decide) rfl (c_X11_fails X 1 μ) (fun _ => rfl) h (fun μ x3 h => ?_) rfl
    exact Z_iret (md := mX11_restore) (pc := 17) (kTab_at (pc := 17) tX11_restore_ok 9 rfl) rfl rfl rfl h

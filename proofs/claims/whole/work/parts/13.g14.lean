def f_X11_bits_4 (p0 : Int) (k23 : Int → Mu → Option Res) : Nat → Int → Int → Mu → Option Res
  | 0, _, _, _ => none
  | fu + 1, v1, v2, μ => i_lt v2 5 (bnd (v1 + (andI (shrI p0 v2) 1)) fun x1 => (f_X11_bits_4 p0 k23 fu) x1 (v2 + 1) μ) (k23 v1 μ)
set_option maxRecDepth 100000 in
theorem c_X11_bits_4 (X : kX) (p0 : Int)  {res : Res} (k23 : Int → Mu → Option Res) (hk23 : ∀ (v1 : Int), ∀ (μ : Mu), k23 v1 μ = some res → KK X mX11_bits 0 1 res 23 [(1, .int (iI v1))] [] μ) : ∀ (fu : Nat)  (v1 : Int) (v2 : Int) (μ : Mu), f_X11_bits_4 p0 k23 fu v1 v2 μ = some res → KK X mX11_bits 0 1 res 4 [(0, .int (iI p0)), (1, .int (iI v1)), (2, .int (iI v2))] [] μ := by
  intro fu
  induction fu with
  | zero => intro v1 v2 μ h; exact nomatch h
  | succ fu ih =>
    intro v1 v2 μ h
    refine K_iload_n (md := mX11_bits) (pc := 4) 2 (kTab_at (pc := 4) tX11_bits_ok 4 rfl) rfl ?_
    refine K_iconst (md := mX11_bits) (pc := 5) (x := 5) (kTab_at (pc := 5) tX11_bits_ok 5 rfl) rfl ?_
    refine K_icmp_ge (md := mX11_bits) (pc := 6) (kTab_at (pc := 6) tX11_bits_ok 6 rfl) (tgt := 23) rfl h (fun h => ?_) (fun h => ?_)
    · refine K_sub [1] rfl ?_
      exact hk23 v1 μ h
    · refine K_iload_n (md := mX11_bits) (pc := 9) 1 (kTab_at (pc := 9) tX11_bits_ok 7 rfl) rfl ?_
      refine K_iload_n (md := mX11_bits) (pc := 10) 0 (kTab_at (pc := 10) tX11_bits_ok 8 rfl) rfl ?_
      refine K_iload_n (md := mX11_bits) (pc := 11) 2 (kTab_at (pc := 11) tX11_bits_ok 9 rfl) rfl ?_
      refine K_ishr (md := mX11_bits) (pc := 12) (kTab_at (pc := 12) tX11_bits_ok 10 rfl) ?_
      refine K_iconst (md := mX11_bits) (pc := 13) (x := 1) (kTab_at (pc := 13) tX11_bits_ok 11 rfl) rfl ?_
      refine K_iand (md := mX11_bits) (pc := 14) (kTab_at (pc := 14) tX11_bits_ok 12 rfl) ?_
      refine K_iadd (md := mX11_bits) (pc := 15) (kTab_at (pc := 15) tX11_bits_ok 13 rfl) ?_
      refine Z_bnd (md := mX11_bits) (pc := 16) h (fun x1 h => ?_)
      refine K_istore_n (md := mX11_bits) (pc := 16) (l' := [(1, .int (iI x1)), (0, .int (iI p0)), (2, .int (iI v2))]) (kTab_at (pc := 16) tX11_bits_ok 14 rfl) (Nat.le_of_ble_eq_true rfl) rfl ?_
      refine K_iinc (md := mX11_bits) (pc := 17) (l' := [(2, .int (iI (v2 + 1))), (1, .int (iI x1)), (0, .int (iI p0))]) 2 (kTab_at (pc := 17) tX11_bits_ok 15 rfl) rfl (Nat.le_of_ble_eq_true rfl) rfl ?_
      refine K_goto (md := mX11_bits) (pc := 20) (tgt := 4) (kTab_at (pc := 20) tX11_bits_ok 16 rfl) rfl ?_
      refine K_sub [2, 1, 0] rfl ?_
      exact ih x1 (v2 + 1) μ h
def f_X11_bits (p0 : Int) (μ : Mu) : Option Res := f_X11_bits_4 p0 (fun v1 μ => some (μ, 0, v1)) FU 0 0 μ
set_option maxRecDepth 100000 in
theorem c_X11_bits (X : kX) (p0 : Int)  (μ : Mu) : Cq X mX11_bits 0 1 μ [.int (iI p0)] (f_X11_bits p0 μ) := by
  intro res h
  refine ct_of (by decide +kernel) rfl (Nat.le_of_ble_eq_true rfl) ?_
  show KK X mX11_bits 0 1 res 0 [(0, .int (iI p0))] [] μ
  unfold f_X11_bits at h
  refine K_iconst (md := mX11_bits) (pc := 0) (x := 0) (kTab_at (pc := 0) tX11_bits_ok 0 rfl) rfl ?_
  refine K_istore_n (md := mX11_bits) (pc := 1) (l' := [(1, .int (iI 0)), (0, .int (iI p0))]) (kTab_at (pc := 1) tX11_bits_ok 1 rfl) (Nat.le_of_ble_eq_true rfl) rfl ?_
  refine K_iconst (md := mX11_bits) (pc := 2) (x := 0) (kTab_at (pc := 2) tX11_bits_ok 2 rfl) rfl ?_
  refine K_istore_n (md := mX11_bits) (pc := 3) (l' := [(2, .int (iI 0)), (1, .int (iI 0)), (0, .int (iI p0))]) (kTab_at (pc := 3) tX11_bits_ok 3 rfl) (Nat.le_of_ble_eq_true rfl) rfl ?_
  refine K_sub [2, 1, 0] rfl ?_
  refine c_X11_bits_4 X p0 _ ?_ _ 0 0 μ h
  · intro v1 μ h
    refine K_iload_n (md := mX11_bits) (pc := 23) 0 (kTab_at (pc := 23) tX11_bits_ok 17 rfl) rfl ?_
    exact Z_iret (md := mX11_bits) (pc := 24) (kTab_at (pc := 24) tX11_bits_ok 18 rfl) rfl rfl rfl h
def f_X11_excuse_114 (p1 : Int) (p2 : Int) (p3 : Int)  (v4 : Int) (s1 : Int) (s2 : Int) (s3 : Int) (μ : Mu) : Option Res := wrI μ 249 779 s1 (orI s2 s3) fun μ => retZ μ v4
set_option maxRecDepth 100000 in
theorem c_X11_excuse_114 (X : kX) (p1 : Int) (p2 : Int) (p3 : Int)  {res : Res}  (v4 : Int) (s1 : Int) (s2 : Int) (s3 : Int) (μ : Mu) (h : f_X11_excuse_114 p1 p2 p3 v4 s1 s2 s3 μ = some res) : KK X mX11_excuse 3 1 res 114 [(4, .int (iI v4))] [.int (iI s3), .int (iI s2), .int (iI s1), .ref (X.1 + 249)] μ := by
  unfold f_X11_excuse_114 at h
  refine K_ior (md := mX11_excuse) (pc := 114) (kTab_at (pc := 114) tX11_excuse_ok 66 rfl) ?_
  refine Z_iast (md := mX11_excuse) (pc := 115) (kTab_at (pc := 115) tX11_excuse_ok 67 rfl) sk_249 (by decide) h (fun μ h => ?_)
  refine K_iload (md := mX11_excuse) (pc := 116) 0 (kTab_at (pc := 116) tX11_excuse_ok 68 rfl) rfl ?_
  exact Z_zret (md := mX11_excuse) (pc := 118) (kTab_at (pc := 118) tX11_excuse_ok 69 rfl) rfl rfl h
def f_X11_excuse_62 (p1 : Int) (p2 : Int) (p3 : Int)  (v4 : Int) (s1 : Int) (μ : Mu) : Option Res := wrF μ 248 0 s1 fun μ => rdF μ 248 0 fun x1 => i_lt 0 x1 (retZ μ 0) (rb (f_X11_changes μ) fun μ _ => rdI μ 249 779 (625 + p1) fun x2 => i_eq p3 0 (f_X11_excuse_114 p1 p2 p3 v4 (625 + p1) (andI x2 (xorI (shlI 1 p2) (-1))) 0 μ) (f_X11_excuse_114 p1 p2 p3 v4 (625 + p1) (andI x2 (xorI (shlI 1 p2) (-1))) (shlI 1 p2) μ))
set_option maxRecDepth 100000 in
theorem c_X11_excuse_62 (X : kX) (p1 : Int) (p2 : Int) (p3 : Int)  {res : Res}  (v4 : Int) (s1 : Int) (μ : Mu) (h : f_X11_excuse_62 p1 p2 p3 v4 s1 μ = some res) : KK X mX11_excuse 3 1 res 62 [(0, .ref (X.1 + 248)), (1, .int (iI p1)), (2, .int (iI p2)), (3, .int (iI p3)), (4, .int (iI v4))] [.int (iI s1), .ref (X.1 + 248)] μ := by
  unfold f_X11_excuse_62 at h
  refine Z_putI (md := mX11_excuse) (pc := 62) (kTab_at (pc := 62) tX11_excuse_ok 34 rfl) fl_X11_48 sk_248 rfl h (fun μ h => ?_)
  refine K_aload_n (md := mX11_excuse) (pc := 65) 0 (kTab_at (pc := 65) tX11_excuse_ok 35 rfl) rfl ?_
  refine Z_getI (md := mX11_excuse) (pc := 66) (kTab_at (pc := 66) tX11_excuse_ok 36 rfl) fl_X11_48 sk_248 (Or.inl rfl) h (fun x1 h => ?_)
  refine K_if_le (md := mX11_excuse) (pc := 69) (kTab_at (pc := 69) tX11_excuse_ok 37 rfl) (tgt := 74) rfl h (fun h => ?_) (fun h => ?_)
  · refine K_aload_n (md := mX11_excuse) (pc := 74) 0 (kTab_at (pc := 74) tX11_excuse_ok 40 rfl) rfl ?_
    refine Z_callV (md := mX11_excuse) (pc := 75) (st := []) (sv := (fun _ => [])) (kTab_at (pc := 75) tX11_excuse_ok 41 rfl) mv_X11_190 sk_248 rfl (Nat.le_of_ble_eq_true rfl) (by decide) rfl (c_X11_changes X μ) (fun _ => rfl) h (fun μ _ h => ?_) rfl
    refine K_aload_n (md := mX11_excuse) (pc := 78) 0 (kTab_at (pc := 78) tX11_excuse_ok 42 rfl) rfl ?_
    refine K_getR (md := mX11_excuse) (pc := 79) (b := 249) (kTab_at (pc := 79) tX11_excuse_ok 43 rfl) fl_X11_7 sk_248 rfl rfl ?_
    refine K_sipush (md := mX11_excuse) (pc := 82) (x := 625) (kTab_at (pc := 82) tX11_excuse_ok 44 rfl) (by decide) ?_
    refine K_iload_n (md := mX11_excuse) (pc := 85) 1 (kTab_at (pc := 85) tX11_excuse_ok 45 rfl) rfl ?_
    refine K_iadd (md := mX11_excuse) (pc := 86) (kTab_at (pc := 86) tX11_excuse_ok 46 rfl) ?_
    refine K_aload_n (md := mX11_excuse) (pc := 87) 0 (kTab_at (pc := 87) tX11_excuse_ok 47 rfl) rfl ?_
    refine K_getR (md := mX11_excuse) (pc := 88) (b := 249) (kTab_at (pc := 88) tX11_excuse_ok 48 rfl) fl_X11_7 sk_248 rfl rfl ?_
    refine K_sipush (md := mX11_excuse) (pc := 91) (x := 625) (kTab_at (pc := 91) tX11_excuse_ok 49 rfl) (by decide) ?_
    refine K_iload_n (md := mX11_excuse) (pc := 94) 1 (kTab_at (pc := 94) tX11_excuse_ok 50 rfl) rfl ?_
    refine K_iadd (md := mX11_excuse) (pc := 95) (kTab_at (pc := 95) tX11_excuse_ok 51 rfl) ?_
    refine Z_iald (md := mX11_excuse) (pc := 96) (kTab_at (pc := 96) tX11_excuse_ok 52 rfl) sk_249 (by decide) h (fun x2 h => ?_)
    refine K_iconst (md := mX11_excuse) (pc := 97) (x := 1) (kTab_at (pc := 97) tX11_excuse_ok 53 rfl) rfl ?_
    refine K_iload_n (md := mX11_excuse) (pc := 98) 2 (kTab_at (pc := 98) tX11_excuse_ok 54 rfl) rfl ?_
    refine K_ishl (md := mX11_excuse) (pc := 99) (kTab_at (pc := 99) tX11_excuse_ok 55 rfl) ?_
    refine K_iconst (md := mX11_excuse) (pc := 100) (x := -1) (kTab_at (pc := 100) tX11_excuse_ok 56 rfl) rfl ?_
    refine K_ixor (md := mX11_excuse) (pc := 101) (kTab_at (pc := 101) tX11_excuse_ok 57 rfl) ?_
    refine K_iand (md := mX11_excuse) (pc := 102) (kTab_at (pc := 102) tX11_excuse_ok 58 rfl) ?_
    refine K_iload_n (md := mX11_excuse) (pc := 103) 3 (kTab_at (pc := 103) tX11_excuse_ok 59 rfl) rfl ?_
    refine K_if_eq (md := mX11_excuse) (pc := 104) (kTab_at (pc := 104) tX11_excuse_ok 60 rfl) (tgt := 113) rfl h (fun h => ?_) (fun h => ?_)
    · refine K_iconst (md := mX11_excuse) (pc := 113) (x := 0) (kTab_at (pc := 113) tX11_excuse_ok 65 rfl) rfl ?_
      refine K_sub [4] rfl ?_
      refine c_X11_excuse_114 X p1 p2 p3  v4 (625 + p1) (andI x2 (xorI (shlI 1 p2) (-1))) 0 μ h
    · refine K_iconst (md := mX11_excuse) (pc := 107) (x := 1) (kTab_at (pc := 107) tX11_excuse_ok 61 rfl) rfl ?_
      refine K_iload_n (md := mX11_excuse) (pc := 108) 2 (kTab_at (pc := 108) tX11_excuse_ok 62 rfl) rfl ?_
      refine K_ishl (md := mX11_excuse) (pc := 109) (kTab_at (pc := 109) tX11_excuse_ok 63 rfl) ?_
      refine K_goto (md := mX11_excuse) (pc := 110) (tgt := 114) (kTab_at (pc := 110) tX11_excuse_ok 64 rfl) rfl ?_
      refine K_sub [4] rfl ?_
      refine c_X11_excuse_114 X p1 p2 p3  v4 (625 + p1) (andI x2 (xorI (shlI 1 p2) (-1))) (shlI 1 p2) μ h
  · refine K_iconst (md := mX11_excuse) (pc := 72) (x := 0) (kTab_at (pc := 72) tX11_excuse_ok 38 rfl) rfl ?_
    exact Z_zret (md := mX11_excuse) (pc := 73) (kTab_at (pc := 73) tX11_excuse_ok 39 rfl) rfl rfl h
def f_X11_excuse_61 (p1 : Int) (p2 : Int) (p3 : Int)  (v4 : Int) (μ : Mu) : Option Res := f_X11_excuse_62 p1 p2 p3 v4 0 μ
set_option maxRecDepth 100000 in
theorem c_X11_excuse_61 (X : kX) (p1 : Int) (p2 : Int) (p3 : Int)  {res : Res}  (v4 : Int) (μ : Mu) (h : f_X11_excuse_61 p1 p2 p3 v4 μ = some res) : KK X mX11_excuse 3 1 res 61 [(0, .ref (X.1 + 248)), (1, .int (iI p1)), (2, .int (iI p2)), (3, .int (iI p3)), (4, .int (iI v4))] [.ref (X.1 + 248)] μ := by
  unfold f_X11_excuse_61 at h
  refine K_iconst (md := mX11_excuse) (pc := 61) (x := 0) (kTab_at (pc := 61) tX11_excuse_ok 33 rfl) rfl ?_
  refine c_X11_excuse_62 X p1 p2 p3  v4 0 μ h
def f_X11_excuse (p1 : Int) (p2 : Int) (p3 : Int) (μ : Mu) : Option Res := rb (f_X11_scriptRefusal p1 p2 μ) fun μ x1 => i_lt 0 x1 (retZ μ 0) (rb (f_X11_isExcused p1 p2 μ) fun μ x2 => rb (f_X11_isPublished μ) fun μ x3 => i_eq x3 0 (i_eq p3 0 (f_X11_excuse_61 p1 p2 p3 x2 μ) (i_eq x2 0 (rdI μ 249 779 (625 + p1) fun x4 => rb (f_X11_bits x4 μ) fun μ x5 => i_eq x5 2 (f_X11_excuse_62 p1 p2 p3 x2 3 μ) (f_X11_excuse_61 p1 p2 p3 x2 μ)) (f_X11_excuse_61 p1 p2 p3 x2 μ))) (f_X11_excuse_62 p1 p2 p3 x2 2 μ))
set_option maxRecDepth 100000 in
theorem c_X11_excuse (X : kX) (p1 : Int) (p2 : Int) (p3 : Int)  (μ : Mu) : Cq X mX11_excuse 3 1 μ [.ref (X.1 + 248), .int (iI p1), .int (iI p2), .int (iI p3)] (f_X11_excuse p1 p2 p3 μ) := by
  intro res h
  refine ct_of (by decide +kernel) rfl (Nat.le_of_ble_eq_true rfl) ?_
  show KK X mX11_excuse 3 1 res 0 [(0, .ref (X.1 + 248)), (1, .int (iI p1)), (2, .int (iI p2)), (3, .int (iI p3))] [] μ
  unfold f_X11_excuse at h
  refine K_aload_n (md := mX11_excuse) (pc := 0) 0 (kTab_at (pc := 0) tX11_excuse_ok 0 rfl) rfl ?_
  refine K_iload_n (md := mX11_excuse) (pc := 1) 1 (kTab_at (pc := 1) tX11_excuse_ok 1 rfl) rfl ?_
  refine K_iload_n (md := mX11_excuse) (pc := 2) 2 (kTab_at (pc := 2) tX11_excuse_ok 2 rfl) rfl ?_
  refine Z_callV (md := mX11_excuse) (pc := 3) (st := []) (sv := (fun x1 => [.int (iI x1)])) (kTab_at (pc := 3) tX11_excuse_ok 3 rfl) mv_X11_260 sk_248 rfl (Nat.le_of_ble_eq_true rfl) (by decide) rfl (c_X11_scriptRefusal X p1 p2 μ) (fun _ => rfl) h (fun μ x1 h => ?_) rfl
  refine K_if_le (md := mX11_excuse) (pc := 6) (kTab_at (pc := 6) tX11_excuse_ok 4 rfl) (tgt := 11) rfl h (fun h => ?_) (fun h => ?_)
  · refine K_aload_n (md := mX11_excuse) (pc := 11) 0 (kTab_at (pc := 11) tX11_excuse_ok 7 rfl) rfl ?_
    refine K_iload_n (md := mX11_excuse) (pc := 12) 1 (kTab_at (pc := 12) tX11_excuse_ok 8 rfl) rfl ?_
    refine K_iload_n (md := mX11_excuse) (pc := 13) 2 (kTab_at (pc := 13) tX11_excuse_ok 9 rfl) rfl ?_
    refine Z_callV (md := mX11_excuse) (pc := 14) (st := []) (sv := (fun x2 => [.int (iI x2)])) (kTab_at (pc := 14) tX11_excuse_ok 10 rfl) mv_X11_121 sk_248 rfl (Nat.le_of_ble_eq_true rfl) (by decide) rfl (c_X11_isExcused X p1 p2 μ) (fun _ => rfl) h (fun μ x2 h => ?_) rfl
    refine K_istore (md := mX11_excuse) (pc := 17) (l' := [(4, .int (iI x2)), (0, .ref (X.1 + 248)), (1, .int (iI p1)), (2, .int (iI p2)), (3, .int (iI p3))]) (kTab_at (pc := 17) tX11_excuse_ok 11 rfl) (Nat.le_of_ble_eq_true rfl) rfl ?_
    refine K_aload_n (md := mX11_excuse) (pc := 19) 1 (kTab_at (pc := 19) tX11_excuse_ok 12 rfl) rfl ?_
    refine K_aload_n (md := mX11_excuse) (pc := 20) 1 (kTab_at (pc := 20) tX11_excuse_ok 13 rfl) rfl ?_
    refine Z_callV (md := mX11_excuse) (pc := 21) (st := [.ref (X.1 + 248)]) (sv := (fun x3 => [.int (iI x3), .ref (X.1 + 248)])) (kTab_at (pc := 21) tX11_excuse_ok 14 rfl) mv_X11_183 sk_248 rfl (Nat.le_of_ble_eq_true rfl) (by decide) rfl (c_X11_isPublished X μ) (fun _ => rfl) h (fun μ x3 h => ?_) rfl
    refine K_if_eq (md := mX11_excuse) (pc := 24) (kTab_at (pc := 24) tX11_excuse_ok 15 rfl) (tgt := 31) rfl h (fun h => ?_) (fun h => ?_)
    · refine K_iload_n (md := mX11_excuse) (pc := 31) 4 (kTab_at (pc := 31) tX11_excuse_ok 18 rfl) rfl ?_
      refine K_if_eq (md := mX11_excuse) (pc := 32) (kTab_at (pc := 32) tX11_excuse_ok 19 rfl) (tgt := 61) rfl h (fun h => ?_) (fun h => ?_)
      · refine K_sub [1, 2, 3, 4, 0] rfl ?_
        refine c_X11_excuse_61 X p1 p2 p3  x2 μ h
      · refine K_iload (md := mX11_excuse) (pc := 35) 0 (kTab_at (pc := 35) tX11_excuse_ok 20 rfl) rfl ?_
        refine K_if_ne (md := mX11_excuse) (pc := 37) (kTab_at (pc := 37) tX11_excuse_ok 21 rfl) (tgt := 61) rfl h (fun h => ?_) (fun h => ?_)
        · refine K_sub [1, 2, 3, 4, 0] rfl ?_
          refine c_X11_excuse_61 X p1 p2 p3  x2 μ h
        · refine K_aload_n (md := mX11_excuse) (pc := 40) 1 (kTab_at (pc := 40) tX11_excuse_ok 22 rfl) rfl ?_
          refine K_getR (md := mX11_excuse) (pc := 41) (b := 249) (kTab_at (pc := 41) tX11_excuse_ok 23 rfl) fl_X11_7 sk_248 rfl rfl ?_
          refine K_sipush (md := mX11_excuse) (pc := 44) (x := 625) (kTab_at (pc := 44) tX11_excuse_ok 24 rfl) (by decide) ?_
          refine K_iload_n (md := mX11_excuse) (pc := 47) 2 (kTab_at (pc := 47) tX11_excuse_ok 25 rfl) rfl ?_
          refine K_iadd (md := mX11_excuse) (pc := 48) (kTab_at (pc := 48) tX11_excuse_ok 26 rfl) ?_
          refine Z_iald (md := mX11_excuse) (pc := 49) (kTab_at (pc := 49) tX11_excuse_ok 27 rfl) sk_249 (by decide) h (fun x4 h => ?_)
          refine Z_callS (md := mX11_excuse) (pc := 50) (st := [.ref (X.1 + 248)]) (sv := (fun x5 => [.int (iI x5), .ref (X.1 + 248)])) (kTab_at (pc := 50) tX11_excuse_ok 28 rfl) ms_X11_269 rfl (Nat.le_of_ble_eq_true rfl) (by decide) rfl (c_X11_bits X x4 μ) (fun _ => rfl) h (fun μ x5 h => ?_) rfl
          refine K_iconst (md := mX11_excuse) (pc := 53) (x := 2) (kTab_at (pc := 53) tX11_excuse_ok 29 rfl) rfl ?_
          refine K_icmp_ne (md := mX11_excuse) (pc := 54) (kTab_at (pc := 54) tX11_excuse_ok 30 rfl) (tgt := 61) rfl h (fun h => ?_) (fun h => ?_)
          · refine K_sub [1, 2, 3, 4, 0] rfl ?_
            refine c_X11_excuse_61 X p1 p2 p3  x2 μ h
          · refine K_iconst (md := mX11_excuse) (pc := 57) (x := 3) (kTab_at (pc := 57) tX11_excuse_ok 31 rfl) rfl ?_
            refine K_goto (md := mX11_excuse) (pc := 58) (tgt := 62) (kTab_at (pc := 58) tX11_excuse_ok 32 rfl) rfl ?_
            refine K_sub [1, 2, 3, 4, 0] rfl ?_
            refine c_X11_excuse_62 X p1 p2 p3  x2 3 μ h
    · refine K_iconst (md := mX11_excuse) (pc := 27) (x := 2) (kTab_at (pc := 27) tX11_excuse_ok 16 rfl) rfl ?_
      refine K_goto (md := mX11_excuse) (pc := 28) (tgt := 62) (kTab_at (pc := 28) tX11_excuse_ok 17 rfl) rfl ?_
      refine K_sub [1, 2, 3, 4, 0] rfl ?_
      refine c_X11_excuse_62 X p1 p2 p3  x2 2 μ h
  · refine K_iconst (md := mX11_excuse) (pc := 9) (x := 0) (kTab_at (pc := 9) tX11_excuse_ok 5 rfl) rfl ?_
    exact Z_zret (md := mX11_excuse) (pc := 10) (kTab_at (pc := 10) tX11_excuse_ok 6 rfl) rfl rfl h
def f_X11_raise (p1 : Int) (p2 : Int) (μ : Mu) : Option Res := wrF μ 248 0 0 fun μ => rb (f_X11_isCandidate p1 μ) fun μ x1 => i_eq x1 0 (rb (f_X11_fails 1 μ) fun μ x7 => some (μ, 0, x7)) (rb (f_X11_in p2 0 10 μ) fun μ x2 => i_eq x2 0 (rb (f_X11_fails 2 μ) fun μ x6 => some (μ, 0, x6)) (rb (f_X11_isPublished μ) fun μ x3 => i_eq x3 0 (rb (f_X11_changes μ) fun μ _ => rdI μ 249 779 (633 + p1) fun x4 => wrI μ 249 779 (633 + p1) p2 fun μ => some (μ, 0, x4)) (rb (f_X11_fails 3 μ) fun μ x5 => some (μ, 0, x5))))
set_option maxRecDepth 100000 in
theorem c_X11_raise (X : kX) (p1 : Int) (p2 : Int)  (μ : Mu) : Cq X mX11_raise 2 1 μ [.ref (X.1 + 248), .int (iI p1), .int (iI p2)] (f_X11_raise p1 p2 μ) := by
  intro res h
  refine ct_of (by decide +kernel) rfl (Nat.le_of_ble_eq_true rfl) ?_
  show KK X mX11_raise 2 1 res 0 [(0, .ref (X.1 + 248)), (1, .int (iI p1)), (2, .int (iI p2))] [] μ
  unfold f_X11_raise at h
  refine K_aload_n (md := mX11_raise) (pc := 0) 0 (kTab_at (pc := 0) tX11_raise_ok 0 rfl) rfl ?_
  refine K_iconst (md := mX11_raise) (pc := 1) (x := 0) (kTab_at (pc := 1) tX11_raise_ok 1 rfl) rfl ?_
  refine Z_putI (md := mX11_raise) (pc := 2) (kTab_at (pc := 2) tX11_raise_ok 2 rfl) fl_X11_48 sk_248 rfl h (fun μ h => ?_)
  refine K_iload_n (md := mX11_raise) (pc := 5) 1 (kTab_at (pc := 5) tX11_raise_ok 3 rfl) rfl ?_
  refine Z_callS (md := mX11_raise) (pc := 6) (st := []) (sv := (fun x1 => [.int (iI x1)])) (kTab_at (pc := 6) tX11_raise_ok 4 rfl) ms_X11_214 rfl (Nat.le_of_ble_eq_true rfl) (by decide) rfl (c_X11_isCandidate X p1 μ) (fun _ => rfl) h (fun μ x1 h => ?_) rfl
  refine K_if_ne (md := mX11_raise) (pc := 9) (kTab_at (pc := 9) tX11_raise_ok 5 rfl) (tgt := 18) rfl h (fun h => ?_) (fun h => ?_)
  · refine K_iload_n (md := mX11_raise) (pc := 18) 2 (kTab_at (pc := 18) tX11_raise_ok 10 rfl) rfl ?_
    refine K_iconst (md := mX11_raise) (pc := 19) (x := 0) (kTab_at (pc := 19) tX11_raise_ok 11 rfl) rfl ?_
    refine K_bipush (md := mX11_raise) (pc := 20) (x := 10) (kTab_at (pc := 20) tX11_raise_ok 12 rfl) (by decide) ?_
    refine Z_callS (md := mX11_raise) (pc := 22) (st := []) (sv := (fun x2 => [.int (iI x2)])) (kTab_at (pc := 22) tX11_raise_ok 13 rfl) ms_X11_51 rfl (Nat.le_of_ble_eq_true rfl) (by decide) rfl (c_X11_in X p2 0 10 μ) (fun _ => rfl) h (fun μ x2 h => ?_) rfl
    refine K_if_ne (md := mX11_raise) (pc := 25) (kTab_at (pc := 25) tX11_raise_ok 14 rfl) (tgt := 34) rfl h (fun h => ?_) (fun h => ?_)
    · refine K_aload_n (md := mX11_raise) (pc := 34) 0 (kTab_at (pc := 34) tX11_raise_ok 19 rfl) rfl ?_
      refine Z_callV (md := mX11_raise) (pc := 35) (st := []) (sv := (fun x3 => [.int (iI x3)])) (kTab_at (pc := 35) tX11_raise_ok 20 rfl) mv_X11_183 sk_248 rfl (Nat.le_of_ble_eq_true rfl) (by decide) rfl (c_X11_isPublished X μ) (fun _ => rfl) h (fun μ x3 h => ?_) rfl
      refine K_if_eq (md := mX11_raise) (pc := 38) (kTab_at (pc := 38) tX11_raise_ok 21 rfl) (tgt := 47) rfl h (fun h => ?_) (fun h => ?_)
      · refine K_aload_n (md := mX11_raise) (pc := 47) 0 (kTab_at (pc := 47) tX11_raise_ok 26 rfl) rfl ?_
        refine Z_callV (md := mX11_raise) (pc := 48) (st := []) (sv := (fun _ => [])) (kTab_at (pc := 48) tX11_raise_ok 27 rfl) mv_X11_190 sk_248 rfl (Nat.le_of_ble_eq_true rfl) (by decide) rfl (c_X11_changes X μ) (fun _ => rfl) h (fun μ _ h => ?_) rfl
        refine K_aload_n (md := mX11_raise) (pc := 51) 0 (kTab_at (pc := 51) tX11_raise_ok 28 rfl) rfl ?_
        refine K_getR (md := mX11_raise) (pc := 52) (b := 249) (kTab_at (pc := 52) tX11_raise_ok 29 rfl) fl_X11_7 sk_248 rfl rfl ?_
        refine K_sipush (md := mX11_raise) (pc := 55) (x := 633) (kTab_at (pc := 55) tX11_raise_ok 30 rfl) (by decide) ?_
        refine K_iload_n (md := mX11_raise) (pc := 58) 1 (kTab_at (pc := 58) tX11_raise_ok 31 rfl) rfl ?_
        refine K_iadd (md := mX11_raise) (pc := 59) (kTab_at (pc := 59) tX11_raise_ok 32 rfl) ?_
        refine Z_iald (md := mX11_raise) (pc := 60) (kTab_at (pc := 60) tX11_raise_ok 33 rfl) sk_249 (by decide) h (fun x4 h => ?_)
        refine K_istore_n (md := mX11_raise) (pc := 61) (l' := [(3, .int (iI x4)), (0, .ref (X.1 + 248)), (1, .int (iI p1)), (2, .int (iI p2))]) (kTab_at (pc := 61) tX11_raise_ok 34 rfl) (Nat.le_of_ble_eq_true rfl) rfl ?_
        refine K_aload_n (md := mX11_raise) (pc := 62) 1 (kTab_at (pc := 62) tX11_raise_ok 35 rfl) rfl ?_
        refine K_getR (md := mX11_raise) (pc := 63) (b := 249) (kTab_at (pc := 63) tX11_raise_ok 36 rfl) fl_X11_7 sk_248 rfl rfl ?_
        refine K_sipush (md := mX11_raise) (pc := 66) (x := 633) (kTab_at (pc := 66) tX11_raise_ok 37 rfl) (by decide) ?_
        refine K_iload_n (md := mX11_raise) (pc := 69) 2 (kTab_at (pc := 69) tX11_raise_ok 38 rfl) rfl ?_
        refine K_iadd (md := mX11_raise) (pc := 70) (kTab_at (pc := 70) tX11_raise_ok 39 rfl) ?_
        refine K_iload_n (md := mX11_raise) (pc := 71) 3 (kTab_at (pc := 71) tX11_raise_ok 40 rfl) rfl ?_
        refine Z_iast (md := mX11_raise) (pc := 72) (kTab_at (pc := 72) tX11_raise_ok 41 rfl) sk_249 (by decide) h (fun μ h => ?_)
        refine K_iload_n (md := mX11_raise) (pc := 73) 0 (kTab_at (pc := 73) tX11_raise_ok 42 rfl) rfl ?_
        exact Z_iret (md := mX11_raise) (pc := 74) (kTab_at (pc := 74) tX11_raise_ok 43 rfl) rfl rfl rfl h
      · refine K_aload_n (md := mX11_raise) (pc := 41) 0 (kTab_at (pc := 41) tX11_raise_ok 22 rfl) rfl ?_
        refine K_iconst (md := mX11_raise) (pc := 42) (x := 3) (kTab_at (pc := 42) tX11_raise_ok 23 rfl) rfl ?_
        refine Z_callV (md := mX11_raise) (pc := 43) (st := []) (sv := (fun x5 => [.int (iI x5)])) (kTab_at (pc := 43) tX11_raise_ok 24 rfl) mv_X11_177 sk_248 rfl (Nat.le_of_ble_eq_true rfl) (by decide) rfl (c_X11_fails X 3 μ) (fun _ => rfl) h (fun μ x5 h => ?_) rfl
        exact Z_iret (md := mX11_raise) (pc := 46) (kTab_at (pc := 46) tX11_raise_ok 25 rfl) rfl rfl rfl h
    · refine K_aload_n (md := mX11_raise) (pc := 28) 0 (kTab_at (pc := 28) tX11_raise_ok 15 rfl) rfl ?_
      refine K_iconst (md := mX11_raise) (pc := 29) (x := 2) (kTab_at (pc := 29) tX11_raise_ok 16 rfl) rfl ?_
      refine Z_callV (md := mX11_raise) (pc := 30) (st := []) (sv := (fun x6 => [.int (iI x6)])) (kTab_at (pc := 30) tX11_raise_ok 17 rfl) mv_X11_177 sk_248 rfl (Nat.le_of_ble_eq_true rfl) (by decide) rfl (c_X11_fails X 2 μ) (fun _ => rfl) h (fun μ x6 h => ?_) rfl
      exact Z_iret (md := mX11_raise) (pc := 33) (kTab_at (pc := 33) tX11_raise_ok 18 rfl) rfl rfl rfl h
  · refine K_aload_n (md := mX11_raise) (pc := 12) 0 (kTab_at (pc := 12) tX11_raise_ok 6 rfl) rfl ?_
    refine K_iconst (md := mX11_raise) (pc := 13) (x := 1) (kTab_at (pc := 13) tX11_raise_ok 7 rfl) rfl ?_
    refine Z_callV (md := mX11_raise) (pc := 14) (st := []) (sv := (fun x7 => [.int (iI x7)])) (kTab_at (pc := 14) tX11_raise_ok 8 rfl) mv_X11_177 sk_248 rfl (Nat.le_of_ble_eq_true rfl) (by decide) rfl (c_X11_fails X 1 μ) (fun _ => rfl) h (fun μ x7 h => ?_) rfl
    exact Z_iret (md := mX11_raise) (pc := 17) (kTab_at (pc := 17) tX11_raise_ok 9 rfl) rfl rfl rfl h
def f_X11_pointAt_2 (p1 : Int) (k30 : Int → Mu → Option Res) (k38 : Mu → Option Res) : Nat → Int → Mu → Option Res
  | 0, _, _ => none
  | fu + 1, v2, μ => rdI μ 249 779 641 fun x1 => i_lt v2 x1 (rdI μ 249 779 (642 + (2 * v2)) fun x2 => i_eq x2 p1 (k30 v2 μ) ((f_X11_pointAt_2 p1 k30 k38 fu) (v2 + 1) μ)) (k38 μ)
set_option maxRecDepth 100000 in
theorem c_X11_pointAt_2 (X : kX) (p1 : Int)  {res : Res} (k30 : Int → Mu → Option Res) (hk30 : ∀ (v2 : Int), ∀ (μ : Mu), k30 v2 μ = some res → KK X mX11_pointAt 0 1 res 30 [(2, .int (iI v2))] [] μ) (k38 : Mu → Option Res) (hk38 : ∀ (μ : Mu), k38 μ = some res → KK X mX11_pointAt 0 1 res 38 [] [] μ) : ∀ (fu : Nat)  (v2 : Int) (μ : Mu), f_X11_pointAt_2 p1 k30 k38 fu v2 μ = some res → KK X mX11_pointAt 0 1 res 2 [(0, .ref (X.1 + 248)), (1, .int (iI p1)), (2, .int (iI v2))] [] μ := by
  intro fu
  induction fu with
  | zero => intro v2 μ h; exact nomatch h
  | succ fu ih =>
    intro v2 μ h
    refine K_iload_n (md := mX11_pointAt) (pc := 2) 2 (kTab_at (pc := 2) tX11_pointAt_ok 2 rfl) rfl ?_
    refine K_aload_n (md := mX11_pointAt) (pc := 3) 0 (kTab_at (pc := 3) tX11_pointAt_ok 3 rfl) rfl ?_
    refine K_getR (md := mX11_pointAt) (pc := 4) (b := 249) (kTab_at (pc := 4) tX11_pointAt_ok 4 rfl) fl_X11_7 sk_248 rfl rfl ?_
    refine K_sipush (md := mX11_pointAt) (pc := 7) (x := 641) (kTab_at (pc := 7) tX11_pointAt_ok 5 rfl) (by decide) ?_
    refine Z_iald (md := mX11_pointAt) (pc := 10) (kTab_at (pc := 10) tX11_pointAt_ok 6 rfl) sk_249 (by decide) h (fun x1 h => ?_)
    refine K_icmp_ge (md := mX11_pointAt) (pc := 11) (kTab_at (pc := 11) tX11_pointAt_ok 7 rfl) (tgt := 38) rfl h (fun h => ?_) (fun h => ?_)
    · refine K_sub [] rfl ?_
      exact hk38 μ h
    · refine K_aload_n (md := mX11_pointAt) (pc := 14) 0 (kTab_at (pc := 14) tX11_pointAt_ok 8 rfl) rfl ?_
      refine K_getR (md := mX11_pointAt) (pc := 15) (b := 249) (kTab_at (pc := 15) tX11_pointAt_ok 9 rfl) fl_X11_7 sk_248 rfl rfl ?_
      refine K_sipush (md := mX11_pointAt) (pc := 18) (x := 642) (kTab_at (pc := 18) tX11_pointAt_ok 10 rfl) (by decide) ?_
      refine K_iconst (md := mX11_pointAt) (pc := 21) (x := 2) (kTab_at (pc := 21) tX11_pointAt_ok 11 rfl) rfl ?_
      refine K_iload_n (md := mX11_pointAt) (pc := 22) 2 (kTab_at (pc := 22) tX11_pointAt_ok 12 rfl) rfl ?_
      refine K_imul (md := mX11_pointAt) (pc := 23) (kTab_at (pc := 23) tX11_pointAt_ok 13 rfl) ?_
      refine K_iadd (md := mX11_pointAt) (pc := 24) (kTab_at (pc := 24) tX11_pointAt_ok 14 rfl) ?_
      refine Z_iald (md := mX11_pointAt) (pc := 25) (kTab_at (pc := 25) tX11_pointAt_ok 15 rfl) sk_249 (by decide) h (fun x2 h => ?_)
      refine K_iload_n (md := mX11_pointAt) (pc := 26) 1 (kTab_at (pc := 26) tX11_pointAt_ok 16 rfl) rfl ?_
      refine K_icmp_ne (md := mX11_pointAt) (pc := 27) (kTab_at (pc := 27) tX11_pointAt_ok 17 rfl) (tgt := 32) rfl h (fun h => ?_) (fun h => ?_)
      · refine K_iinc (md := mX11_pointAt) (pc := 32) (l' := [(2, .int (iI (v2 + 1))), (0, .ref (X.1 + 248)), (1, .int (iI p1))]) 2 (kTab_at (pc := 32) tX11_pointAt_ok 20 rfl) rfl (Nat.le_of_ble_eq_true rfl) rfl ?_
        refine K_goto (md := mX11_pointAt) (pc := 35) (tgt := 2) (kTab_at (pc := 35) tX11_pointAt_ok 21 rfl) rfl ?_
        refine K_sub [1, 2, 0] rfl ?_
        exact ih (v2 + 1) μ h
      · refine K_sub [2] rfl ?_
        exact hk30 v2 μ h
def f_X11_pointAt (p1 : Int) (μ : Mu) : Option Res := f_X11_pointAt_2 p1 (fun v2 μ => some (μ, 0, v2)) (fun μ => some (μ, 0, (-1))) FU 0 μ
set_option maxRecDepth 100000 in
theorem c_X11_pointAt (X : kX) (p1 : Int)  (μ : Mu) : Cq X mX11_pointAt 0 1 μ [.ref (X.1 + 248), .int (iI p1)] (f_X11_pointAt p1 μ) := by
  intro res h
  refine ct_of (by decide +kernel) rfl (Nat.le_of_ble_eq_true rfl) ?_
  show KK X mX11_pointAt 0 1 res 0 [(0, .ref (X.1 + 248)), (1, .int (iI p1))] [] μ
  unfold f_X11_pointAt at h
  refine K_iconst (md := mX11_pointAt) (pc := 0) (x := 0) (kTab_at (pc := 0) tX11_pointAt_ok 0 rfl) rfl ?_
  refine K_istore_n (md := mX11_pointAt) (pc := 1) (l' := [(2, .int (iI 0)), (0, .ref (X.1 + 248)), (1, .int (iI p1))]) (kTab_at (pc := 1) tX11_pointAt_ok 1 rfl) (Nat.le_of_ble_eq_true rfl) rfl ?_
  refine K_sub [1, 2, 0] rfl ?_
  refine c_X11_pointAt_2 X p1 _ ?_ _ ?_ _ 0 μ h
  · intro v2 μ h
    refine K_iload_n (md := mX11_pointAt) (pc := 30) 0 (kTab_at (pc := 30) tX11_pointAt_ok 18 rfl) rfl ?_
    exact Z_iret (md := mX11_pointAt) (pc := 31) (kTab_at (pc := 31) tX11_pointAt_ok 19 rfl) rfl rfl rfl h
  · intro  μ h
    refine K_iconst (md := mX11_pointAt) (pc := 38) (x := -1) (kTab_at (pc := 38) tX11_pointAt_ok 22 rfl) rfl ?_
    exact Z_iret (md := mX11_pointAt) (pc := 39) (kTab_at (pc := 39) tX11_pointAt_ok 23 rfl) rfl rfl rfl h
def f_X11_setPoint_26 (p1 : Int) (p2 : Int)   (μ : Mu) : Option Res := rb (f_X11_fails 1 μ) fun μ x1 => some (μ, 0, x1)
set_option maxRecDepth 100000 in
theorem c_X11_setPoint_26 (X : kX) (p1 : Int) (p2 : Int)  {res : Res}  (μ : Mu) (h : f_X11_setPoint_26 p1 p2 μ = some res) : KK X mX11_setPoint 2 1 res 26 [(0, .ref (X.1 + 248))] [] μ := by
  unfold f_X11_setPoint_26 at h
  refine K_aload_n (md := mX11_setPoint) (pc := 26) 0 (kTab_at (pc := 26) tX11_setPoint_ok 13 rfl) rfl ?_
  refine K_iconst (md := mX11_setPoint) (pc := 27) (x := 1) (kTab_at (pc := 27) tX11_setPoint_ok 14 rfl) rfl ?_
  refine Z_callV (md := mX11_setPoint) (pc := 28) (st := []) (sv := (fun x1 => [.int (iI x1)])) (kTab_at (pc := 28) tX11_setPoint_ok 15 rfl) mv_X11_177 sk_248 rfl (Nat.le_of_ble_eq_true rfl) (by decide) rfl (c_X11_fails X 1 μ) (fun _ => rfl) h (fun μ x1 h => ?_) rfl
  exact Z_iret (md := mX11_setPoint) (pc := 31) (kTab_at (pc := 31) tX11_setPoint_ok 16 rfl) rfl rfl rfl h
def f_X11_setPoint_186 (p1 : Int) (p2 : Int)  (v3 : Int) (μ : Mu) : Option Res := wrI μ 249 779 (642 + (2 * v3)) p1 fun μ => wrI μ 249 779 ((642 + (2 * v3)) + 1) p2 fun μ => rdI μ 249 779 641 fun x1 => some (μ, 0, x1)
set_option maxRecDepth 100000 in
theorem c_X11_setPoint_186 (X : kX) (p1 : Int) (p2 : Int)  {res : Res}  (v3 : Int) (μ : Mu) (h : f_X11_setPoint_186 p1 p2 v3 μ = some res) : KK X mX11_setPoint 2 1 res 186 [(0, .ref (X.1 + 248)), (1, .int (iI p1)), (2, .int (iI p2)), (3, .int (iI v3))] [] μ := by
  unfold f_X11_setPoint_186 at h
  refine K_aload_n (md := mX11_setPoint) (pc := 186) 0 (kTab_at (pc := 186) tX11_setPoint_ok 113 rfl) rfl ?_
  refine K_getR (md := mX11_setPoint) (pc := 187) (b := 249) (kTab_at (pc := 187) tX11_setPoint_ok 114 rfl) fl_X11_7 sk_248 rfl rfl ?_
  refine K_sipush (md := mX11_setPoint) (pc := 190) (x := 642) (kTab_at (pc := 190) tX11_setPoint_ok 115 rfl) (by decide) ?_
  refine K_iconst (md := mX11_setPoint) (pc := 193) (x := 2) (kTab_at (pc := 193) tX11_setPoint_ok 116 rfl) rfl ?_
  refine K_iload_n (md := mX11_setPoint) (pc := 194) 3 (kTab_at (pc := 194) tX11_setPoint_ok 117 rfl) rfl ?_
  refine K_imul (md := mX11_setPoint) (pc := 195) (kTab_at (pc := 195) tX11_setPoint_ok 118 rfl) ?_
  refine K_iadd (md := mX11_setPoint) (pc := 196) (kTab_at (pc := 196) tX11_setPoint_ok 119 rfl) ?_
  refine K_iload_n (md := mX11_setPoint) (pc := 197) 1 (kTab_at (pc := 197) tX11_setPoint_ok 120 rfl) rfl ?_
  refine Z_iast (md := mX11_setPoint) (pc := 198) (kTab_at (pc := 198) tX11_setPoint_ok 121 rfl) sk_249 (by decide) h (fun μ h => ?_)
  refine K_aload_n (md := mX11_setPoint) (pc := 199) 0 (kTab_at (pc := 199) tX11_setPoint_ok 122 rfl) rfl ?_
  refine K_getR (md := mX11_setPoint) (pc := 200) (b := 249) (kTab_at (pc := 200) tX11_setPoint_ok 123 rfl) fl_X11_7 sk_248 rfl rfl ?_
  refine K_sipush (md := mX11_setPoint) (pc := 203) (x := 642) (kTab_at (pc := 203) tX11_setPoint_ok 124 rfl) (by decide) ?_
  refine K_iconst (md := mX11_setPoint) (pc := 206) (x := 2) (kTab_at (pc := 206) tX11_setPoint_ok 125 rfl) rfl ?_
  refine K_iload_n (md := mX11_setPoint) (pc := 207) 3 (kTab_at (pc := 207) tX11_setPoint_ok 126 rfl) rfl ?_
  refine K_imul (md := mX11_setPoint) (pc := 208) (kTab_at (pc := 208) tX11_setPoint_ok 127 rfl) ?_
  refine K_iadd (md := mX11_setPoint) (pc := 209) (kTab_at (pc := 209) tX11_setPoint_ok 128 rfl) ?_
  refine K_iconst (md := mX11_setPoint) (pc := 210) (x := 1) (kTab_at (pc := 210) tX11_setPoint_ok 129 rfl) rfl ?_
  refine K_iadd (md := mX11_setPoint) (pc := 211) (kTab_at (pc := 211) tX11_setPoint_ok 130 rfl) ?_
  refine K_iload_n (md := mX11_setPoint) (pc := 212) 2 (kTab_at (pc := 212) tX11_setPoint_ok 131 rfl) rfl ?_
  refine Z_iast (md := mX11_setPoint) (pc := 213) (kTab_at (pc := 213) tX11_setPoint_ok 132 rfl) sk_249 (by decide) h (fun μ h => ?_)
  refine K_aload_n (md := mX11_setPoint) (pc := 214) 0 (kTab_at (pc := 214) tX11_setPoint_ok 133 rfl) rfl ?_
  refine K_getR (md := mX11_setPoint) (pc := 215) (b := 249) (kTab_at (pc := 215) tX11_setPoint_ok 134 rfl) fl_X11_7 sk_248 rfl rfl ?_
  refine K_sipush (md := mX11_setPoint) (pc := 218) (x := 641) (kTab_at (pc := 218) tX11_setPoint_ok 135 rfl) (by decide) ?_
  refine Z_iald (md := mX11_setPoint) (pc := 221) (kTab_at (pc := 221) tX11_setPoint_ok 136 rfl) sk_249 (by decide) h (fun x1 h => ?_)
  exact Z_iret (md := mX11_setPoint) (pc := 222) (kTab_at (pc := 222) tX11_setPoint_ok 137 rfl) rfl rfl rfl h
def f_X11_setPoint_104 (p1 : Int) (p2 : Int) (k186 : Int → Mu → Option Res) : Nat → Int → Mu → Option Res
  | 0, _, _ => none
  | fu + 1, v3, μ => i_lt 0 v3 (rdI μ 249 779 ((642 + (2 * v3)) - 2) fun x1 => i_lt p1 x1 (rdI μ 249 779 ((642 + (2 * v3)) - 2) fun x2 => wrI μ 249 779 (642 + (2 * v3)) x2 fun μ => rdI μ 249 779 ((642 + (2 * v3)) - 1) fun x3 => wrI μ 249 779 ((642 + (2 * v3)) + 1) x3 fun μ => (f_X11_setPoint_104 p1 p2 k186 fu) (v3 + (-1)) μ) (k186 v3 μ)) (k186 v3 μ)
set_option maxRecDepth 100000 in
theorem c_X11_setPoint_104 (X : kX) (p1 : Int) (p2 : Int)  {res : Res} (k186 : Int → Mu → Option Res) (hk186 : ∀ (v3 : Int), ∀ (μ : Mu), k186 v3 μ = some res → KK X mX11_setPoint 2 1 res 186 [(0, .ref (X.1 + 248)), (1, .int (iI p1)), (2, .int (iI p2)), (3, .int (iI v3))] [] μ) : ∀ (fu : Nat)  (v3 : Int) (μ : Mu), f_X11_setPoint_104 p1 p2 k186 fu v3 μ = some res → KK X mX11_setPoint 2 1 res 104 [(0, .ref (X.1 + 248)), (1, .int (iI p1)), (2, .int (iI p2)), (3, .int (iI v3))] [] μ := by
  intro fu
  induction fu with
  | zero => intro v3 μ h; exact nomatch h
  | succ fu ih =>
    intro v3 μ h
    refine K_iload_n (md := mX11_setPoint) (pc := 104) 3 (kTab_at (pc := 104) tX11_setPoint_ok 59 rfl) rfl ?_
    refine K_if_le (md := mX11_setPoint) (pc := 105) (kTab_at (pc := 105) tX11_setPoint_ok 60 rfl) (tgt := 186) rfl h (fun h => ?_) (fun h => ?_)
    · exact hk186 v3 μ h
    · refine K_aload_n (md := mX11_setPoint) (pc := 108) 0 (kTab_at (pc := 108) tX11_setPoint_ok 61 rfl) rfl ?_
      refine K_getR (md := mX11_setPoint) (pc := 109) (b := 249) (kTab_at (pc := 109) tX11_setPoint_ok 62 rfl) fl_X11_7 sk_248 rfl rfl ?_
      refine K_sipush (md := mX11_setPoint) (pc := 112) (x := 642) (kTab_at (pc := 112) tX11_setPoint_ok 63 rfl) (by decide) ?_
      refine K_iconst (md := mX11_setPoint) (pc := 115) (x := 2) (kTab_at (pc := 115) tX11_setPoint_ok 64 rfl) rfl ?_
      refine K_iload_n (md := mX11_setPoint) (pc := 116) 3 (kTab_at (pc := 116) tX11_setPoint_ok 65 rfl) rfl ?_
      refine K_imul (md := mX11_setPoint) (pc := 117) (kTab_at (pc := 117) tX11_setPoint_ok 66 rfl) ?_
      refine K_iadd (md := mX11_setPoint) (pc := 118) (kTab_at (pc := 118) tX11_setPoint_ok 67 rfl) ?_
      refine K_iconst (md := mX11_setPoint) (pc := 119) (x := 2) (kTab_at (pc := 119) tX11_setPoint_ok 68 rfl) rfl ?_
      refine K_isub (md := mX11_setPoint) (pc := 120) (kTab_at (pc := 120) tX11_setPoint_ok 69 rfl) ?_
      refine Z_iald (md := mX11_setPoint) (pc := 121) (kTab_at (pc := 121) tX11_setPoint_ok 70 rfl) sk_249 (by decide) h (fun x1 h => ?_)
      refine K_iload_n (md := mX11_setPoint) (pc := 122) 1 (kTab_at (pc := 122) tX11_setPoint_ok 71 rfl) rfl ?_
      refine K_icmp_le (md := mX11_setPoint) (pc := 123) (kTab_at (pc := 123) tX11_setPoint_ok 72 rfl) (tgt := 186) rfl h (fun h => ?_) (fun h => ?_)
      · exact hk186 v3 μ h
      · refine K_aload_n (md := mX11_setPoint) (pc := 126) 0 (kTab_at (pc := 126) tX11_setPoint_ok 73 rfl) rfl ?_
        refine K_getR (md := mX11_setPoint) (pc := 127) (b := 249) (kTab_at (pc := 127) tX11_setPoint_ok 74 rfl) fl_X11_7 sk_248 rfl rfl ?_
        refine K_sipush (md := mX11_setPoint) (pc := 130) (x := 642) (kTab_at (pc := 130) tX11_setPoint_ok 75 rfl) (by decide) ?_
        refine K_iconst (md := mX11_setPoint) (pc := 133) (x := 2) (kTab_at (pc := 133) tX11_setPoint_ok 76 rfl) rfl ?_
        refine K_iload_n (md := mX11_setPoint) (pc := 134) 3 (kTab_at (pc := 134) tX11_setPoint_ok 77 rfl) rfl ?_
        refine K_imul (md := mX11_setPoint) (pc := 135) (kTab_at (pc := 135) tX11_setPoint_ok 78 rfl) ?_
        refine K_iadd (md := mX11_setPoint) (pc := 136) (kTab_at (pc := 136) tX11_setPoint_ok 79 rfl) ?_
        refine K_aload_n (md := mX11_setPoint) (pc := 137) 0 (kTab_at (pc := 137) tX11_setPoint_ok 80 rfl) rfl ?_
        refine K_getR (md := mX11_setPoint) (pc := 138) (b := 249) (kTab_at (pc := 138) tX11_setPoint_ok 81 rfl) fl_X11_7 sk_248 rfl rfl ?_
        refine K_sipush (md := mX11_setPoint) (pc := 141) (x := 642) (kTab_at (pc := 141) tX11_setPoint_ok 82 rfl) (by decide) ?_
        refine K_iconst (md := mX11_setPoint) (pc := 144) (x := 2) (kTab_at (pc := 144) tX11_setPoint_ok 83 rfl) rfl ?_
        refine K_iload_n (md := mX11_setPoint) (pc := 145) 3 (kTab_at (pc := 145) tX11_setPoint_ok 84 rfl) rfl ?_
        refine K_imul (md := mX11_setPoint) (pc := 146) (kTab_at (pc := 146) tX11_setPoint_ok 85 rfl) ?_
        refine K_iadd (md := mX11_setPoint) (pc := 147) (kTab_at (pc := 147) tX11_setPoint_ok 86 rfl) ?_
        refine K_iconst (md := mX11_setPoint) (pc := 148) (x := 2) (kTab_at (pc := 148) tX11_setPoint_ok 87 rfl) rfl ?_
        refine K_isub (md := mX11_setPoint) (pc := 149) (kTab_at (pc := 149) tX11_setPoint_ok 88 rfl) ?_
        refine Z_iald (md := mX11_setPoint) (pc := 150) (kTab_at (pc := 150) tX11_setPoint_ok 89 rfl) sk_249 (by decide) h (fun x2 h => ?_)
        refine Z_iast (md := mX11_setPoint) (pc := 151) (kTab_at (pc := 151) tX11_setPoint_ok 90 rfl) sk_249 (by decide) h (fun μ h => ?_)
        refine K_aload_n (md := mX11_setPoint) (pc := 152) 0 (kTab_at (pc := 152) tX11_setPoint_ok 91 rfl) rfl ?_
        refine K_getR (md := mX11_setPoint) (pc := 153) (b := 249) (kTab_at (pc := 153) tX11_setPoint_ok 92 rfl) fl_X11_7 sk_248 rfl rfl ?_
        refine K_sipush (md := mX11_setPoint) (pc := 156) (x := 642) (kTab_at (pc := 156) tX11_setPoint_ok 93 rfl) (by decide) ?_
        refine K_iconst (md := mX11_setPoint) (pc := 159) (x := 2) (kTab_at (pc := 159) tX11_setPoint_ok 94 rfl) rfl ?_
        refine K_iload_n (md := mX11_setPoint) (pc := 160) 3 (kTab_at (pc := 160) tX11_setPoint_ok 95 rfl) rfl ?_
        refine K_imul (md := mX11_setPoint) (pc := 161) (kTab_at (pc := 161) tX11_setPoint_ok 96 rfl) ?_
        refine K_iadd (md := mX11_setPoint) (pc := 162) (kTab_at (pc := 162) tX11_setPoint_ok 97 rfl) ?_
        refine K_iconst (md := mX11_setPoint) (pc := 163) (x := 1) (kTab_at (pc := 163) tX11_setPoint_ok 98 rfl) rfl ?_
        refine K_iadd (md := mX11_setPoint) (pc := 164) (kTab_at (pc := 164) tX11_setPoint_ok 99 rfl) ?_
        refine K_aload_n (md := mX11_setPoint) (pc := 165) 0 (kTab_at (pc := 165) tX11_setPoint_ok 100 rfl) rfl ?_
        refine K_getR (md := mX11_setPoint) (pc := 166) (b := 249) (kTab_at (pc := 166) tX11_setPoint_ok 101 rfl) fl_X11_7 sk_248 rfl rfl ?_
        refine K_sipush (md := mX11_setPoint) (pc := 169) (x := 642) (kTab_at (pc := 169) tX11_setPoint_ok 102 rfl) (by decide) ?_
        refine K_iconst (md := mX11_setPoint) (pc := 172) (x := 2) (kTab_at (pc := 172) tX11_setPoint_ok 103 rfl) rfl ?_
        refine K_iload_n (md := mX11_setPoint) (pc := 173) 3 (kTab_at (pc := 173) tX11_setPoint_ok 104 rfl) rfl ?_
        refine K_imul (md := mX11_setPoint) (pc := 174) (kTab_at (pc := 174) tX11_setPoint_ok 105 rfl) ?_
        refine K_iadd (md := mX11_setPoint) (pc := 175) (kTab_at (pc := 175) tX11_setPoint_ok 106 rfl) ?_
        refine K_iconst (md := mX11_setPoint) (pc := 176) (x := 1) (kTab_at (pc := 176) tX11_setPoint_ok 107 rfl) rfl ?_
        refine K_isub (md := mX11_setPoint) (pc := 177) (kTab_at (pc := 177) tX11_setPoint_ok 108 rfl) ?_
        refine Z_iald (md := mX11_setPoint) (pc := 178) (kTab_at (pc := 178) tX11_setPoint_ok 109 rfl) sk_249 (by decide) h (fun x3 h => ?_)
        refine Z_iast (md := mX11_setPoint) (pc := 179) (kTab_at (pc := 179) tX11_setPoint_ok 110 rfl) sk_249 (by decide) h (fun μ h => ?_)
        refine K_iinc (md := mX11_setPoint) (pc := 180) (l' := [(3, .int (iI (v3 + (-1)))), (0, .ref (X.1 + 248)), (1, .int (iI p1)), (2, .int (iI p2))]) 3 (kTab_at (pc := 180) tX11_setPoint_ok 111 rfl) rfl (Nat.le_of_ble_eq_true rfl) rfl ?_
        refine K_goto (md := mX11_setPoint) (pc := 183) (tgt := 104) (kTab_at (pc := 183) tX11_setPoint_ok 112 rfl) rfl ?_
        refine K_sub [1, 2, 3, 0] rfl ?_
        exact ih (v3 + (-1)) μ h
def f_X11_setPoint_74 (p1 : Int) (p2 : Int)  (v3 : Int) (μ : Mu) : Option Res := rb (f_X11_changes μ) fun μ _ => i_eq v3 (-1) (rdI μ 249 779 641 fun x1 => rdI μ 249 779 641 fun x2 => wrI μ 249 779 641 (x2 + 1) fun μ => f_X11_setPoint_104 p1 p2 (fun v3 μ => f_X11_setPoint_186 p1 p2 v3 μ) FU x1 μ) (f_X11_setPoint_186 p1 p2 v3 μ)
set_option maxRecDepth 100000 in
theorem c_X11_setPoint_74 (X : kX) (p1 : Int) (p2 : Int)  {res : Res}  (v3 : Int) (μ : Mu) (h : f_X11_setPoint_74 p1 p2 v3 μ = some res) : KK X mX11_setPoint 2 1 res 74 [(0, .ref (X.1 + 248)), (1, .int (iI p1)), (2, .int (iI p2)), (3, .int (iI v3))] [] μ := by
  unfold f_X11_setPoint_74 at h
  refine K_aload_n (md := mX11_setPoint) (pc := 74) 0 (kTab_at (pc := 74) tX11_setPoint_ok 41 rfl) rfl ?_
  refine Z_callV (md := mX11_setPoint) (pc := 75) (st := []) (sv := (fun _ => [])) (kTab_at (pc := 75) tX11_setPoint_ok 42 rfl) mv_X11_190 sk_248 rfl (Nat.le_of_ble_eq_true rfl) (by decide) rfl (c_X11_changes X μ) (fun _ => rfl) h (fun μ _ h => ?_) rfl
  refine K_iload_n (md := mX11_setPoint) (pc := 78) 3 (kTab_at (pc := 78) tX11_setPoint_ok 43 rfl) rfl ?_
  refine K_iconst (md := mX11_setPoint) (pc := 79) (x := -1) (kTab_at (pc := 79) tX11_setPoint_ok 44 rfl) rfl ?_
  refine K_icmp_ne (md := mX11_setPoint) (pc := 80) (kTab_at (pc := 80) tX11_setPoint_ok 45 rfl) (tgt := 186) rfl h (fun h => ?_) (fun h => ?_)
  · refine c_X11_setPoint_186 X p1 p2  v3 μ h
  · refine K_aload_n (md := mX11_setPoint) (pc := 83) 0 (kTab_at (pc := 83) tX11_setPoint_ok 46 rfl) rfl ?_
    refine K_getR (md := mX11_setPoint) (pc := 84) (b := 249) (kTab_at (pc := 84) tX11_setPoint_ok 47 rfl) fl_X11_7 sk_248 rfl rfl ?_
    refine K_sipush (md := mX11_setPoint) (pc := 87) (x := 641) (kTab_at (pc := 87) tX11_setPoint_ok 48 rfl) (by decide) ?_
    refine Z_iald (md := mX11_setPoint) (pc := 90) (kTab_at (pc := 90) tX11_setPoint_ok 49 rfl) sk_249 (by decide) h (fun x1 h => ?_)
    refine K_istore_n (md := mX11_setPoint) (pc := 91) (l' := [(3, .int (iI x1)), (0, .ref (X.1 + 248)), (1, .int (iI p1)), (2, .int (iI p2))]) (kTab_at (pc := 91) tX11_setPoint_ok 50 rfl) (Nat.le_of_ble_eq_true rfl) rfl ?_
    refine K_aload_n (md := mX11_setPoint) (pc := 92) 1 (kTab_at (pc := 92) tX11_setPoint_ok 51 rfl) rfl ?_
    refine K_getR (md := mX11_setPoint) (pc := 93) (b := 249) (kTab_at (pc := 93) tX11_setPoint_ok 52 rfl) fl_X11_7 sk_248 rfl rfl ?_
    refine K_sipush (md := mX11_setPoint) (pc := 96) (x := 641) (kTab_at (pc := 96) tX11_setPoint_ok 53 rfl) (by decide) ?_
    refine K_dup2 (md := mX11_setPoint) (pc := 99) (kTab_at (pc := 99) tX11_setPoint_ok 54 rfl) rfl rfl ?_
    refine Z_iald (md := mX11_setPoint) (pc := 100) (kTab_at (pc := 100) tX11_setPoint_ok 55 rfl) sk_249 (by decide) h (fun x2 h => ?_)
    refine K_iconst (md := mX11_setPoint) (pc := 101) (x := 1) (kTab_at (pc := 101) tX11_setPoint_ok 56 rfl) rfl ?_
    refine K_iadd (md := mX11_setPoint) (pc := 102) (kTab_at (pc := 102) tX11_setPoint_ok 57 rfl) ?_
    refine Z_iast (md := mX11_setPoint) (pc := 103) (kTab_at (pc := 103) tX11_setPoint_ok 58 rfl) sk_249 (by decide) h (fun μ h => ?_)
    refine K_sub [1, 2, 3, 0] rfl ?_
    refine c_X11_setPoint_104 X p1 p2 _ ?_ _ x1 μ h
    · intro v3 μ h
      refine c_X11_setPoint_186 X p1 p2  v3 μ h
def f_X11_setPoint (p1 : Int) (p2 : Int) (μ : Mu) : Option Res := wrF μ 248 0 0 fun μ => rb (f_X11_in p1 0 200 μ) fun μ x1 => i_eq x1 0 (f_X11_setPoint_26 p1 p2 μ) (rb (f_X11_in p2 0 100 μ) fun μ x2 => i_eq x2 0 (f_X11_setPoint_26 p1 p2 μ) (rb (f_X11_isPublished μ) fun μ x3 => i_eq x3 0 (rb (f_X11_pointAt p1 μ) fun μ x4 => i_eq x4 (-1) (rdI μ 249 779 641 fun x5 => i_eq x5 5 (rb (f_X11_fails 3 μ) fun μ x6 => some (μ, 0, x6)) (f_X11_setPoint_74 p1 p2 x4 μ)) (f_X11_setPoint_74 p1 p2 x4 μ)) (rb (f_X11_fails 2 μ) fun μ x7 => some (μ, 0, x7))))
set_option maxRecDepth 100000 in
theorem c_X11_setPoint (X : kX) (p1 : Int) (p2 : Int)  (μ : Mu) : Cq X mX11_setPoint 2 1 μ [.ref (X.1 + 248), .int (iI p1), .int (iI p2)] (f_X11_setPoint p1 p2 μ) := by
  intro res h
  refine ct_of (by decide +kernel) rfl (Nat.le_of_ble_eq_true rfl) ?_
  show KK X mX11_setPoint 2 1 res 0 [(0, .ref (X.1 + 248)), (1, .int (iI p1)), (2, .int (iI p2))] [] μ
  unfold f_X11_setPoint at h
  refine K_aload_n (md := mX11_setPoint) (pc := 0) 0 (kTab_at (pc := 0) tX11_setPoint_ok 0 rfl) rfl ?_
  refine K_iconst (md := mX11_setPoint) (pc := 1) (x := 0) (kTab_at (pc := 1) tX11_setPoint_ok 1 rfl) rfl ?_
  refine Z_putI (md := mX11_setPoint) (pc := 2) (kTab_at (pc := 2) tX11_setPoint_ok 2 rfl) fl_X11_48 sk_248 rfl h (fun μ h => ?_)
  refine K_iload_n (md := mX11_setPoint) (pc := 5) 1 (kTab_at (pc := 5) tX11_setPoint_ok 3 rfl) rfl ?_
  refine K_iconst (md := mX11_setPoint) (pc := 6) (x := 0) (kTab_at (pc := 6) tX11_setPoint_ok 4 rfl) rfl ?_
  refine K_sipush (md := mX11_setPoint) (pc := 7) (x := 200) (kTab_at (pc := 7) tX11_setPoint_ok 5 rfl) (by decide) ?_
  refine Z_callS (md := mX11_setPoint) (pc := 10) (st := []) (sv := (fun x1 => [.int (iI x1)])) (kTab_at (pc := 10) tX11_setPoint_ok 6 rfl) ms_X11_51 rfl (Nat.le_of_ble_eq_true rfl) (by decide) rfl (c_X11_in X p1 0 200 μ) (fun _ => rfl) h (fun μ x1 h => ?_) rfl
  refine K_if_eq (md := mX11_setPoint) (pc := 13) (kTab_at (pc := 13) tX11_setPoint_ok 7 rfl) (tgt := 26) rfl h (fun h => ?_) (fun h => ?_)
  · refine K_sub [0] rfl ?_
    refine c_X11_setPoint_26 X p1 p2  μ h
  · refine K_iload_n (md := mX11_setPoint) (pc := 16) 2 (kTab_at (pc := 16) tX11_setPoint_ok 8 rfl) rfl ?_
    refine K_iconst (md := mX11_setPoint) (pc := 17) (x := 0) (kTab_at (pc := 17) tX11_setPoint_ok 9 rfl) rfl ?_
    refine K_bipush (md := mX11_setPoint) (pc := 18) (x := 100) (kTab_at (pc := 18) tX11_setPoint_ok 10 rfl) (by decide) ?_
    refine Z_callS (md := mX11_setPoint) (pc := 20) (st := []) (sv := (fun x2 => [.int (iI x2)])) (kTab_at (pc := 20) tX11_setPoint_ok 11 rfl) ms_X11_51 rfl (Nat.le_of_ble_eq_true rfl) (by decide) rfl (c_X11_in X p2 0 100 μ) (fun _ => rfl) h (fun μ x2 h => ?_) rfl
    refine K_if_ne (md := mX11_setPoint) (pc := 23) (kTab_at (pc := 23) tX11_setPoint_ok 12 rfl) (tgt := 32) rfl h (fun h => ?_) (fun h => ?_)
    · refine K_aload_n (md := mX11_setPoint) (pc := 32) 0 (kTab_at (pc := 32) tX11_setPoint_ok 17 rfl) rfl ?_
      refine Z_callV (md := mX11_setPoint) (pc := 33) (st := []) (sv := (fun x3 => [.int (iI x3)])) (kTab_at (pc := 33) tX11_setPoint_ok 18 rfl) mv_X11_183 sk_248 rfl (Nat.le_of_ble_eq_true rfl) (by decide) rfl (c_X11_isPublished X μ) (fun _ => rfl) h (fun μ x3 h => ?_) rfl
      refine K_if_eq (md := mX11_setPoint) (pc := 36) (kTab_at (pc := 36) tX11_setPoint_ok 19 rfl) (tgt := 45) rfl h (fun h => ?_) (fun h => ?_)
      · refine K_aload_n (md := mX11_setPoint) (pc := 45) 0 (kTab_at (pc := 45) tX11_setPoint_ok 24 rfl) rfl ?_
        refine K_iload_n (md := mX11_setPoint) (pc := 46) 1 (kTab_at (pc := 46) tX11_setPoint_ok 25 rfl) rfl ?_
        refine Z_callV (md := mX11_setPoint) (pc := 47) (st := []) (sv := (fun x4 => [.int (iI x4)])) (kTab_at (pc := 47) tX11_setPoint_ok 26 rfl) mv_X11_272 sk_248 rfl (Nat.le_of_ble_eq_true rfl) (by decide) rfl (c_X11_pointAt X p1 μ) (fun _ => rfl) h (fun μ x4 h => ?_) rfl
        refine K_istore_n (md := mX11_setPoint) (pc := 50) (l' := [(3, .int (iI x4)), (0, .ref (X.1 + 248)), (1, .int (iI p1)), (2, .int (iI p2))]) (kTab_at (pc := 50) tX11_setPoint_ok 27 rfl) (Nat.le_of_ble_eq_true rfl) rfl ?_
        refine K_iload_n (md := mX11_setPoint) (pc := 51) 0 (kTab_at (pc := 51) tX11_setPoint_ok 28 rfl) rfl ?_
        refine K_iconst (md := mX11_setPoint) (pc := 52) (x := -1) (kTab_at (pc := 52) tX11_setPoint_ok 29 rfl) rfl ?_
        refine K_icmp_ne (md := mX11_setPoint) (pc := 53) (kTab_at (pc := 53) tX11_setPoint_ok 30 rfl) (tgt := 74) rfl h (fun h => ?_) (fun h => ?_)
        · refine K_sub [1, 2, 3, 0] rfl ?_
          refine c_X11_setPoint_74 X p1 p2  x4 μ h
        · refine K_aload_n (md := mX11_setPoint) (pc := 56) 1 (kTab_at (pc := 56) tX11_setPoint_ok 31 rfl) rfl ?_
          refine K_getR (md := mX11_setPoint) (pc := 57) (b := 249) (kTab_at (pc := 57) tX11_setPoint_ok 32 rfl) fl_X11_7 sk_248 rfl rfl ?_
          refine K_sipush (md := mX11_setPoint) (pc := 60) (x := 641) (kTab_at (pc := 60) tX11_setPoint_ok 33 rfl) (by decide) ?_
          refine Z_iald (md := mX11_setPoint) (pc := 63) (kTab_at (pc := 63) tX11_setPoint_ok 34 rfl) sk_249 (by decide) h (fun x5 h => ?_)
          refine K_iconst (md := mX11_setPoint) (pc := 64) (x := 5) (kTab_at (pc := 64) tX11_setPoint_ok 35 rfl) rfl ?_
          refine K_icmp_ne (md := mX11_setPoint) (pc := 65) (kTab_at (pc := 65) tX11_setPoint_ok 36 rfl) (tgt := 74) rfl h (fun h => ?_) (fun h => ?_)
          · refine K_sub [1, 2, 3, 0] rfl ?_
            refine c_X11_setPoint_74 X p1 p2  x4 μ h
          · refine K_aload_n (md := mX11_setPoint) (pc := 68) 1 (kTab_at (pc := 68) tX11_setPoint_ok 37 rfl) rfl ?_
            refine K_iconst (md := mX11_setPoint) (pc := 69) (x := 3) (kTab_at (pc := 69) tX11_setPoint_ok 38 rfl) rfl ?_
            refine Z_callV (md := mX11_setPoint) (pc := 70) (st := []) (sv := (fun x6 => [.int (iI x6)])) (kTab_at (pc := 70) tX11_setPoint_ok 39 rfl) mv_X11_177 sk_248 rfl (Nat.le_of_ble_eq_true rfl) (by decide) rfl (c_X11_fails X 3 μ) (fun _ => rfl) h (fun μ x6 h => ?_) rfl
            exact Z_iret (md := mX11_setPoint) (pc := 73) (kTab_at (pc := 73) tX11_setPoint_ok 40 rfl) rfl rfl rfl h
      · refine K_aload_n (md := mX11_setPoint) (pc := 39) 0 (kTab_at (pc := 39) tX11_setPoint_ok 20 rfl) rfl ?_
        refine K_iconst (md := mX11_setPoint) (pc := 40) (x := 2) (kTab_at (pc := 40) tX11_setPoint_ok 21 rfl) rfl ?_
        refine Z_callV (md := mX11_setPoint) (pc := 41) (st := []) (sv := (fun x7 => [.int (iI x7)])) (kTab_at (pc := 41) tX11_setPoint_ok 22 rfl) mv_X11_177 sk_248 rfl (Nat.le_of_ble_eq_true rfl) (by decide) rfl (c_X11_fails X 2 μ) (fun _ => rfl) h (fun μ x7 h => ?_) rfl
        exact Z_iret (md := mX11_setPoint) (pc := 44) (kTab_at (pc := 44) tX11_setPoint_ok 23 rfl) rfl rfl rfl h
    · refine K_sub [0] rfl ?_
      refine c_X11_setPoint_26 X p1 p2  μ h
def f_X11_removePoint_71 (p1 : Int) (k116 : Int → Mu → Option Res) : Nat → Int → Int → Mu → Option Res
  | 0, _, _, _ => none
  | fu + 1, v3, v4, μ => rdI μ 249 779 641 fun x1 => i_lt v4 (2 * x1) (rdI μ 249 779 ((642 + v4) + 2) fun x2 => wrI μ 249 779 (642 + v4) x2 fun μ => (f_X11_removePoint_71 p1 k116 fu) v3 (v4 + 1) μ) (k116 v3 μ)
set_option maxRecDepth 100000 in
theorem c_X11_removePoint_71 (X : kX) (p1 : Int)  {res : Res} (k116 : Int → Mu → Option Res) (hk116 : ∀ (v3 : Int), ∀ (μ : Mu), k116 v3 μ = some res → KK X mX11_removePoint 2 1 res 116 [(3, .int (iI v3))] [] μ) : ∀ (fu : Nat)  (v3 : Int) (v4 : Int) (μ : Mu), f_X11_removePoint_71 p1 k116 fu v3 v4 μ = some res → KK X mX11_removePoint 2 1 res 71 [(0, .ref (X.1 + 248)), (3, .int (iI v3)), (4, .int (iI v4))] [] μ := by
  intro fu
  induction fu with
  | zero => intro v3 v4 μ h; exact nomatch h
  | succ fu ih =>
    intro v3 v4 μ h
    refine K_iload (md := mX11_removePoint) (pc := 71) 2 (kTab_at (pc := 71) tX11_removePoint_ok 46 rfl) rfl ?_
    refine K_iconst (md := mX11_removePoint) (pc := 73) (x := 2) (kTab_at (pc := 73) tX11_removePoint_ok 47 rfl) rfl ?_
    refine K_aload_n (md := mX11_removePoint) (pc := 74) 0 (kTab_at (pc := 74) tX11_removePoint_ok 48 rfl) rfl ?_
    refine K_getR (md := mX11_removePoint) (pc := 75) (b := 249) (kTab_at (pc := 75) tX11_removePoint_ok 49 rfl) fl_X11_7 sk_248 rfl rfl ?_
    refine K_sipush (md := mX11_removePoint) (pc := 78) (x := 641) (kTab_at (pc := 78) tX11_removePoint_ok 50 rfl) (by decide) ?_
    refine Z_iald (md := mX11_removePoint) (pc := 81) (kTab_at (pc := 81) tX11_removePoint_ok 51 rfl) sk_249 (by decide) h (fun x1 h => ?_)
    refine K_imul (md := mX11_removePoint) (pc := 82) (kTab_at (pc := 82) tX11_removePoint_ok 52 rfl) ?_
    refine K_icmp_ge (md := mX11_removePoint) (pc := 83) (kTab_at (pc := 83) tX11_removePoint_ok 53 rfl) (tgt := 116) rfl h (fun h => ?_) (fun h => ?_)
    · refine K_sub [1] rfl ?_
      exact hk116 v3 μ h
    · refine K_aload_n (md := mX11_removePoint) (pc := 86) 0 (kTab_at (pc := 86) tX11_removePoint_ok 54 rfl) rfl ?_
      refine K_getR (md := mX11_removePoint) (pc := 87) (b := 249) (kTab_at (pc := 87) tX11_removePoint_ok 55 rfl) fl_X11_7 sk_248 rfl rfl ?_
      refine K_sipush (md := mX11_removePoint) (pc := 90) (x := 642) (kTab_at (pc := 90) tX11_removePoint_ok 56 rfl) (by decide) ?_
      refine K_iload (md := mX11_removePoint) (pc := 93) 2 (kTab_at (pc := 93) tX11_removePoint_ok 57 rfl) rfl ?_
      refine K_iadd (md := mX11_removePoint) (pc := 95) (kTab_at (pc := 95) tX11_removePoint_ok 58 rfl) ?_
      refine K_aload_n (md := mX11_removePoint) (pc := 96) 0 (kTab_at (pc := 96) tX11_removePoint_ok 59 rfl) rfl ?_
      refine K_getR (md := mX11_removePoint) (pc := 97) (b := 249) (kTab_at (pc := 97) tX11_removePoint_ok 60 rfl) fl_X11_7 sk_248 rfl rfl ?_
      refine K_sipush (md := mX11_removePoint) (pc := 100) (x := 642) (kTab_at (pc := 100) tX11_removePoint_ok 61 rfl) (by decide) ?_
      refine K_iload (md := mX11_removePoint) (pc := 103) 2 (kTab_at (pc := 103) tX11_removePoint_ok 62 rfl) rfl ?_
      refine K_iadd (md := mX11_removePoint) (pc := 105) (kTab_at (pc := 105) tX11_removePoint_ok 63 rfl) ?_
      refine K_iconst (md := mX11_removePoint) (pc := 106) (x := 2) (kTab_at (pc := 106) tX11_removePoint_ok 64 rfl) rfl ?_
      refine K_iadd (md := mX11_removePoint) (pc := 107) (kTab_at (pc := 107) tX11_removePoint_ok 65 rfl) ?_
      refine Z_iald (md := mX11_removePoint) (pc := 108) (kTab_at (pc := 108) tX11_removePoint_ok 66 rfl) sk_249 (by decide) h (fun x2 h => ?_)
      refine Z_iast (md := mX11_removePoint) (pc := 109) (kTab_at (pc := 109) tX11_removePoint_ok 67 rfl) sk_249 (by decide) h (fun μ h => ?_)
      refine K_iinc (md := mX11_removePoint) (pc := 110) (l' := [(4, .int (iI (v4 + 1))), (0, .ref (X.1 + 248)), (3, .int (iI v3))]) 2 (kTab_at (pc := 110) tX11_removePoint_ok 68 rfl) rfl (Nat.le_of_ble_eq_true rfl) rfl ?_
      refine K_goto (md := mX11_removePoint) (pc := 113) (tgt := 71) (kTab_at (pc := 113) tX11_removePoint_ok 69 rfl) rfl ?_
      refine K_sub [1, 2, 0] rfl ?_
      exact ih v3 (v4 + 1) μ h
def f_X11_removePoint (p1 : Int) (μ : Mu) : Option Res := wrF μ 248 0 0 fun μ => rb (f_X11_isPublished μ) fun μ x1 => i_eq x1 0 (rb (f_X11_pointAt p1 μ) fun μ x2 => i_eq x2 (-1) (rb (f_X11_fails 2 μ) fun μ x6 => some (μ, 0, x6)) (rb (f_X11_changes μ) fun μ _ => rdI μ 249 779 ((642 + (2 * x2)) + 1) fun x3 => rdI μ 249 779 641 fun x4 => wrI μ 249 779 641 (x4 - 1) fun μ => bnd (2 * x2) fun x5 => f_X11_removePoint_71 p1 (fun v3 μ => some (μ, 0, v3)) FU x3 x5 μ)) (rb (f_X11_fails 1 μ) fun μ x7 => some (μ, 0, x7))
set_option maxRecDepth 100000 in
theorem c_X11_removePoint (X : kX) (p1 : Int)  (μ : Mu) : Cq X mX11_removePoint 2 1 μ [.ref (X.1 + 248), .int (iI p1)] (f_X11_removePoint p1 μ) := by
  intro res h
  refine ct_of (by decide +kernel) rfl (Nat.le_of_ble_eq_true rfl) ?_
  show KK X mX11_removePoint 2 1 res 0 [(0, .ref (X.1 + 248)), (1, .int (iI p1))] [] μ
  unfold f_X11_removePoint at h
  refine K_aload_n (md := mX11_removePoint) (pc := 0) 0 (kTab_at (pc := 0) tX11_removePoint_ok 0 rfl) rfl ?_
  refine K_iconst (md := mX11_removePoint) (pc := 1) (x := 0) (kTab_at (pc := 1) tX11_removePoint_ok 1 rfl) rfl ?_
  refine Z_putI (md := mX11_removePoint) (pc := 2) (kTab_at (pc := 2) tX11_removePoint_ok 2 rfl) fl_X11_48 sk_248 rfl h (fun μ h => ?_)
  refine K_aload_n (md := mX11_removePoint) (pc := 5) 0 (kTab_at (pc := 5) tX11_removePoint_ok 3 rfl) rfl ?_
  refine Z_callV (md := mX11_removePoint) (pc := 6) (st := []) (sv := (fun x1 => [.int (iI x1)])) (kTab_at (pc := 6) tX11_removePoint_ok 4 rfl) mv_X11_183 sk_248 rfl (Nat.le_of_ble_eq_true rfl) (by decide) rfl (c_X11_isPublished X μ) (fun _ => rfl) h (fun μ x1 h => ?_) rfl
  refine K_if_eq (md := mX11_removePoint) (pc := 9) (kTab_at (pc := 9) tX11_removePoint_ok 5 rfl) (tgt := 18) rfl h (fun h => ?_) (fun h => ?_)
  · refine K_aload_n (md := mX11_removePoint) (pc := 18) 0 (kTab_at (pc := 18) tX11_removePoint_ok 10 rfl) rfl ?_
    refine K_iload_n (md := mX11_removePoint) (pc := 19) 1 (kTab_at (pc := 19) tX11_removePoint_ok 11 rfl) rfl ?_
    refine Z_callV (md := mX11_removePoint) (pc := 20) (st := []) (sv := (fun x2 => [.int (iI x2)])) (kTab_at (pc := 20) tX11_removePoint_ok 12 rfl) mv_X11_272 sk_248 rfl (Nat.le_of_ble_eq_true rfl) (by decide) rfl (c_X11_pointAt X p1 μ) (fun _ => rfl) h (fun μ x2 h => ?_) rfl
    refine K_istore_n (md := mX11_removePoint) (pc := 23) (l' := [(2, .int (iI x2)), (0, .ref (X.1 + 248)), (1, .int (iI p1))]) (kTab_at (pc := 23) tX11_removePoint_ok 13 rfl) (Nat.le_of_ble_eq_true rfl) rfl ?_
    refine K_iload_n (md := mX11_removePoint) (pc := 24) 0 (kTab_at (pc := 24) tX11_removePoint_ok 14 rfl) rfl ?_
    refine K_iconst (md := mX11_removePoint) (pc := 25) (x := -1) (kTab_at (pc := 25) tX11_removePoint_ok 15 rfl) rfl ?_
    refine K_icmp_ne (md := mX11_removePoint) (pc := 26) (kTab_at (pc := 26) tX11_removePoint_ok 16 rfl) (tgt := 35) rfl h (fun h => ?_) (fun h => ?_)
    · refine K_aload_n (md := mX11_removePoint) (pc := 35) 1 (kTab_at (pc := 35) tX11_removePoint_ok 21 rfl) rfl ?_
      refine Z_callV (md := mX11_removePoint) (pc := 36) (st := []) (sv := (fun _ => [])) (kTab_at (pc := 36) tX11_removePoint_ok 22 rfl) mv_X11_190 sk_248 rfl (Nat.le_of_ble_eq_true rfl) (by decide) rfl (c_X11_changes X μ) (fun _ => rfl) h (fun μ _ h => ?_) rfl
      refine K_aload_n (md := mX11_removePoint) (pc := 39) 1 (kTab_at (pc := 39) tX11_removePoint_ok 23 rfl) rfl ?_
      refine K_getR (md := mX11_removePoint) (pc := 40) (b := 249) (kTab_at (pc := 40) tX11_removePoint_ok 24 rfl) fl_X11_7 sk_248 rfl rfl ?_
      refine K_sipush (md := mX11_removePoint) (pc := 43) (x := 642) (kTab_at (pc := 43) tX11_removePoint_ok 25 rfl) (by decide) ?_
      refine K_iconst (md := mX11_removePoint) (pc := 46) (x := 2) (kTab_at (pc := 46) tX11_removePoint_ok 26 rfl) rfl ?_
      refine K_iload_n (md := mX11_removePoint) (pc := 47) 0 (kTab_at (pc := 47) tX11_removePoint_ok 27 rfl) rfl ?_
      refine K_imul (md := mX11_removePoint) (pc := 48) (kTab_at (pc := 48) tX11_removePoint_ok 28 rfl) ?_
      refine K_iadd (md := mX11_removePoint) (pc := 49) (kTab_at (pc := 49) tX11_removePoint_ok 29 rfl) ?_
      refine K_iconst (md := mX11_removePoint) (pc := 50) (x := 1) (kTab_at (pc := 50) tX11_removePoint_ok 30 rfl) rfl ?_
      refine K_iadd (md := mX11_removePoint) (pc := 51) (kTab_at (pc := 51) tX11_removePoint_ok 31 rfl) ?_
      refine Z_iald (md := mX11_removePoint) (pc := 52) (kTab_at (pc := 52) tX11_removePoint_ok 32 rfl) sk_249 (by decide) h (fun x3 h => ?_)
      refine K_istore_n (md := mX11_removePoint) (pc := 53) (l' := [(3, .int (iI x3)), (2, .int (iI x2)), (0, .ref (X.1 + 248)), (1, .int (iI p1))]) (kTab_at (pc := 53) tX11_removePoint_ok 33 rfl) (Nat.le_of_ble_eq_true rfl) rfl ?_
      refine K_aload_n (md := mX11_removePoint) (pc := 54) 2 (kTab_at (pc := 54) tX11_removePoint_ok 34 rfl) rfl ?_
      refine K_getR (md := mX11_removePoint) (pc := 55) (b := 249) (kTab_at (pc := 55) tX11_removePoint_ok 35 rfl) fl_X11_7 sk_248 rfl rfl ?_
      refine K_sipush (md := mX11_removePoint) (pc := 58) (x := 641) (kTab_at (pc := 58) tX11_removePoint_ok 36 rfl) (by decide) ?_
      refine K_dup2 (md := mX11_removePoint) (pc := 61) (kTab_at (pc := 61) tX11_removePoint_ok 37 rfl) rfl rfl ?_
      refine Z_iald (md := mX11_removePoint) (pc := 62) (kTab_at (pc := 62) tX11_removePoint_ok 38 rfl) sk_249 (by decide) h (fun x4 h => ?_)
      refine K_iconst (md := mX11_removePoint) (pc := 63) (x := 1) (kTab_at (pc := 63) tX11_removePoint_ok 39 rfl) rfl ?_
      refine K_isub (md := mX11_removePoint) (pc := 64) (kTab_at (pc := 64) tX11_removePoint_ok 40 rfl) ?_
      refine Z_iast (md := mX11_removePoint) (pc := 65) (kTab_at (pc := 65) tX11_removePoint_ok 41 rfl) sk_249 (by decide) h (fun μ h => ?_)
      refine K_iconst (md := mX11_removePoint) (pc := 66) (x := 2) (kTab_at (pc := 66) tX11_removePoint_ok 42 rfl) rfl ?_
      refine K_iload_n (md := mX11_removePoint) (pc := 67) 1 (kTab_at (pc := 67) tX11_removePoint_ok 43 rfl) rfl ?_
      refine K_imul (md := mX11_removePoint) (pc := 68) (kTab_at (pc := 68) tX11_removePoint_ok 44 rfl) ?_
      refine Z_bnd (md := mX11_removePoint) (pc := 69) h (fun x5 h => ?_)
      refine K_istore (md := mX11_removePoint) (pc := 69) (l' := [(4, .int (iI x5)), (3, .int (iI x3)), (2, .int (iI x2)), (0, .ref (X.1 + 248)), (1, .int (iI p1))]) (kTab_at (pc := 69) tX11_removePoint_ok 45 rfl) (Nat.le_of_ble_eq_true rfl) rfl ?_
      refine K_sub [3, 1, 0] rfl ?_
      refine c_X11_removePoint_71 X p1 _ ?_ _ x3 x5 μ h
      · intro v3 μ h
        refine K_iload_n (md := mX11_removePoint) (pc := 116) 0 (kTab_at (pc := 116) tX11_removePoint_ok 70 rfl) rfl ?_
        exact Z_iret (md := mX11_removePoint) (pc := 117) (kTab_at (pc := 117) tX11_removePoint_ok 71 rfl) rfl rfl rfl h
    · refine K_aload_n (md := mX11_removePoint) (pc := 29) 1 (kTab_at (pc := 29) tX11_removePoint_ok 17 rfl) rfl ?_
      refine K_iconst (md := mX11_removePoint) (pc := 30) (x := 2) (kTab_at (pc := 30) tX11_removePoint_ok 18 rfl) rfl ?_
      refine Z_callV (md := mX11_removePoint) (pc := 31) (st := []) (sv := (fun x6 => [.int (iI x6)])) (kTab_at (pc := 31) tX11_removePoint_ok 19 rfl) mv_X11_177 sk_248 rfl (Nat.le_of_ble_eq_true rfl) (by decide) rfl (c_X11_fails X 2 μ) (fun _ => rfl) h (fun μ x6 h => ?_) rfl
      exact Z_iret (md := mX11_removePoint) (pc := 34) (kTab_at (pc := 34) tX11_removePoint_ok 20 rfl) rfl rfl rfl h
  · refine K_aload_n (md := mX11_removePoint) (pc := 12) 0 (kTab_at (pc := 12) tX11_removePoint_ok 6 rfl) rfl ?_
    refine K_iconst (md := mX11_removePoint) (pc := 13) (x := 1) (kTab_at (pc := 13) tX11_removePoint_ok 7 rfl) rfl ?_
    refine Z_callV (md := mX11_removePoint) (pc := 14) (st := []) (sv := (fun x7 => [.int (iI x7)])) (kTab_at (pc := 14) tX11_removePoint_ok 8 rfl) mv_X11_177 sk_248 rfl (Nat.le_of_ble_eq_true rfl) (by decide) rfl (c_X11_fails X 1 μ) (fun _ => rfl) h (fun μ x7 h => ?_) rfl
    exact Z_iret (md := mX11_removePoint) (pc := 17) (kTab_at (pc := 17) tX11_removePoint_ok 9 rfl) rfl rfl rfl h
def f_X11_curve_32 (p1 : Int)  (s0 : Int) (μ : Mu) : Option Res := some (μ, 0, s0)
set_option maxRecDepth 100000 in
theorem c_X11_curve_32 (X : kX) (p1 : Int)  {res : Res}  (s0 : Int) (μ : Mu) (h : f_X11_curve_32 p1 s0 μ = some res) : KK X mX11_curve 2 1 res 32 [] [.int (iI s0)] μ := by
  unfold f_X11_curve_32 at h
  exact Z_iret (md := mX11_curve) (pc := 32) (kTab_at (pc := 32) tX11_curve_ok 18 rfl) rfl rfl rfl h
def f_X11_curve (p1 : Int) (μ : Mu) : Option Res := wrF μ 248 0 0 fun μ => rb (f_X11_full μ) fun μ x1 => rb (f_X11_in p1 0 x1 μ) fun μ x2 => i_eq x2 0 (rb (f_X11_fails 1 μ) fun μ x3 => f_X11_curve_32 p1 x3 μ) (i_2l p1 (rb (f_X11_scaled p1 1 μ) fun μ x4 => f_X11_curve_32 p1 x4 μ))
set_option maxRecDepth 100000 in
theorem c_X11_curve (X : kX) (p1 : Int)  (μ : Mu) : Cq X mX11_curve 2 1 μ [.ref (X.1 + 248), .int (iI p1)] (f_X11_curve p1 μ) := by
  intro res h
  refine ct_of (by decide +kernel) rfl (Nat.le_of_ble_eq_true rfl) ?_
  show KK X mX11_curve 2 1 res 0 [(0, .ref (X.1 + 248)), (1, .int (iI p1))] [] μ
  unfold f_X11_curve at h
  refine K_aload_n (md := mX11_curve) (pc := 0) 0 (kTab_at (pc := 0) tX11_curve_ok 0 rfl) rfl ?_
  refine K_iconst (md := mX11_curve) (pc := 1) (x := 0) (kTab_at (pc := 1) tX11_curve_ok 1 rfl) rfl ?_
  refine Z_putI (md := mX11_curve) (pc := 2) (kTab_at (pc := 2) tX11_curve_ok 2 rfl) fl_X11_48 sk_248 rfl h (fun μ h => ?_)
  refine K_iload_n (md := mX11_curve) (pc := 5) 1 (kTab_at (pc := 5) tX11_curve_ok 3 rfl) rfl ?_
  refine K_iconst (md := mX11_curve) (pc := 6) (x := 0) (kTab_at (pc := 6) tX11_curve_ok 4 rfl) rfl ?_
  refine K_aload_n (md := mX11_curve) (pc := 7) 0 (kTab_at (pc := 7) tX11_curve_ok 5 rfl) rfl ?_
  refine Z_callV (md := mX11_curve) (pc := 8) (st := [.int (iI 0), .int (iI p1)]) (sv := (fun x1 => [.int (iI x1), .int (iI 0), .int (iI p1)])) (kTab_at (pc := 8) tX11_curve_ok 6 rfl) mv_X11_124 sk_248 rfl (Nat.le_of_ble_eq_true rfl) (by decide) rfl (c_X11_full X μ) (fun _ => rfl) h (fun μ x1 h => ?_) rfl
  refine Z_callS (md := mX11_curve) (pc := 11) (st := []) (sv := (fun x2 => [.int (iI x2)])) (kTab_at (pc := 11) tX11_curve_ok 7 rfl) ms_X11_51 rfl (Nat.le_of_ble_eq_true rfl) (by decide) rfl (c_X11_in X p1 0 x1 μ) (fun _ => rfl) h (fun μ x2 h => ?_) rfl
  refine K_if_eq (md := mX11_curve) (pc := 14) (kTab_at (pc := 14) tX11_curve_ok 8 rfl) (tgt := 27) rfl h (fun h => ?_) (fun h => ?_)
  · refine K_aload_n (md := mX11_curve) (pc := 27) 0 (kTab_at (pc := 27) tX11_curve_ok 15 rfl) rfl ?_
    refine K_iconst (md := mX11_curve) (pc := 28) (x := 1) (kTab_at (pc := 28) tX11_curve_ok 16 rfl) rfl ?_
    refine Z_callV (md := mX11_curve) (pc := 29) (st := []) (sv := (fun x3 => [.int (iI x3)])) (kTab_at (pc := 29) tX11_curve_ok 17 rfl) mv_X11_177 sk_248 rfl (Nat.le_of_ble_eq_true rfl) (by decide) rfl (c_X11_fails X 1 μ) (fun _ => rfl) h (fun μ x3 h => ?_) rfl
    refine K_sub [] rfl ?_
    refine c_X11_curve_32 X p1  x3 μ h
  · refine K_aload_n (md := mX11_curve) (pc := 17) 0 (kTab_at (pc := 17) tX11_curve_ok 9 rfl) rfl ?_
    refine K_iload_n (md := mX11_curve) (pc := 18) 1 (kTab_at (pc := 18) tX11_curve_ok 10 rfl) rfl ?_
    refine K_i2l (md := mX11_curve) (pc := 19) (kTab_at (pc := 19) tX11_curve_ok 11 rfl) h (fun h => ?_)
    refine K_lconst (md := mX11_curve) (pc := 20) (x := 1) (kTab_at (pc := 20) tX11_curve_ok 12 rfl) rfl ?_
    refine Z_callV (md := mX11_curve) (pc := 21) (st := []) (sv := (fun x4 => [.int (iI x4)])) (kTab_at (pc := 21) tX11_curve_ok 13 rfl) mv_X11_153 sk_248 rfl (Nat.le_of_ble_eq_true rfl) (by decide) rfl (c_X11_scaled X p1 1 μ) (fun _ => rfl) h (fun μ x4 h => ?_) rfl
    refine K_goto (md := mX11_curve) (pc := 24) (tgt := 32) (kTab_at (pc := 24) tX11_curve_ok 14 rfl) rfl ?_
    refine K_sub [] rfl ?_
    refine c_X11_curve_32 X p1  x4 μ h
def f_X11_setBoundary_91 (p1 : Int) (p2 : Int)   (μ : Mu) : Option Res := rb (f_X11_fails 2 μ) fun μ x1 => some (μ, 0, x1)
set_option maxRecDepth 100000 in
theorem c_X11_setBoundary_91 (X : kX) (p1 : Int) (p2 : Int)  {res : Res}  (μ : Mu) (h : f_X11_setBoundary_91 p1 p2 μ = some res) : KK X mX11_setBoundary 2 1 res 91 [(0, .ref (X.1 + 248))] [] μ := by
  unfold f_X11_setBoundary_91 at h
  refine K_aload_n (md := mX11_setBoundary) (pc := 91) 0 (kTab_at (pc := 91) tX11_setBoundary_ok 54 rfl) rfl ?_
  refine K_iconst (md := mX11_setBoundary) (pc := 92) (x := 2) (kTab_at (pc := 92) tX11_setBoundary_ok 55 rfl) rfl ?_
  refine Z_callV (md := mX11_setBoundary) (pc := 93) (st := []) (sv := (fun x1 => [.int (iI x1)])) (kTab_at (pc := 93) tX11_setBoundary_ok 56 rfl) mv_X11_177 sk_248 rfl (Nat.le_of_ble_eq_true rfl) (by decide) rfl (c_X11_fails X 2 μ) (fun _ => rfl) h (fun μ x1 h => ?_) rfl
  exact Z_iret (md := mX11_setBoundary) (pc := 96) (kTab_at (pc := 96) tX11_setBoundary_ok 57 rfl) rfl rfl rfl h
def f_X11_setBoundary_70 (p1 : Int) (p2 : Int)  (v3 : Int) (s0 : Int) (μ : Mu) : Option Res := rb (f_X11_in p2 1 100 μ) fun μ x1 => i_eq x1 0 (f_X11_setBoundary_91 p1 p2 μ) (i_eq v3 0 (f_X11_setBoundary_91 p1 p2 μ) (i_eq s0 0 (f_X11_setBoundary_91 p1 p2 μ) (rb (f_X11_isPublished μ) fun μ x2 => i_eq x2 0 (rb (f_X11_changes μ) fun μ _ => rdI μ 249 779 (10 + p1) fun x3 => wrI μ 249 779 (10 + p1) p2 fun μ => some (μ, 0, x3)) (rb (f_X11_fails 3 μ) fun μ x4 => some (μ, 0, x4)))))
set_option maxRecDepth 100000 in
theorem c_X11_setBoundary_70 (X : kX) (p1 : Int) (p2 : Int)  {res : Res}  (v3 : Int) (s0 : Int) (μ : Mu) (h : f_X11_setBoundary_70 p1 p2 v3 s0 μ = some res) : KK X mX11_setBoundary 2 1 res 70 [(0, .ref (X.1 + 248)), (1, .int (iI p1)), (2, .int (iI p2)), (3, .int (iI v3))] [.int (iI s0)] μ := by
  unfold f_X11_setBoundary_70 at h
  refine K_istore (md := mX11_setBoundary) (pc := 70) (l' := [(4, .int (iI s0)), (0, .ref (X.1 + 248)), (1, .int (iI p1)), (2, .int (iI p2)), (3, .int (iI v3))]) (kTab_at (pc := 70) tX11_setBoundary_ok 44 rfl) (Nat.le_of_ble_eq_true rfl) rfl ?_
  refine K_iload_n (md := mX11_setBoundary) (pc := 72) 3 (kTab_at (pc := 72) tX11_setBoundary_ok 45 rfl) rfl ?_
  refine K_iconst (md := mX11_setBoundary) (pc := 73) (x := 1) (kTab_at (pc := 73) tX11_setBoundary_ok 46 rfl) rfl ?_
  refine K_bipush (md := mX11_setBoundary) (pc := 74) (x := 100) (kTab_at (pc := 74) tX11_setBoundary_ok 47 rfl) (by decide) ?_
  refine Z_callS (md := mX11_setBoundary) (pc := 76) (st := []) (sv := (fun x1 => [.int (iI x1)])) (kTab_at (pc := 76) tX11_setBoundary_ok 48 rfl) ms_X11_51 rfl (Nat.le_of_ble_eq_true rfl) (by decide) rfl (c_X11_in X p2 1 100 μ) (fun _ => rfl) h (fun μ x1 h => ?_) rfl
  refine K_if_eq (md := mX11_setBoundary) (pc := 79) (kTab_at (pc := 79) tX11_setBoundary_ok 49 rfl) (tgt := 91) rfl h (fun h => ?_) (fun h => ?_)
  · refine K_sub [1] rfl ?_
    refine c_X11_setBoundary_91 X p1 p2  μ h
  · refine K_iload_n (md := mX11_setBoundary) (pc := 82) 4 (kTab_at (pc := 82) tX11_setBoundary_ok 50 rfl) rfl ?_
    refine K_if_eq (md := mX11_setBoundary) (pc := 83) (kTab_at (pc := 83) tX11_setBoundary_ok 51 rfl) (tgt := 91) rfl h (fun h => ?_) (fun h => ?_)
    · refine K_sub [1] rfl ?_
      refine c_X11_setBoundary_91 X p1 p2  μ h
    · refine K_iload (md := mX11_setBoundary) (pc := 86) 0 (kTab_at (pc := 86) tX11_setBoundary_ok 52 rfl) rfl ?_
      refine K_if_ne (md := mX11_setBoundary) (pc := 88) (kTab_at (pc := 88) tX11_setBoundary_ok 53 rfl) (tgt := 97) rfl h (fun h => ?_) (fun h => ?_)
      · refine K_aload_n (md := mX11_setBoundary) (pc := 97) 1 (kTab_at (pc := 97) tX11_setBoundary_ok 58 rfl) rfl ?_
        refine Z_callV (md := mX11_setBoundary) (pc := 98) (st := []) (sv := (fun x2 => [.int (iI x2)])) (kTab_at (pc := 98) tX11_setBoundary_ok 59 rfl) mv_X11_183 sk_248 rfl (Nat.le_of_ble_eq_true rfl) (by decide) rfl (c_X11_isPublished X μ) (fun _ => rfl) h (fun μ x2 h => ?_) rfl
        refine K_if_eq (md := mX11_setBoundary) (pc := 101) (kTab_at (pc := 101) tX11_setBoundary_ok 60 rfl) (tgt := 110) rfl h (fun h => ?_) (fun h => ?_)
        · refine K_aload_n (md := mX11_setBoundary) (pc := 110) 1 (kTab_at (pc := 110) tX11_setBoundary_ok 65 rfl) rfl ?_
          refine Z_callV (md := mX11_setBoundary) (pc := 111) (st := []) (sv := (fun _ => [])) (kTab_at (pc := 111) tX11_setBoundary_ok 66 rfl) mv_X11_190 sk_248 rfl (Nat.le_of_ble_eq_true rfl) (by decide) rfl (c_X11_changes X μ) (fun _ => rfl) h (fun μ _ h => ?_) rfl
          refine K_aload_n (md := mX11_setBoundary) (pc := 114) 1 (kTab_at (pc := 114) tX11_setBoundary_ok 67 rfl) rfl ?_
          refine K_getR (md := mX11_setBoundary) (pc := 115) (b := 249) (kTab_at (pc := 115) tX11_setBoundary_ok 68 rfl) fl_X11_7 sk_248 rfl rfl ?_
          refine K_bipush (md := mX11_setBoundary) (pc := 118) (x := 10) (kTab_at (pc := 118) tX11_setBoundary_ok 69 rfl) (by decide) ?_
          refine K_iload_n (md := mX11_setBoundary) (pc := 120) 2 (kTab_at (pc := 120) tX11_setBoundary_ok 70 rfl) rfl ?_
          refine K_iadd (md := mX11_setBoundary) (pc := 121) (kTab_at (pc := 121) tX11_setBoundary_ok 71 rfl) ?_
          refine Z_iald (md := mX11_setBoundary) (pc := 122) (kTab_at (pc := 122) tX11_setBoundary_ok 72 rfl) sk_249 (by decide) h (fun x3 h => ?_)
          refine K_istore (md := mX11_setBoundary) (pc := 123) (l' := [(5, .int (iI x3)), (4, .int (iI s0)), (0, .ref (X.1 + 248)), (1, .int (iI p1)), (2, .int (iI p2)), (3, .int (iI v3))]) (kTab_at (pc := 123) tX11_setBoundary_ok 73 rfl) (Nat.le_of_ble_eq_true rfl) rfl ?_
          refine K_aload_n (md := mX11_setBoundary) (pc := 125) 2 (kTab_at (pc := 125) tX11_setBoundary_ok 74 rfl) rfl ?_
          refine K_getR (md := mX11_setBoundary) (pc := 126) (b := 249) (kTab_at (pc := 126) tX11_setBoundary_ok 75 rfl) fl_X11_7 sk_248 rfl rfl ?_
          refine K_bipush (md := mX11_setBoundary) (pc := 129) (x := 10) (kTab_at (pc := 129) tX11_setBoundary_ok 76 rfl) (by decide) ?_
          refine K_iload_n (md := mX11_setBoundary) (pc := 131) 3 (kTab_at (pc := 131) tX11_setBoundary_ok 77 rfl) rfl ?_
          refine K_iadd (md := mX11_setBoundary) (pc := 132) (kTab_at (pc := 132) tX11_setBoundary_ok 78 rfl) ?_
          refine K_iload_n (md := mX11_setBoundary) (pc := 133) 4 (kTab_at (pc := 133) tX11_setBoundary_ok 79 rfl) rfl ?_
          refine Z_iast (md := mX11_setBoundary) (pc := 134) (kTab_at (pc := 134) tX11_setBoundary_ok 80 rfl) sk_249 (by decide) h (fun μ h => ?_)
          refine K_iload (md := mX11_setBoundary) (pc := 135) 0 (kTab_at (pc := 135) tX11_setBoundary_ok 81 rfl) rfl ?_
          exact Z_iret (md := mX11_setBoundary) (pc := 137) (kTab_at (pc := 137) tX11_setBoundary_ok 82 rfl) rfl rfl rfl h
        · refine K_aload_n (md := mX11_setBoundary) (pc := 104) 1 (kTab_at (pc := 104) tX11_setBoundary_ok 61 rfl) rfl ?_
          refine K_iconst (md := mX11_setBoundary) (pc := 105) (x := 3) (kTab_at (pc := 105) tX11_setBoundary_ok 62 rfl) rfl ?_
          refine Z_callV (md := mX11_setBoundary) (pc := 106) (st := []) (sv := (fun x4 => [.int (iI x4)])) (kTab_at (pc := 106) tX11_setBoundary_ok 63 rfl) mv_X11_177 sk_248 rfl (Nat.le_of_ble_eq_true rfl) (by decide) rfl (c_X11_fails X 3 μ) (fun _ => rfl) h (fun μ x4 h => ?_) rfl
          exact Z_iret (md := mX11_setBoundary) (pc := 109) (kTab_at (pc := 109) tX11_setBoundary_ok 64 rfl) rfl rfl rfl h
      · refine K_sub [1] rfl ?_
        refine c_X11_setBoundary_91 X p1 p2  μ h
def f_X11_setBoundary_65 (p1 : Int) (p2 : Int)  (v3 : Int) (μ : Mu) : Option Res := f_X11_setBoundary_70 p1 p2 v3 1 μ
set_option maxRecDepth 100000 in
theorem c_X11_setBoundary_65 (X : kX) (p1 : Int) (p2 : Int)  {res : Res}  (v3 : Int) (μ : Mu) (h : f_X11_setBoundary_65 p1 p2 v3 μ = some res) : KK X mX11_setBoundary 2 1 res 65 [(0, .ref (X.1 + 248)), (1, .int (iI p1)), (2, .int (iI p2)), (3, .int (iI v3))] [] μ := by
  unfold f_X11_setBoundary_65 at h
  refine K_iconst (md := mX11_setBoundary) (pc := 65) (x := 1) (kTab_at (pc := 65) tX11_setBoundary_ok 41 rfl) rfl ?_
  refine K_goto (md := mX11_setBoundary) (pc := 66) (tgt := 70) (kTab_at (pc := 66) tX11_setBoundary_ok 42 rfl) rfl ?_
  refine c_X11_setBoundary_70 X p1 p2  v3 1 μ h
def f_X11_setBoundary_44 (p1 : Int) (p2 : Int)  (s0 : Int) (μ : Mu) : Option Res := i_eq p1 3 (f_X11_setBoundary_65 p1 p2 s0 μ) (rdI μ 249 779 ((10 + p1) + 1) fun x1 => i_lt x1 p2 (f_X11_setBoundary_65 p1 p2 s0 μ) (f_X11_setBoundary_70 p1 p2 s0 0 μ))
set_option maxRecDepth 100000 in
theorem c_X11_setBoundary_44 (X : kX) (p1 : Int) (p2 : Int)  {res : Res}  (s0 : Int) (μ : Mu) (h : f_X11_setBoundary_44 p1 p2 s0 μ = some res) : KK X mX11_setBoundary 2 1 res 44 [(0, .ref (X.1 + 248)), (1, .int (iI p1)), (2, .int (iI p2))] [.int (iI s0)] μ := by
  unfold f_X11_setBoundary_44 at h
  refine K_istore_n (md := mX11_setBoundary) (pc := 44) (l' := [(3, .int (iI s0)), (0, .ref (X.1 + 248)), (1, .int (iI p1)), (2, .int (iI p2))]) (kTab_at (pc := 44) tX11_setBoundary_ok 27 rfl) (Nat.le_of_ble_eq_true rfl) rfl ?_
  refine K_iload_n (md := mX11_setBoundary) (pc := 45) 2 (kTab_at (pc := 45) tX11_setBoundary_ok 28 rfl) rfl ?_
  refine K_iconst (md := mX11_setBoundary) (pc := 46) (x := 3) (kTab_at (pc := 46) tX11_setBoundary_ok 29 rfl) rfl ?_
  refine K_icmp_eq (md := mX11_setBoundary) (pc := 47) (kTab_at (pc := 47) tX11_setBoundary_ok 30 rfl) (tgt := 65) rfl h (fun h => ?_) (fun h => ?_)
  · refine K_sub [1, 2, 3, 0] rfl ?_
    refine c_X11_setBoundary_65 X p1 p2  s0 μ h
  · refine K_iload_n (md := mX11_setBoundary) (pc := 50) 3 (kTab_at (pc := 50) tX11_setBoundary_ok 31 rfl) rfl ?_
    refine K_aload_n (md := mX11_setBoundary) (pc := 51) 1 (kTab_at (pc := 51) tX11_setBoundary_ok 32 rfl) rfl ?_
    refine K_getR (md := mX11_setBoundary) (pc := 52) (b := 249) (kTab_at (pc := 52) tX11_setBoundary_ok 33 rfl) fl_X11_7 sk_248 rfl rfl ?_
    refine K_bipush (md := mX11_setBoundary) (pc := 55) (x := 10) (kTab_at (pc := 55) tX11_setBoundary_ok 34 rfl) (by decide) ?_
    refine K_iload_n (md := mX11_setBoundary) (pc := 57) 2 (kTab_at (pc := 57) tX11_setBoundary_ok 35 rfl) rfl ?_
    refine K_iadd (md := mX11_setBoundary) (pc := 58) (kTab_at (pc := 58) tX11_setBoundary_ok 36 rfl) ?_
    refine K_iconst (md := mX11_setBoundary) (pc := 59) (x := 1) (kTab_at (pc := 59) tX11_setBoundary_ok 37 rfl) rfl ?_
    refine K_iadd (md := mX11_setBoundary) (pc := 60) (kTab_at (pc := 60) tX11_setBoundary_ok 38 rfl) ?_
    refine Z_iald (md := mX11_setBoundary) (pc := 61) (kTab_at (pc := 61) tX11_setBoundary_ok 39 rfl) sk_249 (by decide) h (fun x1 h => ?_)
    refine K_icmp_le (md := mX11_setBoundary) (pc := 62) (kTab_at (pc := 62) tX11_setBoundary_ok 40 rfl) (tgt := 69) rfl h (fun h => ?_) (fun h => ?_)
    · refine K_iconst (md := mX11_setBoundary) (pc := 69) (x := 0) (kTab_at (pc := 69) tX11_setBoundary_ok 43 rfl) rfl ?_
      refine K_sub [1, 2, 3, 0] rfl ?_
      refine c_X11_setBoundary_70 X p1 p2  s0 0 μ h
    · refine K_sub [1, 2, 3, 0] rfl ?_
      refine c_X11_setBoundary_65 X p1 p2  s0 μ h
def f_X11_setBoundary_39 (p1 : Int) (p2 : Int)   (μ : Mu) : Option Res := f_X11_setBoundary_44 p1 p2 1 μ
set_option maxRecDepth 100000 in
theorem c_X11_setBoundary_39 (X : kX) (p1 : Int) (p2 : Int)  {res : Res}  (μ : Mu) (h : f_X11_setBoundary_39 p1 p2 μ = some res) : KK X mX11_setBoundary 2 1 res 39 [(0, .ref (X.1 + 248)), (1, .int (iI p1)), (2, .int (iI p2))] [] μ := by
  unfold f_X11_setBoundary_39 at h
  refine K_iconst (md := mX11_setBoundary) (pc := 39) (x := 1) (kTab_at (pc := 39) tX11_setBoundary_ok 24 rfl) rfl ?_
  refine K_goto (md := mX11_setBoundary) (pc := 40) (tgt := 44) (kTab_at (pc := 40) tX11_setBoundary_ok 25 rfl) rfl ?_
  refine c_X11_setBoundary_44 X p1 p2  1 μ h
def f_X11_setBoundary (p1 : Int) (p2 : Int) (μ : Mu) : Option Res := wrF μ 248 0 0 fun μ => rb (f_X11_in p1 0 3 μ) fun μ x1 => i_eq x1 0 (rb (f_X11_fails 1 μ) fun μ x3 => some (μ, 0, x3)) (i_eq p1 0 (f_X11_setBoundary_39 p1 p2 μ) (rdI μ 249 779 ((10 + p1) - 1) fun x2 => i_lt p2 x2 (f_X11_setBoundary_39 p1 p2 μ) (f_X11_setBoundary_44 p1 p2 0 μ)))
set_option maxRecDepth 100000 in
theorem c_X11_setBoundary (X : kX) (p1 : Int) (p2 : Int)  (μ : Mu) : Cq X mX11_setBoundary 2 1 μ [.ref (X.1 + 248), .int (iI p1), .int (iI p2)] (f_X11_setBoundary p1 p2 μ) := by
  intro res h
  refine ct_of (by decide +kernel) rfl (Nat.le_of_ble_eq_true rfl) ?_
  show KK X mX11_setBoundary 2 1 res 0 [(0, .ref (X.1 + 248)), (1, .int (iI p1)), (2, .int (iI p2))] [] μ
  unfold f_X11_setBoundary at h
  refine K_aload_n (md := mX11_setBoundary) (pc := 0) 0 (kTab_at (pc := 0) tX11_setBoundary_ok 0 rfl) rfl ?_
  refine K_iconst (md := mX11_setBoundary) (pc := 1) (x := 0) (kTab_at (pc := 1) tX11_setBoundary_ok 1 rfl) rfl ?_
  refine Z_putI (md := mX11_setBoundary) (pc := 2) (kTab_at (pc := 2) tX11_setBoundary_ok 2 rfl) fl_X11_48 sk_248 rfl h (fun μ h => ?_)
  refine K_iload_n (md := mX11_setBoundary) (pc := 5) 1 (kTab_at (pc := 5) tX11_setBoundary_ok 3 rfl) rfl ?_
  refine K_iconst (md := mX11_setBoundary) (pc := 6) (x := 0) (kTab_at (pc := 6) tX11_setBoundary_ok 4 rfl) rfl ?_
  refine K_iconst (md := mX11_setBoundary) (pc := 7) (x := 3) (kTab_at (pc := 7) tX11_setBoundary_ok 5 rfl) rfl ?_
  refine Z_callS (md := mX11_setBoundary) (pc := 8) (st := []) (sv := (fun x1 => [.int (iI x1)])) (kTab_at (pc := 8) tX11_setBoundary_ok 6 rfl) ms_X11_51 rfl (Nat.le_of_ble_eq_true rfl) (by decide) rfl (c_X11_in X p1 0 3 μ) (fun _ => rfl) h (fun μ x1 h => ?_) rfl
  refine K_if_ne (md := mX11_setBoundary) (pc := 11) (kTab_at (pc := 11) tX11_setBoundary_ok 7 rfl) (tgt := 20) rfl h (fun h => ?_) (fun h => ?_)
  · refine K_iload_n (md := mX11_setBoundary) (pc := 20) 1 (kTab_at (pc := 20) tX11_setBoundary_ok 12 rfl) rfl ?_
    refine K_if_eq (md := mX11_setBoundary) (pc := 21) (kTab_at (pc := 21) tX11_setBoundary_ok 13 rfl) (tgt := 39) rfl h (fun h => ?_) (fun h => ?_)
    · refine c_X11_setBoundary_39 X p1 p2  μ h
    · refine K_iload_n (md := mX11_setBoundary) (pc := 24) 2 (kTab_at (pc := 24) tX11_setBoundary_ok 14 rfl) rfl ?_
      refine K_aload_n (md := mX11_setBoundary) (pc := 25) 0 (kTab_at (pc := 25) tX11_setBoundary_ok 15 rfl) rfl ?_
      refine K_getR (md := mX11_setBoundary) (pc := 26) (b := 249) (kTab_at (pc := 26) tX11_setBoundary_ok 16 rfl) fl_X11_7 sk_248 rfl rfl ?_
      refine K_bipush (md := mX11_setBoundary) (pc := 29) (x := 10) (kTab_at (pc := 29) tX11_setBoundary_ok 17 rfl) (by decide) ?_
      refine K_iload_n (md := mX11_setBoundary) (pc := 31) 1 (kTab_at (pc := 31) tX11_setBoundary_ok 18 rfl) rfl ?_
      refine K_iadd (md := mX11_setBoundary) (pc := 32) (kTab_at (pc := 32) tX11_setBoundary_ok 19 rfl) ?_
      refine K_iconst (md := mX11_setBoundary) (pc := 33) (x := 1) (kTab_at (pc := 33) tX11_setBoundary_ok 20 rfl) rfl ?_
      refine K_isub (md := mX11_setBoundary) (pc := 34) (kTab_at (pc := 34) tX11_setBoundary_ok 21 rfl) ?_
      refine Z_iald (md := mX11_setBoundary) (pc := 35) (kTab_at (pc := 35) tX11_setBoundary_ok 22 rfl) sk_249 (by decide) h (fun x2 h => ?_)
      refine K_icmp_ge (md := mX11_setBoundary) (pc := 36) (kTab_at (pc := 36) tX11_setBoundary_ok 23 rfl) (tgt := 43) rfl h (fun h => ?_) (fun h => ?_)
      · refine K_iconst (md := mX11_setBoundary) (pc := 43) (x := 0) (kTab_at (pc := 43) tX11_setBoundary_ok 26 rfl) rfl ?_
        refine c_X11_setBoundary_44 X p1 p2  0 μ h
      · refine c_X11_setBoundary_39 X p1 p2  μ h
  · refine K_aload_n (md := mX11_setBoundary) (pc := 14) 0 (kTab_at (pc := 14) tX11_setBoundary_ok 8 rfl) rfl ?_
    refine K_iconst (md := mX11_setBoundary) (pc := 15) (x := 1) (kTab_at (pc := 15) tX11_setBoundary_ok 9 rfl) rfl ?_
    refine Z_callV (md := mX11_setBoundary) (pc := 16) (st := []) (sv := (fun x3 => [.int (iI x3)])) (kTab_at (pc := 16) tX11_setBoundary_ok 10 rfl) mv_X11_177 sk_248 rfl (Nat.le_of_ble_eq_true rfl) (by decide) rfl (c_X11_fails X 1 μ) (fun _ => rfl) h (fun μ x3 h => ?_) rfl
    exact Z_iret (md := mX11_setBoundary) (pc := 19) (kTab_at (pc := 19) tX11_setBoundary_ok 11 rfl) rfl rfl rfl h
def f_X11_result_140 (p1 : Int) (p2 : Int)  (s0 : Int) (μ : Mu) : Option Res := some (μ, 0, s0)
set_option maxRecDepth 100000 in
theorem c_X11_result_140 (X : kX) (p1 : Int) (p2 : Int)  {res : Res}  (s0 : Int) (μ : Mu) (h : f_X11_result_140 p1 p2 s0 μ = some res) : KK X mX11_result 7 2 res 140 [] [.long (iL s0)] μ := by
  unfold f_X11_result_140 at h
  exact Z_lret (md := mX11_result) (pc := 140) (kTab_at (pc := 140) tX11_result_ok 60 rfl) rfl rfl h
def f_X11_result_38 (p1 : Int) (p2 : Int)  (s1 : Int) (μ : Mu) : Option Res := wrF μ 248 0 s1 fun μ => rdF μ 248 0 fun x1 => i_lt 0 x1 (some (μ, 0, 0)) (rb (f_X11_marksOf p1 μ) fun μ _ => rb (f_X11_grades p1 μ) fun μ _ => i_sw p2 0 [rdF μ 248 15 fun x2 => some (μ, 0, x2), rdF μ 248 16 fun x3 => some (μ, 0, x3), rdF μ 248 17 fun x4 => i_2l x4 (some (μ, 0, x4)), rdF μ 248 18 fun x5 => i_2l x5 (some (μ, 0, x5)), rdF μ 248 19 fun x6 => i_2l x6 (some (μ, 0, x6))] (rdF μ 248 19 fun x7 => rdF μ 248 18 fun x8 => i_lt x7 x8 (f_X11_result_140 p1 p2 1 μ) (f_X11_result_140 p1 p2 0 μ)))
set_option maxRecDepth 100000 in
theorem c_X11_result_38 (X : kX) (p1 : Int) (p2 : Int)  {res : Res}  (s1 : Int) (μ : Mu) (h : f_X11_result_38 p1 p2 s1 μ = some res) : KK X mX11_result 7 2 res 38 [(0, .ref (X.1 + 248)), (1, .int (iI p1)), (2, .int (iI p2))] [.int (iI s1), .ref (X.1 + 248)] μ := by
  unfold f_X11_result_38 at h
  refine Z_putI (md := mX11_result) (pc := 38) (kTab_at (pc := 38) tX11_result_ok 20 rfl) fl_X11_48 sk_248 rfl h (fun μ h => ?_)
  refine K_aload_n (md := mX11_result) (pc := 41) 0 (kTab_at (pc := 41) tX11_result_ok 21 rfl) rfl ?_
  refine Z_getI (md := mX11_result) (pc := 42) (kTab_at (pc := 42) tX11_result_ok 22 rfl) fl_X11_48 sk_248 (Or.inl rfl) h (fun x1 h => ?_)
  refine K_if_le (md := mX11_result) (pc := 45) (kTab_at (pc := 45) tX11_result_ok 23 rfl) (tgt := 50) rfl h (fun h => ?_) (fun h => ?_)
  · refine K_aload_n (md := mX11_result) (pc := 50) 0 (kTab_at (pc := 50) tX11_result_ok 26 rfl) rfl ?_
    refine K_iload_n (md := mX11_result) (pc := 51) 1 (kTab_at (pc := 51) tX11_result_ok 27 rfl) rfl ?_
    refine Z_callV (md := mX11_result) (pc := 52) (st := []) (sv := (fun _ => [])) (kTab_at (pc := 52) tX11_result_ok 28 rfl) mv_X11_168 sk_248 rfl (Nat.le_of_ble_eq_true rfl) (by decide) rfl (c_X11_marksOf X p1 μ) (fun _ => rfl) h (fun μ _ h => ?_) rfl
    refine K_aload_n (md := mX11_result) (pc := 55) 0 (kTab_at (pc := 55) tX11_result_ok 29 rfl) rfl ?_
    refine K_iload_n (md := mX11_result) (pc := 56) 1 (kTab_at (pc := 56) tX11_result_ok 30 rfl) rfl ?_
    refine Z_callV (md := mX11_result) (pc := 57) (st := []) (sv := (fun _ => [])) (kTab_at (pc := 57) tX11_result_ok 31 rfl) mv_X11_171 sk_248 rfl (Nat.le_of_ble_eq_true rfl) (by decide) rfl (c_X11_grades X p1 μ) (fun _ => rfl) h (fun μ _ h => ?_) rfl
    refine K_iload_n (md := mX11_result) (pc := 60) 2 (kTab_at (pc := 60) tX11_result_ok 32 rfl) rfl ?_
    refine K_tsw (md := mX11_result) (pc := 61) (dt := 124) (kTab_at (pc := 61) tX11_result_ok 33 rfl) rfl rfl h (And.intro (fun h => ⟨96, rfl, ?_⟩) (And.intro (fun h => ⟨101, rfl, ?_⟩) (And.intro (fun h => ⟨106, rfl, ?_⟩) (And.intro (fun h => ⟨112, rfl, ?_⟩) (And.intro (fun h => ⟨118, rfl, ?_⟩) (True.intro)))))) (fun h => ?_)
    · refine K_aload_n (md := mX11_result) (pc := 96) 0 (kTab_at (pc := 96) tX11_result_ok 34 rfl) rfl ?_
      refine Z_getL (md := mX11_result) (pc := 97) (kTab_at (pc := 97) tX11_result_ok 35 rfl) fl_X11_136 sk_248 rfl h (fun x2 h => ?_)
      exact Z_lret (md := mX11_result) (pc := 100) (kTab_at (pc := 100) tX11_result_ok 36 rfl) rfl rfl h
    · refine K_aload_n (md := mX11_result) (pc := 101) 0 (kTab_at (pc := 101) tX11_result_ok 37 rfl) rfl ?_
      refine Z_getL (md := mX11_result) (pc := 102) (kTab_at (pc := 102) tX11_result_ok 38 rfl) fl_X11_140 sk_248 rfl h (fun x3 h => ?_)
      exact Z_lret (md := mX11_result) (pc := 105) (kTab_at (pc := 105) tX11_result_ok 39 rfl) rfl rfl h
    · refine K_aload_n (md := mX11_result) (pc := 106) 0 (kTab_at (pc := 106) tX11_result_ok 40 rfl) rfl ?_
      refine Z_getI (md := mX11_result) (pc := 107) (kTab_at (pc := 107) tX11_result_ok 41 rfl) fl_X11_156 sk_248 (Or.inl rfl) h (fun x4 h => ?_)
      refine K_i2l (md := mX11_result) (pc := 110) (kTab_at (pc := 110) tX11_result_ok 42 rfl) h (fun h => ?_)
      exact Z_lret (md := mX11_result) (pc := 111) (kTab_at (pc := 111) tX11_result_ok 43 rfl) rfl rfl h
    · refine K_aload_n (md := mX11_result) (pc := 112) 0 (kTab_at (pc := 112) tX11_result_ok 44 rfl) rfl ?_
      refine Z_getI (md := mX11_result) (pc := 113) (kTab_at (pc := 113) tX11_result_ok 45 rfl) fl_X11_159 sk_248 (Or.inl rfl) h (fun x5 h => ?_)
      refine K_i2l (md := mX11_result) (pc := 116) (kTab_at (pc := 116) tX11_result_ok 46 rfl) h (fun h => ?_)
      exact Z_lret (md := mX11_result) (pc := 117) (kTab_at (pc := 117) tX11_result_ok 47 rfl) rfl rfl h
    · refine K_aload_n (md := mX11_result) (pc := 118) 0 (kTab_at (pc := 118) tX11_result_ok 48 rfl) rfl ?_
      refine Z_getI (md := mX11_result) (pc := 119) (kTab_at (pc := 119) tX11_result_ok 49 rfl) fl_X11_165 sk_248 (Or.inl rfl) h (fun x6 h => ?_)
      refine K_i2l (md := mX11_result) (pc := 122) (kTab_at (pc := 122) tX11_result_ok 50 rfl) h (fun h => ?_)
      exact Z_lret (md := mX11_result) (pc := 123) (kTab_at (pc := 123) tX11_result_ok 51 rfl) rfl rfl h
    · refine K_aload_n (md := mX11_result) (pc := 124) 0 (kTab_at (pc := 124) tX11_result_ok 52 rfl) rfl ?_
      refine Z_getI (md := mX11_result) (pc := 125) (kTab_at (pc := 125) tX11_result_ok 53 rfl) fl_X11_165 sk_248 (Or.inl rfl) h (fun x7 h => ?_)
      refine K_aload_n (md := mX11_result) (pc := 128) 0 (kTab_at (pc := 128) tX11_result_ok 54 rfl) rfl ?_
      refine Z_getI (md := mX11_result) (pc := 129) (kTab_at (pc := 129) tX11_result_ok 55 rfl) fl_X11_159 sk_248 (Or.inl rfl) h (fun x8 h => ?_)
      refine K_icmp_ge (md := mX11_result) (pc := 132) (kTab_at (pc := 132) tX11_result_ok 56 rfl) (tgt := 139) rfl h (fun h => ?_) (fun h => ?_)
      · refine K_lconst (md := mX11_result) (pc := 139) (x := 0) (kTab_at (pc := 139) tX11_result_ok 59 rfl) rfl ?_
        refine K_sub [] rfl ?_
        refine c_X11_result_140 X p1 p2  0 μ h
      · refine K_lconst (md := mX11_result) (pc := 135) (x := 1) (kTab_at (pc := 135) tX11_result_ok 57 rfl) rfl ?_
        refine K_goto (md := mX11_result) (pc := 136) (tgt := 140) (kTab_at (pc := 136) tX11_result_ok 58 rfl) rfl ?_
        refine K_sub [] rfl ?_
        refine c_X11_result_140 X p1 p2  1 μ h
  · refine K_lconst (md := mX11_result) (pc := 48) (x := 0) (kTab_at (pc := 48) tX11_result_ok 24 rfl) rfl ?_
    exact Z_lret (md := mX11_result) (pc := 49) (kTab_at (pc := 49) tX11_result_ok 25 rfl) rfl rfl h
def f_X11_result (p1 : Int) (p2 : Int) (μ : Mu) : Option Res := rb (f_X11_isCandidate p1 μ) fun μ x1 => i_eq x1 0 (f_X11_result_38 p1 p2 1 μ) (rb (f_X11_in p2 0 5 μ) fun μ x2 => i_eq x2 0 (f_X11_result_38 p1 p2 2 μ) (rb (f_X11_hasGrade p1 μ) fun μ x3 => i_eq x3 0 (f_X11_result_38 p1 p2 3 μ) (f_X11_result_38 p1 p2 0 μ)))
set_option maxRecDepth 100000 in
theorem c_X11_result (X : kX) (p1 : Int) (p2 : Int)  (μ : Mu) : Cq X mX11_result 7 2 μ [.ref (X.1 + 248), .int (iI p1), .int (iI p2)] (f_X11_result p1 p2 μ) := by
  intro res h
  refine ct_of (by decide +kernel) rfl (Nat.le_of_ble_eq_true rfl) ?_
  show KK X mX11_result 7 2 res 0 [(0, .ref (X.1 + 248)), (1, .int (iI p1)), (2, .int (iI p2))] [] μ
  unfold f_X11_result at h
  refine K_aload_n (md := mX11_result) (pc := 0) 0 (kTab_at (pc := 0) tX11_result_ok 0 rfl) rfl ?_
  refine K_iload_n (md := mX11_result) (pc := 1) 1 (kTab_at (pc := 1) tX11_result_ok 1 rfl) rfl ?_
  refine Z_callS (md := mX11_result) (pc := 2) (st := [.ref (X.1 + 248)]) (sv := (fun x1 => [.int (iI x1), .ref (X.1 + 248)])) (kTab_at (pc := 2) tX11_result_ok 2 rfl) ms_X11_214 rfl (Nat.le_of_ble_eq_true rfl) (by decide) rfl (c_X11_isCandidate X p1 μ) (fun _ => rfl) h (fun μ x1 h => ?_) rfl
  refine K_if_ne (md := mX11_result) (pc := 5) (kTab_at (pc := 5) tX11_result_ok 3 rfl) (tgt := 12) rfl h (fun h => ?_) (fun h => ?_)
  · refine K_iload_n (md := mX11_result) (pc := 12) 2 (kTab_at (pc := 12) tX11_result_ok 6 rfl) rfl ?_
    refine K_iconst (md := mX11_result) (pc := 13) (x := 0) (kTab_at (pc := 13) tX11_result_ok 7 rfl) rfl ?_
    refine K_iconst (md := mX11_result) (pc := 14) (x := 5) (kTab_at (pc := 14) tX11_result_ok 8 rfl) rfl ?_
    refine Z_callS (md := mX11_result) (pc := 15) (st := [.ref (X.1 + 248)]) (sv := (fun x2 => [.int (iI x2), .ref (X.1 + 248)])) (kTab_at (pc := 15) tX11_result_ok 9 rfl) ms_X11_51 rfl (Nat.le_of_ble_eq_true rfl) (by decide) rfl (c_X11_in X p2 0 5 μ) (fun _ => rfl) h (fun μ x2 h => ?_) rfl
    refine K_if_ne (md := mX11_result) (pc := 18) (kTab_at (pc := 18) tX11_result_ok 10 rfl) (tgt := 25) rfl h (fun h => ?_) (fun h => ?_)
    · refine K_aload_n (md := mX11_result) (pc := 25) 0 (kTab_at (pc := 25) tX11_result_ok 13 rfl) rfl ?_
      refine K_iload_n (md := mX11_result) (pc := 26) 1 (kTab_at (pc := 26) tX11_result_ok 14 rfl) rfl ?_
      refine Z_callV (md := mX11_result) (pc := 27) (st := [.ref (X.1 + 248)]) (sv := (fun x3 => [.int (iI x3), .ref (X.1 + 248)])) (kTab_at (pc := 27) tX11_result_ok 15 rfl) mv_X11_115 sk_248 rfl (Nat.le_of_ble_eq_true rfl) (by decide) rfl (c_X11_hasGrade X p1 μ) (fun _ => rfl) h (fun μ x3 h => ?_) rfl
      refine K_if_ne (md := mX11_result) (pc := 30) (kTab_at (pc := 30) tX11_result_ok 16 rfl) (tgt := 37) rfl h (fun h => ?_) (fun h => ?_)
      · refine K_iconst (md := mX11_result) (pc := 37) (x := 0) (kTab_at (pc := 37) tX11_result_ok 19 rfl) rfl ?_
        refine c_X11_result_38 X p1 p2  0 μ h
      · refine K_iconst (md := mX11_result) (pc := 33) (x := 3) (kTab_at (pc := 33) tX11_result_ok 17 rfl) rfl ?_
        refine K_goto (md := mX11_result) (pc := 34) (tgt := 38) (kTab_at (pc := 34) tX11_result_ok 18 rfl) rfl ?_
        refine c_X11_result_38 X p1 p2  3 μ h
    · refine K_iconst (md := mX11_result) (pc := 21) (x := 2) (kTab_at (pc := 21) tX11_result_ok 11 rfl) rfl ?_
      refine K_goto (md := mX11_result) (pc := 22) (tgt := 38) (kTab_at (pc := 22) tX11_result_ok 12 rfl) rfl ?_
      refine c_X11_result_38 X p1 p2  2 μ h
  · refine K_iconst (md := mX11_result) (pc := 8) (x := 1) (kTab_at (pc := 8) tX11_result_ok 4 rfl) rfl ?_
    refine K_goto (md := mX11_result) (pc := 9) (tgt := 38) (kTab_at (pc := 9) tX11_result_ok 5 rfl) rfl ?_
    refine c_X11_result_38 X p1 p2  1 μ h

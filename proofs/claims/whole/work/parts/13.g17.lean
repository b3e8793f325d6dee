def f_X11_undo_30  (k64 : Mu → Option Res) : Nat → Int → Mu → Option Res
  | 0, _, _ => none
  | fu + 1, v1, μ => i_lt v1 779 (rdF μ 248 5 fun x1 => rdI μ 252 4674 ((779 * x1) + v1) fun x2 => wrI μ 249 779 v1 x2 fun μ => (f_X11_undo_30 k64 fu) (v1 + 1) μ) (k64 μ)
set_option maxRecDepth 100000 in
theorem c_X11_undo_30 (X : kX)   {res : Res} (k64 : Mu → Option Res) (hk64 : ∀ (μ : Mu), k64 μ = some res → KK X mX11_undo 1 1 res 64 [(0, .ref (X.1 + 248))] [] μ) : ∀ (fu : Nat)  (v1 : Int) (μ : Mu), f_X11_undo_30 k64 fu v1 μ = some res → KK X mX11_undo 1 1 res 30 [(0, .ref (X.1 + 248)), (1, .int (iI v1))] [] μ := by
  intro fu
  induction fu with
  | zero => intro v1 μ h; exact nomatch h
  | succ fu ih =>
    intro v1 μ h
    refine K_iload_n (md := mX11_undo) (pc := 30) 1 (kTab_at (pc := 30) tX11_undo_ok 18 rfl) rfl ?_
    refine K_sipush (md := mX11_undo) (pc := 31) (x := 779) (kTab_at (pc := 31) tX11_undo_ok 19 rfl) (by decide) ?_
    refine K_icmp_ge (md := mX11_undo) (pc := 34) (kTab_at (pc := 34) tX11_undo_ok 20 rfl) (tgt := 64) rfl h (fun h => ?_) (fun h => ?_)
    · refine K_sub [0] rfl ?_
      exact hk64 μ h
    · refine K_aload_n (md := mX11_undo) (pc := 37) 0 (kTab_at (pc := 37) tX11_undo_ok 21 rfl) rfl ?_
      refine K_getR (md := mX11_undo) (pc := 38) (b := 249) (kTab_at (pc := 38) tX11_undo_ok 22 rfl) fl_X11_7 sk_248 rfl rfl ?_
      refine K_iload_n (md := mX11_undo) (pc := 41) 1 (kTab_at (pc := 41) tX11_undo_ok 23 rfl) rfl ?_
      refine K_aload_n (md := mX11_undo) (pc := 42) 0 (kTab_at (pc := 42) tX11_undo_ok 24 rfl) rfl ?_
      refine K_getR (md := mX11_undo) (pc := 43) (b := 252) (kTab_at (pc := 43) tX11_undo_ok 25 rfl) fl_X11_19 sk_248 rfl rfl ?_
      refine K_sipush (md := mX11_undo) (pc := 46) (x := 779) (kTab_at (pc := 46) tX11_undo_ok 26 rfl) (by decide) ?_
      refine K_aload_n (md := mX11_undo) (pc := 49) 0 (kTab_at (pc := 49) tX11_undo_ok 27 rfl) rfl ?_
      refine Z_getI (md := mX11_undo) (pc := 50) (kTab_at (pc := 50) tX11_undo_ok 28 rfl) fl_X11_55 sk_248 (Or.inl rfl) h (fun x1 h => ?_)
      refine K_imul (md := mX11_undo) (pc := 53) (kTab_at (pc := 53) tX11_undo_ok 29 rfl) ?_
      refine K_iload_n (md := mX11_undo) (pc := 54) 1 (kTab_at (pc := 54) tX11_undo_ok 30 rfl) rfl ?_
      refine K_iadd (md := mX11_undo) (pc := 55) (kTab_at (pc := 55) tX11_undo_ok 31 rfl) ?_
      refine Z_iald (md := mX11_undo) (pc := 56) (kTab_at (pc := 56) tX11_undo_ok 32 rfl) sk_252 (by decide) h (fun x2 h => ?_)
      refine Z_iast (md := mX11_undo) (pc := 57) (kTab_at (pc := 57) tX11_undo_ok 33 rfl) sk_249 (by decide) h (fun μ h => ?_)
      refine K_iinc (md := mX11_undo) (pc := 58) (l' := [(1, .int (iI (v1 + 1))), (0, .ref (X.1 + 248))]) 1 (kTab_at (pc := 58) tX11_undo_ok 34 rfl) rfl (Nat.le_of_ble_eq_true rfl) rfl ?_
      refine K_goto (md := mX11_undo) (pc := 61) (tgt := 30) (kTab_at (pc := 61) tX11_undo_ok 35 rfl) rfl ?_
      refine K_sub [1, 0] rfl ?_
      exact ih (v1 + 1) μ h
def f_X11_undo  (μ : Mu) : Option Res := wrF μ 248 0 0 fun μ => rdF μ 248 5 fun x1 => i_eq x1 0 (rb (f_X11_fails 1 μ) fun μ x4 => some (μ, 0, x4)) (rdF μ 248 5 fun x2 => wrF μ 248 5 (x2 - 1) fun μ => f_X11_undo_30 (fun μ => rdF μ 248 5 fun x3 => some (μ, 0, x3)) FU 0 μ)
set_option maxRecDepth 100000 in
theorem c_X11_undo (X : kX)   (μ : Mu) : Cq X mX11_undo 1 1 μ [.ref (X.1 + 248)] (f_X11_undo  μ) := by
  intro res h
  refine ct_of (by decide +kernel) rfl (Nat.le_of_ble_eq_true rfl) ?_
  show KK X mX11_undo 1 1 res 0 [(0, .ref (X.1 + 248))] [] μ
  unfold f_X11_undo at h
  refine K_aload_n (md := mX11_undo) (pc := 0) 0 (kTab_at (pc := 0) tX11_undo_ok 0 rfl) rfl ?_
  refine K_iconst (md := mX11_undo) (pc := 1) (x := 0) (kTab_at (pc := 1) tX11_undo_ok 1 rfl) rfl ?_
  refine Z_putI (md := mX11_undo) (pc := 2) (kTab_at (pc := 2) tX11_undo_ok 2 rfl) fl_X11_48 sk_248 rfl h (fun μ h => ?_)
  refine K_aload_n (md := mX11_undo) (pc := 5) 0 (kTab_at (pc := 5) tX11_undo_ok 3 rfl) rfl ?_
  refine Z_getI (md := mX11_undo) (pc := 6) (kTab_at (pc := 6) tX11_undo_ok 4 rfl) fl_X11_55 sk_248 (Or.inl rfl) h (fun x1 h => ?_)
  refine K_if_ne (md := mX11_undo) (pc := 9) (kTab_at (pc := 9) tX11_undo_ok 5 rfl) (tgt := 18) rfl h (fun h => ?_) (fun h => ?_)
  · refine K_aload_n (md := mX11_undo) (pc := 18) 0 (kTab_at (pc := 18) tX11_undo_ok 10 rfl) rfl ?_
    refine K_dup (md := mX11_undo) (pc := 19) (kTab_at (pc := 19) tX11_undo_ok 11 rfl) rfl ?_
    refine Z_getI (md := mX11_undo) (pc := 20) (kTab_at (pc := 20) tX11_undo_ok 12 rfl) fl_X11_55 sk_248 (Or.inl rfl) h (fun x2 h => ?_)
    refine K_iconst (md := mX11_undo) (pc := 23) (x := 1) (kTab_at (pc := 23) tX11_undo_ok 13 rfl) rfl ?_
    refine K_isub (md := mX11_undo) (pc := 24) (kTab_at (pc := 24) tX11_undo_ok 14 rfl) ?_
    refine Z_putI (md := mX11_undo) (pc := 25) (kTab_at (pc := 25) tX11_undo_ok 15 rfl) fl_X11_55 sk_248 rfl h (fun μ h => ?_)
    refine K_iconst (md := mX11_undo) (pc := 28) (x := 0) (kTab_at (pc := 28) tX11_undo_ok 16 rfl) rfl ?_
    refine K_istore_n (md := mX11_undo) (pc := 29) (l' := [(1, .int (iI 0)), (0, .ref (X.1 + 248))]) (kTab_at (pc := 29) tX11_undo_ok 17 rfl) (Nat.le_of_ble_eq_true rfl) rfl ?_
    refine K_sub [1, 0] rfl ?_
    refine c_X11_undo_30 X  _ ?_ _ 0 μ h
    · intro  μ h
      refine K_aload_n (md := mX11_undo) (pc := 64) 0 (kTab_at (pc := 64) tX11_undo_ok 36 rfl) rfl ?_
      refine Z_getI (md := mX11_undo) (pc := 65) (kTab_at (pc := 65) tX11_undo_ok 37 rfl) fl_X11_55 sk_248 (Or.inl rfl) h (fun x3 h => ?_)
      exact Z_iret (md := mX11_undo) (pc := 68) (kTab_at (pc := 68) tX11_undo_ok 38 rfl) rfl rfl rfl h
  · refine K_aload_n (md := mX11_undo) (pc := 12) 0 (kTab_at (pc := 12) tX11_undo_ok 6 rfl) rfl ?_
    refine K_iconst (md := mX11_undo) (pc := 13) (x := 1) (kTab_at (pc := 13) tX11_undo_ok 7 rfl) rfl ?_
    refine Z_callV (md := mX11_undo) (pc := 14) (st := []) (sv := (fun x4 => [.int (iI x4)])) (kTab_at (pc := 14) tX11_undo_ok 8 rfl) mv_X11_177 sk_248 rfl (Nat.le_of_ble_eq_true rfl) (by decide) rfl (c_X11_fails X 1 μ) (fun _ => rfl) h (fun μ x4 h => ?_) rfl
    exact Z_iret (md := mX11_undo) (pc := 17) (kTab_at (pc := 17) tX11_undo_ok 9 rfl) rfl rfl rfl h
def f_X11_save_7  (k32 : Mu → Option Res) : Nat → Int → Mu → Option Res
  | 0, _, _ => none
  | fu + 1, v1, μ => i_lt v1 779 (rdI μ 249 779 v1 fun x1 => wrI μ 250 779 v1 x1 fun μ => (f_X11_save_7 k32 fu) (v1 + 1) μ) (k32 μ)
set_option maxRecDepth 100000 in
theorem c_X11_save_7 (X : kX)   {res : Res} (k32 : Mu → Option Res) (hk32 : ∀ (μ : Mu), k32 μ = some res → KK X mX11_save 0 1 res 32 [(0, .ref (X.1 + 248))] [] μ) : ∀ (fu : Nat)  (v1 : Int) (μ : Mu), f_X11_save_7 k32 fu v1 μ = some res → KK X mX11_save 0 1 res 7 [(0, .ref (X.1 + 248)), (1, .int (iI v1))] [] μ := by
  intro fu
  induction fu with
  | zero => intro v1 μ h; exact nomatch h
  | succ fu ih =>
    intro v1 μ h
    refine K_iload_n (md := mX11_save) (pc := 7) 1 (kTab_at (pc := 7) tX11_save_ok 5 rfl) rfl ?_
    refine K_sipush (md := mX11_save) (pc := 8) (x := 779) (kTab_at (pc := 8) tX11_save_ok 6 rfl) (by decide) ?_
    refine K_icmp_ge (md := mX11_save) (pc := 11) (kTab_at (pc := 11) tX11_save_ok 7 rfl) (tgt := 32) rfl h (fun h => ?_) (fun h => ?_)
    · refine K_sub [0] rfl ?_
      exact hk32 μ h
    · refine K_aload_n (md := mX11_save) (pc := 14) 0 (kTab_at (pc := 14) tX11_save_ok 8 rfl) rfl ?_
      refine K_getR (md := mX11_save) (pc := 15) (b := 250) (kTab_at (pc := 15) tX11_save_ok 9 rfl) fl_X11_13 sk_248 rfl rfl ?_
      refine K_iload_n (md := mX11_save) (pc := 18) 1 (kTab_at (pc := 18) tX11_save_ok 10 rfl) rfl ?_
      refine K_aload_n (md := mX11_save) (pc := 19) 0 (kTab_at (pc := 19) tX11_save_ok 11 rfl) rfl ?_
      refine K_getR (md := mX11_save) (pc := 20) (b := 249) (kTab_at (pc := 20) tX11_save_ok 12 rfl) fl_X11_7 sk_248 rfl rfl ?_
      refine K_iload_n (md := mX11_save) (pc := 23) 1 (kTab_at (pc := 23) tX11_save_ok 13 rfl) rfl ?_
      refine Z_iald (md := mX11_save) (pc := 24) (kTab_at (pc := 24) tX11_save_ok 14 rfl) sk_249 (by decide) h (fun x1 h => ?_)
      refine Z_iast (md := mX11_save) (pc := 25) (kTab_at (pc := 25) tX11_save_ok 15 rfl) sk_250 (by decide) h (fun μ h => ?_)
      refine K_iinc (md := mX11_save) (pc := 26) (l' := [(1, .int (iI (v1 + 1))), (0, .ref (X.1 + 248))]) 1 (kTab_at (pc := 26) tX11_save_ok 16 rfl) rfl (Nat.le_of_ble_eq_true rfl) rfl ?_
      refine K_goto (md := mX11_save) (pc := 29) (tgt := 7) (kTab_at (pc := 29) tX11_save_ok 17 rfl) rfl ?_
      refine K_sub [1, 0] rfl ?_
      exact ih (v1 + 1) μ h
def f_X11_save  (μ : Mu) : Option Res := wrF μ 248 0 0 fun μ => f_X11_save_7 (fun μ => wrZ μ 248 6 1 fun μ => rdI μ 249 779 144 fun x1 => some (μ, 0, x1)) FU 0 μ
set_option maxRecDepth 100000 in
theorem c_X11_save (X : kX)   (μ : Mu) : Cq X mX11_save 0 1 μ [.ref (X.1 + 248)] (f_X11_save  μ) := by
  intro res h
  refine ct_of (by decide +kernel) rfl (Nat.le_of_ble_eq_true rfl) ?_
  show KK X mX11_save 0 1 res 0 [(0, .ref (X.1 + 248))] [] μ
  unfold f_X11_save at h
  refine K_aload_n (md := mX11_save) (pc := 0) 0 (kTab_at (pc := 0) tX11_save_ok 0 rfl) rfl ?_
  refine K_iconst (md := mX11_save) (pc := 1) (x := 0) (kTab_at (pc := 1) tX11_save_ok 1 rfl) rfl ?_
  refine Z_putI (md := mX11_save) (pc := 2) (kTab_at (pc := 2) tX11_save_ok 2 rfl) fl_X11_48 sk_248 rfl h (fun μ h => ?_)
  refine K_iconst (md := mX11_save) (pc := 5) (x := 0) (kTab_at (pc := 5) tX11_save_ok 3 rfl) rfl ?_
  refine K_istore_n (md := mX11_save) (pc := 6) (l' := [(1, .int (iI 0)), (0, .ref (X.1 + 248))]) (kTab_at (pc := 6) tX11_save_ok 4 rfl) (Nat.le_of_ble_eq_true rfl) rfl ?_
  refine K_sub [1, 0] rfl ?_
  refine c_X11_save_7 X  _ ?_ _ 0 μ h
  · intro  μ h
    refine K_aload_n (md := mX11_save) (pc := 32) 0 (kTab_at (pc := 32) tX11_save_ok 18 rfl) rfl ?_
    refine K_iconst (md := mX11_save) (pc := 33) (x := 1) (kTab_at (pc := 33) tX11_save_ok 19 rfl) rfl ?_
    refine Z_putZ (md := mX11_save) (pc := 34) (kTab_at (pc := 34) tX11_save_ok 20 rfl) fl_X11_316 sk_248 rfl h (fun μ h => ?_)
    refine K_aload_n (md := mX11_save) (pc := 37) 0 (kTab_at (pc := 37) tX11_save_ok 21 rfl) rfl ?_
    refine K_getR (md := mX11_save) (pc := 38) (b := 249) (kTab_at (pc := 38) tX11_save_ok 22 rfl) fl_X11_7 sk_248 rfl rfl ?_
    refine K_sipush (md := mX11_save) (pc := 41) (x := 144) (kTab_at (pc := 41) tX11_save_ok 23 rfl) (by decide) ?_
    refine Z_iald (md := mX11_save) (pc := 44) (kTab_at (pc := 44) tX11_save_ok 24 rfl) sk_249 (by decide) h (fun x1 h => ?_)
    exact Z_iret (md := mX11_save) (pc := 45) (kTab_at (pc := 45) tX11_save_ok 25 rfl) rfl rfl rfl h
def f_X11_restore_24  (k49 : Mu → Option Res) : Nat → Int → Mu → Option Res
  | 0, _, _ => none
  | fu + 1, v1, μ => i_lt v1 779 (rdI μ 250 779 v1 fun x1 => wrI μ 249 779 v1 x1 fun μ => (f_X11_restore_24 k49 fu) (v1 + 1) μ) (k49 μ)
set_option maxRecDepth 100000 in
theorem c_X11_restore_24 (X : kX)   {res : Res} (k49 : Mu → Option Res) (hk49 : ∀ (μ : Mu), k49 μ = some res → KK X mX11_restore 2 1 res 49 [(0, .ref (X.1 + 248))] [] μ) : ∀ (fu : Nat)  (v1 : Int) (μ : Mu), f_X11_restore_24 k49 fu v1 μ = some res → KK X mX11_restore 2 1 res 24 [(0, .ref (X.1 + 248)), (1, .int (iI v1))] [] μ := by
  intro fu
  induction fu with
  | zero => intro v1 μ h; exact nomatch h
  | succ fu ih =>
    intro v1 μ h
    refine K_iload_n (md := mX11_restore) (pc := 24) 1 (kTab_at (pc := 24) tX11_restore_ok 14 rfl) rfl ?_
    refine K_sipush (md := mX11_restore) (pc := 25) (x := 779) (kTab_at (pc := 25) tX11_restore_ok 15 rfl) (by decide) ?_
    refine K_icmp_ge (md := mX11_restore) (pc := 28) (kTab_at (pc := 28) tX11_restore_ok 16 rfl) (tgt := 49) rfl h (fun h => ?_) (fun h => ?_)
    · refine K_sub [0] rfl ?_
      exact hk49 μ h
    · refine K_aload_n (md := mX11_restore) (pc := 31) 0 (kTab_at (pc := 31) tX11_restore_ok 17 rfl) rfl ?_
      refine K_getR (md := mX11_restore) (pc := 32) (b := 249) (kTab_at (pc := 32) tX11_restore_ok 18 rfl) fl_X11_7 sk_248 rfl rfl ?_
      refine K_iload_n (md := mX11_restore) (pc := 35) 1 (kTab_at (pc := 35) tX11_restore_ok 19 rfl) rfl ?_
      refine K_aload_n (md := mX11_restore) (pc := 36) 0 (kTab_at (pc := 36) tX11_restore_ok 20 rfl) rfl ?_
      refine K_getR (md := mX11_restore) (pc := 37) (b := 250) (kTab_at (pc := 37) tX11_restore_ok 21 rfl) fl_X11_13 sk_248 rfl rfl ?_
      refine K_iload_n (md := mX11_restore) (pc := 40) 1 (kTab_at (pc := 40) tX11_restore_ok 22 rfl) rfl ?_
      refine Z_iald (md := mX11_restore) (pc := 41) (kTab_at (pc := 41) tX11_restore_ok 23 rfl) sk_250 (by decide) h (fun x1 h => ?_)
      refine Z_iast (md := mX11_restore) (pc := 42) (kTab_at (pc := 42) tX11_restore_ok 24 rfl) sk_249 (by decide) h (fun μ h => ?_)
      refine K_iinc (md := mX11_restore) (pc := 43) (l' := [(1, .int (iI (v1 + 1))), (0, .ref (X.1 + 248))]) 1 (kTab_at (pc := 43) tX11_restore_ok 25 rfl) rfl (Nat.le_of_ble_eq_true rfl) rfl ?_
      refine K_goto (md := mX11_restore) (pc := 46) (tgt := 24) (kTab_at (pc := 46) tX11_restore_ok 26 rfl) rfl ?_
      refine K_sub [1, 0] rfl ?_
      exact ih (v1 + 1) μ h
def f_X11_restore  (μ : Mu) : Option Res := wrF μ 248 0 0 fun μ => rdF μ 248 6 fun x1 => i_eq x1 0 (rb (f_X11_fails 1 μ) fun μ x3 => some (μ, 0, x3)) (rb (f_X11_changes μ) fun μ _ => f_X11_restore_24 (fun μ => rdI μ 249 779 144 fun x2 => some (μ, 0, x2)) FU 0 μ)
set_option maxRecDepth 100000 in
theorem c_X11_restore (X : kX)   (μ : Mu) : Cq X mX11_restore 2 1 μ [.ref (X.1 + 248)] (f_X11_restore  μ) := by
  intro res h
  refine ct_of (by decide +kernel) rfl (Nat.le_of_ble_eq_true rfl) ?_
  show KK X mX11_restore 2 1 res 0 [(0, .ref (X.1 + 248))] [] μ
  unfold f_X11_restore at h
  refine K_aload_n (md := mX11_restore) (pc := 0) 0 (kTab_at (pc := 0) tX11_restore_ok 0 rfl) rfl ?_
  refine K_iconst (md := mX11_restore) (pc := 1) (x := 0) (kTab_at (pc := 1) tX11_restore_ok 1 rfl) rfl ?_
  refine Z_putI (md := mX11_restore) (pc := 2) (kTab_at (pc := 2) tX11_restore_ok 2 rfl) fl_X11_48 sk_248 rfl h (fun μ h => ?_)
  refine K_aload_n (md := mX11_restore) (pc := 5) 0 (kTab_at (pc := 5) tX11_restore_ok 3 rfl) rfl ?_
  refine Z_getI (md := mX11_restore) (pc := 6) (kTab_at (pc := 6) tX11_restore_ok 4 rfl) fl_X11_316 sk_248 (Or.inr rfl) h (fun x1 h => ?_)
  refine K_if_ne (md := mX11_restore) (pc := 9) (kTab_at (pc := 9) tX11_restore_ok 5 rfl) (tgt := 18) rfl h (fun h => ?_) (fun h => ?_)
  · refine K_aload_n (md := mX11_restore) (pc := 18) 0 (kTab_at (pc := 18) tX11_restore_ok 10 rfl) rfl ?_
    refine Z_callV (md := mX11_restore) (pc := 19) (st := []) (sv := (fun _ => [])) (kTab_at (pc := 19) tX11_restore_ok 11 rfl) mv_X11_190 sk_248 rfl (Nat.le_of_ble_eq_true rfl) (by decide) rfl (c_X11_changes X μ) (fun _ => rfl) h (fun μ _ h => ?_) rfl
    refine K_iconst (md := mX11_restore) (pc := 22) (x := 0) (kTab_at (pc := 22) tX11_restore_ok 12 rfl) rfl ?_
    refine K_istore_n (md := mX11_restore) (pc := 23) (l' := [(1, .int (iI 0)), (0, .ref (X.1 + 248))]) (kTab_at (pc := 23) tX11_restore_ok 13 rfl) (Nat.le_of_ble_eq_true rfl) rfl ?_
    refine K_sub [1, 0] rfl ?_
    refine c_X11_restore_24 X  _ ?_ _ 0 μ h
    · intro  μ h
      refine K_aload_n (md := mX11_restore) (pc := 49) 0 (kTab_at (pc := 49) tX11_restore_ok 27 rfl) rfl ?_
      refine K_getR (md := mX11_restore) (pc := 50) (b := 249) (kTab_at (pc := 50) tX11_restore_ok 28 rfl) fl_X11_7 sk_248 rfl rfl ?_
      refine K_sipush (md := mX11_restore) (pc := 53) (x := 144) (kTab_at (pc := 53) tX11_restore_ok 29 rfl) (by decide) ?_
      refine Z_iald (md := mX11_restore) (pc := 56) (kTab_at (pc := 56) tX11_restore_ok 30 rfl) sk_249 (by decide) h (fun x2 h => ?_)
      exact Z_iret (md := mX11_restore) (pc := 57) (kTab_at (pc := 57) tX11_restore_ok 31 rfl) rfl rfl rfl h
  · refine K_aload_n (md := mX11_restore) (pc := 12) 0 (kTab_at (pc := 12) tX11_restore_ok 6 rfl) rfl ?_
    refine K_iconst (md := mX11_restore) (pc := 13) (x := 1) (kTab_at (pc := 13) tX11_restore_ok 7 rfl) rfl ?_
    refine Z_callV (md := mX11_restore) (pc := 14) (st := []) (sv := (fun x3 => [.int (iI x3)])) (kTab_at (pc := 14) tX11_restore_ok 8 rfl) mv_X11_177 sk_248 rfl (Nat.le_of_ble_eq_true rfl) (by decide) rfl (c_X11_fails X 1 μ) (fun _ => rfl) h (fun μ x3 h => ?_) rfl
    exact Z_iret (md := mX11_restore) (pc := 17) (kTab_at (pc := 17) tX11_restore_ok 9 rfl) rfl rfl rfl h

/-! the constructors: b -/
def kN_X11 (b : Nat) : List Kd := [.inr (11, (rfu (rfu (rfu (rfu (rfu (rfu (rfu (rfu (rfu (rfu (rfu (fun _ => none) 1 (b + 1)) 2 (b + 2)) 3 (b + 3)) 4 (b + 4)) 7 (b + 5)) 10 (b + 6)) 12 (b + 7)) 14 (b + 8)) 25 (b + 9)) 26 (b + 10)) 27 (b + 11))), .inl (0, 779, fun _ => none), .inl (0, 779, fun _ => none), .inl (0, 779, fun _ => none), .inl (0, 4674, fun _ => none), .inl (0, 60, fun _ => none), .inl (0, 4, fun _ => none), .inl (0, 3, fun _ => none), .inl (0, 5, fun _ => none), .inl (0, 8, fun _ => none), .inl (2, 8, fun _ => none), .inl (2, 8, fun _ => none)]
def n_X11 : Mu := (up2 (up2 (up2 (up2 (up2 (up2 (up2 (up2 (up2 (up2 (up2 (up2 (up2 (up2 (up2 (fun _ _ => 0) 0 9 (-1)) 1 0 20) 1 1 20) 1 2 20) 1 3 20) 1 4 20) 1 5 1) 1 6 6) 1 7 3) 1 8 2) 1 9 30) 1 10 70) 1 11 60) 1 12 50) 1 13 40)
theorem zn_X11 : zb n_X11 12 := (zb_up (zb_up (zb_up (zb_up (zb_up (zb_up (zb_up (zb_up (zb_up (zb_up (zb_up (zb_up (zb_up (zb_up (zb_up (zb_0 _) (Nat.le_of_ble_eq_true rfl)) (Nat.le_of_ble_eq_true rfl)) (Nat.le_of_ble_eq_true rfl)) (Nat.le_of_ble_eq_true rfl)) (Nat.le_of_ble_eq_true rfl)) (Nat.le_of_ble_eq_true rfl)) (Nat.le_of_ble_eq_true rfl)) (Nat.le_of_ble_eq_true rfl)) (Nat.le_of_ble_eq_true rfl)) (Nat.le_of_ble_eq_true rfl)) (Nat.le_of_ble_eq_true rfl)) (Nat.le_of_ble_eq_true rfl)) (Nat.le_of_ble_eq_true rfl)) (Nat.le_of_ble_eq_true rfl)) (Nat.le_of_ble_eq_true rfl))
theorem hdc_X11 (k : Nat) (hk : k < 28) : ∀ (Cn : String) (Tn : u_T) (N : Nat), kCl[11]? = some (Cn, Tn, N) → (Tn k).1 = mX11_init.1.cls := by
  intro Cn Tn N h
  cases h
  revert k
  decide
set_option maxRecDepth 100000 in
theorem ct_X11 (X : kX) {pre : List Kd} {μ : Mu} {b : Nat} (hb : pre.length = b) (hz : zb μ b) : Ct X mX11_init 1 (pre ++ [.inr (11, fun _ => none)]) true μ 11 7107 [.ref (X.1 + b)] (poN (pre ++ kN_X11 b) (putM μ b n_X11)) := by
  refine ct_of (by decide +kernel) rfl (Nat.le_of_ble_eq_true rfl) ?_
  rw [← putM_self hz]
  rw [show putM (putM μ b fun _ _ => 0) b n_X11 = putM μ b n_X11 by rw [putM_self hz]]
  show KJ X mX11_init 1 true _ (pre ++ [.inr (11, fun _ => none)]) 11 7107 0 [(0, .ref (X.1 + (b + 0)))] [] (putM μ b (fun _ _ => 0))
  refine K_aload_n (md := mX11_init) (pc := 0) 0 (kTab_at (pc := 0) tX11_init_ok 0 rfl) rfl ?_
  refine K_objInit (md := mX11_init) (pc := 1) (b := b + 0) (kTab_at (pc := 1) tX11_init_ok 1 rfl) (inT6 20 (by decide +kernel) rfl) (inT1 38 (by decide +kernel) rfl) (inT1 39 (by decide +kernel) rfl) (Nat.le_of_ble_eq_true rfl) ?_
  refine K_aload_n (md := mX11_init) (pc := 4) 0 (kTab_at (pc := 4) tX11_init_ok 2 rfl) rfl ?_
  refine K_sipush (md := mX11_init) (pc := 5) (x := 779) (kTab_at (pc := 5) tX11_init_ok 3 rfl) rfl ?_
  refine C_newarr (md := mX11_init) (pc := 8) (c := (fun _ _ => 0)) (suf' := ([.inr (11, (fun _ => none)), .inl (0, 779, fun _ => none)])) (t := 0) (n := 779) (j := 1) (ty := .int) (kTab_at (pc := 8) tX11_init_ok 4 rfl) (inT1 66 (by decide +kernel) rfl) rfl (by decide) (Nat.le_of_ble_eq_true rfl) hb rfl (zb_0 _) rfl ?_
  refine C_putR (md := mX11_init) (pc := 10) (suf' := ([.inr (11, (rfu (fun _ => none) 1 (b + 1))), .inl (0, 779, fun _ => none)])) (rf := (fun _ => none)) (ci := 11) (k := 1) (i := 0) (r := b + 1) (kTab_at (pc := 10) tX11_init_ok 5 rfl) fl_X11_7 rfl (hdc_X11 1 (by decide)) rfl hb rfl rfl ?_
  refine K_aload_n (md := mX11_init) (pc := 13) 0 (kTab_at (pc := 13) tX11_init_ok 6 rfl) rfl ?_
  refine K_sipush (md := mX11_init) (pc := 14) (x := 779) (kTab_at (pc := 14) tX11_init_ok 7 rfl) rfl ?_
  refine C_newarr (md := mX11_init) (pc := 17) (c := (fun _ _ => 0)) (suf' := ([.inr (11, (rfu (fun _ => none) 1 (b + 1))), .inl (0, 779, fun _ => none), .inl (0, 779, fun _ => none)])) (t := 0) (n := 779) (j := 2) (ty := .int) (kTab_at (pc := 17) tX11_init_ok 8 rfl) (inT1 66 (by decide +kernel) rfl) rfl (by decide) (Nat.le_of_ble_eq_true rfl) hb rfl (zb_0 _) rfl ?_
  refine C_putR (md := mX11_init) (pc := 19) (suf' := ([.inr (11, (rfu (rfu (fun _ => none) 1 (b + 1)) 2 (b + 2))), .inl (0, 779, fun _ => none), .inl (0, 779, fun _ => none)])) (rf := (rfu (fun _ => none) 1 (b + 1))) (ci := 11) (k := 2) (i := 0) (r := b + 2) (kTab_at (pc := 19) tX11_init_ok 9 rfl) fl_X11_13 rfl (hdc_X11 2 (by decide)) rfl hb rfl rfl ?_
  refine K_aload_n (md := mX11_init) (pc := 22) 0 (kTab_at (pc := 22) tX11_init_ok 10 rfl) rfl ?_
  refine K_sipush (md := mX11_init) (pc := 23) (x := 779) (kTab_at (pc := 23) tX11_init_ok 11 rfl) rfl ?_
  refine C_newarr (md := mX11_init) (pc := 26) (c := (fun _ _ => 0)) (suf' := ([.inr (11, (rfu (rfu (fun _ => none) 1 (b + 1)) 2 (b + 2))), .inl (0, 779, fun _ => none), .inl (0, 779, fun _ => none), .inl (0, 779, fun _ => none)])) (t := 0) (n := 779) (j := 3) (ty := .int) (kTab_at (pc := 26) tX11_init_ok 12 rfl) (inT1 66 (by decide +kernel) rfl) rfl (by decide) (Nat.le_of_ble_eq_true rfl) hb rfl (zb_0 _) rfl ?_
  refine C_putR (md := mX11_init) (pc := 28) (suf' := ([.inr (11, (rfu (rfu (rfu (fun _ => none) 1 (b + 1)) 2 (b + 2)) 3 (b + 3))), .inl (0, 779, fun _ => none), .inl (0, 779, fun _ => none), .inl (0, 779, fun _ => none)])) (rf := (rfu (rfu (fun _ => none) 1 (b + 1)) 2 (b + 2))) (ci := 11) (k := 3) (i := 0) (r := b + 3) (kTab_at (pc := 28) tX11_init_ok 13 rfl) fl_X11_16 rfl (hdc_X11 3 (by decide)) rfl hb rfl rfl ?_
  refine K_aload_n (md := mX11_init) (pc := 31) 0 (kTab_at (pc := 31) tX11_init_ok 14 rfl) rfl ?_
  refine K_sipush (md := mX11_init) (pc := 32) (x := 4674) (kTab_at (pc := 32) tX11_init_ok 15 rfl) rfl ?_
  refine C_newarr (md := mX11_init) (pc := 35) (c := (fun _ _ => 0)) (suf' := ([.inr (11, (rfu (rfu (rfu (fun _ => none) 1 (b + 1)) 2 (b + 2)) 3 (b + 3))), .inl (0, 779, fun _ => none), .inl (0, 779, fun _ => none), .inl (0, 779, fun _ => none), .inl (0, 4674, fun _ => none)])) (t := 0) (n := 4674) (j := 4) (ty := .int) (kTab_at (pc := 35) tX11_init_ok 16 rfl) (inT1 66 (by decide +kernel) rfl) rfl (by decide) (Nat.le_of_ble_eq_true rfl) hb rfl (zb_0 _) rfl ?_
  refine C_putR (md := mX11_init) (pc := 37) (suf' := ([.inr (11, (rfu (rfu (rfu (rfu (fun _ => none) 1 (b + 1)) 2 (b + 2)) 3 (b + 3)) 4 (b + 4))), .inl (0, 779, fun _ => none), .inl (0, 779, fun _ => none), .inl (0, 779, fun _ => none), .inl (0, 4674, fun _ => none)])) (rf := (rfu (rfu (rfu (fun _ => none) 1 (b + 1)) 2 (b + 2)) 3 (b + 3))) (ci := 11) (k := 4) (i := 0) (r := b + 4) (kTab_at (pc := 37) tX11_init_ok 17 rfl) fl_X11_19 rfl (hdc_X11 4 (by decide)) rfl hb rfl rfl ?_
  refine K_aload_n (md := mX11_init) (pc := 40) 0 (kTab_at (pc := 40) tX11_init_ok 18 rfl) rfl ?_
  refine K_bipush (md := mX11_init) (pc := 41) (x := 60) (kTab_at (pc := 41) tX11_init_ok 19 rfl) rfl ?_
  refine C_newarr (md := mX11_init) (pc := 43) (c := (fun _ _ => 0)) (suf' := ([.inr (11, (rfu (rfu (rfu (rfu (fun _ => none) 1 (b + 1)) 2 (b + 2)) 3 (b + 3)) 4 (b + 4))), .inl (0, 779, fun _ => none), .inl (0, 779, fun _ => none), .inl (0, 779, fun _ => none), .inl (0, 4674, fun _ => none), .inl (0, 60, fun _ => none)])) (t := 0) (n := 60) (j := 5) (ty := .int) (kTab_at (pc := 43) tX11_init_ok 20 rfl) (inT1 66 (by decide +kernel) rfl) rfl (by decide) (Nat.le_of_ble_eq_true rfl) hb rfl (zb_0 _) rfl ?_
  refine C_putR (md := mX11_init) (pc := 45) (suf' := ([.inr (11, (rfu (rfu (rfu (rfu (rfu (fun _ => none) 1 (b + 1)) 2 (b + 2)) 3 (b + 3)) 4 (b + 4)) 7 (b + 5))), .inl (0, 779, fun _ => none), .inl (0, 779, fun _ => none), .inl (0, 779, fun _ => none), .inl (0, 4674, fun _ => none), .inl (0, 60, fun _ => none)])) (rf := (rfu (rfu (rfu (rfu (fun _ => none) 1 (b + 1)) 2 (b + 2)) 3 (b + 3)) 4 (b + 4))) (ci := 11) (k := 7) (i := 0) (r := b + 5) (kTab_at (pc := 45) tX11_init_ok 21 rfl) fl_X11_22 rfl (hdc_X11 7 (by decide)) rfl hb rfl rfl ?_
  refine K_aload_n (md := mX11_init) (pc := 48) 0 (kTab_at (pc := 48) tX11_init_ok 22 rfl) rfl ?_
  refine K_iconst (md := mX11_init) (pc := 49) (x := (-1)) (kTab_at (pc := 49) tX11_init_ok 23 rfl) rfl ?_
  refine C_putI (md := mX11_init) (pc := 50) (ci := 11) (k := 9) (i := 0) (x := (-1)) (kTab_at (pc := 50) tX11_init_ok 24 rfl) fl_X11_25 rfl hb rfl rfl ?_
  refine K_aload_n (md := mX11_init) (pc := 53) 0 (kTab_at (pc := 53) tX11_init_ok 25 rfl) rfl ?_
  refine K_iconst (md := mX11_init) (pc := 54) (x := 4) (kTab_at (pc := 54) tX11_init_ok 26 rfl) rfl ?_
  refine C_newarr (md := mX11_init) (pc := 55) (c := (up2 (fun _ _ => 0) 0 9 (-1))) (suf' := ([.inr (11, (rfu (rfu (rfu (rfu (rfu (fun _ => none) 1 (b + 1)) 2 (b + 2)) 3 (b + 3)) 4 (b + 4)) 7 (b + 5))), .inl (0, 779, fun _ => none), .inl (0, 779, fun _ => none), .inl (0, 779, fun _ => none), .inl (0, 4674, fun _ => none), .inl (0, 60, fun _ => none), .inl (0, 4, fun _ => none)])) (t := 0) (n := 4) (j := 6) (ty := .int) (kTab_at (pc := 55) tX11_init_ok 27 rfl) (inT1 66 (by decide +kernel) rfl) rfl (by decide) (Nat.le_of_ble_eq_true rfl) hb rfl (zb_up (zb_0 _) (Nat.le_of_ble_eq_true rfl)) rfl ?_
  refine C_putR (md := mX11_init) (pc := 57) (suf' := ([.inr (11, (rfu (rfu (rfu (rfu (rfu (rfu (fun _ => none) 1 (b + 1)) 2 (b + 2)) 3 (b + 3)) 4 (b + 4)) 7 (b + 5)) 10 (b + 6))), .inl (0, 779, fun _ => none), .inl (0, 779, fun _ => none), .inl (0, 779, fun _ => none), .inl (0, 4674, fun _ => none), .inl (0, 60, fun _ => none), .inl (0, 4, fun _ => none)])) (rf := (rfu (rfu (rfu (rfu (rfu (fun _ => none) 1 (b + 1)) 2 (b + 2)) 3 (b + 3)) 4 (b + 4)) 7 (b + 5))) (ci := 11) (k := 10) (i := 0) (r := b + 6) (kTab_at (pc := 57) tX11_init_ok 28 rfl) fl_X11_29 rfl (hdc_X11 10 (by decide)) rfl hb rfl rfl ?_
  refine K_aload_n (md := mX11_init) (pc := 60) 0 (kTab_at (pc := 60) tX11_init_ok 29 rfl) rfl ?_
  refine K_iconst (md := mX11_init) (pc := 61) (x := 3) (kTab_at (pc := 61) tX11_init_ok 30 rfl) rfl ?_
  refine C_newarr (md := mX11_init) (pc := 62) (c := (up2 (fun _ _ => 0) 0 9 (-1))) (suf' := ([.inr (11, (rfu (rfu (rfu (rfu (rfu (rfu (fun _ => none) 1 (b + 1)) 2 (b + 2)) 3 (b + 3)) 4 (b + 4)) 7 (b + 5)) 10 (b + 6))), .inl (0, 779, fun _ => none), .inl (0, 779, fun _ => none), .inl (0, 779, fun _ => none), .inl (0, 4674, fun _ => none), .inl (0, 60, fun _ => none), .inl (0, 4, fun _ => none), .inl (0, 3, fun _ => none)])) (t := 0) (n := 3) (j := 7) (ty := .int) (kTab_at (pc := 62) tX11_init_ok 31 rfl) (inT1 66 (by decide +kernel) rfl) rfl (by decide) (Nat.le_of_ble_eq_true rfl) hb rfl (zb_up (zb_0 _) (Nat.le_of_ble_eq_true rfl)) rfl ?_
  refine C_putR (md := mX11_init) (pc := 64) (suf' := ([.inr (11, (rfu (rfu (rfu (rfu (rfu (rfu (rfu (fun _ => none) 1 (b + 1)) 2 (b + 2)) 3 (b + 3)) 4 (b + 4)) 7 (b + 5)) 10 (b + 6)) 12 (b + 7))), .inl (0, 779, fun _ => none), .inl (0, 779, fun _ => none), .inl (0, 779, fun _ => none), .inl (0, 4674, fun _ => none), .inl (0, 60, fun _ => none), .inl (0, 4, fun _ => none), .inl (0, 3, fun _ => none)])) (rf := (rfu (rfu (rfu (rfu (rfu (rfu (fun _ => none) 1 (b + 1)) 2 (b + 2)) 3 (b + 3)) 4 (b + 4)) 7 (b + 5)) 10 (b + 6))) (ci := 11) (k := 12) (i := 0) (r := b + 7) (kTab_at (pc := 64) tX11_init_ok 32 rfl) fl_X11_32 rfl (hdc_X11 12 (by decide)) rfl hb rfl rfl ?_
  refine K_aload_n (md := mX11_init) (pc := 67) 0 (kTab_at (pc := 67) tX11_init_ok 33 rfl) rfl ?_
  refine K_iconst (md := mX11_init) (pc := 68) (x := 5) (kTab_at (pc := 68) tX11_init_ok 34 rfl) rfl ?_
  refine C_newarr (md := mX11_init) (pc := 69) (c := (up2 (fun _ _ => 0) 0 9 (-1))) (suf' := ([.inr (11, (rfu (rfu (rfu (rfu (rfu (rfu (rfu (fun _ => none) 1 (b + 1)) 2 (b + 2)) 3 (b + 3)) 4 (b + 4)) 7 (b + 5)) 10 (b + 6)) 12 (b + 7))), .inl (0, 779, fun _ => none), .inl (0, 779, fun _ => none), .inl (0, 779, fun _ => none), .inl (0, 4674, fun _ => none), .inl (0, 60, fun _ => none), .inl (0, 4, fun _ => none), .inl (0, 3, fun _ => none), .inl (0, 5, fun _ => none)])) (t := 0) (n := 5) (j := 8) (ty := .int) (kTab_at (pc := 69) tX11_init_ok 35 rfl) (inT1 66 (by decide +kernel) rfl) rfl (by decide) (Nat.le_of_ble_eq_true rfl) hb rfl (zb_up (zb_0 _) (Nat.le_of_ble_eq_true rfl)) rfl ?_
  refine C_putR (md := mX11_init) (pc := 71) (suf' := ([.inr (11, (rfu (rfu (rfu (rfu (rfu (rfu (rfu (rfu (fun _ => none) 1 (b + 1)) 2 (b + 2)) 3 (b + 3)) 4 (b + 4)) 7 (b + 5)) 10 (b + 6)) 12 (b + 7)) 14 (b + 8))), .inl (0, 779, fun _ => none), .inl (0, 779, fun _ => none), .inl (0, 779, fun _ => none), .inl (0, 4674, fun _ => none), .inl (0, 60, fun _ => none), .inl (0, 4, fun _ => none), .inl (0, 3, fun _ => none), .inl (0, 5, fun _ => none)])) (rf := (rfu (rfu (rfu (rfu (rfu (rfu (rfu (fun _ => none) 1 (b + 1)) 2 (b + 2)) 3 (b + 3)) 4 (b + 4)) 7 (b + 5)) 10 (b + 6)) 12 (b + 7))) (ci := 11) (k := 14) (i := 0) (r := b + 8) (kTab_at (pc := 71) tX11_init_ok 36 rfl) fl_X11_35 rfl (hdc_X11 14 (by decide)) rfl hb rfl rfl ?_
  refine K_aload_n (md := mX11_init) (pc := 74) 0 (kTab_at (pc := 74) tX11_init_ok 37 rfl) rfl ?_
  refine K_bipush (md := mX11_init) (pc := 75) (x := 8) (kTab_at (pc := 75) tX11_init_ok 38 rfl) rfl ?_
  refine C_newarr (md := mX11_init) (pc := 77) (c := (up2 (fun _ _ => 0) 0 9 (-1))) (suf' := ([.inr (11, (rfu (rfu (rfu (rfu (rfu (rfu (rfu (rfu (fun _ => none) 1 (b + 1)) 2 (b + 2)) 3 (b + 3)) 4 (b + 4)) 7 (b + 5)) 10 (b + 6)) 12 (b + 7)) 14 (b + 8))), .inl (0, 779, fun _ => none), .inl (0, 779, fun _ => none), .inl (0, 779, fun _ => none), .inl (0, 4674, fun _ => none), .inl (0, 60, fun _ => none), .inl (0, 4, fun _ => none), .inl (0, 3, fun _ => none), .inl (0, 5, fun _ => none), .inl (0, 8, fun _ => none)])) (t := 0) (n := 8) (j := 9) (ty := .int) (kTab_at (pc := 77) tX11_init_ok 39 rfl) (inT1 66 (by decide +kernel) rfl) rfl (by decide) (Nat.le_of_ble_eq_true rfl) hb rfl (zb_up (zb_0 _) (Nat.le_of_ble_eq_true rfl)) rfl ?_
  refine C_putR (md := mX11_init) (pc := 79) (suf' := ([.inr (11, (rfu (rfu (rfu (rfu (rfu (rfu (rfu (rfu (rfu (fun _ => none) 1 (b + 1)) 2 (b + 2)) 3 (b + 3)) 4 (b + 4)) 7 (b + 5)) 10 (b + 6)) 12 (b + 7)) 14 (b + 8)) 25 (b + 9))), .inl (0, 779, fun _ => none), .inl (0, 779, fun _ => none), .inl (0, 779, fun _ => none), .inl (0, 4674, fun _ => none), .inl (0, 60, fun _ => none), .inl (0, 4, fun _ => none), .inl (0, 3, fun _ => none), .inl (0, 5, fun _ => none), .inl (0, 8, fun _ => none)])) (rf := (rfu (rfu (rfu (rfu (rfu (rfu (rfu (rfu (fun _ => none) 1 (b + 1)) 2 (b + 2)) 3 (b + 3)) 4 (b + 4)) 7 (b + 5)) 10 (b + 6)) 12 (b + 7)) 14 (b + 8))) (ci := 11) (k := 25) (i := 0) (r := b + 9) (kTab_at (pc := 79) tX11_init_ok 40 rfl) fl_X11_38 rfl (hdc_X11 25 (by decide)) rfl hb rfl rfl ?_
  refine K_aload_n (md := mX11_init) (pc := 82) 0 (kTab_at (pc := 82) tX11_init_ok 41 rfl) rfl ?_
  refine K_bipush (md := mX11_init) (pc := 83) (x := 8) (kTab_at (pc := 83) tX11_init_ok 42 rfl) rfl ?_
  refine C_newarr (md := mX11_init) (pc := 85) (c := (up2 (fun _ _ => 0) 0 9 (-1))) (suf' := ([.inr (11, (rfu (rfu (rfu (rfu (rfu (rfu (rfu (rfu (rfu (fun _ => none) 1 (b + 1)) 2 (b + 2)) 3 (b + 3)) 4 (b + 4)) 7 (b + 5)) 10 (b + 6)) 12 (b + 7)) 14 (b + 8)) 25 (b + 9))), .inl (0, 779, fun _ => none), .inl (0, 779, fun _ => none), .inl (0, 779, fun _ => none), .inl (0, 4674, fun _ => none), .inl (0, 60, fun _ => none), .inl (0, 4, fun _ => none), .inl (0, 3, fun _ => none), .inl (0, 5, fun _ => none), .inl (0, 8, fun _ => none), .inl (2, 8, fun _ => none)])) (t := 2) (n := 8) (j := 10) (ty := .long) (kTab_at (pc := 85) tX11_init_ok 43 rfl) (inT6 106 (by decide +kernel) rfl) rfl (by decide) (Nat.le_of_ble_eq_true rfl) hb rfl (zb_up (zb_0 _) (Nat.le_of_ble_eq_true rfl)) rfl ?_
  refine C_putR (md := mX11_init) (pc := 87) (suf' := ([.inr (11, (rfu (rfu (rfu (rfu (rfu (rfu (rfu (rfu (rfu (rfu (fun _ => none) 1 (b + 1)) 2 (b + 2)) 3 (b + 3)) 4 (b + 4)) 7 (b + 5)) 10 (b + 6)) 12 (b + 7)) 14 (b + 8)) 25 (b + 9)) 26 (b + 10))), .inl (0, 779, fun _ => none), .inl (0, 779, fun _ => none), .inl (0, 779, fun _ => none), .inl (0, 4674, fun _ => none), .inl (0, 60, fun _ => none), .inl (0, 4, fun _ => none), .inl (0, 3, fun _ => none), .inl (0, 5, fun _ => none), .inl (0, 8, fun _ => none), .inl (2, 8, fun _ => none)])) (rf := (rfu (rfu (rfu (rfu (rfu (rfu (rfu (rfu (rfu (fun _ => none) 1 (b + 1)) 2 (b + 2)) 3 (b + 3)) 4 (b + 4)) 7 (b + 5)) 10 (b + 6)) 12 (b + 7)) 14 (b + 8)) 25 (b + 9))) (ci := 11) (k := 26) (i := 0) (r := b + 10) (kTab_at (pc := 87) tX11_init_ok 44 rfl) fl_X11_41 rfl (hdc_X11 26 (by decide)) rfl hb rfl rfl ?_
  refine K_aload_n (md := mX11_init) (pc := 90) 0 (kTab_at (pc := 90) tX11_init_ok 45 rfl) rfl ?_
  refine K_bipush (md := mX11_init) (pc := 91) (x := 8) (kTab_at (pc := 91) tX11_init_ok 46 rfl) rfl ?_
  refine C_newarr (md := mX11_init) (pc := 93) (c := (up2 (fun _ _ => 0) 0 9 (-1))) (suf' := ([.inr (11, (rfu (rfu (rfu (rfu (rfu (rfu (rfu (rfu (rfu (rfu (fun _ => none) 1 (b + 1)) 2 (b + 2)) 3 (b + 3)) 4 (b + 4)) 7 (b + 5)) 10 (b + 6)) 12 (b + 7)) 14 (b + 8)) 25 (b + 9)) 26 (b + 10))), .inl (0, 779, fun _ => none), .inl (0, 779, fun _ => none), .inl (0, 779, fun _ => none), .inl (0, 4674, fun _ => none), .inl (0, 60, fun _ => none), .inl (0, 4, fun _ => none), .inl (0, 3, fun _ => none), .inl (0, 5, fun _ => none), .inl (0, 8, fun _ => none), .inl (2, 8, fun _ => none), .inl (2, 8, fun _ => none)])) (t := 2) (n := 8) (j := 11) (ty := .long) (kTab_at (pc := 93) tX11_init_ok 47 rfl) (inT6 106 (by decide +kernel) rfl) rfl (by decide) (Nat.le_of_ble_eq_true rfl) hb rfl (zb_up (zb_0 _) (Nat.le_of_ble_eq_true rfl)) rfl ?_
  refine C_putR (md := mX11_init) (pc := 95) (suf' := ([.inr (11, (rfu (rfu (rfu (rfu (rfu (rfu (rfu (rfu (rfu (rfu (rfu (fun _ => none) 1 (b + 1)) 2 (b + 2)) 3 (b + 3)) 4 (b + 4)) 7 (b + 5)) 10 (b + 6)) 12 (b + 7)) 14 (b + 8)) 25 (b + 9)) 26 (b + 10)) 27 (b + 11))), .inl (0, 779, fun _ => none), .inl (0, 779, fun _ => none), .inl (0, 779, fun _ => none), .inl (0, 4674, fun _ => none), .inl (0, 60, fun _ => none), .inl (0, 4, fun _ => none), .inl (0, 3, fun _ => none), .inl (0, 5, fun _ => none), .inl (0, 8, fun _ => none), .inl (2, 8, fun _ => none), .inl (2, 8, fun _ => none)])) (rf := (rfu (rfu (rfu (rfu (rfu (rfu (rfu (rfu (rfu (rfu (fun _ => none) 1 (b + 1)) 2 (b + 2)) 3 (b + 3)) 4 (b + 4)) 7 (b + 5)) 10 (b + 6)) 12 (b + 7)) 14 (b + 8)) 25 (b + 9)) 26 (b + 10))) (ci := 11) (k := 27) (i := 0) (r := b + 11) (kTab_at (pc := 95) tX11_init_ok 48 rfl) fl_X11_45 rfl (hdc_X11 27 (by decide)) rfl hb rfl rfl ?_
  refine K_iconst (md := mX11_init) (pc := 98) (x := 0) (kTab_at (pc := 98) tX11_init_ok 49 rfl) rfl ?_
  refine K_istore_n (md := mX11_init) (pc := 99) (l' := [(1, .int (iI 0)), (0, .ref (X.1 + (b + 0)))]) (kTab_at (pc := 99) tX11_init_ok 50 rfl) (Nat.le_of_ble_eq_true rfl) rfl ?_
  refine K_iload_n (md := mX11_init) (pc := 100) 0 (kTab_at (pc := 100) tX11_init_ok 51 rfl) rfl ?_
  refine K_iconst (md := mX11_init) (pc := 101) (x := 5) (kTab_at (pc := 101) tX11_init_ok 52 rfl) rfl ?_
  refine K_icmp_ge (md := mX11_init) (pc := 102) (A := none) (B := some (μ, 0, 0)) (r := (μ, 0, 0)) (tgt := 121) (kTab_at (pc := 102) tX11_init_ok 53 rfl) rfl rfl (fun h => nomatch h) (fun _ => ?_)
  refine K_aload_n (md := mX11_init) (pc := 105) 1 (kTab_at (pc := 105) tX11_init_ok 54 rfl) rfl ?_
  refine K_getR (md := mX11_init) (pc := 106) (a := b + 0) (b := b + 1) (ci := 11) (k := 1) (kTab_at (pc := 106) tX11_init_ok 55 rfl) fl_X11_7 ((suf_at hb).trans rfl) rfl rfl ?_
  refine K_iconst (md := mX11_init) (pc := 109) (x := 0) (kTab_at (pc := 109) tX11_init_ok 56 rfl) rfl ?_
  refine K_iload_n (md := mX11_init) (pc := 110) 0 (kTab_at (pc := 110) tX11_init_ok 57 rfl) rfl ?_
  refine K_iadd (md := mX11_init) (pc := 111) (x := 0) (y := 0) (kTab_at (pc := 111) tX11_init_ok 58 rfl) ?_
  refine K_bipush (md := mX11_init) (pc := 112) (x := 20) (kTab_at (pc := 112) tX11_init_ok 59 rfl) rfl ?_
  refine C_iast (md := mX11_init) (pc := 114) (i := 1) (q := 0) (n := 779) (x := 0) (y := 20) (kTab_at (pc := 114) tX11_init_ok 60 rfl) hb rfl (by decide) (by decide) rfl rfl ?_
  refine K_iinc (md := mX11_init) (pc := 115) (l' := [(1, .int (iI 1)), (0, .ref (X.1 + (b + 0)))]) 0 (kTab_at (pc := 115) tX11_init_ok 61 rfl) rfl (Nat.le_of_ble_eq_true rfl) rfl ?_
  refine K_goto (md := mX11_init) (pc := 118) (tgt := 100) (kTab_at (pc := 118) tX11_init_ok 62 rfl) rfl ?_
  refine K_iload_n (md := mX11_init) (pc := 100) 0 (kTab_at (pc := 100) tX11_init_ok 51 rfl) rfl ?_
  refine K_iconst (md := mX11_init) (pc := 101) (x := 5) (kTab_at (pc := 101) tX11_init_ok 52 rfl) rfl ?_
  refine K_icmp_ge (md := mX11_init) (pc := 102) (A := none) (B := some (μ, 0, 0)) (r := (μ, 0, 0)) (tgt := 121) (kTab_at (pc := 102) tX11_init_ok 53 rfl) rfl rfl (fun h => nomatch h) (fun _ => ?_)
  refine K_aload_n (md := mX11_init) (pc := 105) 1 (kTab_at (pc := 105) tX11_init_ok 54 rfl) rfl ?_
  refine K_getR (md := mX11_init) (pc := 106) (a := b + 0) (b := b + 1) (ci := 11) (k := 1) (kTab_at (pc := 106) tX11_init_ok 55 rfl) fl_X11_7 ((suf_at hb).trans rfl) rfl rfl ?_
  refine K_iconst (md := mX11_init) (pc := 109) (x := 0) (kTab_at (pc := 109) tX11_init_ok 56 rfl) rfl ?_
  refine K_iload_n (md := mX11_init) (pc := 110) 0 (kTab_at (pc := 110) tX11_init_ok 57 rfl) rfl ?_
  refine K_iadd (md := mX11_init) (pc := 111) (x := 0) (y := 1) (kTab_at (pc := 111) tX11_init_ok 58 rfl) ?_
  refine K_bipush (md := mX11_init) (pc := 112) (x := 20) (kTab_at (pc := 112) tX11_init_ok 59 rfl) rfl ?_
  refine C_iast (md := mX11_init) (pc := 114) (i := 1) (q := 1) (n := 779) (x := 1) (y := 20) (kTab_at (pc := 114) tX11_init_ok 60 rfl) hb rfl (by decide) (by decide) rfl rfl ?_
  refine K_iinc (md := mX11_init) (pc := 115) (l' := [(1, .int (iI 2)), (0, .ref (X.1 + (b + 0)))]) 0 (kTab_at (pc := 115) tX11_init_ok 61 rfl) rfl (Nat.le_of_ble_eq_true rfl) rfl ?_
  refine K_goto (md := mX11_init) (pc := 118) (tgt := 100) (kTab_at (pc := 118) tX11_init_ok 62 rfl) rfl ?_
  refine K_iload_n (md := mX11_init) (pc := 100) 0 (kTab_at (pc := 100) tX11_init_ok 51 rfl) rfl ?_
  refine K_iconst (md := mX11_init) (pc := 101) (x := 5) (kTab_at (pc := 101) tX11_init_ok 52 rfl) rfl ?_
  refine K_icmp_ge (md := mX11_init) (pc := 102) (A := none) (B := some (μ, 0, 0)) (r := (μ, 0, 0)) (tgt := 121) (kTab_at (pc := 102) tX11_init_ok 53 rfl) rfl rfl (fun h => nomatch h) (fun _ => ?_)
  refine K_aload_n (md := mX11_init) (pc := 105) 1 (kTab_at (pc := 105) tX11_init_ok 54 rfl) rfl ?_
  refine K_getR (md := mX11_init) (pc := 106) (a := b + 0) (b := b + 1) (ci := 11) (k := 1) (kTab_at (pc := 106) tX11_init_ok 55 rfl) fl_X11_7 ((suf_at hb).trans rfl) rfl rfl ?_
  refine K_iconst (md := mX11_init) (pc := 109) (x := 0) (kTab_at (pc := 109) tX11_init_ok 56 rfl) rfl ?_
  refine K_iload_n (md := mX11_init) (pc := 110) 0 (kTab_at (pc := 110) tX11_init_ok 57 rfl) rfl ?_
  refine K_iadd (md := mX11_init) (pc := 111) (x := 0) (y := 2) (kTab_at (pc := 111) tX11_init_ok 58 rfl) ?_
  refine K_bipush (md := mX11_init) (pc := 112) (x := 20) (kTab_at (pc := 112) tX11_init_ok 59 rfl) rfl ?_
  refine C_iast (md := mX11_init) (pc := 114) (i := 1) (q := 2) (n := 779) (x := 2) (y := 20) (kTab_at (pc := 114) tX11_init_ok 60 rfl) hb rfl (by decide) (by decide) rfl rfl ?_
  refine K_iinc (md := mX11_init) (pc := 115) (l' := [(1, .int (iI 3)), (0, .ref (X.1 + (b + 0)))]) 0 (kTab_at (pc := 115) tX11_init_ok 61 rfl) rfl (Nat.le_of_ble_eq_true rfl) rfl ?_
  refine K_goto (md := mX11_init) (pc := 118) (tgt := 100) (kTab_at (pc := 118) tX11_init_ok 62 rfl) rfl ?_
  refine K_iload_n (md := mX11_init) (pc := 100) 0 (kTab_at (pc := 100) tX11_init_ok 51 rfl) rfl ?_
  refine K_iconst (md := mX11_init) (pc := 101) (x := 5) (kTab_at (pc := 101) tX11_init_ok 52 rfl) rfl ?_
  refine K_icmp_ge (md := mX11_init) (pc := 102) (A := none) (B := some (μ, 0, 0)) (r := (μ, 0, 0)) (tgt := 121) (kTab_at (pc := 102) tX11_init_ok 53 rfl) rfl rfl (fun h => nomatch h) (fun _ => ?_)
  refine K_aload_n (md := mX11_init) (pc := 105) 1 (kTab_at (pc := 105) tX11_init_ok 54 rfl) rfl ?_
  refine K_getR (md := mX11_init) (pc := 106) (a := b + 0) (b := b + 1) (ci := 11) (k := 1) (kTab_at (pc := 106) tX11_init_ok 55 rfl) fl_X11_7 ((suf_at hb).trans rfl) rfl rfl ?_
  refine K_iconst (md := mX11_init) (pc := 109) (x := 0) (kTab_at (pc := 109) tX11_init_ok 56 rfl) rfl ?_
  refine K_iload_n (md := mX11_init) (pc := 110) 0 (kTab_at (pc := 110) tX11_init_ok 57 rfl) rfl ?_
  refine K_iadd (md := mX11_init) (pc := 111) (x := 0) (y := 3) (kTab_at (pc := 111) tX11_init_ok 58 rfl) ?_
  refine K_bipush (md := mX11_init) (pc := 112) (x := 20) (kTab_at (pc := 112) tX11_init_ok 59 rfl) rfl ?_
  refine C_iast (md := mX11_init) (pc := 114) (i := 1) (q := 3) (n := 779) (x := 3) (y := 20) (kTab_at (pc := 114) tX11_init_ok 60 rfl) hb rfl (by decide) (by decide) rfl rfl ?_
  refine K_iinc (md := mX11_init) (pc := 115) (l' := [(1, .int (iI 4)), (0, .ref (X.1 + (b + 0)))]) 0 (kTab_at (pc := 115) tX11_init_ok 61 rfl) rfl (Nat.le_of_ble_eq_true rfl) rfl ?_
  refine K_goto (md := mX11_init) (pc := 118) (tgt := 100) (kTab_at (pc := 118) tX11_init_ok 62 rfl) rfl ?_
  refine K_iload_n (md := mX11_init) (pc := 100) 0 (kTab_at (pc := 100) tX11_init_ok 51 rfl) rfl ?_
  refine K_iconst (md := mX11_init) (pc := 101) (x := 5) (kTab_at (pc := 101) tX11_init_ok 52 rfl) rfl ?_
  refine K_icmp_ge (md := mX11_init) (pc := 102) (A := none) (B := some (μ, 0, 0)) (r := (μ, 0, 0)) (tgt := 121) (kTab_at (pc := 102) tX11_init_ok 53 rfl) rfl rfl (fun h => nomatch h) (fun _ => ?_)
  refine K_aload_n (md := mX11_init) (pc := 105) 1 (kTab_at (pc := 105) tX11_init_ok 54 rfl) rfl ?_
  refine K_getR (md := mX11_init) (pc := 106) (a := b + 0) (b := b + 1) (ci := 11) (k := 1) (kTab_at (pc := 106) tX11_init_ok 55 rfl) fl_X11_7 ((suf_at hb).trans rfl) rfl rfl ?_
  refine K_iconst (md := mX11_init) (pc := 109) (x := 0) (kTab_at (pc := 109) tX11_init_ok 56 rfl) rfl ?_
  refine K_iload_n (md := mX11_init) (pc := 110) 0 (kTab_at (pc := 110) tX11_init_ok 57 rfl) rfl ?_
  refine K_iadd (md := mX11_init) (pc := 111) (x := 0) (y := 4) (kTab_at (pc := 111) tX11_init_ok 58 rfl) ?_
  refine K_bipush (md := mX11_init) (pc := 112) (x := 20) (kTab_at (pc := 112) tX11_init_ok 59 rfl) rfl ?_
  refine C_iast (md := mX11_init) (pc := 114) (i := 1) (q := 4) (n := 779) (x := 4) (y := 20) (kTab_at (pc := 114) tX11_init_ok 60 rfl) hb rfl (by decide) (by decide) rfl rfl ?_
  refine K_iinc (md := mX11_init) (pc := 115) (l' := [(1, .int (iI 5)), (0, .ref (X.1 + (b + 0)))]) 0 (kTab_at (pc := 115) tX11_init_ok 61 rfl) rfl (Nat.le_of_ble_eq_true rfl) rfl ?_
  refine K_goto (md := mX11_init) (pc := 118) (tgt := 100) (kTab_at (pc := 118) tX11_init_ok 62 rfl) rfl ?_
  refine K_iload_n (md := mX11_init) (pc := 100) 0 (kTab_at (pc := 100) tX11_init_ok 51 rfl) rfl ?_
  refine K_iconst (md := mX11_init) (pc := 101) (x := 5) (kTab_at (pc := 101) tX11_init_ok 52 rfl) rfl ?_
  refine K_icmp_ge (md := mX11_init) (pc := 102) (A := some (μ, 0, 0)) (B := none) (r := (μ, 0, 0)) (tgt := 121) (kTab_at (pc := 102) tX11_init_ok 53 rfl) rfl rfl (fun _ => ?_) (fun h => nomatch h)
  refine K_aload_n (md := mX11_init) (pc := 121) 1 (kTab_at (pc := 121) tX11_init_ok 63 rfl) rfl ?_
  refine K_getR (md := mX11_init) (pc := 122) (a := b + 0) (b := b + 1) (ci := 11) (k := 1) (kTab_at (pc := 122) tX11_init_ok 64 rfl) fl_X11_7 ((suf_at hb).trans rfl) rfl rfl ?_
  refine K_iconst (md := mX11_init) (pc := 125) (x := 5) (kTab_at (pc := 125) tX11_init_ok 65 rfl) rfl ?_
  refine K_iconst (md := mX11_init) (pc := 126) (x := 1) (kTab_at (pc := 126) tX11_init_ok 66 rfl) rfl ?_
  refine C_iast (md := mX11_init) (pc := 127) (i := 1) (q := 5) (n := 779) (x := 5) (y := 1) (kTab_at (pc := 127) tX11_init_ok 67 rfl) hb rfl (by decide) (by decide) rfl rfl ?_
  refine K_aload_n (md := mX11_init) (pc := 128) 1 (kTab_at (pc := 128) tX11_init_ok 68 rfl) rfl ?_
  refine K_getR (md := mX11_init) (pc := 129) (a := b + 0) (b := b + 1) (ci := 11) (k := 1) (kTab_at (pc := 129) tX11_init_ok 69 rfl) fl_X11_7 ((suf_at hb).trans rfl) rfl rfl ?_
  refine K_bipush (md := mX11_init) (pc := 132) (x := 6) (kTab_at (pc := 132) tX11_init_ok 70 rfl) rfl ?_
  refine K_bipush (md := mX11_init) (pc := 134) (x := 6) (kTab_at (pc := 134) tX11_init_ok 71 rfl) rfl ?_
  refine C_iast (md := mX11_init) (pc := 136) (i := 1) (q := 6) (n := 779) (x := 6) (y := 6) (kTab_at (pc := 136) tX11_init_ok 72 rfl) hb rfl (by decide) (by decide) rfl rfl ?_
  refine K_aload_n (md := mX11_init) (pc := 137) 1 (kTab_at (pc := 137) tX11_init_ok 73 rfl) rfl ?_
  refine K_getR (md := mX11_init) (pc := 138) (a := b + 0) (b := b + 1) (ci := 11) (k := 1) (kTab_at (pc := 138) tX11_init_ok 74 rfl) fl_X11_7 ((suf_at hb).trans rfl) rfl rfl ?_
  refine K_bipush (md := mX11_init) (pc := 141) (x := 7) (kTab_at (pc := 141) tX11_init_ok 75 rfl) rfl ?_
  refine K_iconst (md := mX11_init) (pc := 143) (x := 3) (kTab_at (pc := 143) tX11_init_ok 76 rfl) rfl ?_
  refine C_iast (md := mX11_init) (pc := 144) (i := 1) (q := 7) (n := 779) (x := 7) (y := 3) (kTab_at (pc := 144) tX11_init_ok 77 rfl) hb rfl (by decide) (by decide) rfl rfl ?_
  refine K_aload_n (md := mX11_init) (pc := 145) 1 (kTab_at (pc := 145) tX11_init_ok 78 rfl) rfl ?_
  refine K_getR (md := mX11_init) (pc := 146) (a := b + 0) (b := b + 1) (ci := 11) (k := 1) (kTab_at (pc := 146) tX11_init_ok 79 rfl) fl_X11_7 ((suf_at hb).trans rfl) rfl rfl ?_
  refine K_bipush (md := mX11_init) (pc := 149) (x := 8) (kTab_at (pc := 149) tX11_init_ok 80 rfl) rfl ?_
  refine K_iconst (md := mX11_init) (pc := 151) (x := 2) (kTab_at (pc := 151) tX11_init_ok 81 rfl) rfl ?_
  refine C_iast (md := mX11_init) (pc := 152) (i := 1) (q := 8) (n := 779) (x := 8) (y := 2) (kTab_at (pc := 152) tX11_init_ok 82 rfl) hb rfl (by decide) (by decide) rfl rfl ?_
  refine K_aload_n (md := mX11_init) (pc := 153) 1 (kTab_at (pc := 153) tX11_init_ok 83 rfl) rfl ?_
  refine K_getR (md := mX11_init) (pc := 154) (a := b + 0) (b := b + 1) (ci := 11) (k := 1) (kTab_at (pc := 154) tX11_init_ok 84 rfl) fl_X11_7 ((suf_at hb).trans rfl) rfl rfl ?_
  refine K_bipush (md := mX11_init) (pc := 157) (x := 9) (kTab_at (pc := 157) tX11_init_ok 85 rfl) rfl ?_
  refine K_bipush (md := mX11_init) (pc := 159) (x := 30) (kTab_at (pc := 159) tX11_init_ok 86 rfl) rfl ?_
  refine C_iast (md := mX11_init) (pc := 161) (i := 1) (q := 9) (n := 779) (x := 9) (y := 30) (kTab_at (pc := 161) tX11_init_ok 87 rfl) hb rfl (by decide) (by decide) rfl rfl ?_
  refine K_iconst (md := mX11_init) (pc := 162) (x := 0) (kTab_at (pc := 162) tX11_init_ok 88 rfl) rfl ?_
  refine K_istore_n (md := mX11_init) (pc := 163) (l' := [(1, .int (iI 0)), (0, .ref (X.1 + (b + 0)))]) (kTab_at (pc := 163) tX11_init_ok 89 rfl) (Nat.le_of_ble_eq_true rfl) rfl ?_
  refine K_iload_n (md := mX11_init) (pc := 164) 0 (kTab_at (pc := 164) tX11_init_ok 90 rfl) rfl ?_
  refine K_iconst (md := mX11_init) (pc := 165) (x := 4) (kTab_at (pc := 165) tX11_init_ok 91 rfl) rfl ?_
  refine K_icmp_ge (md := mX11_init) (pc := 166) (A := none) (B := some (μ, 0, 0)) (r := (μ, 0, 0)) (tgt := 191) (kTab_at (pc := 166) tX11_init_ok 92 rfl) rfl rfl (fun h => nomatch h) (fun _ => ?_)
  refine K_aload_n (md := mX11_init) (pc := 169) 1 (kTab_at (pc := 169) tX11_init_ok 93 rfl) rfl ?_
  refine K_getR (md := mX11_init) (pc := 170) (a := b + 0) (b := b + 1) (ci := 11) (k := 1) (kTab_at (pc := 170) tX11_init_ok 94 rfl) fl_X11_7 ((suf_at hb).trans rfl) rfl rfl ?_
  refine K_bipush (md := mX11_init) (pc := 173) (x := 10) (kTab_at (pc := 173) tX11_init_ok 95 rfl) rfl ?_
  refine K_iload_n (md := mX11_init) (pc := 175) 0 (kTab_at (pc := 175) tX11_init_ok 96 rfl) rfl ?_
  refine K_iadd (md := mX11_init) (pc := 176) (x := 10) (y := 0) (kTab_at (pc := 176) tX11_init_ok 97 rfl) ?_
  refine K_bipush (md := mX11_init) (pc := 177) (x := 70) (kTab_at (pc := 177) tX11_init_ok 98 rfl) rfl ?_
  refine K_bipush (md := mX11_init) (pc := 179) (x := 10) (kTab_at (pc := 179) tX11_init_ok 99 rfl) rfl ?_
  refine K_iload_n (md := mX11_init) (pc := 181) 0 (kTab_at (pc := 181) tX11_init_ok 100 rfl) rfl ?_
  refine K_imul (md := mX11_init) (pc := 182) (x := 10) (y := 0) (kTab_at (pc := 182) tX11_init_ok 101 rfl) ?_
  refine K_isub (md := mX11_init) (pc := 183) (x := 70) (y := 0) (kTab_at (pc := 183) tX11_init_ok 102 rfl) ?_
  refine C_iast (md := mX11_init) (pc := 184) (i := 1) (q := 10) (n := 779) (x := 10) (y := 70) (kTab_at (pc := 184) tX11_init_ok 103 rfl) hb rfl (by decide) (by decide) rfl rfl ?_
  refine K_iinc (md := mX11_init) (pc := 185) (l' := [(1, .int (iI 1)), (0, .ref (X.1 + (b + 0)))]) 0 (kTab_at (pc := 185) tX11_init_ok 104 rfl) rfl (Nat.le_of_ble_eq_true rfl) rfl ?_
  refine K_goto (md := mX11_init) (pc := 188) (tgt := 164) (kTab_at (pc := 188) tX11_init_ok 105 rfl) rfl ?_
  refine K_iload_n (md := mX11_init) (pc := 164) 0 (kTab_at (pc := 164) tX11_init_ok 90 rfl) rfl ?_
  refine K_iconst (md := mX11_init) (pc := 165) (x := 4) (kTab_at (pc := 165) tX11_init_ok 91 rfl) rfl ?_
  refine K_icmp_ge (md := mX11_init) (pc := 166) (A := none) (B := some (μ, 0, 0)) (r := (μ, 0, 0)) (tgt := 191) (kTab_at (pc := 166) tX11_init_ok 92 rfl) rfl rfl (fun h => nomatch h) (fun _ => ?_)
  refine K_aload_n (md := mX11_init) (pc := 169) 1 (kTab_at (pc := 169) tX11_init_ok 93 rfl) rfl ?_
  refine K_getR (md := mX11_init) (pc := 170) (a := b + 0) (b := b + 1) (ci := 11) (k := 1) (kTab_at (pc := 170) tX11_init_ok 94 rfl) fl_X11_7 ((suf_at hb).trans rfl) rfl rfl ?_
  refine K_bipush (md := mX11_init) (pc := 173) (x := 10) (kTab_at (pc := 173) tX11_init_ok 95 rfl) rfl ?_
  refine K_iload_n (md := mX11_init) (pc := 175) 0 (kTab_at (pc := 175) tX11_init_ok 96 rfl) rfl ?_
  refine K_iadd (md := mX11_init) (pc := 176) (x := 10) (y := 1) (kTab_at (pc := 176) tX11_init_ok 97 rfl) ?_
  refine K_bipush (md := mX11_init) (pc := 177) (x := 70) (kTab_at (pc := 177) tX11_init_ok 98 rfl) rfl ?_
  refine K_bipush (md := mX11_init) (pc := 179) (x := 10) (kTab_at (pc := 179) tX11_init_ok 99 rfl) rfl ?_
  refine K_iload_n (md := mX11_init) (pc := 181) 0 (kTab_at (pc := 181) tX11_init_ok 100 rfl) rfl ?_
  refine K_imul (md := mX11_init) (pc := 182) (x := 10) (y := 1) (kTab_at (pc := 182) tX11_init_ok 101 rfl) ?_
  refine K_isub (md := mX11_init) (pc := 183) (x := 70) (y := 10) (kTab_at (pc := 183) tX11_init_ok 102 rfl) ?_
  refine C_iast (md := mX11_init) (pc := 184) (i := 1) (q := 11) (n := 779) (x := 11) (y := 60) (kTab_at (pc := 184) tX11_init_ok 103 rfl) hb rfl (by decide) (by decide) rfl rfl ?_
  refine K_iinc (md := mX11_init) (pc := 185) (l' := [(1, .int (iI 2)), (0, .ref (X.1 + (b + 0)))]) 0 (kTab_at (pc := 185) tX11_init_ok 104 rfl) rfl (Nat.le_of_ble_eq_true rfl) rfl ?_
  refine K_goto (md := mX11_init) (pc := 188) (tgt := 164) (kTab_at (pc := 188) tX11_init_ok 105 rfl) rfl ?_
  refine K_iload_n (md := mX11_init) (pc := 164) 0 (kTab_at (pc := 164) tX11_init_ok 90 rfl) rfl ?_
  refine K_iconst (md := mX11_init) (pc := 165) (x := 4) (kTab_at (pc := 165) tX11_init_ok 91 rfl) rfl ?_
  refine K_icmp_ge (md := mX11_init) (pc := 166) (A := none) (B := some (μ, 0, 0)) (r := (μ, 0, 0)) (tgt := 191) (kTab_at (pc := 166) tX11_init_ok 92 rfl) rfl rfl (fun h => nomatch h) (fun _ => ?_)
  refine K_aload_n (md := mX11_init) (pc := 169) 1 (kTab_at (pc := 169) tX11_init_ok 93 rfl) rfl ?_
  refine K_getR (md := mX11_init) (pc := 170) (a := b + 0) (b := b + 1) (ci := 11) (k := 1) (kTab_at (pc := 170) tX11_init_ok 94 rfl) fl_X11_7 ((suf_at hb).trans rfl) rfl rfl ?_
  refine K_bipush (md := mX11_init) (pc := 173) (x := 10) (kTab_at (pc := 173) tX11_init_ok 95 rfl) rfl ?_
  refine K_iload_n (md := mX11_init) (pc := 175) 0 (kTab_at (pc := 175) tX11_init_ok 96 rfl) rfl ?_
  refine K_iadd (md := mX11_init) (pc := 176) (x := 10) (y := 2) (kTab_at (pc := 176) tX11_init_ok 97 rfl) ?_
  refine K_bipush (md := mX11_init) (pc := 177) (x := 70) (kTab_at (pc := 177) tX11_init_ok 98 rfl) rfl ?_
  refine K_bipush (md := mX11_init) (pc := 179) (x := 10) (kTab_at (pc := 179) tX11_init_ok 99 rfl) rfl ?_
  refine K_iload_n (md := mX11_init) (pc := 181) 0 (kTab_at (pc := 181) tX11_init_ok 100 rfl) rfl ?_
  refine K_imul (md := mX11_init) (pc := 182) (x := 10) (y := 2) (kTab_at (pc := 182) tX11_init_ok 101 rfl) ?_
  refine K_isub (md := mX11_init) (pc := 183) (x := 70) (y := 20) (kTab_at (pc := 183) tX11_init_ok 102 rfl) ?_
  refine C_iast (md := mX11_init) (pc := 184) (i := 1) (q := 12) (n := 779) (x := 12) (y := 50) (kTab_at (pc := 184) tX11_init_ok 103 rfl) hb rfl (by decide) (by decide) rfl rfl ?_
  refine K_iinc (md := mX11_init) (pc := 185) (l' := [(1, .int (iI 3)), (0, .ref (X.1 + (b + 0)))]) 0 (kTab_at (pc := 185) tX11_init_ok 104 rfl) rfl (Nat.le_of_ble_eq_true rfl) rfl ?_
  refine K_goto (md := mX11_init) (pc := 188) (tgt := 164) (kTab_at (pc := 188) tX11_init_ok 105 rfl) rfl ?_
  refine K_iload_n (md := mX11_init) (pc := 164) 0 (kTab_at (pc := 164) tX11_init_ok 90 rfl) rfl ?_
  refine K_iconst (md := mX11_init) (pc := 165) (x := 4) (kTab_at (pc := 165) tX11_init_ok 91 rfl) rfl ?_
  refine K_icmp_ge (md := mX11_init) (pc := 166) (A := none) (B := some (μ, 0, 0)) (r := (μ, 0, 0)) (tgt := 191) (kTab_at (pc := 166) tX11_init_ok 92 rfl) rfl rfl (fun h => nomatch h) (fun _ => ?_)
  refine K_aload_n (md := mX11_init) (pc := 169) 1 (kTab_at (pc := 169) tX11_init_ok 93 rfl) rfl ?_
  refine K_getR (md := mX11_init) (pc := 170) (a := b + 0) (b := b + 1) (ci := 11) (k := 1) (kTab_at (pc := 170) tX11_init_ok 94 rfl) fl_X11_7 ((suf_at hb).trans rfl) rfl rfl ?_
  refine K_bipush (md := mX11_init) (pc := 173) (x := 10) (kTab_at (pc := 173) tX11_init_ok 95 rfl) rfl ?_
  refine K_iload_n (md := mX11_init) (pc := 175) 0 (kTab_at (pc := 175) tX11_init_ok 96 rfl) rfl ?_
  refine K_iadd (md := mX11_init) (pc := 176) (x := 10) (y := 3) (kTab_at (pc := 176) tX11_init_ok 97 rfl) ?_
  refine K_bipush (md := mX11_init) (pc := 177) (x := 70) (kTab_at (pc := 177) tX11_init_ok 98 rfl) rfl ?_
  refine K_bipush (md := mX11_init) (pc := 179) (x := 10) (kTab_at (pc := 179) tX11_init_ok 99 rfl) rfl ?_
  refine K_iload_n (md := mX11_init) (pc := 181) 0 (kTab_at (pc := 181) tX11_init_ok 100 rfl) rfl ?_
  refine K_imul (md := mX11_init) (pc := 182) (x := 10) (y := 3) (kTab_at (pc := 182) tX11_init_ok 101 rfl) ?_
  refine K_isub (md := mX11_init) (pc := 183) (x := 70) (y := 30) (kTab_at (pc := 183) tX11_init_ok 102 rfl) ?_
  refine C_iast (md := mX11_init) (pc := 184) (i := 1) (q := 13) (n := 779) (x := 13) (y := 40) (kTab_at (pc := 184) tX11_init_ok 103 rfl) hb rfl (by decide) (by decide) rfl rfl ?_
  refine K_iinc (md := mX11_init) (pc := 185) (l' := [(1, .int (iI 4)), (0, .ref (X.1 + (b + 0)))]) 0 (kTab_at (pc := 185) tX11_init_ok 104 rfl) rfl (Nat.le_of_ble_eq_true rfl) rfl ?_
  refine K_goto (md := mX11_init) (pc := 188) (tgt := 164) (kTab_at (pc := 188) tX11_init_ok 105 rfl) rfl ?_
  refine K_iload_n (md := mX11_init) (pc := 164) 0 (kTab_at (pc := 164) tX11_init_ok 90 rfl) rfl ?_
  refine K_iconst (md := mX11_init) (pc := 165) (x := 4) (kTab_at (pc := 165) tX11_init_ok 91 rfl) rfl ?_
  refine K_icmp_ge (md := mX11_init) (pc := 166) (A := some (μ, 0, 0)) (B := none) (r := (μ, 0, 0)) (tgt := 191) (kTab_at (pc := 166) tX11_init_ok 92 rfl) rfl rfl (fun _ => ?_) (fun h => nomatch h)
  exact K_vret (md := mX11_init) (pc := 191) (kTab_at (pc := 191) tX11_init_ok 106 rfl) rfl ⟨rfl, rfl, rfl⟩
theorem mi_X11 : kMf mX11_init 0 := ⟨inT6 19 (by decide +kernel) rfl, inT1 13 (by decide +kernel) rfl, by decide +kernel, by decide +kernel⟩

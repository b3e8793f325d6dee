/-! the constructors: a -/
def kN_X0 (b : Nat) : List Kd := [.inr (0, (rfu (rfu (rfu (fun _ => none) 0 (b + 1)) 1 (b + 2)) 2 (b + 3))), .inl (0, 40, fun _ => none), .inl (0, 40, fun _ => none), .inl (0, 40, fun _ => none)]
def n_X0 : Mu := (fun _ _ => 0)
theorem zn_X0 : zb n_X0 4 := (zb_0 _)
theorem hdc_X0 (k : Nat) (hk : k < 4) : ∀ (Cn : String) (Tn : u_T) (N : Nat), kCl[0]? = some (Cn, Tn, N) → (Tn k).1 = mX0_init.1.cls := by
  intro Cn Tn N h
  cases h
  revert k
  decide
set_option maxRecDepth 100000 in
theorem ct_X0 (X : kX) {pre : List Kd} {μ : Mu} {b : Nat} (hb : pre.length = b) (hz : zb μ b) : Ct X mX0_init 1 (pre ++ [.inr (0, fun _ => none)]) true μ 3 120 [.ref (X.1 + b)] (poN (pre ++ kN_X0 b) (putM μ b n_X0)) := by
  refine ct_of (by decide +kernel) rfl (Nat.le_of_ble_eq_true rfl) ?_
  rw [← putM_self hz]
  rw [show putM (putM μ b fun _ _ => 0) b n_X0 = putM μ b n_X0 by rw [putM_self hz]]
  show KJ X mX0_init 1 true _ (pre ++ [.inr (0, fun _ => none)]) 3 120 0 [(0, .ref (X.1 + (b + 0)))] [] (putM μ b (fun _ _ => 0))
  refine K_aload_n (md := mX0_init) (pc := 0) 0 (kTab_at (pc := 0) tX0_init_ok 0 rfl) rfl ?_
  refine K_objInit (md := mX0_init) (pc := 1) (b := b + 0) (kTab_at (pc := 1) tX0_init_ok 1 rfl) (inT1 120 (by decide +kernel) rfl) (inT1 38 (by decide +kernel) rfl) (inT1 39 (by decide +kernel) rfl) (Nat.le_of_ble_eq_true rfl) ?_
  refine K_aload_n (md := mX0_init) (pc := 4) 0 (kTab_at (pc := 4) tX0_init_ok 2 rfl) rfl ?_
  refine K_bipush (md := mX0_init) (pc := 5) (x := 40) (kTab_at (pc := 5) tX0_init_ok 3 rfl) rfl ?_
  refine C_newarr (md := mX0_init) (pc := 7) (c := (fun _ _ => 0)) (suf' := ([.inr (0, (fun _ => none)), .inl (0, 40, fun _ => none)])) (t := 0) (n := 40) (j := 1) (ty := .int) (kTab_at (pc := 7) tX0_init_ok 4 rfl) (inT1 66 (by decide +kernel) rfl) rfl (by decide) (Nat.le_of_ble_eq_true rfl) hb rfl (zb_0 _) rfl ?_
  refine C_putR (md := mX0_init) (pc := 9) (suf' := ([.inr (0, (rfu (fun _ => none) 0 (b + 1))), .inl (0, 40, fun _ => none)])) (rf := (fun _ => none)) (ci := 0) (k := 0) (i := 0) (r := b + 1) (kTab_at (pc := 9) tX0_init_ok 5 rfl) fl_X0_9 rfl (hdc_X0 0 (by decide)) rfl hb rfl rfl ?_
  refine K_aload_n (md := mX0_init) (pc := 12) 0 (kTab_at (pc := 12) tX0_init_ok 6 rfl) rfl ?_
  refine K_bipush (md := mX0_init) (pc := 13) (x := 40) (kTab_at (pc := 13) tX0_init_ok 7 rfl) rfl ?_
  refine C_newarr (md := mX0_init) (pc := 15) (c := (fun _ _ => 0)) (suf' := ([.inr (0, (rfu (fun _ => none) 0 (b + 1))), .inl (0, 40, fun _ => none), .inl (0, 40, fun _ => none)])) (t := 0) (n := 40) (j := 2) (ty := .int) (kTab_at (pc := 15) tX0_init_ok 8 rfl) (inT1 66 (by decide +kernel) rfl) rfl (by decide) (Nat.le_of_ble_eq_true rfl) hb rfl (zb_0 _) rfl ?_
  refine C_putR (md := mX0_init) (pc := 17) (suf' := ([.inr (0, (rfu (rfu (fun _ => none) 0 (b + 1)) 1 (b + 2))), .inl (0, 40, fun _ => none), .inl (0, 40, fun _ => none)])) (rf := (rfu (fun _ => none) 0 (b + 1))) (ci := 0) (k := 1) (i := 0) (r := b + 2) (kTab_at (pc := 17) tX0_init_ok 9 rfl) fl_X0_15 rfl (hdc_X0 1 (by decide)) rfl hb rfl rfl ?_
  refine K_aload_n (md := mX0_init) (pc := 20) 0 (kTab_at (pc := 20) tX0_init_ok 10 rfl) rfl ?_
  refine K_bipush (md := mX0_init) (pc := 21) (x := 40) (kTab_at (pc := 21) tX0_init_ok 11 rfl) rfl ?_
  refine C_newarr (md := mX0_init) (pc := 23) (c := (fun _ _ => 0)) (suf' := ([.inr (0, (rfu (rfu (fun _ => none) 0 (b + 1)) 1 (b + 2))), .inl (0, 40, fun _ => none), .inl (0, 40, fun _ => none), .inl (0, 40, fun _ => none)])) (t := 0) (n := 40) (j := 3) (ty := .int) (kTab_at (pc := 23) tX0_init_ok 12 rfl) (inT1 66 (by decide +kernel) rfl) rfl (by decide) (Nat.le_of_ble_eq_true rfl) hb rfl (zb_0 _) rfl ?_
  refine C_putR (md := mX0_init) (pc := 25) (suf' := ([.inr (0, (rfu (rfu (rfu (fun _ => none) 0 (b + 1)) 1 (b + 2)) 2 (b + 3))), .inl (0, 40, fun _ => none), .inl (0, 40, fun _ => none), .inl (0, 40, fun _ => none)])) (rf := (rfu (rfu (fun _ => none) 0 (b + 1)) 1 (b + 2))) (ci := 0) (k := 2) (i := 0) (r := b + 3) (kTab_at (pc := 25) tX0_init_ok 13 rfl) fl_X0_18 rfl (hdc_X0 2 (by decide)) rfl hb rfl rfl ?_
  exact K_vret (md := mX0_init) (pc := 28) (kTab_at (pc := 28) tX0_init_ok 14 rfl) rfl ⟨rfl, rfl, rfl⟩
theorem mi_X0 : kMf mX0_init 0 := ⟨inT1 119 (by decide +kernel) rfl, inT1 7 (by decide +kernel) rfl, by decide +kernel, by decide +kernel⟩
def kN_X7 (b : Nat) : List Kd := [.inr (7, (rfu (rfu (rfu (fun _ => none) 0 (b + 1)) 1 (b + 2)) 2 (b + 3))), .inl (0, 5, fun _ => none), .inl (0, 25, fun _ => none), .inl (0, 100, fun _ => none)]
def n_X7 : Mu := (fillM (fun _ _ => 0) 3 100 (-1))
theorem zn_X7 : zb n_X7 4 := (zb_fill (zb_0 _) (Nat.le_of_ble_eq_true rfl))
theorem hdc_X7 (k : Nat) (hk : k < 3) : ∀ (Cn : String) (Tn : u_T) (N : Nat), kCl[7]? = some (Cn, Tn, N) → (Tn k).1 = mX7_init.1.cls := by
  intro Cn Tn N h
  cases h
  revert k
  decide
set_option maxRecDepth 100000 in
theorem ct_X7 (X : kX) {pre : List Kd} {μ : Mu} {b : Nat} (hb : pre.length = b) (hz : zb μ b) : Ct X mX7_init 1 (pre ++ [.inr (7, fun _ => none)]) true μ 3 130 [.ref (X.1 + b)] (poN (pre ++ kN_X7 b) (putM μ b n_X7)) := by
  refine ct_of (by decide +kernel) rfl (Nat.le_of_ble_eq_true rfl) ?_
  rw [← putM_self hz]
  rw [show putM (putM μ b fun _ _ => 0) b n_X7 = putM μ b n_X7 by rw [putM_self hz]]
  show KJ X mX7_init 1 true _ (pre ++ [.inr (7, fun _ => none)]) 3 130 0 [(0, .ref (X.1 + (b + 0)))] [] (putM μ b (fun _ _ => 0))
  refine K_aload_n (md := mX7_init) (pc := 0) 0 (kTab_at (pc := 0) tX7_init_ok 0 rfl) rfl ?_
  refine K_objInit (md := mX7_init) (pc := 1) (b := b + 0) (kTab_at (pc := 1) tX7_init_ok 1 rfl) (inT1 51 (by decide +kernel) rfl) (inT1 38 (by decide +kernel) rfl) (inT1 39 (by decide +kernel) rfl) (Nat.le_of_ble_eq_true rfl) ?_
  refine K_aload_n (md := mX7_init) (pc := 4) 0 (kTab_at (pc := 4) tX7_init_ok 2 rfl) rfl ?_
  refine K_iconst (md := mX7_init) (pc := 5) (x := 5) (kTab_at (pc := 5) tX7_init_ok 3 rfl) rfl ?_
  refine C_newarr (md := mX7_init) (pc := 6) (c := (fun _ _ => 0)) (suf' := ([.inr (7, (fun _ => none)), .inl (0, 5, fun _ => none)])) (t := 0) (n := 5) (j := 1) (ty := .int) (kTab_at (pc := 6) tX7_init_ok 4 rfl) (inT1 66 (by decide +kernel) rfl) rfl (by decide) (Nat.le_of_ble_eq_true rfl) hb rfl (zb_0 _) rfl ?_
  refine C_putR (md := mX7_init) (pc := 8) (suf' := ([.inr (7, (rfu (fun _ => none) 0 (b + 1))), .inl (0, 5, fun _ => none)])) (rf := (fun _ => none)) (ci := 7) (k := 0) (i := 0) (r := b + 1) (kTab_at (pc := 8) tX7_init_ok 5 rfl) fl_X7_9 rfl (hdc_X7 0 (by decide)) rfl hb rfl rfl ?_
  refine K_aload_n (md := mX7_init) (pc := 11) 0 (kTab_at (pc := 11) tX7_init_ok 6 rfl) rfl ?_
  refine K_bipush (md := mX7_init) (pc := 12) (x := 25) (kTab_at (pc := 12) tX7_init_ok 7 rfl) rfl ?_
  refine C_newarr (md := mX7_init) (pc := 14) (c := (fun _ _ => 0)) (suf' := ([.inr (7, (rfu (fun _ => none) 0 (b + 1))), .inl (0, 5, fun _ => none), .inl (0, 25, fun _ => none)])) (t := 0) (n := 25) (j := 2) (ty := .int) (kTab_at (pc := 14) tX7_init_ok 8 rfl) (inT1 66 (by decide +kernel) rfl) rfl (by decide) (Nat.le_of_ble_eq_true rfl) hb rfl (zb_0 _) rfl ?_
  refine C_putR (md := mX7_init) (pc := 16) (suf' := ([.inr (7, (rfu (rfu (fun _ => none) 0 (b + 1)) 1 (b + 2))), .inl (0, 5, fun _ => none), .inl (0, 25, fun _ => none)])) (rf := (rfu (fun _ => none) 0 (b + 1))) (ci := 7) (k := 1) (i := 0) (r := b + 2) (kTab_at (pc := 16) tX7_init_ok 9 rfl) fl_X7_15 rfl (hdc_X7 1 (by decide)) rfl hb rfl rfl ?_
  refine K_aload_n (md := mX7_init) (pc := 19) 0 (kTab_at (pc := 19) tX7_init_ok 10 rfl) rfl ?_
  refine K_bipush (md := mX7_init) (pc := 20) (x := 100) (kTab_at (pc := 20) tX7_init_ok 11 rfl) rfl ?_
  refine C_newarr (md := mX7_init) (pc := 22) (c := (fun _ _ => 0)) (suf' := ([.inr (7, (rfu (rfu (fun _ => none) 0 (b + 1)) 1 (b + 2))), .inl (0, 5, fun _ => none), .inl (0, 25, fun _ => none), .inl (0, 100, fun _ => none)])) (t := 0) (n := 100) (j := 3) (ty := .int) (kTab_at (pc := 22) tX7_init_ok 12 rfl) (inT1 66 (by decide +kernel) rfl) rfl (by decide) (Nat.le_of_ble_eq_true rfl) hb rfl (zb_0 _) rfl ?_
  refine C_putR (md := mX7_init) (pc := 24) (suf' := ([.inr (7, (rfu (rfu (rfu (fun _ => none) 0 (b + 1)) 1 (b + 2)) 2 (b + 3))), .inl (0, 5, fun _ => none), .inl (0, 25, fun _ => none), .inl (0, 100, fun _ => none)])) (rf := (rfu (rfu (fun _ => none) 0 (b + 1)) 1 (b + 2))) (ci := 7) (k := 2) (i := 0) (r := b + 3) (kTab_at (pc := 24) tX7_init_ok 13 rfl) fl_X7_18 rfl (hdc_X7 2 (by decide)) rfl hb rfl rfl ?_
  refine K_aload_n (md := mX7_init) (pc := 27) 0 (kTab_at (pc := 27) tX7_init_ok 14 rfl) rfl ?_
  refine K_getR (md := mX7_init) (pc := 28) (a := b + 0) (b := b + 3) (ci := 7) (k := 2) (kTab_at (pc := 28) tX7_init_ok 15 rfl) fl_X7_18 ((suf_at hb).trans rfl) rfl rfl ?_
  refine K_iconst (md := mX7_init) (pc := 31) (x := (-1)) (kTab_at (pc := 31) tX7_init_ok 16 rfl) rfl ?_
  refine C_fill (md := mX7_init) (pc := 32) (d := 1) (st := []) (i := 3) (n := 100) (x := (-1)) (kTab_at (pc := 32) tX7_init_ok 17 rfl) ms_X7_21 (Nat.le_of_ble_eq_true rfl) (Nat.le_of_ble_eq_true rfl) rfl hb rfl (by decide) rfl ?_
  exact K_vret (md := mX7_init) (pc := 35) (kTab_at (pc := 35) tX7_init_ok 18 rfl) rfl ⟨rfl, rfl, rfl⟩
theorem mi_X7 : kMf mX7_init 0 := ⟨inT1 50 (by decide +kernel) rfl, inT1 3 (by decide +kernel) rfl, by decide +kernel, by decide +kernel⟩
def kN_X3 (b : Nat) : List Kd := [.inr (3, (rfu (rfu (rfu (rfu (fun _ => none) 0 (b + 1)) 1 (b + 2)) 2 (b + 3)) 3 (b + 4))), .inl (0, 40, fun _ => none), .inl (0, 120, fun _ => none), .inl (0, 120, fun _ => none), .inl (0, 120, fun _ => none)]
def n_X3 : Mu := (fun _ _ => 0)
theorem zn_X3 : zb n_X3 5 := (zb_0 _)
theorem hdc_X3 (k : Nat) (hk : k < 5) : ∀ (Cn : String) (Tn : u_T) (N : Nat), kCl[3]? = some (Cn, Tn, N) → (Tn k).1 = mX3_init.1.cls := by
  intro Cn Tn N h
  cases h
  revert k
  decide
set_option maxRecDepth 100000 in
theorem ct_X3 (X : kX) {pre : List Kd} {μ : Mu} {b : Nat} (hb : pre.length = b) (hz : zb μ b) : Ct X mX3_init 1 (pre ++ [.inr (3, fun _ => none)]) true μ 4 400 [.ref (X.1 + b)] (poN (pre ++ kN_X3 b) (putM μ b n_X3)) := by
  refine ct_of (by decide +kernel) rfl (Nat.le_of_ble_eq_true rfl) ?_
  rw [← putM_self hz]
  rw [show putM (putM μ b fun _ _ => 0) b n_X3 = putM μ b n_X3 by rw [putM_self hz]]
  show KJ X mX3_init 1 true _ (pre ++ [.inr (3, fun _ => none)]) 4 400 0 [(0, .ref (X.1 + (b + 0)))] [] (putM μ b (fun _ _ => 0))
  refine K_aload_n (md := mX3_init) (pc := 0) 0 (kTab_at (pc := 0) tX3_init_ok 0 rfl) rfl ?_
  refine K_objInit (md := mX3_init) (pc := 1) (b := b + 0) (kTab_at (pc := 1) tX3_init_ok 1 rfl) (inT1 72 (by decide +kernel) rfl) (inT1 38 (by decide +kernel) rfl) (inT1 39 (by decide +kernel) rfl) (Nat.le_of_ble_eq_true rfl) ?_
  refine K_aload_n (md := mX3_init) (pc := 4) 0 (kTab_at (pc := 4) tX3_init_ok 2 rfl) rfl ?_
  refine K_bipush (md := mX3_init) (pc := 5) (x := 40) (kTab_at (pc := 5) tX3_init_ok 3 rfl) rfl ?_
  refine C_newarr (md := mX3_init) (pc := 7) (c := (fun _ _ => 0)) (suf' := ([.inr (3, (fun _ => none)), .inl (0, 40, fun _ => none)])) (t := 0) (n := 40) (j := 1) (ty := .int) (kTab_at (pc := 7) tX3_init_ok 4 rfl) (inT1 66 (by decide +kernel) rfl) rfl (by decide) (Nat.le_of_ble_eq_true rfl) hb rfl (zb_0 _) rfl ?_
  refine C_putR (md := mX3_init) (pc := 9) (suf' := ([.inr (3, (rfu (fun _ => none) 0 (b + 1))), .inl (0, 40, fun _ => none)])) (rf := (fun _ => none)) (ci := 3) (k := 0) (i := 0) (r := b + 1) (kTab_at (pc := 9) tX3_init_ok 5 rfl) fl_X3_9 rfl (hdc_X3 0 (by decide)) rfl hb rfl rfl ?_
  refine K_aload_n (md := mX3_init) (pc := 12) 0 (kTab_at (pc := 12) tX3_init_ok 6 rfl) rfl ?_
  refine K_bipush (md := mX3_init) (pc := 13) (x := 120) (kTab_at (pc := 13) tX3_init_ok 7 rfl) rfl ?_
  refine C_newarr (md := mX3_init) (pc := 15) (c := (fun _ _ => 0)) (suf' := ([.inr (3, (rfu (fun _ => none) 0 (b + 1))), .inl (0, 40, fun _ => none), .inl (0, 120, fun _ => none)])) (t := 0) (n := 120) (j := 2) (ty := .int) (kTab_at (pc := 15) tX3_init_ok 8 rfl) (inT1 66 (by decide +kernel) rfl) rfl (by decide) (Nat.le_of_ble_eq_true rfl) hb rfl (zb_0 _) rfl ?_
  refine C_putR (md := mX3_init) (pc := 17) (suf' := ([.inr (3, (rfu (rfu (fun _ => none) 0 (b + 1)) 1 (b + 2))), .inl (0, 40, fun _ => none), .inl (0, 120, fun _ => none)])) (rf := (rfu (fun _ => none) 0 (b + 1))) (ci := 3) (k := 1) (i := 0) (r := b + 2) (kTab_at (pc := 17) tX3_init_ok 9 rfl) fl_X3_15 rfl (hdc_X3 1 (by decide)) rfl hb rfl rfl ?_
  refine K_aload_n (md := mX3_init) (pc := 20) 0 (kTab_at (pc := 20) tX3_init_ok 10 rfl) rfl ?_
  refine K_bipush (md := mX3_init) (pc := 21) (x := 120) (kTab_at (pc := 21) tX3_init_ok 11 rfl) rfl ?_
  refine C_newarr (md := mX3_init) (pc := 23) (c := (fun _ _ => 0)) (suf' := ([.inr (3, (rfu (rfu (fun _ => none) 0 (b + 1)) 1 (b + 2))), .inl (0, 40, fun _ => none), .inl (0, 120, fun _ => none), .inl (0, 120, fun _ => none)])) (t := 0) (n := 120) (j := 3) (ty := .int) (kTab_at (pc := 23) tX3_init_ok 12 rfl) (inT1 66 (by decide +kernel) rfl) rfl (by decide) (Nat.le_of_ble_eq_true rfl) hb rfl (zb_0 _) rfl ?_
  refine C_putR (md := mX3_init) (pc := 25) (suf' := ([.inr (3, (rfu (rfu (rfu (fun _ => none) 0 (b + 1)) 1 (b + 2)) 2 (b + 3))), .inl (0, 40, fun _ => none), .inl (0, 120, fun _ => none), .inl (0, 120, fun _ => none)])) (rf := (rfu (rfu (fun _ => none) 0 (b + 1)) 1 (b + 2))) (ci := 3) (k := 2) (i := 0) (r := b + 3) (kTab_at (pc := 25) tX3_init_ok 13 rfl) fl_X3_18 rfl (hdc_X3 2 (by decide)) rfl hb rfl rfl ?_
  refine K_aload_n (md := mX3_init) (pc := 28) 0 (kTab_at (pc := 28) tX3_init_ok 14 rfl) rfl ?_
  refine K_bipush (md := mX3_init) (pc := 29) (x := 120) (kTab_at (pc := 29) tX3_init_ok 15 rfl) rfl ?_
  refine C_newarr (md := mX3_init) (pc := 31) (c := (fun _ _ => 0)) (suf' := ([.inr (3, (rfu (rfu (rfu (fun _ => none) 0 (b + 1)) 1 (b + 2)) 2 (b + 3))), .inl (0, 40, fun _ => none), .inl (0, 120, fun _ => none), .inl (0, 120, fun _ => none), .inl (0, 120, fun _ => none)])) (t := 0) (n := 120) (j := 4) (ty := .int) (kTab_at (pc := 31) tX3_init_ok 16 rfl) (inT1 66 (by decide +kernel) rfl) rfl (by decide) (Nat.le_of_ble_eq_true rfl) hb rfl (zb_0 _) rfl ?_
  refine C_putR (md := mX3_init) (pc := 33) (suf' := ([.inr (3, (rfu (rfu (rfu (rfu (fun _ => none) 0 (b + 1)) 1 (b + 2)) 2 (b + 3)) 3 (b + 4))), .inl (0, 40, fun _ => none), .inl (0, 120, fun _ => none), .inl (0, 120, fun _ => none), .inl (0, 120, fun _ => none)])) (rf := (rfu (rfu (rfu (fun _ => none) 0 (b + 1)) 1 (b + 2)) 2 (b + 3))) (ci := 3) (k := 3) (i := 0) (r := b + 4) (kTab_at (pc := 33) tX3_init_ok 17 rfl) fl_X3_21 rfl (hdc_X3 3 (by decide)) rfl hb rfl rfl ?_
  exact K_vret (md := mX3_init) (pc := 36) (kTab_at (pc := 36) tX3_init_ok 18 rfl) rfl ⟨rfl, rfl, rfl⟩
theorem mi_X3 : kMf mX3_init 0 := ⟨inT1 71 (by decide +kernel) rfl, inT1 5 (by decide +kernel) rfl, by decide +kernel, by decide +kernel⟩
def kN_X2 (b : Nat) : List Kd := [.inr (2, (rfu (rfu (fun _ => none) 0 (b + 1)) 1 (b + 2))), .inl (0, 5, fun _ => none), .inl (0, 5, fun _ => none)]
def n_X2 : Mu := (fun _ _ => 0)
theorem zn_X2 : zb n_X2 3 := (zb_0 _)
theorem hdc_X2 (k : Nat) (hk : k < 3) : ∀ (Cn : String) (Tn : u_T) (N : Nat), kCl[2]? = some (Cn, Tn, N) → (Tn k).1 = mX2_init.1.cls := by
  intro Cn Tn N h
  cases h
  revert k
  decide
set_option maxRecDepth 100000 in
theorem ct_X2 (X : kX) {pre : List Kd} {μ : Mu} {b : Nat} (hb : pre.length = b) (hz : zb μ b) : Ct X mX2_init 1 (pre ++ [.inr (2, fun _ => none)]) true μ 2 10 [.ref (X.1 + b)] (poN (pre ++ kN_X2 b) (putM μ b n_X2)) := by
  refine ct_of (by decide +kernel) rfl (Nat.le_of_ble_eq_true rfl) ?_
  rw [← putM_self hz]
  rw [show putM (putM μ b fun _ _ => 0) b n_X2 = putM μ b n_X2 by rw [putM_self hz]]
  show KJ X mX2_init 1 true _ (pre ++ [.inr (2, fun _ => none)]) 2 10 0 [(0, .ref (X.1 + (b + 0)))] [] (putM μ b (fun _ _ => 0))
  refine K_aload_n (md := mX2_init) (pc := 0) 0 (kTab_at (pc := 0) tX2_init_ok 0 rfl) rfl ?_
  refine K_objInit (md := mX2_init) (pc := 1) (b := b + 0) (kTab_at (pc := 1) tX2_init_ok 1 rfl) (inT1 103 (by decide +kernel) rfl) (inT1 38 (by decide +kernel) rfl) (inT1 39 (by decide +kernel) rfl) (Nat.le_of_ble_eq_true rfl) ?_
  refine K_aload_n (md := mX2_init) (pc := 4) 0 (kTab_at (pc := 4) tX2_init_ok 2 rfl) rfl ?_
  refine K_iconst (md := mX2_init) (pc := 5) (x := 5) (kTab_at (pc := 5) tX2_init_ok 3 rfl) rfl ?_
  refine C_newarr (md := mX2_init) (pc := 6) (c := (fun _ _ => 0)) (suf' := ([.inr (2, (fun _ => none)), .inl (0, 5, fun _ => none)])) (t := 0) (n := 5) (j := 1) (ty := .int) (kTab_at (pc := 6) tX2_init_ok 4 rfl) (inT1 66 (by decide +kernel) rfl) rfl (by decide) (Nat.le_of_ble_eq_true rfl) hb rfl (zb_0 _) rfl ?_
  refine C_putR (md := mX2_init) (pc := 8) (suf' := ([.inr (2, (rfu (fun _ => none) 0 (b + 1))), .inl (0, 5, fun _ => none)])) (rf := (fun _ => none)) (ci := 2) (k := 0) (i := 0) (r := b + 1) (kTab_at (pc := 8) tX2_init_ok 5 rfl) fl_X2_9 rfl (hdc_X2 0 (by decide)) rfl hb rfl rfl ?_
  refine K_aload_n (md := mX2_init) (pc := 11) 0 (kTab_at (pc := 11) tX2_init_ok 6 rfl) rfl ?_
  refine K_iconst (md := mX2_init) (pc := 12) (x := 5) (kTab_at (pc := 12) tX2_init_ok 7 rfl) rfl ?_
  refine C_newarr (md := mX2_init) (pc := 13) (c := (fun _ _ => 0)) (suf' := ([.inr (2, (rfu (fun _ => none) 0 (b + 1))), .inl (0, 5, fun _ => none), .inl (0, 5, fun _ => none)])) (t := 0) (n := 5) (j := 2) (ty := .int) (kTab_at (pc := 13) tX2_init_ok 8 rfl) (inT1 66 (by decide +kernel) rfl) rfl (by decide) (Nat.le_of_ble_eq_true rfl) hb rfl (zb_0 _) rfl ?_
  refine C_putR (md := mX2_init) (pc := 15) (suf' := ([.inr (2, (rfu (rfu (fun _ => none) 0 (b + 1)) 1 (b + 2))), .inl (0, 5, fun _ => none), .inl (0, 5, fun _ => none)])) (rf := (rfu (fun _ => none) 0 (b + 1))) (ci := 2) (k := 1) (i := 0) (r := b + 2) (kTab_at (pc := 15) tX2_init_ok 9 rfl) fl_X2_15 rfl (hdc_X2 1 (by decide)) rfl hb rfl rfl ?_
  exact K_vret (md := mX2_init) (pc := 18) (kTab_at (pc := 18) tX2_init_ok 10 rfl) rfl ⟨rfl, rfl, rfl⟩
theorem mi_X2 : kMf mX2_init 0 := ⟨inT1 102 (by decide +kernel) rfl, inT1 6 (by decide +kernel) rfl, by decide +kernel, by decide +kernel⟩
def kN_X1 (b : Nat) : List Kd := [.inr (1, (rfu (rfu (rfu (rfu (rfu (rfu (rfu (rfu (rfu (rfu (rfu (fun _ => none) 0 (b + 1)) 1 (b + 2)) 2 (b + 3)) 3 (b + 4)) 4 (b + 5)) 5 (b + 6)) 6 (b + 7)) 7 (b + 11)) 8 (b + 16)) 9 (b + 19)) 11 (b + 23))), .inl (0, 5, fun _ => none), .inl (0, 5, fun _ => none), .inl (0, 4, fun _ => none), .inl (0, 8, fun _ => none), .inl (0, 8, fun _ => none), .inl (0, 4, fun _ => none)] ++ (kN_X7 (b + 7) ++ (kN_X3 (b + 11) ++ (kN_X2 (b + 16) ++ (kN_X0 (b + 19) ++ ([.inl (0, 3, fun _ => none)])))))
def n_X1 : Mu := (fillM (putM (putM (putM (putM (up2 (up2 (up2 (up2 (up2 (up2 (up2 (up2 (up2 (fun _ _ => 0) 2 0 1) 2 1 6) 2 2 3) 2 3 2) 2 4 30) 3 0 70) 3 1 60) 3 2 50) 3 3 40) 7 n_X7) 11 n_X3) 16 n_X2) 19 n_X0) 1 5 20)
theorem zn_X1 : zb n_X1 24 := (zb_fill (zb_put (zb_mono zn_X0 (Nat.le_of_ble_eq_true rfl)) (Nat.le_of_ble_eq_true rfl)) (Nat.le_of_ble_eq_true rfl))
theorem hdc_X1 (k : Nat) (hk : k < 12) : ∀ (Cn : String) (Tn : u_T) (N : Nat), kCl[1]? = some (Cn, Tn, N) → (Tn k).1 = mX1_init.1.cls := by
  intro Cn Tn N h
  cases h
  revert k
  decide
set_option maxRecDepth 100000 in
theorem ct_X1 (X : kX) {pre : List Kd} {μ : Mu} {b : Nat} (hb : pre.length = b) (hz : zb μ b) : Ct X mX1_init 2 (pre ++ [.inr (1, fun _ => none)]) true μ 23 712 [.ref (X.1 + b)] (poN (pre ++ kN_X1 b) (putM μ b n_X1)) := by
  refine ct_of (by decide +kernel) rfl (Nat.le_of_ble_eq_true rfl) ?_
  rw [← putM_self hz]
  rw [show putM (putM μ b fun _ _ => 0) b n_X1 = putM μ b n_X1 by rw [putM_self hz]]
  show KJ X mX1_init 2 true _ (pre ++ [.inr (1, fun _ => none)]) 23 712 0 [(0, .ref (X.1 + (b + 0)))] [] (putM μ b (fun _ _ => 0))
  refine K_aload_n (md := mX1_init) (pc := 0) 0 (kTab_at (pc := 0) tX1_init_ok 0 rfl) rfl ?_
  refine K_objInit (md := mX1_init) (pc := 1) (b := b + 0) (kTab_at (pc := 1) tX1_init_ok 1 rfl) (inT1 45 (by decide +kernel) rfl) (inT1 38 (by decide +kernel) rfl) (inT1 39 (by decide +kernel) rfl) (Nat.le_of_ble_eq_true rfl) ?_
  refine K_aload_n (md := mX1_init) (pc := 4) 0 (kTab_at (pc := 4) tX1_init_ok 2 rfl) rfl ?_
  refine K_iconst (md := mX1_init) (pc := 5) (x := 5) (kTab_at (pc := 5) tX1_init_ok 3 rfl) rfl ?_
  refine C_newarr (md := mX1_init) (pc := 6) (c := (fun _ _ => 0)) (suf' := ([.inr (1, (fun _ => none)), .inl (0, 5, fun _ => none)])) (t := 0) (n := 5) (j := 1) (ty := .int) (kTab_at (pc := 6) tX1_init_ok 4 rfl) (inT1 66 (by decide +kernel) rfl) rfl (by decide) (Nat.le_of_ble_eq_true rfl) hb rfl (zb_0 _) rfl ?_
  refine C_putR (md := mX1_init) (pc := 8) (suf' := ([.inr (1, (rfu (fun _ => none) 0 (b + 1))), .inl (0, 5, fun _ => none)])) (rf := (fun _ => none)) (ci := 1) (k := 0) (i := 0) (r := b + 1) (kTab_at (pc := 8) tX1_init_ok 5 rfl) fl_X1_9 rfl (hdc_X1 0 (by decide)) rfl hb rfl rfl ?_
  refine K_aload_n (md := mX1_init) (pc := 11) 0 (kTab_at (pc := 11) tX1_init_ok 6 rfl) rfl ?_
  refine K_iconst (md := mX1_init) (pc := 12) (x := 5) (kTab_at (pc := 12) tX1_init_ok 7 rfl) rfl ?_
  refine C_newarr (md := mX1_init) (pc := 13) (c := (fun _ _ => 0)) (suf' := ([.inr (1, (rfu (fun _ => none) 0 (b + 1))), .inl (0, 5, fun _ => none), .inl (0, 5, fun _ => none)])) (t := 0) (n := 5) (j := 2) (ty := .int) (kTab_at (pc := 13) tX1_init_ok 8 rfl) (inT1 66 (by decide +kernel) rfl) rfl (by decide) (Nat.le_of_ble_eq_true rfl) hb rfl (zb_0 _) rfl ?_
  refine K_dup (md := mX1_init) (pc := 15) (kTab_at (pc := 15) tX1_init_ok 9 rfl) rfl ?_
  refine K_iconst (md := mX1_init) (pc := 16) (x := 0) (kTab_at (pc := 16) tX1_init_ok 10 rfl) rfl ?_
  refine K_iconst (md := mX1_init) (pc := 17) (x := 1) (kTab_at (pc := 17) tX1_init_ok 11 rfl) rfl ?_
  refine C_iast (md := mX1_init) (pc := 18) (i := 2) (q := 0) (n := 5) (x := 0) (y := 1) (kTab_at (pc := 18) tX1_init_ok 12 rfl) hb rfl (by decide) (by decide) rfl rfl ?_
  refine K_dup (md := mX1_init) (pc := 19) (kTab_at (pc := 19) tX1_init_ok 13 rfl) rfl ?_
  refine K_iconst (md := mX1_init) (pc := 20) (x := 1) (kTab_at (pc := 20) tX1_init_ok 14 rfl) rfl ?_
  refine K_bipush (md := mX1_init) (pc := 21) (x := 6) (kTab_at (pc := 21) tX1_init_ok 15 rfl) rfl ?_
  refine C_iast (md := mX1_init) (pc := 23) (i := 2) (q := 1) (n := 5) (x := 1) (y := 6) (kTab_at (pc := 23) tX1_init_ok 16 rfl) hb rfl (by decide) (by decide) rfl rfl ?_
  refine K_dup (md := mX1_init) (pc := 24) (kTab_at (pc := 24) tX1_init_ok 17 rfl) rfl ?_
  refine K_iconst (md := mX1_init) (pc := 25) (x := 2) (kTab_at (pc := 25) tX1_init_ok 18 rfl) rfl ?_
  refine K_iconst (md := mX1_init) (pc := 26) (x := 3) (kTab_at (pc := 26) tX1_init_ok 19 rfl) rfl ?_
  refine C_iast (md := mX1_init) (pc := 27) (i := 2) (q := 2) (n := 5) (x := 2) (y := 3) (kTab_at (pc := 27) tX1_init_ok 20 rfl) hb rfl (by decide) (by decide) rfl rfl ?_
  refine K_dup (md := mX1_init) (pc := 28) (kTab_at (pc := 28) tX1_init_ok 21 rfl) rfl ?_
  refine K_iconst (md := mX1_init) (pc := 29) (x := 3) (kTab_at (pc := 29) tX1_init_ok 22 rfl) rfl ?_
  refine K_iconst (md := mX1_init) (pc := 30) (x := 2) (kTab_at (pc := 30) tX1_init_ok 23 rfl) rfl ?_
  refine C_iast (md := mX1_init) (pc := 31) (i := 2) (q := 3) (n := 5) (x := 3) (y := 2) (kTab_at (pc := 31) tX1_init_ok 24 rfl) hb rfl (by decide) (by decide) rfl rfl ?_
  refine K_dup (md := mX1_init) (pc := 32) (kTab_at (pc := 32) tX1_init_ok 25 rfl) rfl ?_
  refine K_iconst (md := mX1_init) (pc := 33) (x := 4) (kTab_at (pc := 33) tX1_init_ok 26 rfl) rfl ?_
  refine K_bipush (md := mX1_init) (pc := 34) (x := 30) (kTab_at (pc := 34) tX1_init_ok 27 rfl) rfl ?_
  refine C_iast (md := mX1_init) (pc := 36) (i := 2) (q := 4) (n := 5) (x := 4) (y := 30) (kTab_at (pc := 36) tX1_init_ok 28 rfl) hb rfl (by decide) (by decide) rfl rfl ?_
  refine C_putR (md := mX1_init) (pc := 37) (suf' := ([.inr (1, (rfu (rfu (fun _ => none) 0 (b + 1)) 1 (b + 2))), .inl (0, 5, fun _ => none), .inl (0, 5, fun _ => none)])) (rf := (rfu (fun _ => none) 0 (b + 1))) (ci := 1) (k := 1) (i := 0) (r := b + 2) (kTab_at (pc := 37) tX1_init_ok 29 rfl) fl_X1_15 rfl (hdc_X1 1 (by decide)) rfl hb rfl rfl ?_
  refine K_aload_n (md := mX1_init) (pc := 40) 0 (kTab_at (pc := 40) tX1_init_ok 30 rfl) rfl ?_
  refine K_iconst (md := mX1_init) (pc := 41) (x := 4) (kTab_at (pc := 41) tX1_init_ok 31 rfl) rfl ?_
  refine C_newarr (md := mX1_init) (pc := 42) (c := (up2 (up2 (up2 (up2 (up2 (fun _ _ => 0) 2 0 1) 2 1 6) 2 2 3) 2 3 2) 2 4 30)) (suf' := ([.inr (1, (rfu (rfu (fun _ => none) 0 (b + 1)) 1 (b + 2))), .inl (0, 5, fun _ => none), .inl (0, 5, fun _ => none), .inl (0, 4, fun _ => none)])) (t := 0) (n := 4) (j := 3) (ty := .int) (kTab_at (pc := 42) tX1_init_ok 32 rfl) (inT1 66 (by decide +kernel) rfl) rfl (by decide) (Nat.le_of_ble_eq_true rfl) hb rfl (zb_up (zb_up (zb_up (zb_up (zb_up (zb_0 _) (Nat.le_of_ble_eq_true rfl)) (Nat.le_of_ble_eq_true rfl)) (Nat.le_of_ble_eq_true rfl)) (Nat.le_of_ble_eq_true rfl)) (Nat.le_of_ble_eq_true rfl)) rfl ?_
  refine K_dup (md := mX1_init) (pc := 44) (kTab_at (pc := 44) tX1_init_ok 33 rfl) rfl ?_
  refine K_iconst (md := mX1_init) (pc := 45) (x := 0) (kTab_at (pc := 45) tX1_init_ok 34 rfl) rfl ?_
  refine K_bipush (md := mX1_init) (pc := 46) (x := 70) (kTab_at (pc := 46) tX1_init_ok 35 rfl) rfl ?_
  refine C_iast (md := mX1_init) (pc := 48) (i := 3) (q := 0) (n := 4) (x := 0) (y := 70) (kTab_at (pc := 48) tX1_init_ok 36 rfl) hb rfl (by decide) (by decide) rfl rfl ?_
  refine K_dup (md := mX1_init) (pc := 49) (kTab_at (pc := 49) tX1_init_ok 37 rfl) rfl ?_
  refine K_iconst (md := mX1_init) (pc := 50) (x := 1) (kTab_at (pc := 50) tX1_init_ok 38 rfl) rfl ?_
  refine K_bipush (md := mX1_init) (pc := 51) (x := 60) (kTab_at (pc := 51) tX1_init_ok 39 rfl) rfl ?_
  refine C_iast (md := mX1_init) (pc := 53) (i := 3) (q := 1) (n := 4) (x := 1) (y := 60) (kTab_at (pc := 53) tX1_init_ok 40 rfl) hb rfl (by decide) (by decide) rfl rfl ?_
  refine K_dup (md := mX1_init) (pc := 54) (kTab_at (pc := 54) tX1_init_ok 41 rfl) rfl ?_
  refine K_iconst (md := mX1_init) (pc := 55) (x := 2) (kTab_at (pc := 55) tX1_init_ok 42 rfl) rfl ?_
  refine K_bipush (md := mX1_init) (pc := 56) (x := 50) (kTab_at (pc := 56) tX1_init_ok 43 rfl) rfl ?_
  refine C_iast (md := mX1_init) (pc := 58) (i := 3) (q := 2) (n := 4) (x := 2) (y := 50) (kTab_at (pc := 58) tX1_init_ok 44 rfl) hb rfl (by decide) (by decide) rfl rfl ?_
  refine K_dup (md := mX1_init) (pc := 59) (kTab_at (pc := 59) tX1_init_ok 45 rfl) rfl ?_
  refine K_iconst (md := mX1_init) (pc := 60) (x := 3) (kTab_at (pc := 60) tX1_init_ok 46 rfl) rfl ?_
  refine K_bipush (md := mX1_init) (pc := 61) (x := 40) (kTab_at (pc := 61) tX1_init_ok 47 rfl) rfl ?_
  refine C_iast (md := mX1_init) (pc := 63) (i := 3) (q := 3) (n := 4) (x := 3) (y := 40) (kTab_at (pc := 63) tX1_init_ok 48 rfl) hb rfl (by decide) (by decide) rfl rfl ?_
  refine C_putR (md := mX1_init) (pc := 64) (suf' := ([.inr (1, (rfu (rfu (rfu (fun _ => none) 0 (b + 1)) 1 (b + 2)) 2 (b + 3))), .inl (0, 5, fun _ => none), .inl (0, 5, fun _ => none), .inl (0, 4, fun _ => none)])) (rf := (rfu (rfu (fun _ => none) 0 (b + 1)) 1 (b + 2))) (ci := 1) (k := 2) (i := 0) (r := b + 3) (kTab_at (pc := 64) tX1_init_ok 49 rfl) fl_X1_18 rfl (hdc_X1 2 (by decide)) rfl hb rfl rfl ?_
  refine K_aload_n (md := mX1_init) (pc := 67) 0 (kTab_at (pc := 67) tX1_init_ok 50 rfl) rfl ?_
  refine K_bipush (md := mX1_init) (pc := 68) (x := 8) (kTab_at (pc := 68) tX1_init_ok 51 rfl) rfl ?_
  refine C_newarr (md := mX1_init) (pc := 70) (c := (up2 (up2 (up2 (up2 (up2 (up2 (up2 (up2 (up2 (fun _ _ => 0) 2 0 1) 2 1 6) 2 2 3) 2 3 2) 2 4 30) 3 0 70) 3 1 60) 3 2 50) 3 3 40)) (suf' := ([.inr (1, (rfu (rfu (rfu (fun _ => none) 0 (b + 1)) 1 (b + 2)) 2 (b + 3))), .inl (0, 5, fun _ => none), .inl (0, 5, fun _ => none), .inl (0, 4, fun _ => none), .inl (0, 8, fun _ => none)])) (t := 0) (n := 8) (j := 4) (ty := .int) (kTab_at (pc := 70) tX1_init_ok 52 rfl) (inT1 66 (by decide +kernel) rfl) rfl (by decide) (Nat.le_of_ble_eq_true rfl) hb rfl (zb_up (zb_up (zb_up (zb_up (zb_up (zb_up (zb_up (zb_up (zb_up (zb_0 _) (Nat.le_of_ble_eq_true rfl)) (Nat.le_of_ble_eq_true rfl)) (Nat.le_of_ble_eq_true rfl)) (Nat.le_of_ble_eq_true rfl)) (Nat.le_of_ble_eq_true rfl)) (Nat.le_of_ble_eq_true rfl)) (Nat.le_of_ble_eq_true rfl)) (Nat.le_of_ble_eq_true rfl)) (Nat.le_of_ble_eq_true rfl)) rfl ?_
  refine C_putR (md := mX1_init) (pc := 72) (suf' := ([.inr (1, (rfu (rfu (rfu (rfu (fun _ => none) 0 (b + 1)) 1 (b + 2)) 2 (b + 3)) 3 (b + 4))), .inl (0, 5, fun _ => none), .inl (0, 5, fun _ => none), .inl (0, 4, fun _ => none), .inl (0, 8, fun _ => none)])) (rf := (rfu (rfu (rfu (fun _ => none) 0 (b + 1)) 1 (b + 2)) 2 (b + 3))) (ci := 1) (k := 3) (i := 0) (r := b + 4) (kTab_at (pc := 72) tX1_init_ok 53 rfl) fl_X1_21 rfl (hdc_X1 3 (by decide)) rfl hb rfl rfl ?_
  refine K_aload_n (md := mX1_init) (pc := 75) 0 (kTab_at (pc := 75) tX1_init_ok 54 rfl) rfl ?_
  refine K_bipush (md := mX1_init) (pc := 76) (x := 8) (kTab_at (pc := 76) tX1_init_ok 55 rfl) rfl ?_
  refine C_newarr (md := mX1_init) (pc := 78) (c := (up2 (up2 (up2 (up2 (up2 (up2 (up2 (up2 (up2 (fun _ _ => 0) 2 0 1) 2 1 6) 2 2 3) 2 3 2) 2 4 30) 3 0 70) 3 1 60) 3 2 50) 3 3 40)) (suf' := ([.inr (1, (rfu (rfu (rfu (rfu (fun _ => none) 0 (b + 1)) 1 (b + 2)) 2 (b + 3)) 3 (b + 4))), .inl (0, 5, fun _ => none), .inl (0, 5, fun _ => none), .inl (0, 4, fun _ => none), .inl (0, 8, fun _ => none), .inl (0, 8, fun _ => none)])) (t := 0) (n := 8) (j := 5) (ty := .int) (kTab_at (pc := 78) tX1_init_ok 56 rfl) (inT1 66 (by decide +kernel) rfl) rfl (by decide) (Nat.le_of_ble_eq_true rfl) hb rfl (zb_up (zb_up (zb_up (zb_up (zb_up (zb_up (zb_up (zb_up (zb_up (zb_0 _) (Nat.le_of_ble_eq_true rfl)) (Nat.le_of_ble_eq_true rfl)) (Nat.le_of_ble_eq_true rfl)) (Nat.le_of_ble_eq_true rfl)) (Nat.le_of_ble_eq_true rfl)) (Nat.le_of_ble_eq_true rfl)) (Nat.le_of_ble_eq_true rfl)) (Nat.le_of_ble_eq_true rfl)) (Nat.le_of_ble_eq_true rfl)) rfl ?_
  refine C_putR (md := mX1_init) (pc := 80) (suf' := ([.inr (1, (rfu (rfu (rfu (rfu (rfu (fun _ => none) 0 (b + 1)) 1 (b + 2)) 2 (b + 3)) 3 (b + 4)) 4 (b + 5))), .inl (0, 5, fun _ => none), .inl (0, 5, fun _ => none), .inl (0, 4, fun _ => none), .inl (0, 8, fun _ => none), .inl (0, 8, fun _ => none)])) (rf := (rfu (rfu (rfu (rfu (fun _ => none) 0 (b + 1)) 1 (b + 2)) 2 (b + 3)) 3 (b + 4))) (ci := 1) (k := 4) (i := 0) (r := b + 5) (kTab_at (pc := 80) tX1_init_ok 57 rfl) fl_X1_24 rfl (hdc_X1 4 (by decide)) rfl hb rfl rfl ?_
  refine K_aload_n (md := mX1_init) (pc := 83) 0 (kTab_at (pc := 83) tX1_init_ok 58 rfl) rfl ?_
  refine K_iconst (md := mX1_init) (pc := 84) (x := 4) (kTab_at (pc := 84) tX1_init_ok 59 rfl) rfl ?_
  refine C_newarr (md := mX1_init) (pc := 85) (c := (up2 (up2 (up2 (up2 (up2 (up2 (up2 (up2 (up2 (fun _ _ => 0) 2 0 1) 2 1 6) 2 2 3) 2 3 2) 2 4 30) 3 0 70) 3 1 60) 3 2 50) 3 3 40)) (suf' := ([.inr (1, (rfu (rfu (rfu (rfu (rfu (fun _ => none) 0 (b + 1)) 1 (b + 2)) 2 (b + 3)) 3 (b + 4)) 4 (b + 5))), .inl (0, 5, fun _ => none), .inl (0, 5, fun _ => none), .inl (0, 4, fun _ => none), .inl (0, 8, fun _ => none), .inl (0, 8, fun _ => none), .inl (0, 4, fun _ => none)])) (t := 0) (n := 4) (j := 6) (ty := .int) (kTab_at (pc := 85) tX1_init_ok 60 rfl) (inT1 66 (by decide +kernel) rfl) rfl (by decide) (Nat.le_of_ble_eq_true rfl) hb rfl (zb_up (zb_up (zb_up (zb_up (zb_up (zb_up (zb_up (zb_up (zb_up (zb_0 _) (Nat.le_of_ble_eq_true rfl)) (Nat.le_of_ble_eq_true rfl)) (Nat.le_of_ble_eq_true rfl)) (Nat.le_of_ble_eq_true rfl)) (Nat.le_of_ble_eq_true rfl)) (Nat.le_of_ble_eq_true rfl)) (Nat.le_of_ble_eq_true rfl)) (Nat.le_of_ble_eq_true rfl)) (Nat.le_of_ble_eq_true rfl)) rfl ?_
  refine C_putR (md := mX1_init) (pc := 87) (suf' := ([.inr (1, (rfu (rfu (rfu (rfu (rfu (rfu (fun _ => none) 0 (b + 1)) 1 (b + 2)) 2 (b + 3)) 3 (b + 4)) 4 (b + 5)) 5 (b + 6))), .inl (0, 5, fun _ => none), .inl (0, 5, fun _ => none), .inl (0, 4, fun _ => none), .inl (0, 8, fun _ => none), .inl (0, 8, fun _ => none), .inl (0, 4, fun _ => none)])) (rf := (rfu (rfu (rfu (rfu (rfu (fun _ => none) 0 (b + 1)) 1 (b + 2)) 2 (b + 3)) 3 (b + 4)) 4 (b + 5))) (ci := 1) (k := 5) (i := 0) (r := b + 6) (kTab_at (pc := 87) tX1_init_ok 61 rfl) fl_X1_27 rfl (hdc_X1 5 (by decide)) rfl hb rfl rfl ?_
  refine K_aload_n (md := mX1_init) (pc := 90) 0 (kTab_at (pc := 90) tX1_init_ok 62 rfl) rfl ?_
  refine C_new (md := mX1_init) (pc := 91) (c := (up2 (up2 (up2 (up2 (up2 (up2 (up2 (up2 (up2 (fun _ _ => 0) 2 0 1) 2 1 6) 2 2 3) 2 3 2) 2 4 30) 3 0 70) 3 1 60) 3 2 50) 3 3 40)) (suf' := (([.inr (1, (rfu (rfu (rfu (rfu (rfu (rfu (fun _ => none) 0 (b + 1)) 1 (b + 2)) 2 (b + 3)) 3 (b + 4)) 4 (b + 5)) 5 (b + 6))), .inl (0, 5, fun _ => none), .inl (0, 5, fun _ => none), .inl (0, 4, fun _ => none), .inl (0, 8, fun _ => none), .inl (0, 8, fun _ => none), .inl (0, 4, fun _ => none)]) ++ [.inr (7, fun _ => none)])) (ci := 7) (C := RX7) (T := TX7) (N := 3) (j := 7) (kTab_at (pc := 91) tX1_init_ok 63 rfl) cf_X7 (inT1 46 (by decide +kernel) rfl) (inT1 47 (by decide +kernel) rfl) (inT1 3 (by decide +kernel) rfl) (by decide) hb rfl (zb_up (zb_up (zb_up (zb_up (zb_up (zb_up (zb_up (zb_up (zb_up (zb_0 _) (Nat.le_of_ble_eq_true rfl)) (Nat.le_of_ble_eq_true rfl)) (Nat.le_of_ble_eq_true rfl)) (Nat.le_of_ble_eq_true rfl)) (Nat.le_of_ble_eq_true rfl)) (Nat.le_of_ble_eq_true rfl)) (Nat.le_of_ble_eq_true rfl)) (Nat.le_of_ble_eq_true rfl)) (Nat.le_of_ble_eq_true rfl)) rfl ?_
  refine K_dup (md := mX1_init) (pc := 94) (kTab_at (pc := 94) tX1_init_ok 64 rfl) rfl ?_
  refine C_callI (md := mX1_init) (pc := 95) (d := 2) (st := [.ref (X.1 + (b + 7)), .ref (X.1 + (b + 0))]) (c := (up2 (up2 (up2 (up2 (up2 (up2 (up2 (up2 (up2 (fun _ _ => 0) 2 0 1) 2 1 6) 2 2 3) 2 3 2) 2 4 30) 3 0 70) 3 1 60) 3 2 50) 3 3 40)) (suf := ([.inr (1, (rfu (rfu (rfu (rfu (rfu (rfu (fun _ => none) 0 (b + 1)) 1 (b + 2)) 2 (b + 3)) 3 (b + 4)) 4 (b + 5)) 5 (b + 6))), .inl (0, 5, fun _ => none), .inl (0, 5, fun _ => none), .inl (0, 4, fun _ => none), .inl (0, 8, fun _ => none), .inl (0, 8, fun _ => none), .inl (0, 4, fun _ => none)])) (suf' := ([.inr (1, (rfu (rfu (rfu (rfu (rfu (rfu (fun _ => none) 0 (b + 1)) 1 (b + 2)) 2 (b + 3)) 3 (b + 4)) 4 (b + 5)) 5 (b + 6))), .inl (0, 5, fun _ => none), .inl (0, 5, fun _ => none), .inl (0, 4, fun _ => none), .inl (0, 8, fun _ => none), .inl (0, 8, fun _ => none), .inl (0, 4, fun _ => none)] ++ (kN_X7 (b + 7)))) (mdY := mX7_init) (d' := 1) (mcY := 3) (msY := 130) (j := 7) (ks := kN_X7) (m0 := n_X7) (kTab_at (pc := 95) tX1_init_ok 65 rfl) (inT1 48 (by decide +kernel) rfl) (inT1 49 (by decide +kernel) rfl) mi_X7 rfl rfl (Nat.le_of_ble_eq_true rfl) (Nat.le_of_ble_eq_true rfl) hb rfl (fun pre0 μ0 b0 h0 z0 => ct_X7 X h0 z0) (zb_up (zb_up (zb_up (zb_up (zb_up (zb_up (zb_up (zb_up (zb_up (zb_0 _) (Nat.le_of_ble_eq_true rfl)) (Nat.le_of_ble_eq_true rfl)) (Nat.le_of_ble_eq_true rfl)) (Nat.le_of_ble_eq_true rfl)) (Nat.le_of_ble_eq_true rfl)) (Nat.le_of_ble_eq_true rfl)) (Nat.le_of_ble_eq_true rfl)) (Nat.le_of_ble_eq_true rfl)) (Nat.le_of_ble_eq_true rfl)) rfl rfl rfl ?_
  refine C_putR (md := mX1_init) (pc := 98) (suf' := ([.inr (1, (rfu (rfu (rfu (rfu (rfu (rfu (rfu (fun _ => none) 0 (b + 1)) 1 (b + 2)) 2 (b + 3)) 3 (b + 4)) 4 (b + 5)) 5 (b + 6)) 6 (b + 7))), .inl (0, 5, fun _ => none), .inl (0, 5, fun _ => none), .inl (0, 4, fun _ => none), .inl (0, 8, fun _ => none), .inl (0, 8, fun _ => none), .inl (0, 4, fun _ => none)] ++ (kN_X7 (b + 7)))) (rf := (rfu (rfu (rfu (rfu (rfu (rfu (fun _ => none) 0 (b + 1)) 1 (b + 2)) 2 (b + 3)) 3 (b + 4)) 4 (b + 5)) 5 (b + 6))) (ci := 1) (k := 6) (i := 0) (r := b + 7) (kTab_at (pc := 98) tX1_init_ok 66 rfl) fl_X1_33 rfl (hdc_X1 6 (by decide)) rfl hb rfl rfl ?_
  refine K_aload_n (md := mX1_init) (pc := 101) 0 (kTab_at (pc := 101) tX1_init_ok 67 rfl) rfl ?_
  refine C_new (md := mX1_init) (pc := 102) (c := (putM (up2 (up2 (up2 (up2 (up2 (up2 (up2 (up2 (up2 (fun _ _ => 0) 2 0 1) 2 1 6) 2 2 3) 2 3 2) 2 4 30) 3 0 70) 3 1 60) 3 2 50) 3 3 40) 7 n_X7)) (suf' := (([.inr (1, (rfu (rfu (rfu (rfu (rfu (rfu (rfu (fun _ => none) 0 (b + 1)) 1 (b + 2)) 2 (b + 3)) 3 (b + 4)) 4 (b + 5)) 5 (b + 6)) 6 (b + 7))), .inl (0, 5, fun _ => none), .inl (0, 5, fun _ => none), .inl (0, 4, fun _ => none), .inl (0, 8, fun _ => none), .inl (0, 8, fun _ => none), .inl (0, 4, fun _ => none)] ++ (kN_X7 (b + 7))) ++ [.inr (3, fun _ => none)])) (ci := 3) (C := RX3) (T := TX3) (N := 5) (j := 11) (kTab_at (pc := 102) tX1_init_ok 68 rfl) cf_X3 (inT1 67 (by decide +kernel) rfl) (inT1 68 (by decide +kernel) rfl) (inT1 5 (by decide +kernel) rfl) (by decide) hb rfl (zb_put (zb_mono zn_X7 (Nat.le_of_ble_eq_true rfl)) (Nat.le_of_ble_eq_true rfl)) rfl ?_
  refine K_dup (md := mX1_init) (pc := 105) (kTab_at (pc := 105) tX1_init_ok 69 rfl) rfl ?_
  refine C_callIN (md := mX1_init) (pc := 106) (d := 2) (st := [.ref (X.1 + (b + 11)), .ref (X.1 + (b + 0))]) (c := (putM (up2 (up2 (up2 (up2 (up2 (up2 (up2 (up2 (up2 (fun _ _ => 0) 2 0 1) 2 1 6) 2 2 3) 2 3 2) 2 4 30) 3 0 70) 3 1 60) 3 2 50) 3 3 40) 7 n_X7)) (suf := ([.inr (1, (rfu (rfu (rfu (rfu (rfu (rfu (rfu (fun _ => none) 0 (b + 1)) 1 (b + 2)) 2 (b + 3)) 3 (b + 4)) 4 (b + 5)) 5 (b + 6)) 6 (b + 7))), .inl (0, 5, fun _ => none), .inl (0, 5, fun _ => none), .inl (0, 4, fun _ => none), .inl (0, 8, fun _ => none), .inl (0, 8, fun _ => none), .inl (0, 4, fun _ => none)] ++ (kN_X7 (b + 7)))) (suf' := ([.inr (1, (rfu (rfu (rfu (rfu (rfu (rfu (rfu (fun _ => none) 0 (b + 1)) 1 (b + 2)) 2 (b + 3)) 3 (b + 4)) 4 (b + 5)) 5 (b + 6)) 6 (b + 7))), .inl (0, 5, fun _ => none), .inl (0, 5, fun _ => none), .inl (0, 4, fun _ => none), .inl (0, 8, fun _ => none), .inl (0, 8, fun _ => none), .inl (0, 4, fun _ => none)] ++ (kN_X7 (b + 7) ++ (kN_X3 (b + 11))))) (mdY := mX3_init) (d' := 1) (mcY := 4) (msY := 400) (j := 11) (ks := kN_X3) (m0 := n_X3) (host := "ExamMarker") (kTab_at (pc := 106) tX1_init_ok 70 rfl) (by decide +kernel) (inT1 70 (by decide +kernel) rfl) mi_X3 rfl rfl (Nat.le_of_ble_eq_true rfl) (Nat.le_of_ble_eq_true rfl) hb rfl (fun pre0 μ0 b0 h0 z0 => ct_X3 X h0 z0) (zb_put (zb_mono zn_X7 (Nat.le_of_ble_eq_true rfl)) (Nat.le_of_ble_eq_true rfl)) rfl rfl rfl ?_
  refine C_putR (md := mX1_init) (pc := 109) (suf' := ([.inr (1, (rfu (rfu (rfu (rfu (rfu (rfu (rfu (rfu (fun _ => none) 0 (b + 1)) 1 (b + 2)) 2 (b + 3)) 3 (b + 4)) 4 (b + 5)) 5 (b + 6)) 6 (b + 7)) 7 (b + 11))), .inl (0, 5, fun _ => none), .inl (0, 5, fun _ => none), .inl (0, 4, fun _ => none), .inl (0, 8, fun _ => none), .inl (0, 8, fun _ => none), .inl (0, 4, fun _ => none)] ++ (kN_X7 (b + 7) ++ (kN_X3 (b + 11))))) (rf := (rfu (rfu (rfu (rfu (rfu (rfu (rfu (fun _ => none) 0 (b + 1)) 1 (b + 2)) 2 (b + 3)) 3 (b + 4)) 4 (b + 5)) 5 (b + 6)) 6 (b + 7))) (ci := 1) (k := 7) (i := 0) (r := b + 11) (kTab_at (pc := 109) tX1_init_ok 71 rfl) fl_X1_40 rfl (hdc_X1 7 (by decide)) rfl hb rfl rfl ?_
  refine K_aload_n (md := mX1_init) (pc := 112) 0 (kTab_at (pc := 112) tX1_init_ok 72 rfl) rfl ?_
  refine C_new (md := mX1_init) (pc := 113) (c := (putM (putM (up2 (up2 (up2 (up2 (up2 (up2 (up2 (up2 (up2 (fun _ _ => 0) 2 0 1) 2 1 6) 2 2 3) 2 3 2) 2 4 30) 3 0 70) 3 1 60) 3 2 50) 3 3 40) 7 n_X7) 11 n_X3)) (suf' := (([.inr (1, (rfu (rfu (rfu (rfu (rfu (rfu (rfu (rfu (fun _ => none) 0 (b + 1)) 1 (b + 2)) 2 (b + 3)) 3 (b + 4)) 4 (b + 5)) 5 (b + 6)) 6 (b + 7)) 7 (b + 11))), .inl (0, 5, fun _ => none), .inl (0, 5, fun _ => none), .inl (0, 4, fun _ => none), .inl (0, 8, fun _ => none), .inl (0, 8, fun _ => none), .inl (0, 4, fun _ => none)] ++ (kN_X7 (b + 7) ++ (kN_X3 (b + 11)))) ++ [.inr (2, fun _ => none)])) (ci := 2) (C := RX2) (T := TX2) (N := 3) (j := 16) (kTab_at (pc := 113) tX1_init_ok 73 rfl) cf_X2 (inT1 98 (by decide +kernel) rfl) (inT1 99 (by decide +kernel) rfl) (inT1 6 (by decide +kernel) rfl) (by decide) hb rfl (zb_put (zb_mono zn_X3 (Nat.le_of_ble_eq_true rfl)) (Nat.le_of_ble_eq_true rfl)) rfl ?_
  refine K_dup (md := mX1_init) (pc := 116) (kTab_at (pc := 116) tX1_init_ok 74 rfl) rfl ?_
  refine C_callIN (md := mX1_init) (pc := 117) (d := 2) (st := [.ref (X.1 + (b + 16)), .ref (X.1 + (b + 0))]) (c := (putM (putM (up2 (up2 (up2 (up2 (up2 (up2 (up2 (up2 (up2 (fun _ _ => 0) 2 0 1) 2 1 6) 2 2 3) 2 3 2) 2 4 30) 3 0 70) 3 1 60) 3 2 50) 3 3 40) 7 n_X7) 11 n_X3)) (suf := ([.inr (1, (rfu (rfu (rfu (rfu (rfu (rfu (rfu (rfu (fun _ => none) 0 (b + 1)) 1 (b + 2)) 2 (b + 3)) 3 (b + 4)) 4 (b + 5)) 5 (b + 6)) 6 (b + 7)) 7 (b + 11))), .inl (0, 5, fun _ => none), .inl (0, 5, fun _ => none), .inl (0, 4, fun _ => none), .inl (0, 8, fun _ => none), .inl (0, 8, fun _ => none), .inl (0, 4, fun _ => none)] ++ (kN_X7 (b + 7) ++ (kN_X3 (b + 11))))) (suf' := ([.inr (1, (rfu (rfu (rfu (rfu (rfu (rfu (rfu (rfu (fun _ => none) 0 (b + 1)) 1 (b + 2)) 2 (b + 3)) 3 (b + 4)) 4 (b + 5)) 5 (b + 6)) 6 (b + 7)) 7 (b + 11))), .inl (0, 5, fun _ => none), .inl (0, 5, fun _ => none), .inl (0, 4, fun _ => none), .inl (0, 8, fun _ => none), .inl (0, 8, fun _ => none), .inl (0, 4, fun _ => none)] ++ (kN_X7 (b + 7) ++ (kN_X3 (b + 11) ++ (kN_X2 (b + 16)))))) (mdY := mX2_init) (d' := 1) (mcY := 2) (msY := 10) (j := 16) (ks := kN_X2) (m0 := n_X2) (host := "ExamMarker") (kTab_at (pc := 117) tX1_init_ok 75 rfl) (by decide +kernel) (inT1 101 (by decide +kernel) rfl) mi_X2 rfl rfl (Nat.le_of_ble_eq_true rfl) (Nat.le_of_ble_eq_true rfl) hb rfl (fun pre0 μ0 b0 h0 z0 => ct_X2 X h0 z0) (zb_put (zb_mono zn_X3 (Nat.le_of_ble_eq_true rfl)) (Nat.le_of_ble_eq_true rfl)) rfl rfl rfl ?_
  refine C_putR (md := mX1_init) (pc := 120) (suf' := ([.inr (1, (rfu (rfu (rfu (rfu (rfu (rfu (rfu (rfu (rfu (fun _ => none) 0 (b + 1)) 1 (b + 2)) 2 (b + 3)) 3 (b + 4)) 4 (b + 5)) 5 (b + 6)) 6 (b + 7)) 7 (b + 11)) 8 (b + 16))), .inl (0, 5, fun _ => none), .inl (0, 5, fun _ => none), .inl (0, 4, fun _ => none), .inl (0, 8, fun _ => none), .inl (0, 8, fun _ => none), .inl (0, 4, fun _ => none)] ++ (kN_X7 (b + 7) ++ (kN_X3 (b + 11) ++ (kN_X2 (b + 16)))))) (rf := (rfu (rfu (rfu (rfu (rfu (rfu (rfu (rfu (fun _ => none) 0 (b + 1)) 1 (b + 2)) 2 (b + 3)) 3 (b + 4)) 4 (b + 5)) 5 (b + 6)) 6 (b + 7)) 7 (b + 11))) (ci := 1) (k := 8) (i := 0) (r := b + 16) (kTab_at (pc := 120) tX1_init_ok 76 rfl) fl_X1_47 rfl (hdc_X1 8 (by decide)) rfl hb rfl rfl ?_
  refine K_aload_n (md := mX1_init) (pc := 123) 0 (kTab_at (pc := 123) tX1_init_ok 77 rfl) rfl ?_
  refine C_new (md := mX1_init) (pc := 124) (c := (putM (putM (putM (up2 (up2 (up2 (up2 (up2 (up2 (up2 (up2 (up2 (fun _ _ => 0) 2 0 1) 2 1 6) 2 2 3) 2 3 2) 2 4 30) 3 0 70) 3 1 60) 3 2 50) 3 3 40) 7 n_X7) 11 n_X3) 16 n_X2)) (suf' := (([.inr (1, (rfu (rfu (rfu (rfu (rfu (rfu (rfu (rfu (rfu (fun _ => none) 0 (b + 1)) 1 (b + 2)) 2 (b + 3)) 3 (b + 4)) 4 (b + 5)) 5 (b + 6)) 6 (b + 7)) 7 (b + 11)) 8 (b + 16))), .inl (0, 5, fun _ => none), .inl (0, 5, fun _ => none), .inl (0, 4, fun _ => none), .inl (0, 8, fun _ => none), .inl (0, 8, fun _ => none), .inl (0, 4, fun _ => none)] ++ (kN_X7 (b + 7) ++ (kN_X3 (b + 11) ++ (kN_X2 (b + 16))))) ++ [.inr (0, fun _ => none)])) (ci := 0) (C := RX0) (T := TX0) (N := 4) (j := 19) (kTab_at (pc := 124) tX1_init_ok 78 rfl) cf_X0 (inT1 115 (by decide +kernel) rfl) (inT1 116 (by decide +kernel) rfl) (inT1 7 (by decide +kernel) rfl) (by decide) hb rfl (zb_put (zb_mono zn_X2 (Nat.le_of_ble_eq_true rfl)) (Nat.le_of_ble_eq_true rfl)) rfl ?_
  refine K_dup (md := mX1_init) (pc := 127) (kTab_at (pc := 127) tX1_init_ok 79 rfl) rfl ?_
  refine C_callIN (md := mX1_init) (pc := 128) (d := 2) (st := [.ref (X.1 + (b + 19)), .ref (X.1 + (b + 0))]) (c := (putM (putM (putM (up2 (up2 (up2 (up2 (up2 (up2 (up2 (up2 (up2 (fun _ _ => 0) 2 0 1) 2 1 6) 2 2 3) 2 3 2) 2 4 30) 3 0 70) 3 1 60) 3 2 50) 3 3 40) 7 n_X7) 11 n_X3) 16 n_X2)) (suf := ([.inr (1, (rfu (rfu (rfu (rfu (rfu (rfu (rfu (rfu (rfu (fun _ => none) 0 (b + 1)) 1 (b + 2)) 2 (b + 3)) 3 (b + 4)) 4 (b + 5)) 5 (b + 6)) 6 (b + 7)) 7 (b + 11)) 8 (b + 16))), .inl (0, 5, fun _ => none), .inl (0, 5, fun _ => none), .inl (0, 4, fun _ => none), .inl (0, 8, fun _ => none), .inl (0, 8, fun _ => none), .inl (0, 4, fun _ => none)] ++ (kN_X7 (b + 7) ++ (kN_X3 (b + 11) ++ (kN_X2 (b + 16)))))) (suf' := ([.inr (1, (rfu (rfu (rfu (rfu (rfu (rfu (rfu (rfu (rfu (fun _ => none) 0 (b + 1)) 1 (b + 2)) 2 (b + 3)) 3 (b + 4)) 4 (b + 5)) 5 (b + 6)) 6 (b + 7)) 7 (b + 11)) 8 (b + 16))), .inl (0, 5, fun _ => none), .inl (0, 5, fun _ => none), .inl (0, 4, fun _ => none), .inl (0, 8, fun _ => none), .inl (0, 8, fun _ => none), .inl (0, 4, fun _ => none)] ++ (kN_X7 (b + 7) ++ (kN_X3 (b + 11) ++ (kN_X2 (b + 16) ++ (kN_X0 (b + 19))))))) (mdY := mX0_init) (d' := 1) (mcY := 3) (msY := 120) (j := 19) (ks := kN_X0) (m0 := n_X0) (host := "ExamMarker") (kTab_at (pc := 128) tX1_init_ok 80 rfl) (by decide +kernel) (inT1 118 (by decide +kernel) rfl) mi_X0 rfl rfl (Nat.le_of_ble_eq_true rfl) (Nat.le_of_ble_eq_true rfl) hb rfl (fun pre0 μ0 b0 h0 z0 => ct_X0 X h0 z0) (zb_put (zb_mono zn_X2 (Nat.le_of_ble_eq_true rfl)) (Nat.le_of_ble_eq_true rfl)) rfl rfl rfl ?_
  refine C_putR (md := mX1_init) (pc := 131) (suf' := ([.inr (1, (rfu (rfu (rfu (rfu (rfu (rfu (rfu (rfu (rfu (rfu (fun _ => none) 0 (b + 1)) 1 (b + 2)) 2 (b + 3)) 3 (b + 4)) 4 (b + 5)) 5 (b + 6)) 6 (b + 7)) 7 (b + 11)) 8 (b + 16)) 9 (b + 19))), .inl (0, 5, fun _ => none), .inl (0, 5, fun _ => none), .inl (0, 4, fun _ => none), .inl (0, 8, fun _ => none), .inl (0, 8, fun _ => none), .inl (0, 4, fun _ => none)] ++ (kN_X7 (b + 7) ++ (kN_X3 (b + 11) ++ (kN_X2 (b + 16) ++ (kN_X0 (b + 19))))))) (rf := (rfu (rfu (rfu (rfu (rfu (rfu (rfu (rfu (rfu (fun _ => none) 0 (b + 1)) 1 (b + 2)) 2 (b + 3)) 3 (b + 4)) 4 (b + 5)) 5 (b + 6)) 6 (b + 7)) 7 (b + 11)) 8 (b + 16))) (ci := 1) (k := 9) (i := 0) (r := b + 19) (kTab_at (pc := 131) tX1_init_ok 81 rfl) fl_X1_54 rfl (hdc_X1 9 (by decide)) rfl hb rfl rfl ?_
  refine K_aload_n (md := mX1_init) (pc := 134) 0 (kTab_at (pc := 134) tX1_init_ok 82 rfl) rfl ?_
  refine K_iconst (md := mX1_init) (pc := 135) (x := 3) (kTab_at (pc := 135) tX1_init_ok 83 rfl) rfl ?_
  refine C_newarr (md := mX1_init) (pc := 136) (c := (putM (putM (putM (putM (up2 (up2 (up2 (up2 (up2 (up2 (up2 (up2 (up2 (fun _ _ => 0) 2 0 1) 2 1 6) 2 2 3) 2 3 2) 2 4 30) 3 0 70) 3 1 60) 3 2 50) 3 3 40) 7 n_X7) 11 n_X3) 16 n_X2) 19 n_X0)) (suf' := ([.inr (1, (rfu (rfu (rfu (rfu (rfu (rfu (rfu (rfu (rfu (rfu (fun _ => none) 0 (b + 1)) 1 (b + 2)) 2 (b + 3)) 3 (b + 4)) 4 (b + 5)) 5 (b + 6)) 6 (b + 7)) 7 (b + 11)) 8 (b + 16)) 9 (b + 19))), .inl (0, 5, fun _ => none), .inl (0, 5, fun _ => none), .inl (0, 4, fun _ => none), .inl (0, 8, fun _ => none), .inl (0, 8, fun _ => none), .inl (0, 4, fun _ => none)] ++ (kN_X7 (b + 7) ++ (kN_X3 (b + 11) ++ (kN_X2 (b + 16) ++ (kN_X0 (b + 19) ++ ([.inl (0, 3, fun _ => none)]))))))) (t := 0) (n := 3) (j := 23) (ty := .int) (kTab_at (pc := 136) tX1_init_ok 84 rfl) (inT1 66 (by decide +kernel) rfl) rfl (by decide) (Nat.le_of_ble_eq_true rfl) hb rfl (zb_put (zb_mono zn_X0 (Nat.le_of_ble_eq_true rfl)) (Nat.le_of_ble_eq_true rfl)) rfl ?_
  refine C_putR (md := mX1_init) (pc := 138) (suf' := ([.inr (1, (rfu (rfu (rfu (rfu (rfu (rfu (rfu (rfu (rfu (rfu (rfu (fun _ => none) 0 (b + 1)) 1 (b + 2)) 2 (b + 3)) 3 (b + 4)) 4 (b + 5)) 5 (b + 6)) 6 (b + 7)) 7 (b + 11)) 8 (b + 16)) 9 (b + 19)) 11 (b + 23))), .inl (0, 5, fun _ => none), .inl (0, 5, fun _ => none), .inl (0, 4, fun _ => none), .inl (0, 8, fun _ => none), .inl (0, 8, fun _ => none), .inl (0, 4, fun _ => none)] ++ (kN_X7 (b + 7) ++ (kN_X3 (b + 11) ++ (kN_X2 (b + 16) ++ (kN_X0 (b + 19) ++ ([.inl (0, 3, fun _ => none)]))))))) (rf := (rfu (rfu (rfu (rfu (rfu (rfu (rfu (rfu (rfu (rfu (fun _ => none) 0 (b + 1)) 1 (b + 2)) 2 (b + 3)) 3 (b + 4)) 4 (b + 5)) 5 (b + 6)) 6 (b + 7)) 7 (b + 11)) 8 (b + 16)) 9 (b + 19))) (ci := 1) (k := 11) (i := 0) (r := b + 23) (kTab_at (pc := 138) tX1_init_ok 85 rfl) fl_X1_58 rfl (hdc_X1 11 (by decide)) rfl hb rfl rfl ?_
  refine K_aload_n (md := mX1_init) (pc := 141) 0 (kTab_at (pc := 141) tX1_init_ok 86 rfl) rfl ?_
  refine K_getR (md := mX1_init) (pc := 142) (a := b + 0) (b := b + 1) (ci := 1) (k := 0) (kTab_at (pc := 142) tX1_init_ok 87 rfl) fl_X1_9 ((suf_at hb).trans rfl) rfl rfl ?_
  refine K_bipush (md := mX1_init) (pc := 145) (x := 20) (kTab_at (pc := 145) tX1_init_ok 88 rfl) rfl ?_
  refine C_fill (md := mX1_init) (pc := 147) (d := 2) (st := []) (i := 1) (n := 5) (x := 20) (kTab_at (pc := 147) tX1_init_ok 89 rfl) ms_X1_61 (Nat.le_of_ble_eq_true rfl) (Nat.le_of_ble_eq_true rfl) rfl hb rfl (by decide) rfl ?_
  exact K_vret (md := mX1_init) (pc := 150) (kTab_at (pc := 150) tX1_init_ok 90 rfl) rfl ⟨rfl, rfl, rfl⟩
theorem mi_X1 : kMf mX1_init 0 := ⟨inT1 44 (by decide +kernel) rfl, inT1 2 (by decide +kernel) rfl, by decide +kernel, by decide +kernel⟩
def kN_X5 (b : Nat) : List Kd := [.inr (5, (rfu (fun _ => none) 0 (b + 1))), .inl (0, 5, fun _ => none)]
def n_X5 : Mu := (up2 (fun _ _ => 0) 0 2 1)
theorem zn_X5 : zb n_X5 2 := (zb_up (zb_0 _) (Nat.le_of_ble_eq_true rfl))
theorem hdc_X5 (k : Nat) (hk : k < 6) : ∀ (Cn : String) (Tn : u_T) (N : Nat), kCl[5]? = some (Cn, Tn, N) → (Tn k).1 = mX5_init.1.cls := by
  intro Cn Tn N h
  cases h
  revert k
  decide
set_option maxRecDepth 100000 in
theorem ct_X5 (X : kX) {pre : List Kd} {μ : Mu} {b : Nat} (hb : pre.length = b) (hz : zb μ b) : Ct X mX5_init 1 (pre ++ [.inr (5, fun _ => none)]) true μ 1 5 [.ref (X.1 + b)] (poN (pre ++ kN_X5 b) (putM μ b n_X5)) := by
  refine ct_of (by decide +kernel) rfl (Nat.le_of_ble_eq_true rfl) ?_
  rw [← putM_self hz]
  rw [show putM (putM μ b fun _ _ => 0) b n_X5 = putM μ b n_X5 by rw [putM_self hz]]
  show KJ X mX5_init 1 true _ (pre ++ [.inr (5, fun _ => none)]) 1 5 0 [(0, .ref (X.1 + (b + 0)))] [] (putM μ b (fun _ _ => 0))
  refine K_aload_n (md := mX5_init) (pc := 0) 0 (kTab_at (pc := 0) tX5_init_ok 0 rfl) rfl ?_
  refine K_objInit (md := mX5_init) (pc := 1) (b := b + 0) (kTab_at (pc := 1) tX5_init_ok 1 rfl) (inT2 63 (by decide +kernel) rfl) (inT1 38 (by decide +kernel) rfl) (inT1 39 (by decide +kernel) rfl) (Nat.le_of_ble_eq_true rfl) ?_
  refine K_aload_n (md := mX5_init) (pc := 4) 0 (kTab_at (pc := 4) tX5_init_ok 2 rfl) rfl ?_
  refine K_iconst (md := mX5_init) (pc := 5) (x := 5) (kTab_at (pc := 5) tX5_init_ok 3 rfl) rfl ?_
  refine C_newarr (md := mX5_init) (pc := 6) (c := (fun _ _ => 0)) (suf' := ([.inr (5, (fun _ => none)), .inl (0, 5, fun _ => none)])) (t := 0) (n := 5) (j := 1) (ty := .int) (kTab_at (pc := 6) tX5_init_ok 4 rfl) (inT1 66 (by decide +kernel) rfl) rfl (by decide) (Nat.le_of_ble_eq_true rfl) hb rfl (zb_0 _) rfl ?_
  refine C_putR (md := mX5_init) (pc := 8) (suf' := ([.inr (5, (rfu (fun _ => none) 0 (b + 1))), .inl (0, 5, fun _ => none)])) (rf := (fun _ => none)) (ci := 5) (k := 0) (i := 0) (r := b + 1) (kTab_at (pc := 8) tX5_init_ok 5 rfl) fl_X5_9 rfl (hdc_X5 0 (by decide)) rfl hb rfl rfl ?_
  refine K_aload_n (md := mX5_init) (pc := 11) 0 (kTab_at (pc := 11) tX5_init_ok 6 rfl) rfl ?_
  refine K_lconst (md := mX5_init) (pc := 12) (x := 1) (kTab_at (pc := 12) tX5_init_ok 7 rfl) rfl ?_
  refine C_putL (md := mX5_init) (pc := 13) (ci := 5) (k := 2) (i := 0) (x := 1) (kTab_at (pc := 13) tX5_init_ok 8 rfl) fl_X5_15 rfl hb rfl rfl ?_
  exact K_vret (md := mX5_init) (pc := 16) (kTab_at (pc := 16) tX5_init_ok 9 rfl) rfl ⟨rfl, rfl, rfl⟩
theorem mi_X5 : kMf mX5_init 0 := ⟨inT2 62 (by decide +kernel) rfl, inT1 12 (by decide +kernel) rfl, by decide +kernel, by decide +kernel⟩
def kN_X9 (b : Nat) : List Kd := [.inr (9, (rfu (rfu (rfu (rfu (fun _ => none) 0 (b + 1)) 1 (b + 2)) 2 (b + 3)) 3 (b + 4))), .inl (0, 5, fun _ => none), .inl (0, 5, fun _ => none), .inl (0, 5, fun _ => none), .inl (0, 5, fun _ => none)]
def n_X9 : Mu := (fun _ _ => 0)
theorem zn_X9 : zb n_X9 5 := (zb_0 _)
theorem hdc_X9 (k : Nat) (hk : k < 4) : ∀ (Cn : String) (Tn : u_T) (N : Nat), kCl[9]? = some (Cn, Tn, N) → (Tn k).1 = mX9_init.1.cls := by
  intro Cn Tn N h
  cases h
  revert k
  decide
set_option maxRecDepth 100000 in
theorem ct_X9 (X : kX) {pre : List Kd} {μ : Mu} {b : Nat} (hb : pre.length = b) (hz : zb μ b) : Ct X mX9_init 1 (pre ++ [.inr (9, fun _ => none)]) true μ 4 20 [.ref (X.1 + b)] (poN (pre ++ kN_X9 b) (putM μ b n_X9)) := by
  refine ct_of (by decide +kernel) rfl (Nat.le_of_ble_eq_true rfl) ?_
  rw [← putM_self hz]
  rw [show putM (putM μ b fun _ _ => 0) b n_X9 = putM μ b n_X9 by rw [putM_self hz]]
  show KJ X mX9_init 1 true _ (pre ++ [.inr (9, fun _ => none)]) 4 20 0 [(0, .ref (X.1 + (b + 0)))] [] (putM μ b (fun _ _ => 0))
  refine K_aload_n (md := mX9_init) (pc := 0) 0 (kTab_at (pc := 0) tX9_init_ok 0 rfl) rfl ?_
  refine K_objInit (md := mX9_init) (pc := 1) (b := b + 0) (kTab_at (pc := 1) tX9_init_ok 1 rfl) (inT2 45 (by decide +kernel) rfl) (inT1 38 (by decide +kernel) rfl) (inT1 39 (by decide +kernel) rfl) (Nat.le_of_ble_eq_true rfl) ?_
  refine K_aload_n (md := mX9_init) (pc := 4) 0 (kTab_at (pc := 4) tX9_init_ok 2 rfl) rfl ?_
  refine K_iconst (md := mX9_init) (pc := 5) (x := 5) (kTab_at (pc := 5) tX9_init_ok 3 rfl) rfl ?_
  refine C_newarr (md := mX9_init) (pc := 6) (c := (fun _ _ => 0)) (suf' := ([.inr (9, (fun _ => none)), .inl (0, 5, fun _ => none)])) (t := 0) (n := 5) (j := 1) (ty := .int) (kTab_at (pc := 6) tX9_init_ok 4 rfl) (inT1 66 (by decide +kernel) rfl) rfl (by decide) (Nat.le_of_ble_eq_true rfl) hb rfl (zb_0 _) rfl ?_
  refine C_putR (md := mX9_init) (pc := 8) (suf' := ([.inr (9, (rfu (fun _ => none) 0 (b + 1))), .inl (0, 5, fun _ => none)])) (rf := (fun _ => none)) (ci := 9) (k := 0) (i := 0) (r := b + 1) (kTab_at (pc := 8) tX9_init_ok 5 rfl) fl_X9_9 rfl (hdc_X9 0 (by decide)) rfl hb rfl rfl ?_
  refine K_aload_n (md := mX9_init) (pc := 11) 0 (kTab_at (pc := 11) tX9_init_ok 6 rfl) rfl ?_
  refine K_iconst (md := mX9_init) (pc := 12) (x := 5) (kTab_at (pc := 12) tX9_init_ok 7 rfl) rfl ?_
  refine C_newarr (md := mX9_init) (pc := 13) (c := (fun _ _ => 0)) (suf' := ([.inr (9, (rfu (fun _ => none) 0 (b + 1))), .inl (0, 5, fun _ => none), .inl (0, 5, fun _ => none)])) (t := 0) (n := 5) (j := 2) (ty := .int) (kTab_at (pc := 13) tX9_init_ok 8 rfl) (inT1 66 (by decide +kernel) rfl) rfl (by decide) (Nat.le_of_ble_eq_true rfl) hb rfl (zb_0 _) rfl ?_
  refine C_putR (md := mX9_init) (pc := 15) (suf' := ([.inr (9, (rfu (rfu (fun _ => none) 0 (b + 1)) 1 (b + 2))), .inl (0, 5, fun _ => none), .inl (0, 5, fun _ => none)])) (rf := (rfu (fun _ => none) 0 (b + 1))) (ci := 9) (k := 1) (i := 0) (r := b + 2) (kTab_at (pc := 15) tX9_init_ok 9 rfl) fl_X9_15 rfl (hdc_X9 1 (by decide)) rfl hb rfl rfl ?_
  refine K_aload_n (md := mX9_init) (pc := 18) 0 (kTab_at (pc := 18) tX9_init_ok 10 rfl) rfl ?_
  refine K_iconst (md := mX9_init) (pc := 19) (x := 5) (kTab_at (pc := 19) tX9_init_ok 11 rfl) rfl ?_
  refine C_newarr (md := mX9_init) (pc := 20) (c := (fun _ _ => 0)) (suf' := ([.inr (9, (rfu (rfu (fun _ => none) 0 (b + 1)) 1 (b + 2))), .inl (0, 5, fun _ => none), .inl (0, 5, fun _ => none), .inl (0, 5, fun _ => none)])) (t := 0) (n := 5) (j := 3) (ty := .int) (kTab_at (pc := 20) tX9_init_ok 12 rfl) (inT1 66 (by decide +kernel) rfl) rfl (by decide) (Nat.le_of_ble_eq_true rfl) hb rfl (zb_0 _) rfl ?_
  refine C_putR (md := mX9_init) (pc := 22) (suf' := ([.inr (9, (rfu (rfu (rfu (fun _ => none) 0 (b + 1)) 1 (b + 2)) 2 (b + 3))), .inl (0, 5, fun _ => none), .inl (0, 5, fun _ => none), .inl (0, 5, fun _ => none)])) (rf := (rfu (rfu (fun _ => none) 0 (b + 1)) 1 (b + 2))) (ci := 9) (k := 2) (i := 0) (r := b + 3) (kTab_at (pc := 22) tX9_init_ok 13 rfl) fl_X9_18 rfl (hdc_X9 2 (by decide)) rfl hb rfl rfl ?_
  refine K_aload_n (md := mX9_init) (pc := 25) 0 (kTab_at (pc := 25) tX9_init_ok 14 rfl) rfl ?_
  refine K_iconst (md := mX9_init) (pc := 26) (x := 5) (kTab_at (pc := 26) tX9_init_ok 15 rfl) rfl ?_
  refine C_newarr (md := mX9_init) (pc := 27) (c := (fun _ _ => 0)) (suf' := ([.inr (9, (rfu (rfu (rfu (fun _ => none) 0 (b + 1)) 1 (b + 2)) 2 (b + 3))), .inl (0, 5, fun _ => none), .inl (0, 5, fun _ => none), .inl (0, 5, fun _ => none), .inl (0, 5, fun _ => none)])) (t := 0) (n := 5) (j := 4) (ty := .int) (kTab_at (pc := 27) tX9_init_ok 16 rfl) (inT1 66 (by decide +kernel) rfl) rfl (by decide) (Nat.le_of_ble_eq_true rfl) hb rfl (zb_0 _) rfl ?_
  refine C_putR (md := mX9_init) (pc := 29) (suf' := ([.inr (9, (rfu (rfu (rfu (rfu (fun _ => none) 0 (b + 1)) 1 (b + 2)) 2 (b + 3)) 3 (b + 4))), .inl (0, 5, fun _ => none), .inl (0, 5, fun _ => none), .inl (0, 5, fun _ => none), .inl (0, 5, fun _ => none)])) (rf := (rfu (rfu (rfu (fun _ => none) 0 (b + 1)) 1 (b + 2)) 2 (b + 3))) (ci := 9) (k := 3) (i := 0) (r := b + 4) (kTab_at (pc := 29) tX9_init_ok 17 rfl) fl_X9_21 rfl (hdc_X9 3 (by decide)) rfl hb rfl rfl ?_
  exact K_vret (md := mX9_init) (pc := 32) (kTab_at (pc := 32) tX9_init_ok 18 rfl) rfl ⟨rfl, rfl, rfl⟩
theorem mi_X9 : kMf mX9_init 0 := ⟨inT2 44 (by decide +kernel) rfl, inT1 11 (by decide +kernel) rfl, by decide +kernel, by decide +kernel⟩
def kN_X8 (b : Nat) : List Kd := [.inr (8, (rfu (rfu (rfu (fun _ => none) 0 (b + 1)) 7 (b + 2)) 8 (b + 3))), .inl (1, 60, fun _ => none), .inl (0, 20, fun _ => none), .inl (0, 20, fun _ => none)]
def n_X8 : Mu := (up2 (fun _ _ => 0) 0 3 (-1))
theorem zn_X8 : zb n_X8 4 := (zb_up (zb_0 _) (Nat.le_of_ble_eq_true rfl))
theorem hdc_X8 (k : Nat) (hk : k < 9) : ∀ (Cn : String) (Tn : u_T) (N : Nat), kCl[8]? = some (Cn, Tn, N) → (Tn k).1 = mX8_init.1.cls := by
  intro Cn Tn N h
  cases h
  revert k
  decide
set_option maxRecDepth 100000 in
theorem ct_X8 (X : kX) {pre : List Kd} {μ : Mu} {b : Nat} (hb : pre.length = b) (hz : zb μ b) : Ct X mX8_init 1 (pre ++ [.inr (8, fun _ => none)]) true μ 3 100 [.ref (X.1 + b)] (poN (pre ++ kN_X8 b) (putM μ b n_X8)) := by
  refine ct_of (by decide +kernel) rfl (Nat.le_of_ble_eq_true rfl) ?_
  rw [← putM_self hz]
  rw [show putM (putM μ b fun _ _ => 0) b n_X8 = putM μ b n_X8 by rw [putM_self hz]]
  show KJ X mX8_init 1 true _ (pre ++ [.inr (8, fun _ => none)]) 3 100 0 [(0, .ref (X.1 + (b + 0)))] [] (putM μ b (fun _ _ => 0))
  refine K_aload_n (md := mX8_init) (pc := 0) 0 (kTab_at (pc := 0) tX8_init_ok 0 rfl) rfl ?_
  refine K_objInit (md := mX8_init) (pc := 1) (b := b + 0) (kTab_at (pc := 1) tX8_init_ok 1 rfl) (inT1 222 (by decide +kernel) rfl) (inT1 38 (by decide +kernel) rfl) (inT1 39 (by decide +kernel) rfl) (Nat.le_of_ble_eq_true rfl) ?_
  refine K_aload_n (md := mX8_init) (pc := 4) 0 (kTab_at (pc := 4) tX8_init_ok 2 rfl) rfl ?_
  refine K_bipush (md := mX8_init) (pc := 5) (x := 60) (kTab_at (pc := 5) tX8_init_ok 3 rfl) rfl ?_
  refine C_newarr (md := mX8_init) (pc := 7) (c := (fun _ _ => 0)) (suf' := ([.inr (8, (fun _ => none)), .inl (1, 60, fun _ => none)])) (t := 1) (n := 60) (j := 1) (ty := .char) (kTab_at (pc := 7) tX8_init_ok 4 rfl) (inT2 18 (by decide +kernel) rfl) rfl (by decide) (Nat.le_of_ble_eq_true rfl) hb rfl (zb_0 _) rfl ?_
  refine C_putR (md := mX8_init) (pc := 9) (suf' := ([.inr (8, (rfu (fun _ => none) 0 (b + 1))), .inl (1, 60, fun _ => none)])) (rf := (fun _ => none)) (ci := 8) (k := 0) (i := 0) (r := b + 1) (kTab_at (pc := 9) tX8_init_ok 5 rfl) fl_X8_11 rfl (hdc_X8 0 (by decide)) rfl hb rfl rfl ?_
  refine K_aload_n (md := mX8_init) (pc := 12) 0 (kTab_at (pc := 12) tX8_init_ok 6 rfl) rfl ?_
  refine K_iconst (md := mX8_init) (pc := 13) (x := (-1)) (kTab_at (pc := 13) tX8_init_ok 7 rfl) rfl ?_
  refine C_putI (md := mX8_init) (pc := 14) (ci := 8) (k := 3) (i := 0) (x := (-1)) (kTab_at (pc := 14) tX8_init_ok 8 rfl) fl_X8_15 rfl hb rfl rfl ?_
  refine K_aload_n (md := mX8_init) (pc := 17) 0 (kTab_at (pc := 17) tX8_init_ok 9 rfl) rfl ?_
  refine K_bipush (md := mX8_init) (pc := 18) (x := 20) (kTab_at (pc := 18) tX8_init_ok 10 rfl) rfl ?_
  refine C_newarr (md := mX8_init) (pc := 20) (c := (up2 (fun _ _ => 0) 0 3 (-1))) (suf' := ([.inr (8, (rfu (fun _ => none) 0 (b + 1))), .inl (1, 60, fun _ => none), .inl (0, 20, fun _ => none)])) (t := 0) (n := 20) (j := 2) (ty := .int) (kTab_at (pc := 20) tX8_init_ok 11 rfl) (inT1 66 (by decide +kernel) rfl) rfl (by decide) (Nat.le_of_ble_eq_true rfl) hb rfl (zb_up (zb_0 _) (Nat.le_of_ble_eq_true rfl)) rfl ?_
  refine C_putR (md := mX8_init) (pc := 22) (suf' := ([.inr (8, (rfu (rfu (fun _ => none) 0 (b + 1)) 7 (b + 2))), .inl (1, 60, fun _ => none), .inl (0, 20, fun _ => none)])) (rf := (rfu (fun _ => none) 0 (b + 1))) (ci := 8) (k := 7) (i := 0) (r := b + 2) (kTab_at (pc := 22) tX8_init_ok 12 rfl) fl_X8_19 rfl (hdc_X8 7 (by decide)) rfl hb rfl rfl ?_
  refine K_aload_n (md := mX8_init) (pc := 25) 0 (kTab_at (pc := 25) tX8_init_ok 13 rfl) rfl ?_
  refine K_bipush (md := mX8_init) (pc := 26) (x := 20) (kTab_at (pc := 26) tX8_init_ok 14 rfl) rfl ?_
  refine C_newarr (md := mX8_init) (pc := 28) (c := (up2 (fun _ _ => 0) 0 3 (-1))) (suf' := ([.inr (8, (rfu (rfu (fun _ => none) 0 (b + 1)) 7 (b + 2))), .inl (1, 60, fun _ => none), .inl (0, 20, fun _ => none), .inl (0, 20, fun _ => none)])) (t := 0) (n := 20) (j := 3) (ty := .int) (kTab_at (pc := 28) tX8_init_ok 15 rfl) (inT1 66 (by decide +kernel) rfl) rfl (by decide) (Nat.le_of_ble_eq_true rfl) hb rfl (zb_up (zb_0 _) (Nat.le_of_ble_eq_true rfl)) rfl ?_
  refine C_putR (md := mX8_init) (pc := 30) (suf' := ([.inr (8, (rfu (rfu (rfu (fun _ => none) 0 (b + 1)) 7 (b + 2)) 8 (b + 3))), .inl (1, 60, fun _ => none), .inl (0, 20, fun _ => none), .inl (0, 20, fun _ => none)])) (rf := (rfu (rfu (fun _ => none) 0 (b + 1)) 7 (b + 2))) (ci := 8) (k := 8) (i := 0) (r := b + 3) (kTab_at (pc := 30) tX8_init_ok 16 rfl) fl_X8_23 rfl (hdc_X8 8 (by decide)) rfl hb rfl rfl ?_
  exact K_vret (md := mX8_init) (pc := 33) (kTab_at (pc := 33) tX8_init_ok 17 rfl) rfl ⟨rfl, rfl, rfl⟩
theorem mi_X8 : kMf mX8_init 0 := ⟨inT1 221 (by decide +kernel) rfl, inT1 9 (by decide +kernel) rfl, by decide +kernel, by decide +kernel⟩
def kN_X6 (b : Nat) : List Kd := [.inr (6, (rfu (rfu (fun _ => none) 0 (b + 1)) 1 (b + 2))), .inl (0, 2, fun _ => none), .inl (0, 2, fun _ => none)]
def n_X6 : Mu := (fun _ _ => 0)
theorem zn_X6 : zb n_X6 3 := (zb_0 _)
theorem hdc_X6 (k : Nat) (hk : k < 3) : ∀ (Cn : String) (Tn : u_T) (N : Nat), kCl[6]? = some (Cn, Tn, N) → (Tn k).1 = mX6_init.1.cls := by
  intro Cn Tn N h
  cases h
  revert k
  decide
set_option maxRecDepth 100000 in
theorem ct_X6 (X : kX) {pre : List Kd} {μ : Mu} {b : Nat} (hb : pre.length = b) (hz : zb μ b) : Ct X mX6_init 1 (pre ++ [.inr (6, fun _ => none)]) true μ 2 4 [.ref (X.1 + b)] (poN (pre ++ kN_X6 b) (putM μ b n_X6)) := by
  refine ct_of (by decide +kernel) rfl (Nat.le_of_ble_eq_true rfl) ?_
  rw [← putM_self hz]
  rw [show putM (putM μ b fun _ _ => 0) b n_X6 = putM μ b n_X6 by rw [putM_self hz]]
  show KJ X mX6_init 1 true _ (pre ++ [.inr (6, fun _ => none)]) 2 4 0 [(0, .ref (X.1 + (b + 0)))] [] (putM μ b (fun _ _ => 0))
  refine K_aload_n (md := mX6_init) (pc := 0) 0 (kTab_at (pc := 0) tX6_init_ok 0 rfl) rfl ?_
  refine K_objInit (md := mX6_init) (pc := 1) (b := b + 0) (kTab_at (pc := 1) tX6_init_ok 1 rfl) (inT2 24 (by decide +kernel) rfl) (inT1 38 (by decide +kernel) rfl) (inT1 39 (by decide +kernel) rfl) (Nat.le_of_ble_eq_true rfl) ?_
  refine K_aload_n (md := mX6_init) (pc := 4) 0 (kTab_at (pc := 4) tX6_init_ok 2 rfl) rfl ?_
  refine K_iconst (md := mX6_init) (pc := 5) (x := 2) (kTab_at (pc := 5) tX6_init_ok 3 rfl) rfl ?_
  refine C_newarr (md := mX6_init) (pc := 6) (c := (fun _ _ => 0)) (suf' := ([.inr (6, (fun _ => none)), .inl (0, 2, fun _ => none)])) (t := 0) (n := 2) (j := 1) (ty := .int) (kTab_at (pc := 6) tX6_init_ok 4 rfl) (inT1 66 (by decide +kernel) rfl) rfl (by decide) (Nat.le_of_ble_eq_true rfl) hb rfl (zb_0 _) rfl ?_
  refine C_putR (md := mX6_init) (pc := 8) (suf' := ([.inr (6, (rfu (fun _ => none) 0 (b + 1))), .inl (0, 2, fun _ => none)])) (rf := (fun _ => none)) (ci := 6) (k := 0) (i := 0) (r := b + 1) (kTab_at (pc := 8) tX6_init_ok 5 rfl) fl_X6_9 rfl (hdc_X6 0 (by decide)) rfl hb rfl rfl ?_
  refine K_aload_n (md := mX6_init) (pc := 11) 0 (kTab_at (pc := 11) tX6_init_ok 6 rfl) rfl ?_
  refine K_iconst (md := mX6_init) (pc := 12) (x := 2) (kTab_at (pc := 12) tX6_init_ok 7 rfl) rfl ?_
  refine C_newarr (md := mX6_init) (pc := 13) (c := (fun _ _ => 0)) (suf' := ([.inr (6, (rfu (fun _ => none) 0 (b + 1))), .inl (0, 2, fun _ => none), .inl (0, 2, fun _ => none)])) (t := 0) (n := 2) (j := 2) (ty := .int) (kTab_at (pc := 13) tX6_init_ok 8 rfl) (inT1 66 (by decide +kernel) rfl) rfl (by decide) (Nat.le_of_ble_eq_true rfl) hb rfl (zb_0 _) rfl ?_
  refine C_putR (md := mX6_init) (pc := 15) (suf' := ([.inr (6, (rfu (rfu (fun _ => none) 0 (b + 1)) 1 (b + 2))), .inl (0, 2, fun _ => none), .inl (0, 2, fun _ => none)])) (rf := (rfu (fun _ => none) 0 (b + 1))) (ci := 6) (k := 1) (i := 0) (r := b + 2) (kTab_at (pc := 15) tX6_init_ok 9 rfl) fl_X6_13 rfl (hdc_X6 1 (by decide)) rfl hb rfl rfl ?_
  exact K_vret (md := mX6_init) (pc := 18) (kTab_at (pc := 18) tX6_init_ok 10 rfl) rfl ⟨rfl, rfl, rfl⟩
theorem mi_X6 : kMf mX6_init 0 := ⟨inT2 23 (by decide +kernel) rfl, inT1 10 (by decide +kernel) rfl, by decide +kernel, by decide +kernel⟩

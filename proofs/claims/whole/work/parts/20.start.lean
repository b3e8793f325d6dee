/-! the law's start: rows whose end forgets the heap's exact size -/
def KJs (X : kX) (md : kM) (d : Nat) (ex : Bool) (po : kPo) (sk : List Kd) (cr sr : Nat) (pc : Nat) (l : List (Nat × Value)) (st : List Value) (μ : Mu) : Prop :=
  ∀ (p : Program) (l0 : Launch) (e : Env) (R : Room) (s : State) (m : MethodId) (args : Array Value) (below : List Frame) (meth : Method) (c : Code) (H : Heap) (locs : List Loc) (cells slots mc ms : Nat) (ls : Array Slot),
    kC X md d p l0 R s m args meth c mc ms → cells + cr ≤ mc → slots + sr ≤ ms → lv_has ls md.2.2.1 l → kHp X sk ex μ H → va_S (kFree X) s.heap H locs → (ex = true → s.heap.size + cells = H.size) →
    W p l0 e R s m args below meth c H locs cells slots (vx_MQ below (kQ X false po) (kQx X po) args s mc ms (kFree X)) (F0 m pc ls st)
section SR
variable {X : kX} {md mdY : kM} {d d' : Nat} {ex : Bool} {po poY : kPo} {sk : List Kd} {pre suf suf' : List Kd} {cr sr cr' sr' pc b j n N ci idx k r mcY msY t : Nat} {l : List (Nat × Value)} {st As : List Value} {μ c c' m0 : Mu} {x y : Int} {rf : Nat → Option Nat} {ks : Nat → List Kd} {nd : Kd} {host : String}
theorem S_dup {v : Value} (hd : decode md.2.1 pc = .ok (.dup, 1)) (hv : v.category = 1) (k : KJs X md d ex po sk cr sr (pc + 1) l (v :: v :: st) μ) : KJs X md d ex po sk cr sr (pc) l (v :: st) μ := by
  intro p l0 e R s m args below meth c H locs cells slots mc ms ls C hc hs hl hH hS hz
  refine lv_dup C.1 C.2.1 hd hv ?_
  exact k p l0 e R s m args below meth c H locs cells slots mc ms ls C hc hs hl hH hS hz
theorem S_iconst {n : Int} (hd : decode md.2.1 pc = .ok (.iconst n, 1)) (hv : Int32.ofInt n = iI x) (k : KJs X md d ex po sk cr sr (pc + 1) l (.int (iI x) :: st) μ) : KJs X md d ex po sk cr sr (pc) l (st) μ := by
  intro p l0 e R s m args below meth c H locs cells slots mc ms ls C hc hs hl hH hS hz
  refine lv_iconst C.1 C.2.1 hd hv ?_
  exact k p l0 e R s m args below meth c H locs cells slots mc ms ls C hc hs hl hH hS hz
theorem S_astore_n {n : Fin 4} {v : Nat} {l' : List (Nat × Value)} (hd : decode md.2.1 pc = .ok (.astore_n n, 1)) (hn : (n : Nat) < md.2.2.1) (hf : ((n : Nat), Value.ref v) :: l.filter (fun q => !(q.1 == (n : Nat)) && !(q.1 + 1 == (n : Nat) && q.2.category == 2)) = l') (k : KJs X md d ex po sk cr sr (pc + 1) l' (st) μ) : KJs X md d ex po sk cr sr (pc) l (.ref v :: st) μ := by
  intro p l0 e R s m args below meth c H locs cells slots mc ms ls C hc hs hl hH hS hz
  refine lv_astore_n C.1 C.2.1 hd rfl hl hn hf (fun ls hl => ?_)
  exact k p l0 e R s m args below meth c H locs cells slots mc ms ls C hc hs hl hH hS hz
theorem S_istore {n : Nat} {v : Int32} {l' : List (Nat × Value)} (hd : decode md.2.1 pc = .ok (.istore n, 2)) (hn : n < md.2.2.1) (hf : (n, Value.int v) :: l.filter (fun q => !(q.1 == n) && !(q.1 + 1 == n && q.2.category == 2)) = l') (k : KJs X md d ex po sk cr sr (pc + 2) l' (st) μ) : KJs X md d ex po sk cr sr (pc) l (.int v :: st) μ := by
  intro p l0 e R s m args below meth c H locs cells slots mc ms ls C hc hs hl hH hS hz
  refine lv_istore C.1 C.2.1 hd hl hn hf (fun ls hl => ?_)
  exact k p l0 e R s m args below meth c H locs cells slots mc ms ls C hc hs hl hH hS hz
theorem S_callI (hd : decode md.2.1 pc = .ok (.invokespecial idx, 3)) (hl0 : Cond.methodLink md.1.cls idx mdY.1 ∈ kG) (M2 : Cond.instanceMethod mdY.1 ∈ kG) (M4 : kMf mdY n) (hnm : mdY.1.name = "<init>") (hrt : mdY.2.2.2.1 = none) (hn : As.length = n) (hst : (st.map fun v => v.category).sum ≤ 8) (hdd : d' + 1 ≤ d)
    (hC : Ct X mdY d' sk ex μ mcY msY (.ref (X.1 + b) :: As) poY) (hlen : ex = true → ∀ v sk' μ', poY.1 v sk' μ' → sk'.length = sk.length + mcY)
    (kk : ∀ v sk' μ', poY.1 v sk' μ' → KJs X md d ex po sk' cr sr (pc + 3) l (v.toList ++ st) μ') (kx : ∀ e sk' μ', ¬ poY.2 e sk' μ') {st1 : List Value} (hs1 : st1 = As.reverse ++ .ref (X.1 + b) :: st) : KJs X md d ex po sk (cr + mcY) (sr + msY) pc l st1 μ := by
  subst hs1
  intro p l0 e R s m args below meth c H locs cells slots mc ms ls C hc hs hl hH hS hz
  obtain ⟨y0, c0, n0, r0, t0⟩ := mdY
  dsimp only at hrt hnm
  subst hrt
  obtain ⟨m1, m2, m3, m4⟩ := M4
  have C' := C
  obtain ⟨c1, c2, c3, c4, c5, c6, c7, c8, c9, ⟨r1, r2, r3, r4⟩, c11, c12, c13⟩ := C'
  have hM := met_of_vx (hC l0 c11) (fun E st t h => by obtain ⟨e0, sk', μ', -, h2, -⟩ := h; exact kx e0 sk' μ' h2)
  have hr := va_runI (p := p) (e := e) (R := R) (below := below) (meth := meth) (H := H) (locs := locs) (cells := cells) (slots := slots) (g := F0 m pc ls (As.reverse ++ .ref (X.1 + b) :: st)) (As := As) (b := X.1 + b) (rest := st) (index := idx) (n := n) (own := md.1.cls) ⟨c1, c2, c3, c6, c8⟩ hM (cwI n c8 (fun w hw => by
    rcases List.mem_cons.mp hw with rfl | hw
    · exact ⟨m1, kG_good m1⟩
    · exact ⟨hw, kG_good hw⟩) rfl rfl rfl (c8 _ m2) (c8 _ hl0) (c8 _ M2) hnm m3 ⟨by show 8 + d' + 1 ≤ R.frames; omega, by show 8 + (n0 + 11) + (d' + 1) * 100 ≤ R.locals; dsimp only at m4; omega⟩) ⟨kPc_blind, k_pre C hH hS⟩ rfl hn hl.1 rfl (lv_room hst) hd ⟨by omega, by omega⟩
  have hr' : vx_Run p l0 e R s m args below meth c H locs cells slots mcY msY (F0 m pc ls (As.reverse ++ .ref (X.1 + b) :: st)) st (kQ X ex poY (Value.ref (X.1 + b) :: As).toArray) (kQx X poY) (kFree X) := fun T hT X0 => Or.inl (hr T hT X0)
  exact K_run hr' hS
    (fun v sk' μ' H' locs' hp hH' hS' => kk v sk' μ' hp p l0 e R s m args below meth c H' locs' (cells + mcY) (slots + msY) mc ms ls C (by omega) (by omega) hl hH' hS' (fun h => by have a1 := hH'.2 h; have a2 := hH.2 h; have a3 := hz h; have a4 := hlen h v sk' μ' hp; omega))
    (fun e0 ce q sk' μ' H' locs' hp hH' hS' h1 h2 h3 => absurd hp (kx e0 sk' μ'))
theorem S_new (hd : decode md.2.1 pc = .ok (.new idx, 3)) {C : String} {T : u_T} (F : kCF ci C T N) (h1 : Cond.classLink md.1.cls idx C ∈ kG) (h2 : Cond.instantiable C N ∈ kG) (h3 : Cond.initialized C ∈ kG) (hty : ∀ k, k < N → (match kTyF ci k with | .float => false | .double => false | _ => true) = true) (hb : pre.length = b) (hj : suf.length = j) (hzc : zb c j)
    (hs' : suf ++ [.inr (ci, fun _ => none)] = suf') (kk : KJs X md d true po (pre ++ suf') cr sr (pc + 3) l (.ref (X.1 + (b + j)) :: st) (putM μ b c)) : KJs X md d true po (pre ++ suf) (cr + 1) (sr + N) pc l st (putM μ b c) := by
  subst hs'; subst hb; subst hj
  intro p l0 e R s m args below meth c0 H locs cells slots mc ms ls C' hc hs hl hH hS hz
  have C9 := C'
  obtain ⟨c1, c2, c3, c4, c5, c6, c7, c8, c9, ⟨r1, r2, r3, r4⟩, c11, c12, c13⟩ := C9
  obtain ⟨f1, f2, f3, f4, f5⟩ := F
  refine va_new (ci := ci) (fs := kFs X.1 ci (fun _ => 0) (fun _ => none)) c1 c2 c8 f3 (kTyF ci) f5 c6 (c8 _ h1) (c8 _ h2) (c8 _ h3) c9.1 hH.1 kW_D hS (fun q h => Nat.le_trans c13 h) f1 (fun j hj => ?_) (by omega) (by omega) hd (fun q H1 g1 g2 g3 => ?_)
  · show defaultValue (kTyF ci j) = (kFs X.1 ci (fun _ => 0) (fun _ => none)).getD j .null
    rw [List.getD_eq_getElem?_getD, kFs_get (by rw [f2]; exact hj)]
    have := hty j hj
    revert this
    cases kTyF ci j <;> intro h <;> first | rfl | (cases h)
  · refine W_sized (fun hz1 => ?_)
    have hz9 := hz rfl
    have hq := k_newat g1 g2 (k_size hH hz9 hz1)
    subst hq
    rw [show (Sum.inr (ci, kFs X.1 ci (fun _ => 0) (fun _ => none)) : va_E) = kE X (fun _ => 0) (.inr (ci, fun _ => none)) from rfl, kW_push, clr_id (by rw [List.length_append]; exact zb_putM hzc)] at g1
    rw [List.append_assoc] at g1
    have hs9 : H1.size = X.1 + (pre ++ (suf ++ [Sum.inr (ci, fun _ => none)])).length := by
      have a1 := hH.2 rfl
      have a2 := k_size hH hz9 hz1
      have a3 : (kW X (pre ++ (suf ++ [Sum.inr (ci, fun _ => none)])) (putM μ pre.length c))[pre.length + suf.length]? = some _ := kW_get (kd := Sum.inr (ci, fun _ => none)) (by rw [suf_at rfl]; simp)
      have a4 := (g1 _ _ a3).lt
      simp only [List.length_append, List.length_cons, List.length_nil] at a1 a2 a4 ⊢
      omega
    rw [List.length_append]
    exact kk p l0 e R s m args below meth c0 H1 locs (cells + 1) (slots + N) mc ms ls C' (by omega) (by omega) hl ⟨g1, fun _ => hs9⟩ g3 (fun _ => by have a1 := hH.2 rfl; simp only [List.length_append, List.length_cons, List.length_nil] at hs9 a1; omega)
theorem S_newarr {at0 : ArrayType} {ty : FieldType} (hd : decode md.2.1 pc = .ok (.newarray at0, 2)) (h1 : Cond.arrayClass (newarray.typeOf at0) ∈ kG) (hty : newarray.typeOf at0 = ty) (ht : (t = 0 ∧ ty = .int) ∨ (t = 1 ∧ ty = .char) ∨ (t = 2 ∧ ty = .long)) (hn : n < 2 ^ 16) (hb : pre.length = b) (hj : suf.length = j) (hzc : zb c j)
    (hs' : suf ++ [.inl (t, n, fun _ => none)] = suf') (kk : KJs X md d true po (pre ++ suf') cr sr (pc + 2) l (.ref (X.1 + (b + j)) :: st) (putM μ b c)) : KJs X md d true po (pre ++ suf) (cr + 1) (sr + n) pc l (.int (iI (n : Int)) :: st) (putM μ b c) := by
  subst hs'
  intro p l0 e R s m args below meth c0 H locs cells slots mc ms ls C' hc hs hl hH hS hz
  have C9 := C'
  obtain ⟨c1, c2, c3, c4, c5, c6, c7, c8, c9, ⟨r1, r2, r3, r4⟩, c11, c12, c13⟩ := C9
  have hz9 := hz rfl
  have hcl : (iI (n : Int)).toNatClampNeg = n := nI_clamp (by omega)
  have hcb : n * componentBytes ty ≤ 536870912 := by
    have : componentBytes ty ≤ 8 := by rcases ht with ⟨-, rfl⟩ | ⟨-, rfl⟩ | ⟨-, rfl⟩ <;> decide
    have := Nat.mul_le_mul (Nat.le_of_lt hn) this
    omega
  refine va_newa (atype := at0) (ty := ty) (a0 := kArr X.1 t n (fun _ => 0) (fun _ => none)) (N' := n) c1 c2 (c8 _ h1) hty c9.1 hH.1 kW_D hS (fun q h => Nat.le_trans c13 h) (fun cA => ?_) (nI_pos (by omega)) hcl hcb (by omega) (by omega) hd (fun q cA H1 gK g1 g2 g3 => ?_)
  · rcases ht with ⟨rfl, rfl⟩ | ⟨rfl, rfl⟩ | ⟨rfl, rfl⟩ <;> rfl
  · refine W_sized (fun hz1 => ?_)
    have hcA : cA = X.2.2.1 t := by
      have e1 : s.vm.findClass ("[" ++ ty.toString) = some cA := by
        have := (gK.2 5 (cA, ty) rfl).2
        rcases ht with ⟨rfl, rfl⟩ | ⟨rfl, rfl⟩ | ⟨rfl, rfl⟩ <;> exact this
      have e2 : s.vm.findClass ("[" ++ ty.toString) = some (X.2.2.1 t) := by
        rcases ht with ⟨rfl, rfl⟩ | ⟨rfl, rfl⟩ | ⟨rfl, rfl⟩
        · exact (c9.1.2 0 _ rfl).2
        · exact (c9.1.2 1 _ rfl).2
        · exact (c9.1.2 2 _ rfl).2
      exact Option.some.inj (e1.symm.trans e2)
    subst hcA
    obtain ⟨rfl, hH', hz'⟩ := k_new9 (kd := .inl (t, n, fun _ => none)) hH hz9 hb hj hzc g1 g2 hz1
    exact kk p l0 e R s m args below meth c0 H1 locs (cells + 1) (slots + n) mc ms ls C' (by omega) (by omega) hl hH' g3 (fun _ => hz')
theorem S_ctor (hd : decode md.2.1 pc = .ok (.invokespecial idx, 3)) (hl0 : Cond.methodLink md.1.cls idx mdY.1 ∈ kG) (M2 : Cond.instanceMethod mdY.1 ∈ kG) (M4 : kMf mdY 0) (hnm : mdY.1.name = "<init>") (hrt : mdY.2.2.2.1 = none) (hst : (st.map fun v => v.category).sum ≤ 8) (hdd : d' + 1 ≤ d) (hb : pre.length = b) (hj : suf.length = j)
    (hC : ∀ (pre0 : List Kd) (μ0 : Mu) (b0 : Nat), pre0.length = b0 → zb μ0 b0 → Ct X mdY d' (pre0 ++ [nd]) true μ0 mcY msY [.ref (X.1 + b0)] (poN (pre0 ++ ks b0) (putM μ0 b0 m0)))
    (hzc : zb c j) (hk : (ks (b + j)).length = mcY + 1) (hs' : suf ++ ks (b + j) = suf') (hc' : putM c j m0 = c') (kk : KJs X md d true po (pre ++ suf') cr sr (pc + 3) l st (putM μ b c')) : KJs X md d true po (pre ++ (suf ++ [nd])) (cr + mcY) (sr + msY) pc l (.ref (X.1 + (b + j)) :: st) (putM μ b c) := by
  rw [← List.append_assoc]
  refine S_callI (n := 0) (As := []) (b := b + j) (d' := d') hd hl0 M2 M4 hnm hrt rfl hst hdd (hC (pre ++ suf) (putM μ b c) (b + j) (by rw [List.length_append, hb, hj]) (zb_putM hzc)) (fun _ v sk' μ' h => by
    rw [h.2.1]
    have h9 := hk
    simp only [List.length_append, List.length_cons, List.length_nil]; omega) (fun v sk' μ' h => ?_) (fun e sk' μ' h => h) rfl
  obtain ⟨rfl, rfl, rfl⟩ := h
  rw [putM_in, hc', List.append_assoc, hs']
  exact kk
theorem KJs_less (h1 : cr' ≤ cr) (h2 : sr' ≤ sr) (k : KJs X md d ex po sk cr' sr' pc l st μ) : KJs X md d ex po sk cr sr pc l st μ := by
  intro p l0 e R s m args below meth c H locs cells slots mc ms ls C hc hs hl hH hS hz
  exact k p l0 e R s m args below meth c H locs cells slots mc ms ls C (by omega) (by omega) hl hH hS hz
theorem KJs_of {sk' : List Kd} (h : ∀ H : Heap, kHp X sk ex μ H → kHp X sk' false μ H) (k : KJ X md d false po sk' cr sr pc l st μ) : KJs X md d ex po sk cr sr pc l st μ := by
  intro p l0 e R s m args below meth c H locs cells slots mc ms ls C hc hs hl hH hS hz
  exact k p l0 e R s m args below meth c H locs cells slots mc ms ls C hc hs hl (h H hH) hS (fun q => by cases q)
end SR
def mu0 : Mu := putM (putM (fun _ _ => 0) 0 n_X10) 248 n_X11
theorem putM_0 (μ c : Mu) : putM μ 0 c = c := by
  funext a k
  unfold putM
  rw [if_neg (Nat.not_lt_zero a), Nat.sub_zero]
set_option maxRecDepth 100000 in
theorem law_start (X : kX) (po : kPo) (n : Nat) (hn : n ≤ 512) (kk : KJ X mL_law 9 false po SK n (6 * n) 23 [(4, .int (iI 0)), (3, .ref (X.1 + 260)), (2, .ref (X.1 + 248)), (1, .ref (X.1 + 0)), (0, .ref X.2.2.2.1)] [] mu0) : KJs X mL_law 9 true po ([] ++ []) 603072 7198826 0 [(0, .ref X.2.2.2.1)] [] (putM (fun _ _ => 0) 0 (fun _ _ => 0)) := by
  refine KJs_less (cr' := n + 1 + 11 + 1 + 247 + 1) (sr' := 6 * n + 1 + 7107 + 28 + 6761 + 9) (by omega) (by omega) ?_
  refine S_new (md := mL_law) (pc := 0) (pre := []) (suf := []) (b := 0) (c := fun _ _ => 0) (suf' := ([] ++ [.inr (10, fun _ => none)])) (ci := 10) (C := RX10) (T := TX10) (N := 9) (j := 0) (kTab_at (pc := 0) tL_law_0_ok 0 rfl) cf_X10 (inT1 32 (by decide +kernel) rfl) (inT1 33 (by decide +kernel) rfl) (inT1 1 (by decide +kernel) rfl) (by decide) rfl rfl (zb_0 0) rfl ?_
  refine S_dup (md := mL_law) (pc := 3) (kTab_at (pc := 3) tL_law_0_ok 1 rfl) rfl ?_
  refine S_ctor (md := mL_law) (pc := 4) (d := 9) (pre := []) (b := 0) (st := [.ref (X.1 + (0 + 0))]) (c := fun _ _ => 0) (suf := []) (nd := .inr (10, fun _ => none)) (suf' := kN_X10 0) (mdY := mX10_init) (d' := 4) (mcY := 247) (msY := 6761) (j := 0) (ks := kN_X10) (m0 := n_X10) (c' := putM (fun _ _ => 0) 0 n_X10) (kTab_at (pc := 4) tL_law_0_ok 2 rfl) (inT1 34 (by decide +kernel) rfl) (inT1 35 (by decide +kernel) rfl) mi_X10 rfl rfl (Nat.le_of_ble_eq_true rfl) (by decide) rfl rfl (fun _ _ _ h1 h2 => ct_X10 X h1 h2) (zb_0 0) rfl rfl rfl ?_
  refine S_astore_n (md := mL_law) (pc := 7) (l' := [(1, .ref (X.1 + (0 + 0))), (0, .ref X.2.2.2.1)]) (kTab_at (pc := 7) tL_law_0_ok 3 rfl) (Nat.le_of_ble_eq_true rfl) rfl ?_
  refine S_new (md := mL_law) (pc := 8) (pre := []) (suf := kN_X10 0) (b := 0) (c := putM (fun _ _ => 0) 0 n_X10) (suf' := (kN_X10 0 ++ [.inr (11, fun _ => none)])) (ci := 11) (C := RX11) (T := TX11) (N := 28) (j := 248) (kTab_at (pc := 8) tL_law_0_ok 4 rfl) cf_X11 (inT6 15 (by decide +kernel) rfl) (inT6 16 (by decide +kernel) rfl) (inT1 13 (by decide +kernel) rfl) (by decide) rfl rfl (zb_put (zb_mono zn_X10 (Nat.le_of_ble_eq_true rfl)) (Nat.zero_le _)) rfl ?_
  refine S_dup (md := mL_law) (pc := 11) (kTab_at (pc := 11) tL_law_0_ok 5 rfl) rfl ?_
  refine S_ctor (md := mL_law) (pc := 12) (d := 9) (pre := []) (b := 0) (st := [.ref (X.1 + (0 + 248))]) (c := putM (fun _ _ => 0) 0 n_X10) (suf := kN_X10 0) (nd := .inr (11, fun _ => none)) (suf' := kN_X10 0 ++ kN_X11 248) (mdY := mX11_init) (d' := 1) (mcY := 11) (msY := 7107) (j := 248) (ks := kN_X11) (m0 := n_X11) (c' := putM (putM (fun _ _ => 0) 0 n_X10) 248 n_X11) (kTab_at (pc := 12) tL_law_0_ok 6 rfl) (inT6 17 (by decide +kernel) rfl) (inT6 18 (by decide +kernel) rfl) mi_X11 rfl rfl (Nat.le_of_ble_eq_true rfl) (by decide) rfl rfl (fun _ _ _ h1 h2 => ct_X11 X h1 h2) (zb_put (zb_mono zn_X10 (Nat.le_of_ble_eq_true rfl)) (Nat.zero_le _)) rfl rfl rfl ?_
  refine S_astore_n (md := mL_law) (pc := 15) (l' := [(2, .ref (X.1 + (0 + 248))), (1, .ref (X.1 + (0 + 0))), (0, .ref X.2.2.2.1)]) (kTab_at (pc := 15) tL_law_0_ok 7 rfl) (Nat.le_of_ble_eq_true rfl) rfl ?_
  refine S_iconst (md := mL_law) (pc := 16) (x := ((1 : Nat) : Int)) (kTab_at (pc := 16) tL_law_0_ok 8 rfl) rfl ?_
  refine S_newarr (md := mL_law) (pc := 17) (pre := []) (suf := kN_X10 0 ++ kN_X11 248) (b := 0) (c := putM (putM (fun _ _ => 0) 0 n_X10) 248 n_X11) (suf' := ((kN_X10 0 ++ kN_X11 248) ++ [.inl (2, 1, fun _ => none)])) (t := 2) (n := 1) (j := 260) (ty := .long) (kTab_at (pc := 17) tL_law_0_ok 9 rfl) (inT6 106 (by decide +kernel) rfl) rfl (Or.inr (Or.inr ⟨rfl, rfl⟩)) (by decide) rfl rfl (zb_put (zb_mono zn_X11 (Nat.le_of_ble_eq_true rfl)) (Nat.le_of_ble_eq_true rfl)) rfl ?_
  refine S_astore_n (md := mL_law) (pc := 19) (l' := [(3, .ref (X.1 + (0 + 260))), (2, .ref (X.1 + (0 + 248))), (1, .ref (X.1 + (0 + 0))), (0, .ref X.2.2.2.1)]) (kTab_at (pc := 19) tL_law_0_ok 10 rfl) (Nat.le_of_ble_eq_true rfl) rfl ?_
  refine S_iconst (md := mL_law) (pc := 20) (x := 0) (kTab_at (pc := 20) tL_law_0_ok 11 rfl) rfl ?_
  refine S_istore (md := mL_law) (pc := 21) (l' := [(4, .int (iI 0)), (3, .ref (X.1 + (0 + 260))), (2, .ref (X.1 + (0 + 248))), (1, .ref (X.1 + (0 + 0))), (0, .ref X.2.2.2.1)]) (kTab_at (pc := 21) tL_law_0_ok 12 rfl) (Nat.le_of_ble_eq_true rfl) rfl ?_
  rw [putM_0, List.nil_append]
  refine KJs_of (sk' := SK) (fun H h => ⟨(kHp_start h).1, fun q => by cases q⟩) ?_
  exact kk

/-! methods with handlers: the law's helpers -/
abbrev kWsH (md : kM) (hh : List (Nat × Nat × Nat × Nat)) : List Cond := Cond.codeWith md.1 md.2.1 md.2.2.1 md.2.2.2.1 hh :: kG
def CtH (X : kX) (md : kM) (hh : List (Nat × Nat × Nat × Nat)) (d : Nat) (sk : List Kd) (ex : Bool) (μ : Mu) (mc ms : Nat) (args : List Value) (po : kPo) : Prop :=
  ∀ l0 : Launch, l0.stackTraces = false → vx_Met l0 md.1 (kWsH md hh) (kRm d mc ms) (kPc X sk ex μ args) (kQ X ex po) (kQx X po) mc ms (kFree X)
theorem ctH_of {X : kX} {md : kM} {hh : List (Nat × Nat × Nat × Nat)} {d : Nat} {sk : List Kd} {ex : Bool} {μ : Mu} {mc ms : Nat} {args : List Value} {po : kPo} (hy : plainName md.1.cls = true) (ht : md.2.2.2.2 = tableOf hh) (hl : (lg_sl args).length ≤ md.2.2.1)
    (k : KJ X md d ex po sk mc ms 0 (lv_args 0 args) [] μ) : CtH X md hh d sk ex μ mc ms args po := by
  intro l0 hl0
  refine vx_ofWH (hh := hh) (cc := md.2.1) (maxL := md.2.2.1) (ret := md.2.2.2.1) hy rfl ?_
  intro p e s m args0 below meth c s₁ B hml hv
  obtain ⟨rfl, hE, hH, hz⟩ := hv
  have hts := atoms_spec (ws := kWsH md hh) B.pre
  rw [lg_entry_eq]
  exact k p l0 e _ s m _ below meth c s.heap [] 0 0 mc ms _
    ⟨B.exec, B.bytes, hml, B.returns, B.notSynchronized, findClass_of_methodNamed B.named, (name_of_methodNamed B.named B.method).1, fun w hw => hts w (List.mem_cons_of_mem _ hw), hE, ⟨Nat.le_refl _, Nat.le_refl _, Nat.le_refl _, Nat.le_refl _⟩, hl0, by rw [ht]; exact vx_table (x := md.1) B (hts _ List.mem_cons_self), hz⟩
    (by omega) (by omega) (lv_entry args hl) hH va_S.rf (fun _ => rfl)
theorem EU.en {X : kX} {U : State} {H : Heap} (h : EU X U H) : EN U := h.2.2.2.2.2.2.2.2.2.2.2.1
theorem EU.scr {X : kX} {U : State} {H : Heap} (h : EU X U H) : va_X X.2.2.2.1 X.2.2.2.2.1 X.2.2.2.2.2 U H ∧ X.2.2.2.1 < X.1 := h.2.2.2.2.2.2.2.2.2.2.2.2
def hTb (own : String) (pc : Nat) : List ExceptionTableEntry → List Nat → Prop
  | [], [] => True
  | x :: t, e :: cl => (e < 6 ∧ covers x pc = true ∧ x.catchType ≠ 0 ∧ Cond.classLink own x.catchType (exName e) ∈ kG ∧ (exName e, exName e) ∈ kNC) ∧ hTb own pc t cl
  | _, _ => False
def hpos : List Nat → Nat → Option Nat
  | [], _ => none
  | c :: r, e => if c = e then some 0 else (hpos r e).map (· + 1)
theorem hTb_at {own : String} {pc e : Nat} : ∀ (t : List ExceptionTableEntry) (cl : List Nat) (i : Nat), hTb own pc t cl → hpos cl e = some i →
    e < 6 ∧ ∃ (pre : List ExceptionTableEntry) (x : ExceptionTableEntry) (suf : List ExceptionTableEntry), t = pre ++ x :: suf ∧ t[i]? = some x ∧ (∀ z ∈ pre, z.catchType ≠ 0 ∧ ∃ j : Nat, j < 6 ∧ e ≠ j ∧ Cond.classLink own z.catchType (exName j) ∈ kG) ∧ covers x pc = true ∧ x.catchType ≠ 0 ∧ Cond.classLink own x.catchType (exName e) ∈ kG ∧ (exName e, exName e) ∈ kNC
  | [], [], i, _, h => by cases h
  | [], c :: r, i, h, _ => h.elim
  | x :: t, [], i, h, _ => h.elim
  | x :: t, c :: r, i, h, hp => by
    unfold hpos at hp
    by_cases q : c = e
    · rw [if_pos q] at hp
      cases hp; subst q
      obtain ⟨⟨a1, a2, a3, a4, a5⟩, -⟩ := h
      exact ⟨a1, [], x, t, rfl, rfl, (fun z hz => nomatch hz), a2, a3, a4, a5⟩
    · rw [if_neg q] at hp
      cases hr : hpos r e with
      | none => rw [hr] at hp; cases hp
      | some j =>
        rw [hr] at hp
        cases hp
        obtain ⟨b1, pre, x', suf, b2, b3, b4, b5⟩ := hTb_at t r j h.2 hr
        refine ⟨b1, x :: pre, x', suf, by rw [b2]; rfl, b3, fun z hz => ?_, b5⟩
        rcases List.mem_cons.mp hz with rfl | hz
        · obtain ⟨⟨a1, a2, a3, a4, a5⟩, -⟩ := h
          exact ⟨a3, c, a1, fun w => q w.symm, a4⟩
        · exact b4 z hz
def hg (k : Nat) (x : Int) : Bool := match k with
  | 0 => decide (-2147483648 ≤ x) && decide (x < 2147483648)
  | 1 => decide (x = 0) || decide (x = 1)
  | _ => true
/-- what a helper of the law answers: its code, with the answer in the long that lies at 260 -/
def hp (k : Nat) (cl : List Nat) (f : Option Res) : Option Res := match f with
  | none => none
  | some (μ, 0, x) => if hg k x = true then some (up2 μ 260 0 x, 0, 0) else none
  | some (μ, e + 1, _) => match hpos cl e with
    | none => none
    | some i => some (μ, 0, (i : Int) + 1)
def kMSH (own : String) (idx : Nat) (mdY : kM) (hh : List (Nat × Nat × Nat × Nat)) (n : Nat) : Prop := Cond.methodLink own idx mdY.1 ∈ kG ∧ Cond.static mdY.1 ∈ kG ∧ Cond.codeWith mdY.1 mdY.2.1 mdY.2.2.1 mdY.2.2.2.1 hh ∈ kG ∧ Cond.initialized mdY.1.cls ∈ kG ∧ (mdY.1.cls ≠ "java/lang/invoke/MethodHandle" ∧ mdY.1.cls ≠ "java/lang/invoke/VarHandle" ∧ (parseMethodDescriptor mdY.1.desc).map (fun d => d.parameters.length) = some n) ∧ mdY.2.2.1 ≤ 40
section KH
variable {X : kX} {md mdY : kM} {d d' rkY : Nat} {ex : Bool} {po poY : kPo} {sk : List Kd} {cr sr cr' sr' pc mcY msY : Nat} {l l' : List (Nat × Value)} {st As : List Value} {μ : Mu} {x y : Int} {b n ci idx : Nat} {rf : Nat → Option Nat}
theorem KJ_sub (h : ∀ q ∈ l', q ∈ l) (k : KJ X md d ex po sk cr sr pc l' st μ) : KJ X md d ex po sk cr sr pc l st μ := by
  intro p l0 e R s m args below meth c H locs cells slots mc ms ls C hc hs hl hH hS hz
  exact k p l0 e R s m args below meth c H locs cells slots mc ms ls C hc hs ⟨hl.1, hl.2.1, fun q hq => hl.2.2 q (h q hq)⟩ hH hS hz
theorem KJ_less (h1 : cr' ≤ cr) (h2 : sr' ≤ sr) (k : KJ X md d ex po sk cr' sr' pc l st μ) : KJ X md d ex po sk cr sr pc l st μ := by
  intro p l0 e R s m args below meth c H locs cells slots mc ms ls C hc hs hl hH hS hz
  exact k p l0 e R s m args below meth c H locs cells slots mc ms ls C (by omega) (by omega) hl hH hS hz
theorem K_callH (hd : decode md.2.1 pc = .ok (.invokevirtual idx, 3)) (M : kMV md.1.cls idx mdY n ci) (hsk : sk[b]? = some (.inr (ci, rf))) (hn : As.length = n) (hst : (st.map fun v => v.category).sum ≤ 8) (hdd : d' + 1 ≤ d)
    (hC : Ct X mdY d' sk false μ mcY msY (.ref (X.1 + b) :: As) poY)
    (kk : ∀ v sk' μ', poY.1 v sk' μ' → KJ X md d false po sk' cr sr (pc + 3) l (v.toList ++ st) μ')
    (kx : ∀ e sk' μ', poY.2 e sk' μ' → e < 6 ∧ ∃ (pre : List ExceptionTableEntry) (x : ExceptionTableEntry) (suf : List ExceptionTableEntry), md.2.2.2.2 = pre ++ x :: suf ∧ (∀ z ∈ pre, z.catchType ≠ 0 ∧ ∃ j : Nat, j < 6 ∧ e ≠ j ∧ Cond.classLink md.1.cls z.catchType (exName j) ∈ kG) ∧ covers x pc = true ∧ x.catchType ≠ 0 ∧ Cond.classLink md.1.cls x.catchType (exName e) ∈ kG ∧ (exName e, exName e) ∈ kNC ∧ ∀ q : Nat, KJ X md d false po sk' cr sr x.handlerPc l [.ref q] μ')
    {st1 : List Value} (hs1 : st1 = As.reverse ++ .ref (X.1 + b) :: st) : KJ X md d false po sk (cr + mcY) (sr + msY) pc l st1 μ := by
  subst hs1
  intro p l0 e R s m args below meth c H locs cells slots mc ms ls C hc hs hl hH hS hz
  obtain ⟨M1, M2, M3, M4, T, N, M5⟩ := M
  have C' := C
  obtain ⟨c1, c2, c3, c4, c5, c6, c7, c8, c9, ⟨r1, r2, r3, r4⟩, c11, c12, c13⟩ := C'
  refine K_run (vx_runV (As := As) (C := mdY.1.cls) (b := X.1 + b) (rest := st) ⟨c1, c2, c3, c6, c8⟩ (hC l0 c11) ⟨k_callB C M4 hdd M1, c8 _ M2, c8 _ M3⟩ ⟨kPc_blind, va_recv c9.1 hH.1 (q := (mdY.1.cls, T, N)) M5 (kW_get hsk), k_pre C hH hS⟩ rfl hn hl.1 rfl (lv_room hst) hd ⟨by omega, by omega⟩) hS
    (fun v sk' μ' H' locs' hp hH' hS' => kk v sk' μ' hp p l0 e R s m args below meth c H' locs' (cells + mcY) (slots + msY) mc ms ls C (by omega) (by omega) hl hH' hS' (fun h => by cases h))
    (fun e0 ce q sk' μ' H' locs' hp hH' hS' h1 h2 h3 => ?_)
  obtain ⟨he, pre, x, suf, t1, t2, t3, t4, t5, t6, t7⟩ := kx e0 sk' μ' hp
  refine vx_catch (own := md.1.cls) (name := exName e0) (E := exName e0) c6 pre x suf (by rw [c12, t1]) (fun z hz => Or.inr ?_) t3 t4 (c8 _ t5) (va_Nw.use rfl (c9.2.2.1 _ t6)) h1 h2 h3 ?_
  · obtain ⟨a1, j, a2, a3, a4⟩ := t2 z hz
    exact ⟨a1, exName j, c8 _ a4, c9.en e0 j he a2 a3⟩
  · exact t7 q p l0 e R s m args below meth c H' locs' (cells + mcY) (slots + msY) mc ms ls C (by omega) (by omega) hl hH' hS' (fun h => by cases h)
/-- the call of a helper: an operation of the class, its answer or one of the caught exceptions -/
theorem K_callHp {fY : Option Res} {k : Nat} {cl : List Nat} {r : Res} (hd : decode md.2.1 pc = .ok (.invokevirtual idx, 3)) (M : kMV md.1.cls idx mdY n ci) (hsk : SK[b]? = some (.inr (ci, rf))) (hn : As.length = n) (hst : (st.map fun v => v.category).sum ≤ 8) (hdd : d' + 1 ≤ d)
    (hC : Cq X mdY d' rkY μ (.ref (X.1 + b) :: As) fY) (hT : hTb md.1.cls pc md.2.2.2.2 cl) (h : hp k cl fY = some r)
    (kk : ∀ μ' v, hg k v = true → r = (up2 μ' 260 0 v, 0, 0) → KJ X md d false po SK 0 0 (pc + 3) l ((rvO rkY v).toList ++ st) μ')
    (kx : ∀ (i : Nat) (x : ExceptionTableEntry) (q : Nat) (μ' : Mu), md.2.2.2.2[i]? = some x → r = (μ', 0, (i : Int) + 1) → KJ X md d false po SK 0 0 x.handlerPc l [.ref q] μ')
    {st1 : List Value} (hs1 : st1 = As.reverse ++ .ref (X.1 + b) :: st) : KJ X md d false po SK 1 6 pc l st1 μ := by
  cases hf : fY with
  | none => rw [hf] at h; cases h
  | some rY =>
    have hcq : cq rY ≤ 1 := by unfold cq; split <;> omega
    refine KJ_less (cr' := 0 + cq rY) (sr' := 0 + 6 * cq rY) (by omega) (by omega) ?_
    refine K_callH (As := As) hd M hsk hn hst hdd (hC rY hf) ?_ ?_ hs1
    · rintro v sk' μ' ⟨rfl, h0, rfl, rfl⟩
      obtain ⟨μY, c, v⟩ := rY
      dsimp only at h0
      subst h0
      rw [hf] at h
      unfold hp at h
      dsimp only at h
      obtain ⟨g, h⟩ := og h
      cases h
      exact kk μY v g rfl
    · rintro e sk' μ' ⟨rfl, h0, rfl⟩
      obtain ⟨μY, c, v⟩ := rY
      dsimp only at h0
      subst h0
      rw [hf] at h
      unfold hp at h
      dsimp only at h
      cases hh : hpos cl e with
      | none => rw [hh] at h; cases h
      | some i =>
        rw [hh] at h
        cases h
        obtain ⟨b1, pre, x, suf, b2, b3, b4, b5, b6, b7, b8⟩ := hTb_at _ _ _ hT hh
        exact ⟨b1, pre, x, suf, b2, b4, b5, b6, b7, b8, fun q => kx i x q _ b3 rfl⟩
/-- the call of a method with handlers that throws nothing -/
theorem K_callSH {hh : List (Nat × Nat × Nat × Nat)} (hd : decode md.2.1 pc = .ok (.invokestatic idx, 3)) (M : kMSH md.1.cls idx mdY hh n) (hn : As.length = n) (hst : (st.map fun v => v.category).sum ≤ 8) (hdd : d' + 1 ≤ d)
    (hC : CtH X mdY hh d' sk false μ mcY msY As poY)
    (kk : ∀ v sk' μ', poY.1 v sk' μ' → KJ X md d false po sk' cr sr (pc + 3) l (v.toList ++ st) μ') (kx : ∀ e sk' μ', ¬ poY.2 e sk' μ') {st1 : List Value} (hs1 : st1 = As.reverse ++ st) : KJ X md d false po sk (cr + mcY) (sr + msY) pc l st1 μ := by
  subst hs1
  intro p l0 e R s m args below meth c H locs cells slots mc ms ls C hc hs hl hH hS hz
  obtain ⟨M1, M2, M3, M4, M5, M6⟩ := M
  have C' := C
  obtain ⟨c1, c2, c3, c4, c5, c6, c7, c8, c9, ⟨r1, r2, r3, r4⟩, c11, c12, c13⟩ := C'
  have hG : GoodIn kG (kWsH mdY hh) := fun w hw => by
    rcases List.mem_cons.mp hw with rfl | hw
    · exact ⟨M3, kG_good M3⟩
    · exact ⟨hw, kG_good hw⟩
  have cw : vx_CSW R s args md.1.cls idx mdY.1 mdY.2.1 mdY.2.2.1 mdY.2.2.2.1 hh (kWsH mdY hh) (kRm d' mcY msY) mcY msY n := by
    refine ⟨⟨rfl, rfl, by show 8 + d' + 1 ≤ R.frames; omega, by show 8 + (mdY.2.2.1 + 11) + (d' + 1) * 100 ≤ R.locals; omega, pay_in c8 hG, List.mem_cons_self⟩, c8 _ M3, c8 _ M4, ⟨M5.1, M5.2.1⟩, fun sig h => ?_, c8 _ M1, c8 _ M2⟩
    have h2 := M5.2.2
    rw [h] at h2
    exact (Option.some.inj h2).symm
  refine K_run (vx_runSX (As := As) (rest := st) ⟨c1, c2, c3, c6, c8⟩ (hC l0 c11) cw ⟨kPc_blind, k_pre C hH hS⟩ rfl hn hl.1 rfl (lv_room hst) hd ⟨by omega, by omega⟩) hS
    (fun v sk' μ' H' locs' hp hH' hS' => kk v sk' μ' hp p l0 e R s m args below meth c H' locs' (cells + mcY) (slots + msY) mc ms ls C (by omega) (by omega) hl hH' hS' (fun h => by cases h))
    (fun e0 ce q sk' μ' H' locs' hp hH' hS' h1 h2 h3 => absurd hp (kx e0 sk' μ'))
/-- the script -/
def sw (X : kX) (j : Nat) : Int := (X.2.2.2.2.2 j).toInt
theorem sw_gI (X : kX) (j : Nat) : gI (sw X j) := by
  unfold sw gI
  have h1 := Int32.le_toInt (X.2.2.2.2.2 j)
  have h2 := Int32.toInt_lt (X.2.2.2.2.2 j)
  exact ⟨h1, h2⟩
theorem K_slen (hd : decode md.2.1 pc = .ok (.arraylength, 1)) (kk : KJ X md d ex po sk cr sr (pc + 1) l (.int (iI (X.2.2.2.2.1 : Int)) :: st) μ) : KJ X md d ex po sk cr sr pc l (.ref X.2.2.2.1 :: st) μ := by
  intro p l0 e R s m args below meth c H locs cells slots mc ms ls C hc hs hl hH hS hz
  have c9 := C.2.2.2.2.2.2.2.2.1
  have h9 := c9.scr
  have c13 := C.2.2.2.2.2.2.2.2.2.2.2.2
  refine va_slen C.1 C.2.1 h9.1 (by omega) (by show ¬ X.1 ≤ X.2.2.2.1; omega) hS hd ?_
  exact kk p l0 e R s m args below meth c H locs cells slots mc ms ls C hc hs hl hH hS hz
theorem K_sld (hL : X.2.2.2.2.1 < 2 ^ 31) (hx : 0 ≤ x ∧ x < X.2.2.2.2.1) (hd : decode md.2.1 pc = .ok (.iaload, 1)) (kk : KJ X md d ex po sk cr sr (pc + 1) l (.int (iI (sw X x.toNat)) :: st) μ) : KJ X md d ex po sk cr sr pc l (.int (iI x) :: .ref X.2.2.2.1 :: st) μ := by
  intro p l0 e R s m args below meth c H locs cells slots mc ms ls C hc hs hl hH hS hz
  have c9 := C.2.2.2.2.2.2.2.2.1
  have h9 := c9.scr
  have c13 := C.2.2.2.2.2.2.2.2.2.2.2.2
  obtain ⟨i1, i2⟩ := in_iI hx.1 hx.2 hL
  refine va_sld C.1 C.2.1 h9.1 (by omega) (by show ¬ X.1 ≤ X.2.2.2.1; omega) hS i1 hd ?_
  rw [i2, show X.2.2.2.2.2 x.toNat = iI (sw X x.toNat) from (iI_of _).symm]
  exact kk p l0 e R s m args below meth c H locs cells slots mc ms ls C hc hs hl hH hS hz
end KH

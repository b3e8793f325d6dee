/-! THE CLAIM OUT OF ONE WALK OF THE LAW'S BODY. Your part is whole_start (and what it stands on); all else here is the same for every law, but numbers. -/
def lw_P (b : Addr) (xs : List Int32) (args : Array Value) (s : State) : Prop := args = #[.ref b] ∧ s.IntsAt b xs ∧ xs.length ≤ 2560 ∧ (Jvm.Cond.and given_1 narrow_1).before args s = true
/-- what a walk over the start with the record d0 says of its end, said of the start itself -/
theorem lw_closed {s t : State} {o : Outcome} {d0 : Drawn} {L : List Loc} {k n : Nat} (hd0 : s.drawn.sameBut d0 lw_cs) (hv : ∃ v, o = .returned v) (hW : (s.setDrawn d0).WarmedH t.vm) (hs : (s.setDrawn d0).sameButNew ({ t with vm := s.vm } : State) L k n) : State.butDraws s t lw_cs (fun t1 => Framed s o t1 L k n) := by
  have h2 : t.drawn = d0 := congrArg State.drawn hs.1
  refine ⟨⟨hv, hW, State.sameButNew.setDrawn hs s.drawn⟩, ?_, by decide⟩
  rw [h2]
  exact hd0
def lw_Q (_ : Array Value) (s : State) (o : Outcome) (t : State) : Prop := o = .returned (some (.int 1)) ∧ State.butDraws s t lw_cs (fun t1 => Framed s o t1 [] 603072 7198826)
def lw_Z (below : List Frame) (a : Array Value) (s : State) : State → Prop := fun t => ∃ o, t.status = .running ∧ Ended t below o ∧ lw_Q a s o t
/-- the law's own end, with 1 on the stack, nothing written that was there before, its room as the claim has it; d0: the record of draws at this point (at the entry s.drawn: begin with 'refine W.base ?_' and 'have hd0 := Drawn.sameBut.refl s.drawn lw_cs') -/
theorem lw_ret {p : Program} {l : Launch} {e : Env} {s : State} {m : MethodId} {below : List Frame} {meth : Method} {c : Code} {b : Nat} {d0 : Drawn} (hd0 : s.drawn.sameBut d0 lw_cs) (hx : p.tables.exec = Jvm.exec) (hb : c.code = code) (hr : meth.sig.returnType = ret) (hlocks : meth.locks = false) {pc : Nat} {H : Heap} {ls : Array Slot} (hdg : decode code pc = .ok (.ireturn, 1)) : W p l e room_1 (s.setDrawn d0) m #[Value.ref b] below meth c H [] 603072 7198826 (lw_Z below #[Value.ref b] s) (F0 m pc ls [.int 1]) := by
  intro T hT X
  obtain ⟨fs, hret, hrun, hended, hW, hframe⟩ := X.leave (v := some (.int 1)) (hlocks := hlocks) (fun h => by rw [hr] at h; cases h)
  have hmeth' : T.vm.method? m = some meth := X.method'
  refine ⟨T.setFrames fs, ?_, .returned (some (.int 1)), hrun, hended, rfl, lw_closed hd0 ⟨_, rfl⟩ hW hframe⟩
  jvm_step X.here [X.here.top, hx, hb, hdg, hmeth', hr, ret, narrow_b1]
  (try refine ⟨rfl, ?_⟩); (try refine ⟨rfl, ?_⟩)
  first | (intro acts; rw [hret _ acts rfl rfl rfl]) | rw [hret _ _ rfl rfl rfl]
  exact Steps.refl _
/-- what holds at the law's entry: the machine, the code, the tables' words (any of lw_tbl by 'hts w (by decide +kernel)'), the script of L ints xs at the cell b, what the Statement gives of the start (any of its parts by flat_of_before) -/
def lw_At (p : Program) (s : State) (m : MethodId) (meth : Method) (c : Code) (b L : Nat) (xs : Nat → Int32) : Prop :=
  p.tables.exec = Jvm.exec ∧ c.code = code ∧ meth.sig.returnType = ret ∧ c.maxLocals = 8 ∧ s.vm.findClass R_law = some m.cls ∧ (∀ w ∈ lw_tbl, w.before #[Value.ref b] s = true) ∧ va_X b L xs s s.heap ∧ b < s.heap.size ∧ meth.locks = false ∧ (Jvm.Cond.and given_1 narrow_1).before #[Value.ref b] s = true ∧ meth.name = yL_law.name ∧ c.exceptionTable.toList = []
theorem same_forget {s t : State} {L : List Loc} {k n : Nat} (h : s.sameButNew t L k n) (hf : ∀ q ∈ L, s.heap.size ≤ q.base) : s.sameButNew t [] k n := by
  obtain ⟨h1, h2, h3, h4, h5, h6⟩ := h
  refine ⟨h1, h2, h3, h4, h5, fun a c hc => ?_⟩
  obtain ⟨c', e1, e2, e3, e4⟩ := h6 a c hc
  refine ⟨c', e1, e2, e3, fun i _ => e4 i (fun hm => ?_)⟩
  have k1 := hf _ hm
  have k2 := (Array.getElem?_eq_some_iff.mp hc).1
  exact absurd k2 (Nat.not_lt.mpr k1)
/-- from the entry, for every script of at most 2560 ints, the law comes to its end with true, if every run of calls does in the pure functions -/
theorem law_true (hrun : ∀ w : Nat → Int, (∀ j, gI (w j)) → ∀ n : Nat, n ≤ 512 → ∃ μe, lrun w n 0 mu0 = some μe) {p : Program} {e : Env} {s : State} {m : MethodId} {below : List Frame} {meth : Method} {c : Code} (l : Launch) (hflags : l.flags = flags0) {b L : Nat} {xs : Nat → Int32} (hL : L ≤ 2560) (C0 : lw_At p s m meth c b L xs) : W p l e room_1 s m #[Value.ref b] below meth c s.heap [] 0 0 (lw_Z below #[Value.ref b] s) (entryFrame m ([Value.ref b] : List Value).toArray 8) := by
  obtain ⟨hx, hb, hr, hml, hown, hts, hX, hbl, hlocks, hgv, hnm, htab⟩ := id C0
  obtain ⟨D, tc, hE⟩ := lw_EU hts hX hbl hgv
  generalize hXX : ((s.heap.size, D, tc, b, L, xs) : kX) = X at hE
  have x1 : X.1 = s.heap.size := by rw [← hXX]
  have x2 : X.2.2.2.1 = b := by rw [← hXX]
  have x3 : X.2.2.2.2.1 = L := by rw [← hXX]
  obtain ⟨μe, hr9⟩ := hrun (sw X) (sw_gI X) (L / 5) (by omega)
  have k := law_start X poL (L / 5) (by omega) (KJ_sub (l' := [(4, .int (iI 0)), (0, .ref X.2.2.2.1), (1, .ref (X.1 + 0)), (2, .ref (X.1 + 248)), (3, .ref (X.1 + 260))]) (fun q hq => by
    simp only [List.mem_cons, List.not_mem_nil, or_false] at hq ⊢
    rcases hq with h | h | h | h | h <;> simp [h]) (law_loop X (by omega) (L / 5) 0 mu0 μe (by omega) (by omega) (by omega) hr9))
  intro T hT X0
  have hl := lv_entry ([.ref b]) (n := 8) (Nat.le_of_ble_eq_true rfl)
  rw [lg_entry_eq]
  generalize (lg_sl ([.ref b]) ++ List.replicate (8 - (lg_sl ([.ref b])).length) Slot.unset).toArray = ls at hl ⊢
  have hl : lv_has ls 8 [(0, .ref X.2.2.2.1)] := by rw [x2]; exact hl
  have hg : ∀ w ∈ kG, w.before #[Value.ref b] s = true := fun w h => hts w (List.mem_filter.mp h).1
  have hst : l.stackTraces = false := by unfold Launch.stackTraces; rw [hflags]; decide +kernel
  have hH : kHp X ([] ++ []) true (putM (fun _ _ => 0) 0 (fun _ _ => 0)) s.heap := ⟨fun k q hq => (by cases hq), fun _ => x1.symm⟩
  obtain ⟨t, a1, o, b1, b2, b3⟩ := k p l e room_1 s m #[Value.ref b] below meth c s.heap [] 0 0 603072 7198826 ls
    ⟨hx, hb, hml, hr, hlocks, hown, hnm, hg, hE, ⟨by decide, by decide, by decide, by decide⟩, hst, htab, by rw [x1]; exact Nat.le_refl _⟩ (by omega) (by omega) hl hH va_S.rf (fun _ => rfl) T hT X0
  refine ⟨t, a1, o, b1, b2, ?_⟩
  rcases b3 with ⟨⟨v, sk', μ', rfl, hv, -, -⟩, L9, ⟨f1, f2, f3⟩, hfree⟩ | ⟨q, -, E, ce, L9, ⟨e0, sk', μ', -, hf, -⟩, -⟩
  · refine ⟨?_, ?_⟩
    · show Outcome.returned v = _
      rw [show v = some (.int (iI 1)) from hv]; rfl
    · exact lw_closed (d0 := s.drawn) (Drawn.sameBut.refl s.drawn lw_cs) ⟨v, rfl⟩ f2 (same_forget f3 (fun q hq => by have h9 : X.1 ≤ q.base := hfree q hq; rw [x1] at h9; exact h9))
  · exact hf.elim

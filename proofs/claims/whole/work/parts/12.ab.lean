def nsBytes : ByteArray := ⟨#[0x2a, 0x2b, 0xb7, 0x00, 0x0d, 0xb1]⟩
def kTN (own : String) (ic : Nat) : Prop := Bundle.fit (exName 5) = true ∧ Cond.initialized (exName 5) ∈ kG ∧
  (∀ w ∈ (nA own ic (exName 5)).filter vx_no, w ∈ kG ∨ (∃ q ∈ kNC, w = .castable q.1 q.2) ∨ (∃ q ∈ kND, w = .declares q)) ∧ (∀ w ∈ (nA own ic (exName 5)).filter vx_no, vx_ot w = true) ∧
  (∀ w ∈ Bundle.passSAtoms (exName 5) "java/lang/RuntimeException" 13 nsBytes, w ∈ kG ∨ (∃ q ∈ kNC, w = .castable q.1 q.2) ∨ (∃ q ∈ kND, w = .declares q)) ∧ (∀ w ∈ Bundle.passSAtoms (exName 5) "java/lang/RuntimeException" 13 nsBytes, vx_ot w = true) ∧
  (∀ w ∈ Bundle.chainSAtoms "java/lang/RuntimeException" ["java/lang/Exception"], w ∈ kG ∨ (∃ q ∈ kNC, w = .castable q.1 q.2) ∨ (∃ q ∈ kND, w = .declares q)) ∧ (∀ w ∈ Bundle.chainSAtoms "java/lang/RuntimeException" ["java/lang/Exception"], vx_ot w = true)
set_option maxRecDepth 100000 in
theorem tn_0 : kTN RX10 213 := ⟨by decide +kernel, inT1 25 (by decide +kernel) rfl, kAT_of (by decide +kernel), by decide +kernel, kAT_of (by decide +kernel), by decide +kernel, kAT_of (by decide +kernel), by decide +kernel⟩
theorem K_throwN {X : kX} {md : kM} {d : Nat} {ex : Bool} {po : kPo} {sk : List Kd} {cr sr pc : Nat} {l : List (Nat × Value)} {μ : Mu} {ik is ic : Nat} {text : String} (F : kTN md.1.cls ic) (hk : Cond.classLink md.1.cls ik (exName 5) ∈ kG) (hstr : (md.1.cls, is, text) ∈ kSR) (htab : md.2.2.2.2 = [])
    (d0 : decode md.2.1 pc = .ok (.new ik, 3)) (d3 : decode md.2.1 (pc + 3) = .ok (.dup, 1)) (d4 : decode md.2.1 (pc + 4) = .ok (.ldc is, 2)) (d6 : decode md.2.1 (pc + 6) = .ok (.invokespecial ic, 3)) (d9 : decode md.2.1 (pc + 9) = .ok (.athrow, 1))
    (hp : po.2 5 sk μ) : KJ X md d ex po sk (cr + 1) (sr + 6) pc l [] μ := by
  intro p l0 e R s m args below meth c H locs cells slots mc ms ls C hc hs hl hH hS hz
  obtain ⟨c1, c2, c3, c4, c5, c6, c7, c8, c9, ⟨r1, r2, r3, r4⟩, c11, c12, c13⟩ := C
  obtain ⟨sa, hsa⟩ := c9.2.2.2.2.1 _ hstr
  obtain ⟨F1, F2, F3, F4, F5, F6, F7, F8⟩ := F
  have use : ∀ w : Cond, (w ∈ kG ∨ (∃ q ∈ kNC, w = .castable q.1 q.2) ∨ (∃ q ∈ kND, w = .declares q)) → w.before args s = true := by
    intro w h
    rcases h with h | ⟨q, hq, rfl⟩ | ⟨q, hq, rfl⟩
    · exact c8 w h
    · exact va_Nw.use rfl (c9.2.2.1 q hq)
    · exact va_Nw.use rfl (c9.2.2.2.1 q hq)
  intro T hT X0
  have htr : e.platform.stackTraces = false := (show e.platform.stackTraces = l0.stackTraces by rw [X0.admits.platform]).trans c11
  have Y := vx_rebase X0 (R' := { frames := R.frames, locals := R.locals, cells := 1, slots := 6 }) (Nat.le_refl _) (Nat.le_refl _) (show cells + 1 ≤ R.cells by omega) (show slots + 6 ≤ R.slots by omega)
  obtain ⟨s', hA⟩ : ∃ z, z = (T.setVm s.vm).setFrames (.invoking m args :: below) := ⟨_, rfl⟩
  rw [← hA] at Y
  have hvm : s'.vm = s.vm := by rw [hA]; rfl
  have hhp : s'.heap = H := by rw [hA]; exact hT
  have hW0 : s.WarmedH s'.vm := by rw [hvm]; exact State.WarmedH.refl s
  have ot : ∀ w : Cond, vx_ot w = true → (w ∈ kG ∨ (∃ q ∈ kNC, w = .castable q.1 q.2) ∨ (∃ q ∈ kND, w = .declares q)) → w.before args s' = true := fun w h1 h2 => vx_ot_at hW0 hvm.symm h1 (use w h2)
  have hU' : vx_Zq Bundle.tN "UNASSIGNED_STACK" Bundle.steD (kFree X) s' s'.heap := by rw [hhp]; exact vx_Zq.moved hW0.alike (c9.2.2.2.2.2.1.kept hS.2.1)
  have hN' : vx_Zq Bundle.tN "SUPPRESSED_SENTINEL" Bundle.listD (kFree X) s' s'.heap := by rw [hhp]; exact vx_Zq.moved hW0.alike (c9.2.2.2.2.2.2.1.kept hS.2.1)
  have h : ∀ w ∈ nA md.1.cls ic (exName 5), w.before args s' = true := vx_own (fun w hw => ot w (F4 w hw) (F3 w hw)) (vx_isRefq hU'.1) (vx_isRefq hN'.1) hU'.2.word hN'.2.word
  have hown' : s'.vm.findClass md.1.cls = some m.cls := by rw [hvm]; exact c6
  have hins : (Cond.instantiable (exName 5) 6).before args s' = true := h _ (by simp [nA])
  obtain ⟨vm₁, cX, kX0, hfX, hkX, -, -, X₁, st1⟩ := Y.newCold c1 (own := md.1.cls) (C := exName 5) (index := ik) (n := 6) hown' (ot _ rfl (Or.inl hk)) hins (ot _ rfl (Or.inl F2))
    (g := F0 m pc ls []) rfl (by rw [c2]; exact d0) (Nat.le_refl _) (Nat.le_refl _)
  generalize hT1 : (T.setVm vm₁).pushCell { cls := cX, slots := kX0.instanceTypes.map defaultValue, vm := .none } = T1 at X₁ st1
  have hcat : (Value.ref T.heap.size).category = 1 := rfl
  have hcellA : T1.heap[T.heap.size]? = some (freshCell cX kX0) := by rw [← hT1]; exact State.heap_pushCell_size _ _
  have d3' : decode c.code (pc + 3) = .ok (.dup, 1) := by rw [c2]; exact d3
  have d4' : decode c.code (pc + 4) = .ok (.ldc is, 2) := by rw [c2]; exact d4
  have hstr' : vk_R md.1.cls is text sa s' := vk_R.warm hW0 hsa
  obtain ⟨U, hsteps, hrun, hend, hW, hsame, ce, hce, hcl0, hvm0⟩ := ctorThrowN X₁ c1 htr (own := md.1.cls) (cls := exName 5) (Y0 := "java/lang/RuntimeException") (names := ["java/lang/Exception"]) (ic := ic) (ix := 13) (bytes := nsBytes) hown' F1 (by decide +kernel) (by decide +kernel) (by decide +kernel) (by decide +kernel) (by decide +kernel) (by decide +kernel) h (fun w hw => ot w (F6 w hw) (F5 w hw)) (fun w hw => ot w (F8 w hw) (F7 w hw)) (fun x hx => nomatch hx) hfX hkX hcellA (by rw [hhp, hT]; exact Nat.le_refl _) (msg := .ref sa) rfl
    (g := { method := m, pc := pc + 6, locals := ls, stack := .ref sa :: .ref T.heap.size :: .ref T.heap.size :: [], locked := none }) rfl (by rw [c3]; exact hl.1) rfl rfl (rest := []) rfl
    (by rw [c2]; exact d6) (by rw [c2]; exact d9) (by rw [c12, htab]; exact fun x h => nomatch h) (by simp only [List.length_cons, List.length_nil]; omega) (by simp only [List.map_cons, List.sum_cons, List.map_nil, List.sum_nil, hcat, List.length_cons, List.length_nil, JFrame.monitorRoom]; show 2 * 0 + _ + _ ≤ R.locals; omega) c5
  obtain ⟨f1, f2⟩ := vx_frame hsame
  rw [hhp] at f1 f2
  have hWs : s.WarmedH U.vm := State.WarmedH.trans hW0 hW
  have hcl : s.vm.findClass (exName 5) = some ce.cls := by rw [hvm] at hcl0; exact hcl0
  have hall : s.sameButNew ({ U with vm := s.vm } : State) locs mc ms := by
    subst hA
    obtain ⟨e1, e2⟩ := hsame
    rw [State.setFrames_setFrames] at e1
    have h2 : (T.setVm s.vm).sameButNew ({ U with vm := s.vm } : State) [] (0 + 1) (0 + 6) := ⟨e1, e2⟩
    have h3 := X0.same.trans h2
    rw [List.append_nil] at h3
    exact h3.mono (by omega) (by omega)
  have hk1 : ∀ q : Nat, q < H.size → U.heap[q]? = H[q]? := fun q hq => f2 q hq (fun z hz => nomatch hz)
  refine ⟨U, ?_, .threw T.heap.size, hrun, hend, Or.inr ⟨T.heap.size, rfl, exName 5, ce, locs, ?_, hce, hvm0, hcl, hWs, hall, hS.2.2⟩⟩
  · refine st1 _ ?_
    show Steps p.tables e below (T1.setTop { method := m, pc := pc + 3, locals := ls, stack := .ref T.heap.size :: [], locked := none }) _
    jvm_step X₁.here [X₁.here.top, c1, d3', Value.category]
    exact X₁.ldcString c1 (own := md.1.cls) (text := text) (index := is) (a := sa) hown' hstr'.1 hstr'.2
      (g := { method := m, pc := pc + 4, locals := ls, stack := .ref T.heap.size :: .ref T.heap.size :: [], locked := none }) rfl d4' _ hsteps
  · exact ⟨5, sk, μ, rfl, hp, ⟨hH.1.kept (fun k q hq => hk1 _ ((hH.1 k q hq).lt)), fun h => by cases h⟩, ⟨Nat.le_trans hS.1 f1, fun q h1 h2 => (hk1 q (Nat.lt_of_lt_of_le h1 hS.1)).trans (hS.2.1 q h1 h2)⟩⟩

theorem K_throwNW {X : kX} {md : kM} {d : Nat} {ex : Bool} {po : kPo} {sk : List Kd} {cr sr pc : Nat} {l : List (Nat × Value)} {μ : Mu} {ik is ic : Nat} {text : String} (F : kTN md.1.cls ic) (hk : Cond.classLink md.1.cls ik (exName 5) ∈ kG) (hstr : (md.1.cls, is, text) ∈ kSR) (htab : md.2.2.2.2 = [])
    (d0 : decode md.2.1 pc = .ok (.new ik, 3)) (d3 : decode md.2.1 (pc + 3) = .ok (.dup, 1)) (d4 : decode md.2.1 (pc + 4) = .ok (.ldc_w is, 3)) (d6 : decode md.2.1 (pc + 7) = .ok (.invokespecial ic, 3)) (d9 : decode md.2.1 (pc + 10) = .ok (.athrow, 1))
    (hp : po.2 5 sk μ) : KJ X md d ex po sk (cr + 1) (sr + 6) pc l [] μ := by
  intro p l0 e R s m args below meth c H locs cells slots mc ms ls C hc hs hl hH hS hz
  obtain ⟨c1, c2, c3, c4, c5, c6, c7, c8, c9, ⟨r1, r2, r3, r4⟩, c11, c12, c13⟩ := C
  obtain ⟨sa, hsa⟩ := c9.2.2.2.2.1 _ hstr
  obtain ⟨F1, F2, F3, F4, F5, F6, F7, F8⟩ := F
  have use : ∀ w : Cond, (w ∈ kG ∨ (∃ q ∈ kNC, w = .castable q.1 q.2) ∨ (∃ q ∈ kND, w = .declares q)) → w.before args s = true := by
    intro w h
    rcases h with h | ⟨q, hq, rfl⟩ | ⟨q, hq, rfl⟩
    · exact c8 w h
    · exact va_Nw.use rfl (c9.2.2.1 q hq)
    · exact va_Nw.use rfl (c9.2.2.2.1 q hq)
  intro T hT X0
  have htr : e.platform.stackTraces = false := (show e.platform.stackTraces = l0.stackTraces by rw [X0.admits.platform]).trans c11
  have Y := vx_rebase X0 (R' := { frames := R.frames, locals := R.locals, cells := 1, slots := 6 }) (Nat.le_refl _) (Nat.le_refl _) (show cells + 1 ≤ R.cells by omega) (show slots + 6 ≤ R.slots by omega)
  obtain ⟨s', hA⟩ : ∃ z, z = (T.setVm s.vm).setFrames (.invoking m args :: below) := ⟨_, rfl⟩
  rw [← hA] at Y
  have hvm : s'.vm = s.vm := by rw [hA]; rfl
  have hhp : s'.heap = H := by rw [hA]; exact hT
  have hW0 : s.WarmedH s'.vm := by rw [hvm]; exact State.WarmedH.refl s
  have ot : ∀ w : Cond, vx_ot w = true → (w ∈ kG ∨ (∃ q ∈ kNC, w = .castable q.1 q.2) ∨ (∃ q ∈ kND, w = .declares q)) → w.before args s' = true := fun w h1 h2 => vx_ot_at hW0 hvm.symm h1 (use w h2)
  have hU' : vx_Zq Bundle.tN "UNASSIGNED_STACK" Bundle.steD (kFree X) s' s'.heap := by rw [hhp]; exact vx_Zq.moved hW0.alike (c9.2.2.2.2.2.1.kept hS.2.1)
  have hN' : vx_Zq Bundle.tN "SUPPRESSED_SENTINEL" Bundle.listD (kFree X) s' s'.heap := by rw [hhp]; exact vx_Zq.moved hW0.alike (c9.2.2.2.2.2.2.1.kept hS.2.1)
  have h : ∀ w ∈ nA md.1.cls ic (exName 5), w.before args s' = true := vx_own (fun w hw => ot w (F4 w hw) (F3 w hw)) (vx_isRefq hU'.1) (vx_isRefq hN'.1) hU'.2.word hN'.2.word
  have hown' : s'.vm.findClass md.1.cls = some m.cls := by rw [hvm]; exact c6
  have hins : (Cond.instantiable (exName 5) 6).before args s' = true := h _ (by simp [nA])
  obtain ⟨vm₁, cX, kX0, hfX, hkX, -, -, X₁, st1⟩ := Y.newCold c1 (own := md.1.cls) (C := exName 5) (index := ik) (n := 6) hown' (ot _ rfl (Or.inl hk)) hins (ot _ rfl (Or.inl F2))
    (g := F0 m pc ls []) rfl (by rw [c2]; exact d0) (Nat.le_refl _) (Nat.le_refl _)
  generalize hT1 : (T.setVm vm₁).pushCell { cls := cX, slots := kX0.instanceTypes.map defaultValue, vm := .none } = T1 at X₁ st1
  have hcat : (Value.ref T.heap.size).category = 1 := rfl
  have hcellA : T1.heap[T.heap.size]? = some (freshCell cX kX0) := by rw [← hT1]; exact State.heap_pushCell_size _ _
  have d3' : decode c.code (pc + 3) = .ok (.dup, 1) := by rw [c2]; exact d3
  have d4' : decode c.code (pc + 4) = .ok (.ldc_w is, 3) := by rw [c2]; exact d4
  have hstr' : vk_R md.1.cls is text sa s' := vk_R.warm hW0 hsa
  obtain ⟨U, hsteps, hrun, hend, hW, hsame, ce, hce, hcl0, hvm0⟩ := ctorThrowN X₁ c1 htr (own := md.1.cls) (cls := exName 5) (Y0 := "java/lang/RuntimeException") (names := ["java/lang/Exception"]) (ic := ic) (ix := 13) (bytes := nsBytes) hown' F1 (by decide +kernel) (by decide +kernel) (by decide +kernel) (by decide +kernel) (by decide +kernel) (by decide +kernel) h (fun w hw => ot w (F6 w hw) (F5 w hw)) (fun w hw => ot w (F8 w hw) (F7 w hw)) (fun x hx => nomatch hx) hfX hkX hcellA (by rw [hhp, hT]; exact Nat.le_refl _) (msg := .ref sa) rfl
    (g := { method := m, pc := pc + 7, locals := ls, stack := .ref sa :: .ref T.heap.size :: .ref T.heap.size :: [], locked := none }) rfl (by rw [c3]; exact hl.1) rfl rfl (rest := []) rfl
    (by rw [c2]; exact d6) (by rw [c2]; exact d9) (by rw [c12, htab]; exact fun x h => nomatch h) (by simp only [List.length_cons, List.length_nil]; omega) (by simp only [List.map_cons, List.sum_cons, List.map_nil, List.sum_nil, hcat, List.length_cons, List.length_nil, JFrame.monitorRoom]; show 2 * 0 + _ + _ ≤ R.locals; omega) c5
  obtain ⟨f1, f2⟩ := vx_frame hsame
  rw [hhp] at f1 f2
  have hWs : s.WarmedH U.vm := State.WarmedH.trans hW0 hW
  have hcl : s.vm.findClass (exName 5) = some ce.cls := by rw [hvm] at hcl0; exact hcl0
  have hall : s.sameButNew ({ U with vm := s.vm } : State) locs mc ms := by
    subst hA
    obtain ⟨e1, e2⟩ := hsame
    rw [State.setFrames_setFrames] at e1
    have h2 : (T.setVm s.vm).sameButNew ({ U with vm := s.vm } : State) [] (0 + 1) (0 + 6) := ⟨e1, e2⟩
    have h3 := X0.same.trans h2
    rw [List.append_nil] at h3
    exact h3.mono (by omega) (by omega)
  have hk1 : ∀ q : Nat, q < H.size → U.heap[q]? = H[q]? := fun q hq => f2 q hq (fun z hz => nomatch hz)
  refine ⟨U, ?_, .threw T.heap.size, hrun, hend, Or.inr ⟨T.heap.size, rfl, exName 5, ce, locs, ?_, hce, hvm0, hcl, hWs, hall, hS.2.2⟩⟩
  · refine st1 _ ?_
    show Steps p.tables e below (T1.setTop { method := m, pc := pc + 3, locals := ls, stack := .ref T.heap.size :: [], locked := none }) _
    jvm_step X₁.here [X₁.here.top, c1, d3', Value.category]
    exact X₁.ldcStringW c1 (own := md.1.cls) (text := text) (index := is) (a := sa) hown' hstr'.1 hstr'.2
      (g := { method := m, pc := pc + 4, locals := ls, stack := .ref T.heap.size :: .ref T.heap.size :: [], locked := none }) rfl d4' _ hsteps
  · exact ⟨5, sk, μ, rfl, hp, ⟨hH.1.kept (fun k q hq => hk1 _ ((hH.1 k q hq).lt)), fun h => by cases h⟩, ⟨Nat.le_trans hS.1 f1, fun q h1 h2 => (hk1 q (Nat.lt_of_lt_of_le h1 hS.1)).trans (hS.2.1 q h1 h2)⟩⟩

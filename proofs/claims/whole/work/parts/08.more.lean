/-! rows: copies, static arrays, floating point, new objects -/
def clr (μ : Mu) (n : Nat) : Mu := fun a k => if a = n then 0 else μ a k
theorem kW_push {X : kX} {μ : Mu} {sk : List Kd} {kd : Kd} : kW X sk μ ++ [(X.1 + sk.length, kE X (fun _ => 0) kd)] = kW X (sk ++ [kd]) (clr μ sk.length) := by
  refine kW_ext fun j => ?_
  by_cases h : j < sk.length
  · rw [List.getElem?_append_left (by rw [kW_len]; exact h), List.getElem?_append_left h, kWf_get]
    have : clr μ sk.length j = μ j := by funext q; unfold clr; rw [if_neg (by omega)]
    simp [this]
  · by_cases e : j = sk.length
    · subst e
      rw [List.getElem?_append_right (by rw [kW_len]; exact Nat.le_refl _), List.getElem?_append_right (Nat.le_refl _), kW_len]
      have : clr μ sk.length sk.length = fun _ => 0 := by funext q; unfold clr; rw [if_pos rfl]
      simp [this]
    · rw [List.getElem?_eq_none (by rw [List.length_append, kW_len]; simp; omega), List.getElem?_eq_none (by simp; omega)]; rfl
/-- the address of a new cell -/
theorem k_newat {X : kX} {sk : List Kd} {μ : Mu} {e : va_E} {q : Nat} {D : va_G} {H1 : Heap} (hP : va_P D kCl (kW X sk μ ++ [(q, e)]) H1) (hD : va_D (kFree X) (kW X sk μ ++ [(q, e)])) (hz : H1.size ≤ X.1 + sk.length + 1) : q = X.1 + sk.length := by
  have h0 : (kW X sk μ ++ [(q, e)])[sk.length]? = some (q, e) := by
    rw [List.getElem?_append_right (by rw [kW_len]; exact Nat.le_refl _), kW_len]; simp
  have h1 : q < H1.size := (hP _ _ h0).lt
  have h2 : X.1 ≤ q := hD.2 _ _ h0
  refine Classical.byContradiction fun hne => ?_
  have h3 : q - X.1 < sk.length := by omega
  have h4 : (kW X sk μ ++ [(q, e)])[q - X.1]? = some (X.1 + (q - X.1), kE X (μ (q - X.1)) sk[q - X.1]) := by
    rw [List.getElem?_append_left (by rw [kW_len]; exact h3)]
    exact kW_get (List.getElem?_eq_getElem h3)
  have h5 := hD.1 _ _ _ _ h0 h4 (by show q = X.1 + (q - X.1); omega)
  omega
theorem kW_ch {X : kX} {μ μ' : Mu} {sk : List Kd} {a : Nat} {kd : Kd} (h : sk[a]? = some kd) (ho : ∀ j, j ≠ a → μ' j = μ j) : (kW X sk μ).set a (X.1 + a, kE X (μ' a) kd) = kW X sk μ' := by
  refine kW_ext fun j => ?_
  rw [List.getElem?_set]
  have hl : a < (kW X sk μ).length := by rw [kW_len]; exact (List.getElem?_eq_some_iff.mp h).1
  by_cases e : a = j
  · subst e
    rw [if_pos rfl, if_pos hl, h]; rfl
  · rw [if_neg e, kWf_get]
    simp [ho j (fun z => e z.symm)]
section KR7
variable {X : kX} {md : kM} {d : Nat} {ex : Bool} {po : kPo} {sk : List Kd} {cr sr pc : Nat} {l : List (Nat × Value)} {st : List Value} {μ : Mu} {res : Res} {x y : Int} {a n ci k idx b a0 n0 n1 : Nat} {rf rf0 : Nat → Option Nat}
theorem K_copy {r : Res} {k0 : Mu → Option Res} {w : Int} (hd : decode md.2.1 pc = .ok (.invokestatic idx, 3)) (h1 : Cond.methodLink md.1.cls idx arraycopyName ∈ kG) (h2 : Cond.native arraycopyName ∈ kG) (h3 : Cond.static arraycopyName ∈ kG) (h4 : Cond.initialized "java/lang/System" ∈ kG) (hsk0 : sk[a0]? = some (.inl (0, n0, rf0))) (hsk : sk[a]? = some (.inl (0, n1, rf))) (hst : (st.map fun v => v.category).sum ≤ 8) (h : cpyI μ a0 n0 x a n1 y w k0 = some r) (k : k0 (cpM μ a0 x.toNat a y.toNat w.toNat) = some r → KJ X md d ex po sk cr sr (pc + 3) l (st) (cpM μ a0 x.toNat a y.toNat w.toNat)) : KJ X md d ex po sk cr sr (pc) l (.int (iI w) :: .int (iI y) :: .ref (X.1 + a) :: .int (iI x) :: .ref (X.1 + a0) :: st) μ := by
  intro p l0 e R s m args below meth c H locs cells slots mc ms ls C hc hs hl hH hS hz
  have C' := C
  obtain ⟨c1, c2, c3, c4, c5, c6, c7, c8, c9, ⟨r1, r2, r3, r4⟩, c11, c12, c13⟩ := C'
  obtain ⟨⟨⟨g1, g1'⟩, ⟨g2, g2'⟩, ⟨g3, g3'⟩, g4, g5⟩, h⟩ := og h
  have e9 : ∀ v : Int, 0 ≤ v → v < 2147483648 → ¬ iI v < 0 ∧ (iI v).toNatClampNeg = v.toNat := by
    intro v h0 hv
    obtain ⟨j, rfl⟩ : ∃ j : Nat, v = j := ⟨v.toNat, by omega⟩
    exact ⟨nI_pos (by omega), by rw [show iI (j : Int) = nI j from rfl, nI_clamp (by omega)]; rfl⟩
  have ex9 := e9 x g1 g1'
  have ey := e9 y g2 g2'
  have ew := e9 w g3 g3'
  refine va_copyi c1 c2 (by rw [c3]; exact hl.1.symm) c6 (c8 _ h1) (c8 _ h2) (c8 _ h3) (c8 _ h4) c9.1 hH.1 kW_D (va_S_at hS) a0 a 0 0 (c0 := X.2.2.1 0) (c1 := X.2.2.1 0) (n0 := n0) (n1 := n1) (f := fun j => iI (μ a0 j)) (g := fun j => iI (μ a j)) (kW_get hsk0) (kW_get hsk) rfl rfl rfl ex9.1 ey.1 ew.1 (by rw [ex9.2, ew.2]; omega) (by rw [ey.2, ew.2]; omega) (fun i _ => rfl) (by omega) (by have hw : nativeFrameWords "java/lang/System" "arraycopy" 5 ≤ 40 := (by decide); omega) hd ?_
  intro H1 locs1 g1 g2 g3
  rw [ex9.2, ey.2, ew.2] at g1
  rw [show (Sum.inl (X.2.2.1 0, n1, .inl (va_cpy (fun j => iI (μ a0 j)) (fun j => iI (μ a j)) x.toNat y.toNat w.toNat)) : va_E) = kE X (cpM μ a0 x.toNat a y.toNat w.toNat a) (.inl (0, n1, rf)) by
    have e9 : va_cpy (fun j => iI (μ a0 j)) (fun j => iI (μ a j)) x.toNat y.toNat w.toNat = fun j => iI (cpM μ a0 x.toNat a y.toNat w.toNat a j) := by
      funext j
      unfold va_cpy cpM
      by_cases q : y.toNat ≤ j ∧ j < y.toNat + w.toNat
      · rw [if_pos q, if_pos ⟨rfl, q⟩]
      · rw [if_neg q, if_neg (fun z => q z.2)]
    rw [e9]; rfl] at g1
  rw [show (kW X sk μ).set a (X.1 + a, kE X (cpM μ a0 x.toNat a y.toNat w.toNat a) (.inl (0, n1, rf))) = kW X sk (cpM μ a0 x.toNat a y.toNat w.toNat) from kW_ch hsk (fun j hj => by funext q; unfold cpM; rw [if_neg (fun z => hj z.1)])] at g1
  refine W_sized (fun hz1 => ?_)
  exact k h p l0 e R s m args below meth c H1 locs1 cells slots mc ms ls C hc hs hl ⟨g1, fun q => by have a1 := hH.2 q; have a2 := hz q; have a3 := g3.1; omega⟩ (va_S_tr hS g3) (fun q => by have a2 := hz q; have a3 := g3.1; omega)
theorem K_least {r : Res} {k0 : Int → Option Res} {i : Fin 4} (j0 : Nat) (hd : decode md.2.1 pc = .ok (.getstatic idx, 3)) (hl0 : Cond.fieldLink md.1.cls idx "ExamMarker" "LEAST_SETTINGS" "[I" ∈ kG) (hd2 : decode md.2.1 (pc + 3) = .ok (.iload_n i, 1)) (hj : l[j0]? = some ((i : Nat), .int (iI x))) (hd3 : decode md.2.1 (pc + 3 + 1) = .ok (.iaload, 1)) (h : rdC 5 x (fun j => (if j = 1 then 1 else 0)) k0 = some r) (k : k0 ((fun j : Nat => ((if j = 1 then 1 else 0) : Int)) x.toNat) = some r → KJ X md d ex po sk cr sr (pc + 3 + 1 + 1) l (.int (iI ((fun j : Nat => ((if j = 1 then 1 else 0) : Int)) x.toNat)) :: st) μ) : KJ X md d ex po sk cr sr (pc) l (st) μ := by
  intro p l0 e R s m args below meth c H locs cells slots mc ms ls C hc hs hl hH hS hz
  have C' := C
  obtain ⟨c1, c2, c3, c4, c5, c6, c7, c8, c9, ⟨r1, r2, r3, r4⟩, c11, c12, c13⟩ := C'
  obtain ⟨⟨g1, g2⟩, h⟩ := og h
  obtain ⟨i1, i2⟩ := in_iI g1 g2 (by decide)
  obtain ⟨t, hZ, hT⟩ := c9.2.2.2.2.2.2.2.1
  refine va_gets c1 c2 hZ hS c6 (c8 _ hl0) (fun _ h => h) hd ?_
  refine lv_iload_n c1 c2 hd2 rfl (lv_at hl j0 hj) ?_
  refine va_ti c1 c2 hT hS i1 (v := .int (iI ((fun j : Nat => ((if j = 1 then 1 else 0) : Int)) x.toNat))) (by rw [i2]) hd3 ?_
  exact k h p l0 e R s m args below meth c H locs cells slots mc ms ls C hc hs hl hH hS hz
theorem K_great {r : Res} {k0 : Int → Option Res} {i : Fin 4} (j0 : Nat) (hd : decode md.2.1 pc = .ok (.getstatic idx, 3)) (hl0 : Cond.fieldLink md.1.cls idx "ExamMarker" "GREATEST_SETTINGS" "[I" ∈ kG) (hd2 : decode md.2.1 (pc + 3) = .ok (.iload_n i, 1)) (hj : l[j0]? = some ((i : Nat), .int (iI x))) (hd3 : decode md.2.1 (pc + 3 + 1) = .ok (.iaload, 1)) (h : rdC 5 x (fun j => (if j = 0 then 5 else if j = 1 then 40 else if j = 2 then 10 else if j = 3 then 5 else 99)) k0 = some r) (k : k0 ((fun j : Nat => ((if j = 0 then 5 else if j = 1 then 40 else if j = 2 then 10 else if j = 3 then 5 else 99) : Int)) x.toNat) = some r → KJ X md d ex po sk cr sr (pc + 3 + 1 + 1) l (.int (iI ((fun j : Nat => ((if j = 0 then 5 else if j = 1 then 40 else if j = 2 then 10 else if j = 3 then 5 else 99) : Int)) x.toNat)) :: st) μ) : KJ X md d ex po sk cr sr (pc) l (st) μ := by
  intro p l0 e R s m args below meth c H locs cells slots mc ms ls C hc hs hl hH hS hz
  have C' := C
  obtain ⟨c1, c2, c3, c4, c5, c6, c7, c8, c9, ⟨r1, r2, r3, r4⟩, c11, c12, c13⟩ := C'
  obtain ⟨⟨g1, g2⟩, h⟩ := og h
  obtain ⟨i1, i2⟩ := in_iI g1 g2 (by decide)
  obtain ⟨t, hZ, hT⟩ := c9.2.2.2.2.2.2.2.2.1
  refine va_gets c1 c2 hZ hS c6 (c8 _ hl0) (fun _ h => h) hd ?_
  refine lv_iload_n c1 c2 hd2 rfl (lv_at hl j0 hj) ?_
  refine va_ti c1 c2 hT hS i1 (v := .int (iI ((fun j : Nat => ((if j = 0 then 5 else if j = 1 then 40 else if j = 2 then 10 else if j = 3 then 5 else 99) : Int)) x.toNat))) (by rw [i2]) hd3 ?_
  exact k h p l0 e R s m args below meth c H locs cells slots mc ms ls C hc hs hl hH hS hz
theorem K_lcmp_lt {r : Res} {A B : Option Res} {off : Int} {tgt : Nat} (hd : decode md.2.1 pc = .ok (.lcmp, 1)) (hd2 : decode md.2.1 (pc + 1) = .ok (.ifCond .lt off, 3)) (ht : ((pc + 1 : Nat) : Int) + off = (tgt : Int)) (h : l_lt x y A B = some r) (kt : A = some r → KJ X md d ex po sk cr sr (tgt) l (st) μ) (kf : B = some r → KJ X md d ex po sk cr sr (pc + 1 + 3) l (st) μ) : KJ X md d ex po sk cr sr (pc) l (.long (iL y) :: .long (iL x) :: st) μ := by
  intro p l0 e R s m args below meth c H locs cells slots mc ms ls C hc hs hl hH hS hz
  obtain ⟨⟨g1, g2⟩, h⟩ := og h
  have e9 : lg_cmp (iL x) (iL y) = iI (if y < x then 1 else if x = y then 0 else -1) := by
    unfold lg_cmp
    by_cases q : y < x
    · rw [if_pos q, if_pos (show iL x > iL y from (iL_lt g2 g1).mpr q)]; rfl
    · rw [if_neg q, if_neg (fun z : iL x > iL y => q ((iL_lt g2 g1).mp z))]
      by_cases q2 : x = y
      · rw [if_pos q2, if_pos (by rw [q2])]; rfl
      · rw [if_neg q2, if_neg (fun z => q2 ((iL_eq g1 g2).mp z))]; rfl
  refine W.lcmp C.1 C.2.1 hd ?_
  rw [e9]
  have gz : gI (if y < x then 1 else if x = y then 0 else -1) := by unfold gI; (split <;> (try split)) <;> omega
  refine lv_if_lt C.1 C.2.1 hd2 ht (fun q => ?_) (fun q => ?_)
  · rw [← iI_0] at q; have q2 : (if y < x then 1 else if x = y then 0 else -1 : Int) < 0 := (iI_lt gz gI_0).mp q
    have q3 : x < y := by revert q2; (split <;> (try split)) <;> omega
    rw [if_pos (by omega)] at h
    exact kt h p l0 e R s m args below meth c H locs cells slots mc ms ls C hc hs hl hH hS hz
  · rw [← iI_0] at q; have q2 : ¬ ((if y < x then 1 else if x = y then 0 else -1 : Int) < 0) := fun z => q ((iI_lt gz gI_0).mpr z)
    have q3 : ¬ (x < y) := by revert q2; (split <;> (try split)) <;> omega
    rw [if_neg (by omega)] at h
    exact kf h p l0 e R s m args below meth c H locs cells slots mc ms ls C hc hs hl hH hS hz
theorem K_lcmp_ge {r : Res} {A B : Option Res} {off : Int} {tgt : Nat} (hd : decode md.2.1 pc = .ok (.lcmp, 1)) (hd2 : decode md.2.1 (pc + 1) = .ok (.ifCond .ge off, 3)) (ht : ((pc + 1 : Nat) : Int) + off = (tgt : Int)) (h : l_lt x y B A = some r) (kt : A = some r → KJ X md d ex po sk cr sr (tgt) l (st) μ) (kf : B = some r → KJ X md d ex po sk cr sr (pc + 1 + 3) l (st) μ) : KJ X md d ex po sk cr sr (pc) l (.long (iL y) :: .long (iL x) :: st) μ := by
  intro p l0 e R s m args below meth c H locs cells slots mc ms ls C hc hs hl hH hS hz
  obtain ⟨⟨g1, g2⟩, h⟩ := og h
  have e9 : lg_cmp (iL x) (iL y) = iI (if y < x then 1 else if x = y then 0 else -1) := by
    unfold lg_cmp
    by_cases q : y < x
    · rw [if_pos q, if_pos (show iL x > iL y from (iL_lt g2 g1).mpr q)]; rfl
    · rw [if_neg q, if_neg (fun z : iL x > iL y => q ((iL_lt g2 g1).mp z))]
      by_cases q2 : x = y
      · rw [if_pos q2, if_pos (by rw [q2])]; rfl
      · rw [if_neg q2, if_neg (fun z => q2 ((iL_eq g1 g2).mp z))]; rfl
  refine W.lcmp C.1 C.2.1 hd ?_
  rw [e9]
  have gz : gI (if y < x then 1 else if x = y then 0 else -1) := by unfold gI; (split <;> (try split)) <;> omega
  refine lv_if_ge C.1 C.2.1 hd2 ht (fun q => ?_) (fun q => ?_)
  · rw [← iI_0] at q; have q2 : 0 ≤ (if y < x then 1 else if x = y then 0 else -1 : Int) := (iI_le gI_0 gz).mp q
    have q3 : y ≤ x := by revert q2; (split <;> (try split)) <;> omega
    rw [if_neg (by omega)] at h
    exact kt h p l0 e R s m args below meth c H locs cells slots mc ms ls C hc hs hl hH hS hz
  · rw [← iI_0] at q; have q2 : ¬ (0 ≤ (if y < x then 1 else if x = y then 0 else -1 : Int)) := fun z => q ((iI_le gI_0 gz).mpr z)
    have q3 : ¬ (y ≤ x) := by revert q2; (split <;> (try split)) <;> omega
    rw [if_pos (by omega)] at h
    exact kf h p l0 e R s m args below meth c H locs cells slots mc ms ls C hc hs hl hH hS hz
theorem K_lcmp_gt {r : Res} {A B : Option Res} {off : Int} {tgt : Nat} (hd : decode md.2.1 pc = .ok (.lcmp, 1)) (hd2 : decode md.2.1 (pc + 1) = .ok (.ifCond .gt off, 3)) (ht : ((pc + 1 : Nat) : Int) + off = (tgt : Int)) (h : l_lt y x A B = some r) (kt : A = some r → KJ X md d ex po sk cr sr (tgt) l (st) μ) (kf : B = some r → KJ X md d ex po sk cr sr (pc + 1 + 3) l (st) μ) : KJ X md d ex po sk cr sr (pc) l (.long (iL y) :: .long (iL x) :: st) μ := by
  intro p l0 e R s m args below meth c H locs cells slots mc ms ls C hc hs hl hH hS hz
  obtain ⟨⟨g1, g2⟩, h⟩ := og h
  have e9 : lg_cmp (iL x) (iL y) = iI (if y < x then 1 else if x = y then 0 else -1) := by
    unfold lg_cmp
    by_cases q : y < x
    · rw [if_pos q, if_pos (show iL x > iL y from (iL_lt g1 g2).mpr q)]; rfl
    · rw [if_neg q, if_neg (fun z : iL x > iL y => q ((iL_lt g1 g2).mp z))]
      by_cases q2 : x = y
      · rw [if_pos q2, if_pos (by rw [q2])]; rfl
      · rw [if_neg q2, if_neg (fun z => q2 ((iL_eq g2 g1).mp z))]; rfl
  refine W.lcmp C.1 C.2.1 hd ?_
  rw [e9]
  have gz : gI (if y < x then 1 else if x = y then 0 else -1) := by unfold gI; (split <;> (try split)) <;> omega
  refine lv_if_gt C.1 C.2.1 hd2 ht (fun q => ?_) (fun q => ?_)
  · rw [← iI_0] at q; have q2 : 0 < (if y < x then 1 else if x = y then 0 else -1 : Int) := (iI_lt gI_0 gz).mp q
    have q3 : y < x := by revert q2; (split <;> (try split)) <;> omega
    rw [if_pos (by omega)] at h
    exact kt h p l0 e R s m args below meth c H locs cells slots mc ms ls C hc hs hl hH hS hz
  · rw [← iI_0] at q; have q2 : ¬ (0 < (if y < x then 1 else if x = y then 0 else -1 : Int)) := fun z => q ((iI_lt gI_0 gz).mpr z)
    have q3 : ¬ (y < x) := by revert q2; (split <;> (try split)) <;> omega
    rw [if_neg (by omega)] at h
    exact kf h p l0 e R s m args below meth c H locs cells slots mc ms ls C hc hs hl hH hS hz
theorem K_lcmp_le {r : Res} {A B : Option Res} {off : Int} {tgt : Nat} (hd : decode md.2.1 pc = .ok (.lcmp, 1)) (hd2 : decode md.2.1 (pc + 1) = .ok (.ifCond .le off, 3)) (ht : ((pc + 1 : Nat) : Int) + off = (tgt : Int)) (h : l_lt y x B A = some r) (kt : A = some r → KJ X md d ex po sk cr sr (tgt) l (st) μ) (kf : B = some r → KJ X md d ex po sk cr sr (pc + 1 + 3) l (st) μ) : KJ X md d ex po sk cr sr (pc) l (.long (iL y) :: .long (iL x) :: st) μ := by
  intro p l0 e R s m args below meth c H locs cells slots mc ms ls C hc hs hl hH hS hz
  obtain ⟨⟨g1, g2⟩, h⟩ := og h
  have e9 : lg_cmp (iL x) (iL y) = iI (if y < x then 1 else if x = y then 0 else -1) := by
    unfold lg_cmp
    by_cases q : y < x
    · rw [if_pos q, if_pos (show iL x > iL y from (iL_lt g1 g2).mpr q)]; rfl
    · rw [if_neg q, if_neg (fun z : iL x > iL y => q ((iL_lt g1 g2).mp z))]
      by_cases q2 : x = y
      · rw [if_pos q2, if_pos (by rw [q2])]; rfl
      · rw [if_neg q2, if_neg (fun z => q2 ((iL_eq g2 g1).mp z))]; rfl
  refine W.lcmp C.1 C.2.1 hd ?_
  rw [e9]
  have gz : gI (if y < x then 1 else if x = y then 0 else -1) := by unfold gI; (split <;> (try split)) <;> omega
  refine lv_if_le C.1 C.2.1 hd2 ht (fun q => ?_) (fun q => ?_)
  · rw [← iI_0] at q; have q2 : (if y < x then 1 else if x = y then 0 else -1 : Int) ≤ 0 := (iI_le gz gI_0).mp q
    have q3 : x ≤ y := by revert q2; (split <;> (try split)) <;> omega
    rw [if_neg (by omega)] at h
    exact kt h p l0 e R s m args below meth c H locs cells slots mc ms ls C hc hs hl hH hS hz
  · rw [← iI_0] at q; have q2 : ¬ ((if y < x then 1 else if x = y then 0 else -1 : Int) ≤ 0) := fun z => q ((iI_le gz gI_0).mpr z)
    have q3 : ¬ (x ≤ y) := by revert q2; (split <;> (try split)) <;> omega
    rw [if_pos (by omega)] at h
    exact kf h p l0 e R s m args below meth c H locs cells slots mc ms ls C hc hs hl hH hS hz
theorem K_lcmp_eq {r : Res} {A B : Option Res} {off : Int} {tgt : Nat} (hd : decode md.2.1 pc = .ok (.lcmp, 1)) (hd2 : decode md.2.1 (pc + 1) = .ok (.ifCond .eq off, 3)) (ht : ((pc + 1 : Nat) : Int) + off = (tgt : Int)) (h : l_eq x y A B = some r) (kt : A = some r → KJ X md d ex po sk cr sr (tgt) l (st) μ) (kf : B = some r → KJ X md d ex po sk cr sr (pc + 1 + 3) l (st) μ) : KJ X md d ex po sk cr sr (pc) l (.long (iL y) :: .long (iL x) :: st) μ := by
  intro p l0 e R s m args below meth c H locs cells slots mc ms ls C hc hs hl hH hS hz
  obtain ⟨⟨g1, g2⟩, h⟩ := og h
  have e9 : lg_cmp (iL x) (iL y) = iI (if y < x then 1 else if x = y then 0 else -1) := by
    unfold lg_cmp
    by_cases q : y < x
    · rw [if_pos q, if_pos (show iL x > iL y from (iL_lt g2 g1).mpr q)]; rfl
    · rw [if_neg q, if_neg (fun z : iL x > iL y => q ((iL_lt g2 g1).mp z))]
      by_cases q2 : x = y
      · rw [if_pos q2, if_pos (by rw [q2])]; rfl
      · rw [if_neg q2, if_neg (fun z => q2 ((iL_eq g1 g2).mp z))]; rfl
  refine W.lcmp C.1 C.2.1 hd ?_
  rw [e9]
  have gz : gI (if y < x then 1 else if x = y then 0 else -1) := by unfold gI; (split <;> (try split)) <;> omega
  refine lv_if_eq C.1 C.2.1 hd2 ht (fun q => ?_) (fun q => ?_)
  · rw [← iI_0] at q; have q2 : (if y < x then 1 else if x = y then 0 else -1 : Int) = 0 := (iI_eq gz gI_0).mp q
    have q3 : x = y := by revert q2; (split <;> (try split)) <;> omega
    rw [if_pos (by omega)] at h
    exact kt h p l0 e R s m args below meth c H locs cells slots mc ms ls C hc hs hl hH hS hz
  · rw [← iI_0] at q; have q2 : ¬ ((if y < x then 1 else if x = y then 0 else -1 : Int) = 0) := fun z => q ((iI_eq gz gI_0).mpr z)
    have q3 : ¬ (x = y) := by revert q2; (split <;> (try split)) <;> omega
    rw [if_neg (by omega)] at h
    exact kf h p l0 e R s m args below meth c H locs cells slots mc ms ls C hc hs hl hH hS hz
theorem K_lcmp_ne {r : Res} {A B : Option Res} {off : Int} {tgt : Nat} (hd : decode md.2.1 pc = .ok (.lcmp, 1)) (hd2 : decode md.2.1 (pc + 1) = .ok (.ifCond .ne off, 3)) (ht : ((pc + 1 : Nat) : Int) + off = (tgt : Int)) (h : l_eq x y B A = some r) (kt : A = some r → KJ X md d ex po sk cr sr (tgt) l (st) μ) (kf : B = some r → KJ X md d ex po sk cr sr (pc + 1 + 3) l (st) μ) : KJ X md d ex po sk cr sr (pc) l (.long (iL y) :: .long (iL x) :: st) μ := by
  intro p l0 e R s m args below meth c H locs cells slots mc ms ls C hc hs hl hH hS hz
  obtain ⟨⟨g1, g2⟩, h⟩ := og h
  have e9 : lg_cmp (iL x) (iL y) = iI (if y < x then 1 else if x = y then 0 else -1) := by
    unfold lg_cmp
    by_cases q : y < x
    · rw [if_pos q, if_pos (show iL x > iL y from (iL_lt g2 g1).mpr q)]; rfl
    · rw [if_neg q, if_neg (fun z : iL x > iL y => q ((iL_lt g2 g1).mp z))]
      by_cases q2 : x = y
      · rw [if_pos q2, if_pos (by rw [q2])]; rfl
      · rw [if_neg q2, if_neg (fun z => q2 ((iL_eq g1 g2).mp z))]; rfl
  refine W.lcmp C.1 C.2.1 hd ?_
  rw [e9]
  have gz : gI (if y < x then 1 else if x = y then 0 else -1) := by unfold gI; (split <;> (try split)) <;> omega
  refine lv_if_ne C.1 C.2.1 hd2 ht (fun q => ?_) (fun q => ?_)
  · rw [← iI_0] at q; have q2 : (if y < x then 1 else if x = y then 0 else -1 : Int) ≠ 0 := fun z => q ((iI_eq gz gI_0).mpr z)
    have q3 : x ≠ y := by revert q2; (split <;> (try split)) <;> omega
    rw [if_neg (by omega)] at h
    exact kt h p l0 e R s m args below meth c H locs cells slots mc ms ls C hc hs hl hH hS hz
  · rw [← iI_0] at q; have q2 : ¬ ((if y < x then 1 else if x = y then 0 else -1 : Int) ≠ 0) := fun z => z ((iI_eq gz gI_0).mp q)
    have q3 : ¬ (x ≠ y) := by revert q2; (split <;> (try split)) <;> omega
    rw [if_pos (by omega)] at h
    exact kf h p l0 e R s m args below meth c H locs cells slots mc ms ls C hc hs hl hH hS hz
theorem K_i2d (hd : decode md.2.1 pc = .ok (.i2d, 1)) (k : KJ X md d ex po sk cr sr (pc + 1) l (.double (FP.i2d (iI x)) :: st) μ) : KJ X md d ex po sk cr sr (pc) l (.int (iI x) :: st) μ := by
  intro p l0 e R s m args below meth c H locs cells slots mc ms ls C hc hs hl hH hS hz
  refine lv_i2d C.1 C.2.1 hd ?_
  exact k p l0 e R s m args below meth c H locs cells slots mc ms ls C hc hs hl hH hS hz
theorem K_i2f (hd : decode md.2.1 pc = .ok (.i2f, 1)) (k : KJ X md d ex po sk cr sr (pc + 1) l (.float (FP.i2f (iI x)) :: st) μ) : KJ X md d ex po sk cr sr (pc) l (.int (iI x) :: st) μ := by
  intro p l0 e R s m args below meth c H locs cells slots mc ms ls C hc hs hl hH hS hz
  refine lv_i2f C.1 C.2.1 hd ?_
  exact k p l0 e R s m args below meth c H locs cells slots mc ms ls C hc hs hl hH hS hz
theorem K_ddiv {u v : UInt64} {r : Res} {k0 : UInt64 → Option Res} (hd : decode md.2.1 pc = .ok (.ddiv, 1)) (h : d_ck (FP.ddiv u v) k0 = some r) (k : k0 (FP.ddiv u v) = some r → KJ X md d ex po sk cr sr (pc + 1) l (.double (FP.ddiv u v) :: st) μ) : KJ X md d ex po sk cr sr (pc) l (.double v :: .double u :: st) μ := by
  intro p l0 e R s m args below meth c H locs cells slots mc ms ls C hc hs hl hH hS hz
  obtain ⟨g, h⟩ := og h
  refine lv_ddiv C.1 C.2.1 hd g ?_
  exact k h p l0 e R s m args below meth c H locs cells slots mc ms ls C hc hs hl hH hS hz
theorem K_dmul {u v : UInt64} {r : Res} {k0 : UInt64 → Option Res} (hd : decode md.2.1 pc = .ok (.dmul, 1)) (h : d_ck (FP.dmul u v) k0 = some r) (k : k0 (FP.dmul u v) = some r → KJ X md d ex po sk cr sr (pc + 1) l (.double (FP.dmul u v) :: st) μ) : KJ X md d ex po sk cr sr (pc) l (.double v :: .double u :: st) μ := by
  intro p l0 e R s m args below meth c H locs cells slots mc ms ls C hc hs hl hH hS hz
  obtain ⟨g, h⟩ := og h
  refine lv_dmul C.1 C.2.1 hd g ?_
  exact k h p l0 e R s m args below meth c H locs cells slots mc ms ls C hc hs hl hH hS hz
theorem K_dsub {u v : UInt64} {r : Res} {k0 : UInt64 → Option Res} (hd : decode md.2.1 pc = .ok (.dsub, 1)) (h : d_ck (FP.dsub u v) k0 = some r) (k : k0 (FP.dsub u v) = some r → KJ X md d ex po sk cr sr (pc + 1) l (.double (FP.dsub u v) :: st) μ) : KJ X md d ex po sk cr sr (pc) l (.double v :: .double u :: st) μ := by
  intro p l0 e R s m args below meth c H locs cells slots mc ms ls C hc hs hl hH hS hz
  obtain ⟨g, h⟩ := og h
  refine lv_dsub C.1 C.2.1 hd g ?_
  exact k h p l0 e R s m args below meth c H locs cells slots mc ms ls C hc hs hl hH hS hz
theorem K_fdiv {u v : UInt32} {r : Res} {k0 : UInt32 → Option Res} (hd : decode md.2.1 pc = .ok (.fdiv, 1)) (h : f_ck (FP.fdiv u v) k0 = some r) (k : k0 (FP.fdiv u v) = some r → KJ X md d ex po sk cr sr (pc + 1) l (.float (FP.fdiv u v) :: st) μ) : KJ X md d ex po sk cr sr (pc) l (.float v :: .float u :: st) μ := by
  intro p l0 e R s m args below meth c H locs cells slots mc ms ls C hc hs hl hH hS hz
  obtain ⟨g, h⟩ := og h
  refine lv_fdiv C.1 C.2.1 hd g ?_
  exact k h p l0 e R s m args below meth c H locs cells slots mc ms ls C hc hs hl hH hS hz
theorem K_f2d {u : UInt32} {r : Res} {k0 : UInt64 → Option Res} (hd : decode md.2.1 pc = .ok (.f2d, 1)) (h : d_ck (FP.f2d u) k0 = some r) (k : k0 (FP.f2d u) = some r → KJ X md d ex po sk cr sr (pc + 1) l (.double (FP.f2d u) :: st) μ) : KJ X md d ex po sk cr sr (pc) l (.float u :: st) μ := by
  intro p l0 e R s m args below meth c H locs cells slots mc ms ls C hc hs hl hH hS hz
  obtain ⟨g, h⟩ := og h
  refine lv_f2d C.1 C.2.1 hd g ?_
  exact k h p l0 e R s m args below meth c H locs cells slots mc ms ls C hc hs hl hH hS hz
theorem K_dcmp {u v : UInt64} {op : CmpOp} (hd : decode md.2.1 pc = .ok (.dcmp op, 1)) (k : KJ X md d ex po sk cr sr (pc + 1) l (.int (iI (dcI op u v)) :: st) μ) : KJ X md d ex po sk cr sr (pc) l (.double v :: .double u :: st) μ := by
  intro p l0 e R s m args below meth c H locs cells slots mc ms ls C hc hs hl hH hS hz
  refine lv_dcmp C.1 C.2.1 hd ?_
  rw [show (_ : Int32) = iI (dcI op u v) from (iI_of _).symm]
  exact k p l0 e R s m args below meth c H locs cells slots mc ms ls C hc hs hl hH hS hz
theorem K_fcmp {u v : UInt32} {op : CmpOp} (hd : decode md.2.1 pc = .ok (.fcmp op, 1)) (k : KJ X md d ex po sk cr sr (pc + 1) l (.int (iI (fcI op u v)) :: st) μ) : KJ X md d ex po sk cr sr (pc) l (.float v :: .float u :: st) μ := by
  intro p l0 e R s m args below meth c H locs cells slots mc ms ls C hc hs hl hH hS hz
  refine lv_fcmp C.1 C.2.1 hd ?_
  rw [show (_ : Int32) = iI (fcI op u v) from (iI_of _).symm]
  exact k p l0 e R s m args below meth c H locs cells slots mc ms ls C hc hs hl hH hS hz
theorem K_d2l {u : UInt64} (hd : decode md.2.1 pc = .ok (.d2l, 1)) (k : KJ X md d ex po sk cr sr (pc + 1) l (.long (iL (FP.d2l u).toInt) :: st) μ) : KJ X md d ex po sk cr sr (pc) l (.double u :: st) μ := by
  intro p l0 e R s m args below meth c H locs cells slots mc ms ls C hc hs hl hH hS hz
  refine lv_d2l C.1 C.2.1 hd ?_
  rw [show (FP.d2l u : Int64) = iL (FP.d2l u).toInt from (iL_of _).symm]
  exact k p l0 e R s m args below meth c H locs cells slots mc ms ls C hc hs hl hH hS hz
theorem K_d2raw {u : UInt64} (hd : decode md.2.1 pc = .ok (.invokestatic idx, 3)) (h1 : Cond.methodLink md.1.cls idx ⟨"java/lang/Double", "doubleToRawLongBits", "(D)J"⟩ ∈ kG) (h2 : Cond.native ⟨"java/lang/Double", "doubleToRawLongBits", "(D)J"⟩ ∈ kG) (h3 : Cond.static ⟨"java/lang/Double", "doubleToRawLongBits", "(D)J"⟩ ∈ kG) (h4 : Cond.initialized "java/lang/Double" ∈ kG) (hst : (st.map fun v => v.category).sum ≤ 8) (k : KJ X md d ex po sk cr sr (pc + 3) l (.long (iL u.toInt64.toInt) :: st) μ) : KJ X md d ex po sk cr sr (pc) l (.double u :: st) μ := by
  intro p l0 e R s m args below meth c H locs cells slots mc ms ls C hc hs hl hH hS hz
  have C' := C
  obtain ⟨c1, c2, c3, c4, c5, c6, c7, c8, c9, ⟨r1, r2, r3, r4⟩, c11, c12, c13⟩ := C'
  refine vn_d2l c1 c2 (by rw [c3]; exact hl.1.symm) c6 (c8 _ h1) (c8 _ h2) (c8 _ h3) (c8 _ h4) (by omega) (by omega) hd ?_
  rw [show (u.toInt64 : Int64) = iL u.toInt64.toInt from (iL_of _).symm]
  exact k p l0 e R s m args below meth c H locs cells slots mc ms ls C hc hs hl hH hS hz
theorem K_f2raw {u : UInt32} (hd : decode md.2.1 pc = .ok (.invokestatic idx, 3)) (h1 : Cond.methodLink md.1.cls idx ⟨"java/lang/Float", "floatToRawIntBits", "(F)I"⟩ ∈ kG) (h2 : Cond.native ⟨"java/lang/Float", "floatToRawIntBits", "(F)I"⟩ ∈ kG) (h3 : Cond.static ⟨"java/lang/Float", "floatToRawIntBits", "(F)I"⟩ ∈ kG) (h4 : Cond.initialized "java/lang/Float" ∈ kG) (hst : (st.map fun v => v.category).sum ≤ 8) (k : KJ X md d ex po sk cr sr (pc + 3) l (.int (iI u.toInt32.toInt) :: st) μ) : KJ X md d ex po sk cr sr (pc) l (.float u :: st) μ := by
  intro p l0 e R s m args below meth c H locs cells slots mc ms ls C hc hs hl hH hS hz
  have C' := C
  obtain ⟨c1, c2, c3, c4, c5, c6, c7, c8, c9, ⟨r1, r2, r3, r4⟩, c11, c12, c13⟩ := C'
  refine vn_f2i c1 c2 (by rw [c3]; exact hl.1.symm) c6 (c8 _ h1) (c8 _ h2) (c8 _ h3) (c8 _ h4) (by omega) (by omega) hd ?_
  rw [show (u.toInt32 : Int32) = iI u.toInt32.toInt from (iI_of _).symm]
  exact k p l0 e R s m args below meth c H locs cells slots mc ms ls C hc hs hl hH hS hz
end KR7

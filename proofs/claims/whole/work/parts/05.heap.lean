/-! rows of the heap -/
def kCF (ci : Nat) (C : String) (T : u_T) (N : Nat) : Prop := kCl[ci]? = some (C, T, N) ∧ kNF ci = N ∧ (∀ w ∈ u_ws C T N, w ∈ kG) ∧ (∀ a, a < N → ∀ b, b < N → a ≠ b → (T a).2.1 ≠ (T b).2.1) ∧ (∀ k, k < N → parseFieldDescriptor (T k).2.2.1 = some (kTyF ci k))
def kFL (own : String) (idx ci k : Nat) (fin : Bool) : Prop := ∃ (C : String) (T : u_T) (N : Nat), kCF ci C T N ∧ k < N ∧ Cond.fieldLink own idx (T k).1 (T k).2.1 (T k).2.2.1 ∈ kG ∧ (T k).2.2.2 = fin ∧ True
theorem kFs_len {z ci : Nat} {g : Nat → Int} {rf : Nat → Option Nat} : (kFs z ci g rf).length = kNF ci := by simp [kFs]
theorem kFs_get {z ci k : Nat} {g : Nat → Int} {rf : Nat → Option Nat} (hk : k < kNF ci) : (kFs z ci g rf)[k]? = some (kFld z (kTyF ci k) (g k) (rf k)) := by
  simp [kFs, hk]
theorem kFs_set {z ci k : Nat} {g g' : Nat → Int} {rf rf' : Nat → Option Nat} (ho : ∀ j, j ≠ k → g' j = g j ∧ rf' j = rf j) : (kFs z ci g rf).set k (kFld z (kTyF ci k) (g' k) (rf' k)) = kFs z ci g' rf' := by
  refine List.ext_getElem? fun j => ?_
  rw [List.getElem?_set]
  by_cases hj : j < kNF ci
  · rw [kFs_get hj]
    by_cases e : k = j
    · subst e
      rw [if_pos rfl, if_pos (by rw [kFs_len]; exact hj), kFs_get hj]
    · rw [if_neg e, kFs_get hj, (ho j (fun z => e z.symm)).1, (ho j (fun z => e z.symm)).2]
  · rw [List.getElem?_eq_none (by rw [kFs_len]; omega : (kFs z ci g' rf').length ≤ j)]
    by_cases e : k = j
    · subst e
      rw [if_pos rfl, if_neg (by rw [kFs_len]; exact hj)]
    · rw [if_neg e, List.getElem?_eq_none (by rw [kFs_len]; omega)]
theorem up2_at (μ : Mu) (a k : Nat) (v : Int) : up2 μ a k v a k = v := by simp [up2]
theorem up2_ne (μ : Mu) (a k : Nat) (v : Int) {a' k' : Nat} (h : a' ≠ a ∨ k' ≠ k) : up2 μ a k v a' k' = μ a' k' := by
  unfold up2; rw [if_neg]; rintro ⟨h1, h2⟩; rcases h with h | h
  · exact h h1
  · exact h h2
def rdI {α : Type} (μ : Mu) (a n : Nat) (i : Int) (k : Int → Option α) : Option α := if 0 ≤ i ∧ i < n then k (μ a i.toNat) else none
def wrI {α : Type} (μ : Mu) (a n : Nat) (i x : Int) (k : Mu → Option α) : Option α := if 0 ≤ i ∧ i < n then k (up2 μ a i.toNat x) else none
def rdA {α : Type} (n : Nat) (i : Int) (f : Nat → Nat) (k : Nat → Option α) : Option α := if 0 ≤ i ∧ i < n then k (f i.toNat) else none
/-- a place within bounds -/
theorem in_iI {i : Int} {n : Nat} (h0 : 0 ≤ i) (h : i < n) (hn : n < 2 ^ 31) : vp_in (iI i) n ∧ (iI i).toNatClampNeg = i.toNat := by
  obtain ⟨j, rfl⟩ : ∃ j : Nat, i = j := ⟨i.toNat, by omega⟩
  have hj : j < n := by omega
  have e : iI (j : Int) = nI j := rfl
  rw [e]
  exact ⟨vp_in_nI hj hn, by rw [nI_clamp (by omega)]; rfl⟩
section KR2
variable {X : kX} {md : kM} {d : Nat} {ex : Bool} {po : kPo} {sk : List Kd} {cr sr pc : Nat} {l : List (Nat × Value)} {st : List Value} {μ : Mu} {res : Res} {x y : Int} {a n ci k idx : Nat} {rf : Nat → Option Nat} {own : String} {fin : Bool}
theorem K_getI (hd : decode md.2.1 pc = .ok (.getfield idx, 3)) (F : kFL md.1.cls idx ci k fin) (hsk : sk[a]? = some (.inr (ci, rf))) (ht : kTyF ci k = .int ∨ kTyF ci k = .boolean) (kk : KJ X md d ex po sk cr sr (pc + 3) l (.int (iI (μ a k)) :: st) μ) : KJ X md d ex po sk cr sr (pc) l (.ref (X.1 + a) :: st) μ := by
  intro p l0 e R s m args below meth c H locs cells slots mc ms ls C hc hs hl hH hS hz
  obtain ⟨Cn, Tn, N, ⟨f1, f2, f3, f4, f5⟩, f6, f7, f8, f9⟩ := F
  refine va_get C.1 C.2.1 (Ts := kG) C.2.2.2.2.2.2.2.1 f3 C.2.2.2.2.2.1 (C.2.2.2.2.2.2.2.2.1).1 hH.1 a (kW_get hsk) f1 k f6 (C.2.2.2.2.2.2.2.1 _ f7) (fun x h => h) (kFs_get (by rw [f2]; exact f6)) hd ?_
  rw [show kFld X.1 (kTyF ci k) (μ a k) (rf k) = .int (iI (μ a k)) by rcases ht with h | h <;> rw [h] <;> rfl]
  exact kk p l0 e R s m args below meth c H locs cells slots mc ms ls C hc hs hl hH hS hz
theorem K_getL (hd : decode md.2.1 pc = .ok (.getfield idx, 3)) (F : kFL md.1.cls idx ci k fin) (hsk : sk[a]? = some (.inr (ci, rf))) (ht : kTyF ci k = .long) (kk : KJ X md d ex po sk cr sr (pc + 3) l (.long (iL (μ a k)) :: st) μ) : KJ X md d ex po sk cr sr (pc) l (.ref (X.1 + a) :: st) μ := by
  intro p l0 e R s m args below meth c H locs cells slots mc ms ls C hc hs hl hH hS hz
  obtain ⟨Cn, Tn, N, ⟨f1, f2, f3, f4, f5⟩, f6, f7, f8, f9⟩ := F
  refine va_get C.1 C.2.1 (Ts := kG) C.2.2.2.2.2.2.2.1 f3 C.2.2.2.2.2.1 (C.2.2.2.2.2.2.2.2.1).1 hH.1 a (kW_get hsk) f1 k f6 (C.2.2.2.2.2.2.2.1 _ f7) (fun x h => h) (kFs_get (by rw [f2]; exact f6)) hd ?_
  rw [show kFld X.1 (kTyF ci k) (μ a k) (rf k) = .long (iL (μ a k)) by rw [ht]; rfl]
  exact kk p l0 e R s m args below meth c H locs cells slots mc ms ls C hc hs hl hH hS hz
theorem K_getR {b : Nat} (hd : decode md.2.1 pc = .ok (.getfield idx, 3)) (F : kFL md.1.cls idx ci k fin) (hsk : sk[a]? = some (.inr (ci, rf))) (hr : rf k = some b) (ht : (match kTyF ci k with | .object _ => true | .array _ => true | _ => false) = true) (kk : KJ X md d ex po sk cr sr (pc + 3) l (.ref (X.1 + b) :: st) μ) : KJ X md d ex po sk cr sr (pc) l (.ref (X.1 + a) :: st) μ := by
  intro p l0 e R s m args below meth c H locs cells slots mc ms ls C hc hs hl hH hS hz
  obtain ⟨Cn, Tn, N, ⟨f1, f2, f3, f4, f5⟩, f6, f7, f8, f9⟩ := F
  refine va_get C.1 C.2.1 (Ts := kG) C.2.2.2.2.2.2.2.1 f3 C.2.2.2.2.2.1 (C.2.2.2.2.2.2.2.2.1).1 hH.1 a (kW_get hsk) f1 k f6 (C.2.2.2.2.2.2.2.1 _ f7) (fun x h => h) (kFs_get (by rw [f2]; exact f6)) hd ?_
  rw [show kFld X.1 (kTyF ci k) (μ a k) (rf k) = .ref (X.1 + b) by
    rw [hr]
    revert ht
    cases kTyF ci k <;> intro ht <;> first | rfl | cases ht]
  exact kk p l0 e R s m args below meth c H locs cells slots mc ms ls C hc hs hl hH hS hz
theorem K_putI (hd : decode md.2.1 pc = .ok (.putfield idx, 3)) (F : kFL md.1.cls idx ci k false) (hsk : sk[a]? = some (.inr (ci, rf))) (ht : kTyF ci k = .int) (kk : KJ X md d ex po sk cr sr (pc + 3) l (st) (up2 μ a k x)) : KJ X md d ex po sk cr sr (pc) l (.int (iI x) :: .ref (X.1 + a) :: st) μ := by
  intro p l0 e R s m args below meth c H locs cells slots mc ms ls C hc hs hl hH hS hz
  obtain ⟨Cn, Tn, N, ⟨f1, f2, f3, f4, f5⟩, f6, f7, f8, f9⟩ := F
  have hlt : k < (kFs X.1 ci (μ a) rf).length := by rw [kFs_len, f2]; exact f6
  refine va_put C.1 C.2.1 (Ts := kG) C.2.2.2.2.2.2.2.1 f3 (kTyF ci) f5 f4 C.2.2.2.2.2.1 (C.2.2.2.2.2.2.2.2.1).1 hH.1 kW_D (va_S_at hS) a (kW_get hsk) f1 k f6 (C.2.2.2.2.2.2.2.1 _ f7) (fun x h => h) f8 (f5 k f6) (by rw [ht]; rfl) (by rw [ht]; rfl) hlt hd ?_
  intro H1 locs1 g1 g2 g3
  rw [show (Value.int (iI x)) = kFld X.1 (kTyF ci k) (up2 μ a k x a k) (rf k) by rw [up2_at, ht]; rfl, kFs_set (g' := up2 μ a k x a) (rf' := rf) (fun j hj => ⟨up2_ne _ _ _ _ (Or.inr hj), rfl⟩)] at g1
  rw [show (Sum.inr (ci, kFs X.1 ci (up2 μ a k x a) (rf)) : va_E) = kE X (up2 μ a k x a) (.inr (ci, rf)) from rfl, kW_up hsk] at g1
  refine W_sized (fun hz1 => ?_)
  exact kk p l0 e R s m args below meth c H1 locs1 cells slots mc ms ls C hc hs hl ⟨g1, fun q => by have a1 := hH.2 q; have a2 := hz q; have a3 := g3.1; omega⟩ (va_S_tr hS g3) (fun q => by have a2 := hz q; have a3 := g3.1; omega)
theorem K_putL (hd : decode md.2.1 pc = .ok (.putfield idx, 3)) (F : kFL md.1.cls idx ci k false) (hsk : sk[a]? = some (.inr (ci, rf))) (ht : kTyF ci k = .long) (kk : KJ X md d ex po sk cr sr (pc + 3) l (st) (up2 μ a k x)) : KJ X md d ex po sk cr sr (pc) l (.long (iL x) :: .ref (X.1 + a) :: st) μ := by
  intro p l0 e R s m args below meth c H locs cells slots mc ms ls C hc hs hl hH hS hz
  obtain ⟨Cn, Tn, N, ⟨f1, f2, f3, f4, f5⟩, f6, f7, f8, f9⟩ := F
  have hlt : k < (kFs X.1 ci (μ a) rf).length := by rw [kFs_len, f2]; exact f6
  refine va_put C.1 C.2.1 (Ts := kG) C.2.2.2.2.2.2.2.1 f3 (kTyF ci) f5 f4 C.2.2.2.2.2.1 (C.2.2.2.2.2.2.2.2.1).1 hH.1 kW_D (va_S_at hS) a (kW_get hsk) f1 k f6 (C.2.2.2.2.2.2.2.1 _ f7) (fun x h => h) f8 (f5 k f6) (by rw [ht]; rfl) (by rw [ht]; rfl) hlt hd ?_
  intro H1 locs1 g1 g2 g3
  rw [show (Value.long (iL x)) = kFld X.1 (kTyF ci k) (up2 μ a k x a k) (rf k) by rw [up2_at, ht]; rfl, kFs_set (g' := up2 μ a k x a) (rf' := rf) (fun j hj => ⟨up2_ne _ _ _ _ (Or.inr hj), rfl⟩)] at g1
  rw [show (Sum.inr (ci, kFs X.1 ci (up2 μ a k x a) (rf)) : va_E) = kE X (up2 μ a k x a) (.inr (ci, rf)) from rfl, kW_up hsk] at g1
  refine W_sized (fun hz1 => ?_)
  exact kk p l0 e R s m args below meth c H1 locs1 cells slots mc ms ls C hc hs hl ⟨g1, fun q => by have a1 := hH.2 q; have a2 := hz q; have a3 := g3.1; omega⟩ (va_S_tr hS g3) (fun q => by have a2 := hz q; have a3 := g3.1; omega)
theorem K_putIF (hd : decode md.2.1 pc = .ok (.putfield idx, 3)) (F : kFL md.1.cls idx ci k true) (hsk : sk[a]? = some (.inr (ci, rf))) (hini : md.1.name = "<init>") (hdc : ∀ (Cn : String) (Tn : u_T) (N : Nat), kCl[ci]? = some (Cn, Tn, N) → (Tn k).1 = md.1.cls) (ht : kTyF ci k = .int) (kk : KJ X md d ex po sk cr sr (pc + 3) l (st) (up2 μ a k x)) : KJ X md d ex po sk cr sr (pc) l (.int (iI x) :: .ref (X.1 + a) :: st) μ := by
  intro p l0 e R s m args below meth c H locs cells slots mc ms ls C hc hs hl hH hS hz
  obtain ⟨Cn, Tn, N, ⟨f1, f2, f3, f4, f5⟩, f6, f7, f8, f9⟩ := F
  have hlt : k < (kFs X.1 ci (μ a) rf).length := by rw [kFs_len, f2]; exact f6
  refine va_putF C.1 C.2.1 (Ts := kG) C.2.2.2.2.2.2.2.1 f3 (kTyF ci) f5 f4 C.2.2.2.2.2.1 (C.2.2.2.2.2.2.2.2.1).1 hH.1 kW_D (va_S_at hS) a (kW_get hsk) f1 k f6 (C.2.2.2.2.2.2.2.1 _ f7) (fun x h => h) f8 (C.2.2.2.2.2.2.1.trans hini) (hdc Cn Tn N f1) (f5 k f6) (by rw [ht]; rfl) (by rw [ht]; rfl) hlt hd ?_
  intro H1 locs1 g1 g2 g3
  rw [show (Value.int (iI x)) = kFld X.1 (kTyF ci k) (up2 μ a k x a k) (rf k) by rw [up2_at, ht]; rfl, kFs_set (g' := up2 μ a k x a) (rf' := rf) (fun j hj => ⟨up2_ne _ _ _ _ (Or.inr hj), rfl⟩)] at g1
  rw [show (Sum.inr (ci, kFs X.1 ci (up2 μ a k x a) (rf)) : va_E) = kE X (up2 μ a k x a) (.inr (ci, rf)) from rfl, kW_up hsk] at g1
  refine W_sized (fun hz1 => ?_)
  exact kk p l0 e R s m args below meth c H1 locs1 cells slots mc ms ls C hc hs hl ⟨g1, fun q => by have a1 := hH.2 q; have a2 := hz q; have a3 := g3.1; omega⟩ (va_S_tr hS g3) (fun q => by have a2 := hz q; have a3 := g3.1; omega)
theorem K_putLF (hd : decode md.2.1 pc = .ok (.putfield idx, 3)) (F : kFL md.1.cls idx ci k true) (hsk : sk[a]? = some (.inr (ci, rf))) (hini : md.1.name = "<init>") (hdc : ∀ (Cn : String) (Tn : u_T) (N : Nat), kCl[ci]? = some (Cn, Tn, N) → (Tn k).1 = md.1.cls) (ht : kTyF ci k = .long) (kk : KJ X md d ex po sk cr sr (pc + 3) l (st) (up2 μ a k x)) : KJ X md d ex po sk cr sr (pc) l (.long (iL x) :: .ref (X.1 + a) :: st) μ := by
  intro p l0 e R s m args below meth c H locs cells slots mc ms ls C hc hs hl hH hS hz
  obtain ⟨Cn, Tn, N, ⟨f1, f2, f3, f4, f5⟩, f6, f7, f8, f9⟩ := F
  have hlt : k < (kFs X.1 ci (μ a) rf).length := by rw [kFs_len, f2]; exact f6
  refine va_putF C.1 C.2.1 (Ts := kG) C.2.2.2.2.2.2.2.1 f3 (kTyF ci) f5 f4 C.2.2.2.2.2.1 (C.2.2.2.2.2.2.2.2.1).1 hH.1 kW_D (va_S_at hS) a (kW_get hsk) f1 k f6 (C.2.2.2.2.2.2.2.1 _ f7) (fun x h => h) f8 (C.2.2.2.2.2.2.1.trans hini) (hdc Cn Tn N f1) (f5 k f6) (by rw [ht]; rfl) (by rw [ht]; rfl) hlt hd ?_
  intro H1 locs1 g1 g2 g3
  rw [show (Value.long (iL x)) = kFld X.1 (kTyF ci k) (up2 μ a k x a k) (rf k) by rw [up2_at, ht]; rfl, kFs_set (g' := up2 μ a k x a) (rf' := rf) (fun j hj => ⟨up2_ne _ _ _ _ (Or.inr hj), rfl⟩)] at g1
  rw [show (Sum.inr (ci, kFs X.1 ci (up2 μ a k x a) (rf)) : va_E) = kE X (up2 μ a k x a) (.inr (ci, rf)) from rfl, kW_up hsk] at g1
  refine W_sized (fun hz1 => ?_)
  exact kk p l0 e R s m args below meth c H1 locs1 cells slots mc ms ls C hc hs hl ⟨g1, fun q => by have a1 := hH.2 q; have a2 := hz q; have a3 := g3.1; omega⟩ (va_S_tr hS g3) (fun q => by have a2 := hz q; have a3 := g3.1; omega)
theorem K_putZ (hd : decode md.2.1 pc = .ok (.putfield idx, 3)) (F : kFL md.1.cls idx ci k false) (hsk : sk[a]? = some (.inr (ci, rf))) (ht : kTyF ci k = .boolean) (hx : x = 0 ∨ x = 1) (kk : KJ X md d ex po sk cr sr (pc + 3) l (st) (up2 μ a k x)) : KJ X md d ex po sk cr sr (pc) l (.int (iI x) :: .ref (X.1 + a) :: st) μ := by
  intro p l0 e R s m args below meth c H locs cells slots mc ms ls C hc hs hl hH hS hz
  obtain ⟨Cn, Tn, N, ⟨f1, f2, f3, f4, f5⟩, f6, f7, f8, f9⟩ := F
  have hlt : k < (kFs X.1 ci (μ a) rf).length := by rw [kFs_len, f2]; exact f6
  refine va_put C.1 C.2.1 (Ts := kG) C.2.2.2.2.2.2.2.1 f3 (kTyF ci) f5 f4 C.2.2.2.2.2.1 (C.2.2.2.2.2.2.2.2.1).1 hH.1 kW_D (va_S_at hS) a (kW_get hsk) f1 k f6 (C.2.2.2.2.2.2.2.1 _ f7) (fun x h => h) f8 (f5 k f6) (by rw [ht]; rcases hx with h | h <;> subst h <;> rfl) (by rw [ht]; rcases hx with h | h <;> subst h <;> rfl) hlt hd ?_
  intro H1 locs1 g1 g2 g3
  rw [show (Value.int (iI x)) = kFld X.1 (kTyF ci k) (up2 μ a k x a k) (rf k) by rw [up2_at, ht]; rfl, kFs_set (g' := up2 μ a k x a) (rf' := rf) (fun j hj => ⟨up2_ne _ _ _ _ (Or.inr hj), rfl⟩)] at g1
  rw [show (Sum.inr (ci, kFs X.1 ci (up2 μ a k x a) (rf)) : va_E) = kE X (up2 μ a k x a) (.inr (ci, rf)) from rfl, kW_up hsk] at g1
  refine W_sized (fun hz1 => ?_)
  exact kk p l0 e R s m args below meth c H1 locs1 cells slots mc ms ls C hc hs hl ⟨g1, fun q => by have a1 := hH.2 q; have a2 := hz q; have a3 := g3.1; omega⟩ (va_S_tr hS g3) (fun q => by have a2 := hz q; have a3 := g3.1; omega)
theorem K_iald {r : Res} {k0 : Int → Option Res} (hd : decode md.2.1 pc = .ok (.iaload, 1)) (hsk : sk[a]? = some (.inl (0, n, rf))) (hn : n < 2 ^ 31) (h : rdI μ a n x k0 = some r) (k : k0 (μ a x.toNat) = some r → KJ X md d ex po sk cr sr (pc + 1) l (.int (iI (μ a x.toNat)) :: st) μ) : KJ X md d ex po sk cr sr (pc) l (.int (iI x) :: .ref (X.1 + a) :: st) μ := by
  intro p l0 e R s m args below meth c H locs cells slots mc ms ls C hc hs hl hH hS hz
  obtain ⟨⟨g1, g2⟩, h⟩ := og h
  obtain ⟨i1, i2⟩ := in_iI g1 g2 hn
  refine va_iald C.1 C.2.1 (C.2.2.2.2.2.2.2.2.1).1 hH.1 a 0 (cA := X.2.2.1 0) (n := n) (f := fun j => iI (μ a j)) (kW_get hsk) rfl i1 hd ?_
  rw [i2]
  exact k h p l0 e R s m args below meth c H locs cells slots mc ms ls C hc hs hl hH hS hz
theorem K_cald {r : Res} {k0 : Int → Option Res} (hd : decode md.2.1 pc = .ok (.caload, 1)) (hsk : sk[a]? = some (.inl (1, n, rf))) (hn : n < 2 ^ 31) (h : rdI μ a n x k0 = some r) (k : k0 (μ a x.toNat) = some r → KJ X md d ex po sk cr sr (pc + 1) l (.int (iI (μ a x.toNat)) :: st) μ) : KJ X md d ex po sk cr sr (pc) l (.int (iI x) :: .ref (X.1 + a) :: st) μ := by
  intro p l0 e R s m args below meth c H locs cells slots mc ms ls C hc hs hl hH hS hz
  obtain ⟨⟨g1, g2⟩, h⟩ := og h
  obtain ⟨i1, i2⟩ := in_iI g1 g2 hn
  refine va_cald C.1 C.2.1 (C.2.2.2.2.2.2.2.2.1).1 hH.1 a 1 (cA := X.2.2.1 1) (n := n) (f := fun j => iI (μ a j)) (kW_get hsk) rfl i1 hd ?_
  rw [i2]
  exact k h p l0 e R s m args below meth c H locs cells slots mc ms ls C hc hs hl hH hS hz
theorem K_lald {r : Res} {k0 : Int → Option Res} (hd : decode md.2.1 pc = .ok (.laload, 1)) (hsk : sk[a]? = some (.inl (2, n, rf))) (hn : n < 2 ^ 31) (h : rdI μ a n x k0 = some r) (k : k0 (μ a x.toNat) = some r → KJ X md d ex po sk cr sr (pc + 1) l (.long (iL (μ a x.toNat)) :: st) μ) : KJ X md d ex po sk cr sr (pc) l (.int (iI x) :: .ref (X.1 + a) :: st) μ := by
  intro p l0 e R s m args below meth c H locs cells slots mc ms ls C hc hs hl hH hS hz
  obtain ⟨⟨g1, g2⟩, h⟩ := og h
  obtain ⟨i1, i2⟩ := in_iI g1 g2 hn
  refine va_lald C.1 C.2.1 (C.2.2.2.2.2.2.2.2.1).1 hH.1 a 2 (cA := X.2.2.1 2) (n := n) (f := fun j => iL (μ a j)) (kW_get hsk) rfl i1 hd ?_
  rw [i2]
  exact k h p l0 e R s m args below meth c H locs cells slots mc ms ls C hc hs hl hH hS hz
theorem K_iast {r : Res} {k0 : Mu → Option Res} (hd : decode md.2.1 pc = .ok (.iastore, 1)) (hsk : sk[a]? = some (.inl (0, n, rf))) (hn : n < 2 ^ 31) (h : wrI μ a n x y k0 = some r) (k : k0 (up2 μ a x.toNat y) = some r → KJ X md d ex po sk cr sr (pc + 1) l (st) (up2 μ a x.toNat y)) : KJ X md d ex po sk cr sr (pc) l (.int (iI y) :: .int (iI x) :: .ref (X.1 + a) :: st) μ := by
  intro p l0 e R s m args below meth c H locs cells slots mc ms ls C hc hs hl hH hS hz
  obtain ⟨⟨g1, g2⟩, h⟩ := og h
  obtain ⟨i1, i2⟩ := in_iI g1 g2 hn
  refine va_iast C.1 C.2.1 (C.2.2.2.2.2.2.2.2.1).1 hH.1 kW_D (va_S_at hS) a 0 (cA := X.2.2.1 0) (n := n) (f := fun j => iI (μ a j)) (kW_get hsk) rfl i1 hd ?_
  intro H1 locs1 g1 g2 g3
  rw [i2] at g1
  rw [show (Sum.inl (X.2.2.1 0, n, .inl (upd (fun j => iI (μ a j)) x.toNat (iI y))) : va_E) = kE X (up2 μ a x.toNat y a) (.inl (0, n, rf)) by
    have e : upd (fun j => iI (μ a j)) x.toNat (iI y) = fun j => iI (up2 μ a x.toNat y a j) := by
      funext j
      by_cases hj : j = x.toNat
      · subst hj; simp [upd, up2_at]
      · simp [upd, hj, up2_ne μ a x.toNat y (a' := a) (k' := j) (Or.inr hj)]
    rw [e]; rfl, kW_up hsk] at g1
  refine W_sized (fun hz1 => ?_)
  exact k h p l0 e R s m args below meth c H1 locs1 cells slots mc ms ls C hc hs hl ⟨g1, fun q => by have a1 := hH.2 q; have a2 := hz q; have a3 := g3.1; omega⟩ (va_S_tr hS g3) (fun q => by have a2 := hz q; have a3 := g3.1; omega)
theorem K_last {r : Res} {k0 : Mu → Option Res} (hd : decode md.2.1 pc = .ok (.lastore, 1)) (hsk : sk[a]? = some (.inl (2, n, rf))) (hn : n < 2 ^ 31) (h : wrI μ a n x y k0 = some r) (k : k0 (up2 μ a x.toNat y) = some r → KJ X md d ex po sk cr sr (pc + 1) l (st) (up2 μ a x.toNat y)) : KJ X md d ex po sk cr sr (pc) l (.long (iL y) :: .int (iI x) :: .ref (X.1 + a) :: st) μ := by
  intro p l0 e R s m args below meth c H locs cells slots mc ms ls C hc hs hl hH hS hz
  obtain ⟨⟨g1, g2⟩, h⟩ := og h
  obtain ⟨i1, i2⟩ := in_iI g1 g2 hn
  refine va_last C.1 C.2.1 (C.2.2.2.2.2.2.2.2.1).1 hH.1 kW_D (va_S_at hS) a 2 (cA := X.2.2.1 2) (n := n) (f := fun j => iL (μ a j)) (kW_get hsk) rfl i1 hd ?_
  intro H1 locs1 g1 g2 g3
  rw [i2] at g1
  rw [show (Sum.inl (X.2.2.1 2, n, .inr (.inl (vp_updL (fun j => iL (μ a j)) x.toNat (iL y)))) : va_E) = kE X (up2 μ a x.toNat y a) (.inl (2, n, rf)) by
    have e : vp_updL (fun j => iL (μ a j)) x.toNat (iL y) = fun j => iL (up2 μ a x.toNat y a j) := by
      funext j
      by_cases hj : j = x.toNat
      · subst hj; simp [vp_updL, up2_at]
      · simp [vp_updL, hj, up2_ne μ a x.toNat y (a' := a) (k' := j) (Or.inr hj)]
    rw [e]; rfl, kW_up hsk] at g1
  refine W_sized (fun hz1 => ?_)
  exact k h p l0 e R s m args below meth c H1 locs1 cells slots mc ms ls C hc hs hl ⟨g1, fun q => by have a1 := hH.2 q; have a2 := hz q; have a3 := g3.1; omega⟩ (va_S_tr hS g3) (fun q => by have a2 := hz q; have a3 := g3.1; omega)
theorem K_cast {r : Res} {k0 : Mu → Option Res} (hd : decode md.2.1 pc = .ok (.castore, 1)) (hsk : sk[a]? = some (.inl (1, n, rf))) (hn : n < 2 ^ 31) (hc16 : 0 ≤ y ∧ y < 65536) (h : wrI μ a n x y k0 = some r) (k : k0 (up2 μ a x.toNat y) = some r → KJ X md d ex po sk cr sr (pc + 1) l (st) (up2 μ a x.toNat y)) : KJ X md d ex po sk cr sr (pc) l (.int (iI y) :: .int (iI x) :: .ref (X.1 + a) :: st) μ := by
  intro p l0 e R s m args below meth c H locs cells slots mc ms ls C hc hs hl hH hS hz
  obtain ⟨⟨g1, g2⟩, h⟩ := og h
  obtain ⟨i1, i2⟩ := in_iI g1 g2 hn
  refine va_cast C.1 C.2.1 (C.2.2.2.2.2.2.2.2.1).1 hH.1 kW_D (va_S_at hS) a 1 (cA := X.2.2.1 1) (n := n) (f := fun j => iI (μ a j)) (kW_get hsk) rfl i1 hd ?_
  intro H1 locs1 g1 g2 g3
  rw [i2] at g1
  rw [show vp_nar .char (iI y) = iI y by
    obtain ⟨j, rfl⟩ : ∃ j : Nat, y = j := ⟨y.toNat, by omega⟩
    have e := (pk_charN (q := j) (by omega)).1
    rw [show iI (j : Int) = nI j from rfl]
    unfold vp_nar; rw [e]] at g1
  rw [show (Sum.inl (X.2.2.1 1, n, .inl (upd (fun j => iI (μ a j)) x.toNat (iI y))) : va_E) = kE X (up2 μ a x.toNat y a) (.inl (1, n, rf)) by
    have e : upd (fun j => iI (μ a j)) x.toNat (iI y) = fun j => iI (up2 μ a x.toNat y a j) := by
      funext j
      by_cases hj : j = x.toNat
      · subst hj; simp [upd, up2_at]
      · simp [upd, hj, up2_ne μ a x.toNat y (a' := a) (k' := j) (Or.inr hj)]
    rw [e]; rfl, kW_up hsk] at g1
  refine W_sized (fun hz1 => ?_)
  exact k h p l0 e R s m args below meth c H1 locs1 cells slots mc ms ls C hc hs hl ⟨g1, fun q => by have a1 := hH.2 q; have a2 := hz q; have a3 := g3.1; omega⟩ (va_S_tr hS g3) (fun q => by have a2 := hz q; have a3 := g3.1; omega)
theorem K_alen (hd : decode md.2.1 pc = .ok (.arraylength, 1)) {t : Nat} (hsk : sk[a]? = some (.inl (t, n, rf))) (ht : t < 5) (kk : KJ X md d ex po sk cr sr (pc + 1) l (.int (iI n) :: st) μ) : KJ X md d ex po sk cr sr (pc) l (.ref (X.1 + a) :: st) μ := by
  intro p l0 e R s m args below meth c H locs cells slots mc ms ls C hc hs hl hH hS hz
  refine va_alen C.1 C.2.1 (C.2.2.2.2.2.2.2.2.1).1 hH.1 a t (kW_get hsk) (ty := kTyA t) ?_ (v := iI n) rfl hd ?_
  · match t, ht with
    | 0, _ => rfl
    | 1, _ => rfl
    | 2, _ => rfl
    | 3, _ => rfl
    | 4, _ => rfl
  · exact kk p l0 e R s m args below meth c H locs cells slots mc ms ls C hc hs hl hH hS hz
theorem K_aald {r : Res} {k0 : Nat → Option Res} {t : Nat} {f : Nat → Nat} (hd : decode md.2.1 pc = .ok (.aaload, 1)) (hsk : sk[a]? = some (.inl (t, n, rf))) (ht : t = 3 ∨ t = 4) (hn : n < 2 ^ 31) (hf : ∀ j, j < n → rf j = some (f j)) (h : rdA n x f k0 = some r) (k : k0 (f x.toNat) = some r → KJ X md d ex po sk cr sr (pc + 1) l (.ref (X.1 + f x.toNat) :: st) μ) : KJ X md d ex po sk cr sr (pc) l (.int (iI x) :: .ref (X.1 + a) :: st) μ := by
  intro p l0 e R s m args below meth c H locs cells slots mc ms ls C hc hs hl hH hS hz
  obtain ⟨⟨g1, g2⟩, h⟩ := og h
  obtain ⟨i1, i2⟩ := in_iI g1 g2 hn
  have hv : rf x.toNat = some (f x.toNat) := hf _ (by omega)
  rcases ht with e | e
  · subst e
    refine va_aldq C.1 C.2.1 (C.2.2.2.2.2.2.2.2.1).1 hH.1 a 3 (cA := X.2.2.1 3) (n := n) (f := fun j => (rf j).map (fun a => X.1 + a)) (kW_get hsk) (C := RX1) rfl i1 hd ?_
    rw [i2, hv]
    exact k h p l0 e R s m args below meth c H locs cells slots mc ms ls C hc hs hl hH hS hz
  · subst e
    refine va_aldq C.1 C.2.1 (C.2.2.2.2.2.2.2.2.1).1 hH.1 a 4 (cA := X.2.2.1 4) (n := n) (f := fun j => (rf j).map (fun a => X.1 + a)) (kW_get hsk) (C := RX5) rfl i1 hd ?_
    rw [i2, hv]
    exact k h p l0 e R s m args below meth c H locs cells slots mc ms ls C hc hs hl hH hS hz
end KR2

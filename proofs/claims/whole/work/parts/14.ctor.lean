/-! constructors: new cells lie behind the skeleton; pre is what stood before the object, suf what it has made; its memory c by offsets from b -/
def putM (μ : Mu) (b : Nat) (c : Mu) : Mu := fun a k => if a < b then μ a k else c (a - b) k
theorem putM_up {μ c : Mu} {b j k : Nat} {v : Int} : up2 (putM μ b c) (b + j) k v = putM μ b (up2 c j k v) := by
  funext a q
  unfold up2 putM
  by_cases h : a < b
  · rw [if_neg (by omega), if_pos h, if_pos h]
  · rw [if_neg h, if_neg h]
    by_cases e : a = b + j ∧ q = k
    · rw [if_pos e]; dsimp only; rw [if_pos (by omega)]
    · rw [if_neg e]; dsimp only; rw [if_neg (by omega)]
def zb (c : Mu) (n : Nat) : Prop := ∀ j k, n ≤ j → c j k = 0
theorem zb_0 (n : Nat) : zb (fun _ _ => 0) n := fun _ _ _ => rfl
theorem zb_up {c : Mu} {n i k : Nat} {v : Int} (h : zb c n) (hi : i < n) : zb (up2 c i k v) n := by
  intro j q hj
  unfold up2
  rw [if_neg (by omega)]; exact h j q hj
theorem zb_mono {c : Mu} {n m : Nat} (h : zb c n) (hm : n ≤ m) : zb c m := fun j k hj => h j k (Nat.le_trans hm hj)
theorem zb_put {c m0 : Mu} {b n : Nat} (h : zb m0 (n - b)) (hb : b ≤ n) : zb (putM c b m0) n := by
  intro j q hj
  unfold putM
  rw [if_neg (by omega)]; exact h _ _ (by omega)
theorem clr_id {c : Mu} {n : Nat} (h : zb c n) : clr c n = c := by
  funext a k
  unfold clr
  by_cases e : a = n
  · subst e; rw [if_pos rfl, h _ _ (Nat.le_refl _)]
  · rw [if_neg e]
theorem putM_self {μ : Mu} {b : Nat} (h : zb μ b) : putM μ b (fun _ _ => 0) = μ := by
  funext a k
  unfold putM
  by_cases e : a < b
  · rw [if_pos e]
  · rw [if_neg e, h _ _ (by omega)]
theorem zb_putM {μ c : Mu} {b n : Nat} (h : zb c n) : zb (putM μ b c) (b + n) := by
  intro j k hj
  unfold putM
  rw [if_neg (by omega)]; exact h _ _ (by omega)
theorem putM_in {μ c m0 : Mu} {b j : Nat} : putM (putM μ b c) (b + j) m0 = putM μ b (putM c j m0) := by
  funext a k
  unfold putM
  by_cases h : a < b
  · rw [if_pos (by omega), if_pos h, if_pos h]
  · rw [if_neg h]
    by_cases e : a < b + j
    · rw [if_pos e, if_neg h, if_pos (by omega)]
    · rw [if_neg e, if_neg h, if_neg (show ¬ a - b < j by omega), Nat.sub_add_eq]
theorem suf_at {pre suf : List Kd} {b j : Nat} (hb : pre.length = b) : (pre ++ suf)[b + j]? = suf[j]? := by
  subst hb
  rw [List.getElem?_append_right (Nat.le_add_right _ _), Nat.add_sub_cancel_left]
theorem suf_set {pre suf : List Kd} {b j : Nat} {kd : Kd} (hb : pre.length = b) : (pre ++ suf).set (b + j) kd = pre ++ suf.set j kd := by
  subst hb
  rw [List.set_append_right _ _ (Nat.le_add_right _ _), Nat.add_sub_cancel_left]
def rfu (rf : Nat → Option Nat) (k r : Nat) : Nat → Option Nat := fun j => if j = k then some r else rf j
/-- the skeleton at one place is changed, the memory not -/
theorem kW_sk {X : kX} {μ : Mu} {sk : List Kd} {a : Nat} {kd kd' : Kd} (h : sk[a]? = some kd) : (kW X sk μ).set a (X.1 + a, kE X (μ a) kd') = kW X (sk.set a kd') μ := by
  refine kW_ext fun j => ?_
  rw [List.getElem?_set, List.getElem?_set]
  have hl : a < sk.length := (List.getElem?_eq_some_iff.mp h).1
  by_cases e : a = j
  · subst e
    rw [if_pos rfl, if_pos rfl, if_pos (by rw [kW_len]; exact hl), if_pos hl]; rfl
  · rw [if_neg e, if_neg e, kWf_get]; simp
section CR
variable {X : kX} {md mdY : kM} {d d' : Nat} {po poY : kPo} {pre suf suf' : List Kd} {cr sr pc b j n N ci idx k r mcY msY t : Nat} {l : List (Nat × Value)} {st As : List Value} {μ c c' : Mu} {x y : Int} {rf : Nat → Option Nat} {host : String}
theorem k_size {s : State} {H H1 : Heap} {cells : Nat} {X : kX} {sk : List Kd} {μ : Mu} (hH : kHp X sk true μ H) (hz : s.heap.size + cells = H.size) (h1 : H1.size ≤ s.heap.size + (cells + 1)) : H1.size ≤ X.1 + sk.length + 1 := by
  have := hH.2 rfl
  omega
theorem C_new (hd : decode md.2.1 pc = .ok (.new idx, 3)) {C : String} {T : u_T} (F : kCF ci C T N) (h1 : Cond.classLink md.1.cls idx C ∈ kG) (h2 : Cond.instantiable C N ∈ kG) (h3 : Cond.initialized C ∈ kG) (hty : ∀ k, k < N → (match kTyF ci k with | .float => false | .double => false | _ => true) = true) (hb : pre.length = b) (hj : suf.length = j) (hzc : zb c j)
    (hs' : suf ++ [.inr (ci, fun _ => none)] = suf') (kk : KJ X md d true po (pre ++ suf') cr sr (pc + 3) l (.ref (X.1 + (b + j)) :: st) (putM μ b c)) : KJ X md d true po (pre ++ suf) (cr + 1) (sr + N) pc l st (putM μ b c) := by
  subst hs'; subst hb; subst hj
  intro p l0 e R s m args below meth c0 H locs cells slots mc ms ls C' hc hs hl hH hS hz
  have C9 := C'
  obtain ⟨c1, c2, c3, c4, c5, c6, c7, c8, c9, ⟨r1, r2, r3, r4⟩, c11, c12, c13⟩ := C9
  obtain ⟨f1, f2, f3, f4, f5⟩ := F
  refine va_new (ci := ci) (fs := kFs X.1 ci (fun _ => 0) (fun _ => none)) c1 c2 c8 f3 (kTyF ci) f5 c6 (c8 _ h1) (c8 _ h2) (c8 _ h3) c9.1 hH.1 kW_D hS (fun q h => Nat.le_trans c13 h) f1 (fun j hj => ?_) (by omega) (by omega) hd (fun q H1 g1 g2 g3 => ?_)
  · show defaultValue (kTyF ci j) = (kFs X.1 ci (fun _ => 0) (fun _ => none)).getD j .null
    rw [List.getD_eq_getElem?_getD, kFs_get (by rw [f2]; exact hj)]
    have := hty j hj
    revert this
    cases kTyF ci j <;> intro h <;> first | rfl | (cases h)
  · refine W_sized (fun hz1 => ?_)
    have hz9 := hz rfl
    have hq := k_newat g1 g2 (k_size hH hz9 hz1)
    subst hq
    rw [show (Sum.inr (ci, kFs X.1 ci (fun _ => 0) (fun _ => none)) : va_E) = kE X (fun _ => 0) (.inr (ci, fun _ => none)) from rfl, kW_push, clr_id (by rw [List.length_append]; exact zb_putM hzc)] at g1
    rw [List.append_assoc] at g1
    have hs9 : H1.size = X.1 + (pre ++ (suf ++ [Sum.inr (ci, fun _ => none)])).length := by
      have a1 := hH.2 rfl
      have a2 := k_size hH hz9 hz1
      have a3 : (kW X (pre ++ (suf ++ [Sum.inr (ci, fun _ => none)])) (putM μ pre.length c))[pre.length + suf.length]? = some _ := kW_get (kd := Sum.inr (ci, fun _ => none)) (by rw [suf_at rfl]; simp)
      have a4 := (g1 _ _ a3).lt
      simp only [List.length_append, List.length_cons, List.length_nil] at a1 a2 a4 ⊢
      omega
    rw [List.length_append]
    exact kk p l0 e R s m args below meth c0 H1 locs (cells + 1) (slots + N) mc ms ls C' (by omega) (by omega) hl ⟨g1, fun _ => hs9⟩ g3 (fun _ => by have a1 := hH.2 rfl; simp only [List.length_append, List.length_cons, List.length_nil] at hs9 a1; omega)
/-- a new cell's world, and its size -/
theorem k_new9 {s : State} {H H1 : Heap} {cells : Nat} (hH : kHp X (pre ++ suf) true (putM μ b c) H) (hz : s.heap.size + cells = H.size) (hb : pre.length = b) (hj : suf.length = j) (hzc : zb c j) {kd : Kd} {q : Nat}
    (g1 : va_P X.2.1 kCl (kW X (pre ++ suf) (putM μ b c) ++ [(q, kE X (fun _ => 0) kd)]) H1) (g2 : va_D (kFree X) (kW X (pre ++ suf) (putM μ b c) ++ [(q, kE X (fun _ => 0) kd)])) (h1 : H1.size ≤ s.heap.size + (cells + 1)) :
    q = X.1 + (b + j) ∧ kHp X (pre ++ (suf ++ [kd])) true (putM μ b c) H1 ∧ s.heap.size + (cells + 1) = H1.size := by
  subst hb; subst hj
  have hq := k_newat g1 g2 (k_size hH hz h1)
  subst hq
  rw [kW_push, clr_id (by rw [List.length_append]; exact zb_putM hzc), List.append_assoc] at g1
  have a1 := hH.2 rfl
  have a2 := k_size hH hz h1
  have a3 : (kW X (pre ++ (suf ++ [kd])) (putM μ pre.length c))[pre.length + suf.length]? = some _ := kW_get (kd := kd) (by rw [suf_at rfl]; simp)
  have a4 := (g1 _ _ a3).lt
  rw [List.length_append] at a1 a2
  have a5 : (pre ++ (suf ++ [kd])).length = pre.length + suf.length + 1 := by
    rw [List.length_append, List.length_append, List.length_cons, List.length_nil]; omega
  have a6 : H1.size = X.1 + (pre ++ (suf ++ [kd])).length := by rw [a5]; omega
  exact ⟨by rw [List.length_append], ⟨g1, fun _ => a6⟩, by omega⟩
theorem C_newarr {at0 : ArrayType} {ty : FieldType} (hd : decode md.2.1 pc = .ok (.newarray at0, 2)) (h1 : Cond.arrayClass (newarray.typeOf at0) ∈ kG) (hty : newarray.typeOf at0 = ty) (ht : (t = 0 ∧ ty = .int) ∨ (t = 1 ∧ ty = .char) ∨ (t = 2 ∧ ty = .long)) (hn : n < 2 ^ 16) (hb : pre.length = b) (hj : suf.length = j) (hzc : zb c j)
    (hs' : suf ++ [.inl (t, n, fun _ => none)] = suf') (kk : KJ X md d true po (pre ++ suf') cr sr (pc + 2) l (.ref (X.1 + (b + j)) :: st) (putM μ b c)) : KJ X md d true po (pre ++ suf) (cr + 1) (sr + n) pc l (.int (iI (n : Int)) :: st) (putM μ b c) := by
  subst hs'
  intro p l0 e R s m args below meth c0 H locs cells slots mc ms ls C' hc hs hl hH hS hz
  have C9 := C'
  obtain ⟨c1, c2, c3, c4, c5, c6, c7, c8, c9, ⟨r1, r2, r3, r4⟩, c11, c12, c13⟩ := C9
  have hz9 := hz rfl
  have hcl : (iI (n : Int)).toNatClampNeg = n := nI_clamp (by omega)
  have hcb : n * componentBytes ty ≤ 536870912 := by
    have : componentBytes ty ≤ 8 := by rcases ht with ⟨-, rfl⟩ | ⟨-, rfl⟩ | ⟨-, rfl⟩ <;> decide
    have := Nat.mul_le_mul (Nat.le_of_lt hn) this
    omega
  refine va_newa (atype := at0) (ty := ty) (a0 := kArr X.1 t n (fun _ => 0) (fun _ => none)) (N' := n) c1 c2 (c8 _ h1) hty c9.1 hH.1 kW_D hS (fun q h => Nat.le_trans c13 h) (fun cA => ?_) (nI_pos (by omega)) hcl hcb (by omega) (by omega) hd (fun q cA H1 gK g1 g2 g3 => ?_)
  · rcases ht with ⟨rfl, rfl⟩ | ⟨rfl, rfl⟩ | ⟨rfl, rfl⟩ <;> rfl
  · refine W_sized (fun hz1 => ?_)
    have hcA : cA = X.2.2.1 t := by
      have e1 : s.vm.findClass ("[" ++ ty.toString) = some cA := by
        have := (gK.2 5 (cA, ty) rfl).2
        rcases ht with ⟨rfl, rfl⟩ | ⟨rfl, rfl⟩ | ⟨rfl, rfl⟩ <;> exact this
      have e2 : s.vm.findClass ("[" ++ ty.toString) = some (X.2.2.1 t) := by
        rcases ht with ⟨rfl, rfl⟩ | ⟨rfl, rfl⟩ | ⟨rfl, rfl⟩
        · exact (c9.1.2 0 _ rfl).2
        · exact (c9.1.2 1 _ rfl).2
        · exact (c9.1.2 2 _ rfl).2
      exact Option.some.inj (e1.symm.trans e2)
    subst hcA
    obtain ⟨rfl, hH', hz'⟩ := k_new9 (kd := .inl (t, n, fun _ => none)) hH hz9 hb hj hzc g1 g2 hz1
    exact kk p l0 e R s m args below meth c0 H1 locs (cells + 1) (slots + n) mc ms ls C' (by omega) (by omega) hl hH' g3 (fun _ => hz')
theorem C_anew {E : String} (hd : decode md.2.1 pc = .ok (.anewarray idx, 3)) (h1 : Cond.classLink md.1.cls idx E ∈ kG) (ht : (t = 3 ∧ E = RX1) ∨ (t = 4 ∧ E = RX5)) (hn : n < 2 ^ 16) (hb : pre.length = b) (hj : suf.length = j) (hzc : zb c j)
    (hs' : suf ++ [.inl (t, n, fun _ => none)] = suf') (kk : KJ X md d true po (pre ++ suf') cr sr (pc + 3) l (.ref (X.1 + (b + j)) :: st) (putM μ b c)) : KJ X md d true po (pre ++ suf) (cr + 1) (sr + n) pc l (.int (iI (n : Int)) :: st) (putM μ b c) := by
  subst hs'
  intro p l0 e R s m args below meth c0 H locs cells slots mc ms ls C' hc hs hl hH hS hz
  have C9 := C'
  obtain ⟨c1, c2, c3, c4, c5, c6, c7, c8, c9, ⟨r1, r2, r3, r4⟩, c11, c12, c13⟩ := C9
  have hz9 := hz rfl
  have hcl : (iI (n : Int)).toNatClampNeg = n := nI_clamp (by omega)
  refine va_newq (C := E) (N' := n) c1 c2 c6 (c8 _ h1) (by
    rcases ht with ⟨-, rfl⟩ | ⟨-, rfl⟩
    · exact c9.2.2.2.2.2.2.2.2.2.1
    · exact c9.2.2.2.2.2.2.2.2.2.2.1) c9.1 hH.1 kW_D hS (fun q h => Nat.le_trans c13 h) (nI_pos (by omega)) hcl (by omega) (by omega) (by omega) hd (fun q cA H1 gK g1 g2 g3 => ?_)
  refine W_sized (fun hz1 => ?_)
  have hcA : cA = X.2.2.1 t := by
    obtain ⟨k1, p1, -, -, -, e1⟩ := (gK.2 5 (cA, .object E) rfl).2
    rcases ht with ⟨rfl, rfl⟩ | ⟨rfl, rfl⟩
    · obtain ⟨k2, p2, -, -, -, e2⟩ := (c9.1.2 3 _ rfl).2
      exact Option.some.inj (e1.symm.trans e2)
    · obtain ⟨k2, p2, -, -, -, e2⟩ := (c9.1.2 4 _ rfl).2
      exact Option.some.inj (e1.symm.trans e2)
  subst hcA
  rw [show (Sum.inl (X.2.2.1 t, n, .inr (.inr (.inr (.inr (fun _ => none))))) : va_E) = kE X (fun _ => 0) (.inl (t, n, fun _ => none)) by rcases ht with ⟨rfl, -⟩ | ⟨rfl, -⟩ <;> rfl] at g1 g2
  obtain ⟨rfl, hH', hz'⟩ := k_new9 (kd := .inl (t, n, fun _ => none)) hH hz9 hb hj hzc g1 g2 hz1
  exact kk p l0 e R s m args below meth c0 H1 locs (cells + 1) (slots + n) mc ms ls C' (by omega) (by omega) hl hH' g3 (fun _ => hz')
/-- a final field that holds a reference -/
theorem C_putR {i : Nat} (hd : decode md.2.1 pc = .ok (.putfield idx, 3)) (F : kFL md.1.cls idx ci k true) (hini : md.1.name = "<init>") (hdc : ∀ (Cn : String) (Tn : u_T) (N : Nat), kCl[ci]? = some (Cn, Tn, N) → (Tn k).1 = md.1.cls) (hty : (match kTyF ci k with | .object _ => true | .array _ => true | _ => false) = true) (hb : pre.length = b) (hsk : suf[i]? = some (.inr (ci, rf)))
    (hs' : suf.set i (.inr (ci, rfu rf k r)) = suf') (kk : KJ X md d true po (pre ++ suf') cr sr (pc + 3) l st (putM μ b c)) : KJ X md d true po (pre ++ suf) cr sr pc l (.ref (X.1 + r) :: .ref (X.1 + (b + i)) :: st) (putM μ b c) := by
  subst hs'
  intro p l0 e R s m args below meth c0 H locs cells slots mc ms ls C hc hs hl hH hS hz
  obtain ⟨Cn, Tn, N, ⟨f1, f2, f3, f4, f5⟩, f6, f7, f8, f9⟩ := F
  have hlt : k < (kFs X.1 ci (putM μ b c (b + i)) rf).length := by rw [kFs_len, f2]; exact f6
  have hsk' : (pre ++ suf)[b + i]? = some (.inr (ci, rf)) := by rw [suf_at hb]; exact hsk
  refine va_putF C.1 C.2.1 (Ts := kG) C.2.2.2.2.2.2.2.1 f3 (kTyF ci) f5 f4 C.2.2.2.2.2.1 (C.2.2.2.2.2.2.2.2.1).1 hH.1 kW_D (va_S_at hS) (b + i) (kW_get hsk') f1 k f6 (C.2.2.2.2.2.2.2.1 _ f7) (fun x h => h) f8 (C.2.2.2.2.2.2.1.trans hini) (hdc Cn Tn N f1) (f5 k f6)
    (by revert hty; cases kTyF ci k <;> intro hty <;> first | rfl | cases hty) (by revert hty; cases kTyF ci k <;> intro hty <;> first | rfl | cases hty) hlt hd ?_
  intro H1 locs1 g1 g2 g3
  have e9 : (Value.ref (X.1 + r)) = kFld X.1 (kTyF ci k) (putM μ b c (b + i) k) (rfu rf k r k) := by
    unfold rfu; rw [if_pos rfl]
    revert hty
    cases kTyF ci k <;> intro hty <;> first | rfl | (cases hty)
  rw [e9, kFs_set (g' := putM μ b c (b + i)) (rf' := rfu rf k r) (fun j hj => ⟨rfl, by unfold rfu; rw [if_neg hj]⟩)] at g1
  rw [show (Sum.inr (ci, kFs X.1 ci (putM μ b c (b + i)) (rfu rf k r)) : va_E) = kE X (putM μ b c (b + i)) (.inr (ci, rfu rf k r)) from rfl, kW_sk hsk', suf_set hb] at g1
  refine W_sized (fun hz1 => ?_)
  exact kk p l0 e R s m args below meth c0 H1 locs1 cells slots mc ms ls C hc hs hl ⟨g1, fun q => by have a1 := hH.2 q; have a2 := hz q; have a3 := g3.1; simp only [List.length_append, List.length_set] at a1 ⊢; omega⟩ (va_S_tr hS g3) (fun q => by have a2 := hz q; have a3 := g3.1; omega)
theorem C_putI {i : Nat} (hd : decode md.2.1 pc = .ok (.putfield idx, 3)) (F : kFL md.1.cls idx ci k false) (ht : kTyF ci k = .int) (hb : pre.length = b) (hsk : suf[i]? = some (.inr (ci, rf))) (hc' : up2 c i k x = c') (kk : KJ X md d true po (pre ++ suf) cr sr (pc + 3) l st (putM μ b c')) : KJ X md d true po (pre ++ suf) cr sr pc l (.int (iI x) :: .ref (X.1 + (b + i)) :: st) (putM μ b c) :=
  K_putI hd F (by rw [suf_at hb]; exact hsk) ht (by rw [putM_up, hc']; exact kk)
theorem C_putL {i : Nat} (hd : decode md.2.1 pc = .ok (.putfield idx, 3)) (F : kFL md.1.cls idx ci k false) (ht : kTyF ci k = .long) (hb : pre.length = b) (hsk : suf[i]? = some (.inr (ci, rf))) (hc' : up2 c i k x = c') (kk : KJ X md d true po (pre ++ suf) cr sr (pc + 3) l st (putM μ b c')) : KJ X md d true po (pre ++ suf) cr sr pc l (.long (iL x) :: .ref (X.1 + (b + i)) :: st) (putM μ b c) :=
  K_putL hd F (by rw [suf_at hb]; exact hsk) ht (by rw [putM_up, hc']; exact kk)
theorem C_iast {i q : Nat} (hd : decode md.2.1 pc = .ok (.iastore, 1)) (hb : pre.length = b) (hsk : suf[i]? = some (.inl (0, n, rf))) (hn : n < 2 ^ 31) (hq : q < n) (hx : x = (q : Int)) (hc' : up2 c i q y = c') (kk : KJ X md d true po (pre ++ suf) cr sr (pc + 1) l st (putM μ b c')) : KJ X md d true po (pre ++ suf) cr sr pc l (.int (iI y) :: .int (iI x) :: .ref (X.1 + (b + i)) :: st) (putM μ b c) := by
  subst hx
  refine K_iast (k0 := fun _ => some (putM μ b c', 0, 0)) (r := (putM μ b c', 0, 0)) hd (by rw [suf_at hb]; exact hsk) hn (by unfold wrI; rw [if_pos (by omega)]) (fun _ => ?_)
  rw [Int.toNat_natCast, putM_up, hc']; exact kk
end CR

/-! The judgement over abstract states: ints as Int, memory Mu by offsets from z, a skeleton of kinds -/
abbrev Mu : Type := Nat → Nat → Int
abbrev Kd : Type := (Nat × Nat × (Nat → Option Nat)) ⊕ (Nat × (Nat → Option Nat))
def iI (x : Int) : Int32 := Int32.ofInt x
def iL (x : Int) : Int64 := Int64.ofInt x
def up2 (μ : Mu) (a k : Nat) (v : Int) : Mu := fun a' k' => if a' = a ∧ k' = k then v else μ a' k'
abbrev kX : Type := Nat × va_G × (Nat → ClassId) × (Nat × Nat × (Nat → Int32))
def kTyA : Nat → FieldType := fun t => match t with
  | 0 => .int
  | 1 => .char
  | 2 => .long
  | 3 => .object RX1
  | _ => .object RX5
def kFld (z : Nat) (ty : FieldType) (x : Int) (r : Option Nat) : Value := match ty with
  | .long => .long (iL x)
  | .object _ => va_rf (r.map (fun a => z + a))
  | .array _ => va_rf (r.map (fun a => z + a))
  | _ => .int (iI x)
def kArr (z t n : Nat) (g : Nat → Int) (rf : Nat → Option Nat) : vp_A := (n, match t with
  | 0 => .inl (fun j => iI (g j))
  | 1 => .inl (fun j => iI (g j))
  | 2 => .inr (.inl (fun j => iL (g j)))
  | _ => .inr (.inr (.inr (.inr (fun j => (rf j).map (fun a => z + a))))))
def kFs (z ci : Nat) (g : Nat → Int) (rf : Nat → Option Nat) : List Value := (List.range (kNF ci)).map (fun k => kFld z (kTyF ci k) (g k) (rf k))
def kE (X : kX) (g : Nat → Int) (kd : Kd) : va_E := match kd with
  | .inl (t, n, rf) => .inl (X.2.2.1 t, kArr X.1 t n g rf)
  | .inr (ci, rf) => .inr (ci, kFs X.1 ci g rf)
def kWf (X : kX) (μ : Mu) : Nat → List Kd → va_W
  | _, [] => []
  | k, kd :: r => (X.1 + k, kE X (μ k) kd) :: kWf X μ (k + 1) r
abbrev kW (X : kX) (sk : List Kd) (μ : Mu) : va_W := kWf X μ 0 sk
theorem kWf_get (X : kX) (μ : Mu) : ∀ (sk : List Kd) (n k : Nat), (kWf X μ n sk)[k]? = sk[k]?.map (fun kd => (X.1 + (n + k), kE X (μ (n + k)) kd))
  | [], n, k => by simp [kWf]
  | kd :: r, n, 0 => by simp [kWf]
  | kd :: r, n, k + 1 => by
    simp only [kWf, List.getElem?_cons_succ]
    rw [kWf_get X μ r (n + 1) k, show n + 1 + k = n + (k + 1) by omega]
theorem kW_get {X : kX} {μ : Mu} {sk : List Kd} {k : Nat} {kd : Kd} (h : sk[k]? = some kd) : (kW X sk μ)[k]? = some (X.1 + k, kE X (μ k) kd) := by
  rw [kWf_get, h]; simp
theorem kW_len {X : kX} {μ : Mu} {sk : List Kd} : (kW X sk μ).length = sk.length := by
  have : ∀ (sk : List Kd) (n : Nat), (kWf X μ n sk).length = sk.length := by
    intro sk
    induction sk with
    | nil => intro n; rfl
    | cons a r ih => intro n; simp [kWf, ih]
  exact this sk 0
theorem kW_ext {X : kX} {w : va_W} {sk : List Kd} {μ : Mu} (h : ∀ k : Nat, w[k]? = sk[k]?.map (fun kd => (X.1 + k, kE X (μ k) kd))) : w = kW X sk μ := by
  refine List.ext_getElem? fun k => ?_
  rw [h k, kWf_get]; simp
/-- one place of the memory is written -/
theorem kW_up {X : kX} {μ : Mu} {sk : List Kd} {a k : Nat} {kd : Kd} {v : Int} (h : sk[a]? = some kd) : (kW X sk μ).set a (X.1 + a, kE X (up2 μ a k v a) kd) = kW X sk (up2 μ a k v) := by
  refine kW_ext fun j => ?_
  rw [List.getElem?_set]
  have hl : a < (kW X sk μ).length := by rw [kW_len]; exact (List.getElem?_eq_some_iff.mp h).1
  by_cases e : a = j
  · subst e
    rw [if_pos rfl, if_pos hl, h]; rfl
  · rw [if_neg e, kWf_get]
    have : up2 μ a k v j = μ j := by funext q; unfold up2; rw [if_neg]; rintro ⟨h1, -⟩; exact e h1.symm
    simp [this]
theorem kW_D {X : kX} {μ : Mu} {sk : List Kd} : va_D (fun q => X.1 ≤ q) (kW X sk μ) := by
  have key : ∀ (k : Nat) (q : Nat × va_E), (kW X sk μ)[k]? = some q → q.1 = X.1 + k := by
    intro k q hq
    rw [kWf_get] at hq
    cases hs : sk[k]? with
    | none => rw [hs] at hq; cases hq
    | some kd => rw [hs] at hq; cases hq; simp
  refine ⟨fun i j p q hp hq h => ?_, fun k q hq => ?_⟩
  · rw [key i p hp, key j q hq] at h; omega
  · rw [key k q hq]; exact Nat.le_add_right _ _
abbrev kTys (X : kX) : List (ClassId × FieldType) := [(X.2.2.1 0, .int), (X.2.2.1 1, .char), (X.2.2.1 2, .long), (X.2.2.1 3, .object RX1), (X.2.2.1 4, .object RX5)]

def exName : Nat → String := fun e => match e with
  | 0 => "java/lang/IllegalStateException"
  | 1 => "java/lang/IllegalArgumentException"
  | 2 => "java/lang/IndexOutOfBoundsException"
  | 3 => "java/lang/ArithmeticException"
  | 4 => "java/lang/UnsupportedOperationException"
  | _ => "java/util/NoSuchElementException"
/-- none of the six is another's class -/
def EN (U : State) : Prop := ∀ i j : Nat, i < 6 → j < 6 → i ≠ j → va_Nc (exName i) (exName j) U
/-- what the tables and the statics give, at any state of the run -/
def EU (X : kX) (U : State) (H : Heap) : Prop :=
  va_K X.2.1 kCl (kTys X) U ∧ (∀ q ∈ kNM, va_Nw (.methodLinkNest q.1 q.2.1 q.2.2.1 q.2.2.2) U) ∧ (∀ q ∈ kNC, va_Nw (.castable q.1 q.2) U) ∧ (∀ q ∈ kND, va_Nw (.declares q) U) ∧ (∀ q ∈ kSR, ∃ a : Nat, vk_R q.1 q.2.1 q.2.2 a U) ∧
  vx_Zq Bundle.tN "UNASSIGNED_STACK" Bundle.steD (fun q => X.1 ≤ q) U H ∧ vx_Zq Bundle.tN "SUPPRESSED_SENTINEL" Bundle.listD (fun q => X.1 ≤ q) U H ∧
  (∃ t : Nat, va_Z "ExamMarker" "LEAST_SETTINGS" "[I" (.ref t) (fun q => X.1 ≤ q) U H ∧ va_T .int t 5 (fun j => .int (iI (if j = 1 then 1 else 0))) (fun q => X.1 ≤ q) U H) ∧
  (∃ t : Nat, va_Z "ExamMarker" "GREATEST_SETTINGS" "[I" (.ref t) (fun q => X.1 ≤ q) U H ∧ va_T .int t 5 (fun j => .int (iI (if j = 0 then 5 else if j = 1 then 40 else if j = 2 then 10 else if j = 3 then 5 else 99))) (fun q => X.1 ≤ q) U H) ∧ va_AO RX1 U ∧ va_AO RX5 U ∧ EN U ∧ va_X X.2.2.2.1 X.2.2.2.2.1 X.2.2.2.2.2 U H ∧ X.2.2.2.1 < X.1
theorem EU.go {X : kX} {s U : State} {H H' : Heap} (hW : s.WarmedH U.vm) (hk : ∀ q : Nat, q < H.size → ¬ X.1 ≤ q → H'[q]? = H[q]?) (h : EU X s H) : EU X U H' := by
  obtain ⟨h1, h2, h3, h4, h5, h6, h7, ⟨t8, h8, g8⟩, ⟨t9, h9, g9⟩, h10, h11, h12, h13, h14⟩ := h
  have hA := hW.alike
  refine ⟨va_K.moved hA h1, fun q hq => va_Nw.warmM hW (h2 q hq), fun q hq => va_Nw.warmC hW (h3 q hq), fun q hq => va_Nw.warmD hW (h4 q hq), fun q hq => ?_, vx_Zq.moved hA (h6.kept hk), vx_Zq.moved hA (h7.kept hk),
    ⟨t8, va_Z.moved hA (h8.kept hk), va_T.moved hA (g8.kept hk)⟩, ⟨t9, va_Z.moved hA (h9.kept hk), va_T.moved hA (g9.kept hk)⟩, va_AO.moved hA h10, va_AO.moved hA h11, fun i j hi hj hn => va_Nc.moved hA (h12 i j hi hj hn), va_X.moved hA (va_X.kept h13 (hk _ (by obtain ⟨c0, h0, -⟩ := h13; exact (Array.getElem?_eq_some_iff.mp h0).1) (by omega))), h14⟩
  obtain ⟨a, ha⟩ := h5 q hq
  exact ⟨a, vk_R.warm hW ha⟩
abbrev kPo : Type := (Option Value → List Kd → Mu → Prop) × (Nat → List Kd → Mu → Prop)
abbrev kFree (X : kX) : Nat → Prop := fun q => X.1 ≤ q
/-- the heap holds the memory -/
def kHp (X : kX) (sk : List Kd) (ex : Bool) (μ : Mu) (H : Heap) : Prop := va_P X.2.1 kCl (kW X sk μ) H ∧ (ex = true → H.size = X.1 + sk.length)
def kQ (X : kX) (ex : Bool) (po : kPo) : Array Value → State → Outcome → State → Prop := fun _ st o t => ∃ (v : Option Value) (sk' : List Kd) (μ' : Mu), o = .returned v ∧ po.1 v sk' μ' ∧ kHp X sk' ex μ' t.heap ∧ va_F (kFree X) st t
def kQx (X : kX) (po : kPo) : String → State → State → Prop := fun E st t => ∃ (e : Nat) (sk' : List Kd) (μ' : Mu), E = exName e ∧ po.2 e sk' μ' ∧ kHp X sk' false μ' t.heap ∧ va_F (kFree X) st t
def kPc (X : kX) (sk : List Kd) (ex : Bool) (μ : Mu) (args : List Value) : Array Value → State → Prop := va_Pc args (fun U => EU X U U.heap ∧ kHp X sk ex μ U.heap ∧ X.1 ≤ U.heap.size)
abbrev kWs (md : kM) : List Cond := Cond.code md.1 md.2.1 md.2.2.1 md.2.2.2.1 :: kG
abbrev kRm (d mc ms : Nat) : Room := { frames := 8 + d, cells := mc, slots := ms, locals := (d + 1) * 100 }
/-- a method's contract -/
def Ct (X : kX) (md : kM) (d : Nat) (sk : List Kd) (ex : Bool) (μ : Mu) (mc ms : Nat) (args : List Value) (po : kPo) : Prop :=
  ∀ l0 : Launch, l0.stackTraces = false → vx_Met l0 md.1 (kWs md) (kRm d mc ms) (kPc X sk ex μ args) (kQ X ex po) (kQx X po) mc ms (kFree X)
/-- what stays the same all through a method's body -/
def kC (X : kX) (md : kM) (d : Nat) (p : Program) (l0 : Launch) (R : Room) (s : State) (m : MethodId) (args : Array Value) (meth : Method) (c : Code) (mc ms : Nat) : Prop :=
  p.tables.exec = Jvm.exec ∧ c.code = md.2.1 ∧ c.maxLocals = md.2.2.1 ∧ meth.sig.returnType = md.2.2.2.1 ∧ meth.locks = false ∧ s.vm.findClass md.1.cls = some m.cls ∧ meth.name = md.1.name ∧ (∀ w ∈ kG, w.before args s = true) ∧ EU X s s.heap ∧
  (8 + d ≤ R.frames ∧ (d + 1) * 100 ≤ R.locals ∧ mc ≤ R.cells ∧ ms ≤ R.slots) ∧ l0.stackTraces = false ∧ c.exceptionTable.toList = md.2.2.2.2 ∧ X.1 ≤ s.heap.size
/-- from here the method comes to its end as po says, with at most cr cells of sr slots made on the way -/
def KJ (X : kX) (md : kM) (d : Nat) (ex : Bool) (po : kPo) (sk : List Kd) (cr sr : Nat) (pc : Nat) (l : List (Nat × Value)) (st : List Value) (μ : Mu) : Prop :=
  ∀ (p : Program) (l0 : Launch) (e : Env) (R : Room) (s : State) (m : MethodId) (args : Array Value) (below : List Frame) (meth : Method) (c : Code) (H : Heap) (locs : List Loc) (cells slots mc ms : Nat) (ls : Array Slot),
    kC X md d p l0 R s m args meth c mc ms → cells + cr ≤ mc → slots + sr ≤ ms → lv_has ls md.2.2.1 l → kHp X sk ex μ H → va_S (kFree X) s.heap H locs → (ex = true → s.heap.size + cells = H.size) →
    W p l0 e R s m args below meth c H locs cells slots (vx_MQ below (kQ X ex po) (kQx X po) args s mc ms (kFree X)) (F0 m pc ls st)
theorem ct_of {X : kX} {md : kM} {d : Nat} {sk : List Kd} {ex : Bool} {μ : Mu} {mc ms : Nat} {args : List Value} {po : kPo} (hy : plainName md.1.cls = true) (ht : md.2.2.2.2 = []) (hl : (lg_sl args).length ≤ md.2.2.1)
    (k : KJ X md d ex po sk mc ms 0 (lv_args 0 args) [] μ) : Ct X md d sk ex μ mc ms args po := by
  intro l0 hl0
  refine vx_ofW (cc := md.2.1) (maxL := md.2.2.1) (ret := md.2.2.2.1) hy rfl ?_
  intro p e s m args0 below meth c s₁ B hml hxt hv
  obtain ⟨rfl, hE, hH, hz⟩ := hv
  have hts := atoms_spec (ws := kWs md) B.pre
  rw [lg_entry_eq]
  exact k p l0 e _ s m _ below meth c s.heap [] 0 0 mc ms _
    ⟨B.exec, B.bytes, hml, B.returns, B.notSynchronized, findClass_of_methodNamed B.named, (name_of_methodNamed B.named B.method).1, fun w hw => hts w (List.mem_cons_of_mem _ hw), hE, ⟨Nat.le_refl _, Nat.le_refl _, Nat.le_refl _, Nat.le_refl _⟩, hl0, by rw [ht]; exact List.eq_nil_iff_forall_not_mem.mpr hxt, hz⟩
    (by omega) (by omega) (lv_entry args hl) hH va_S.rf (fun _ => rfl)
theorem W_sized {p : Program} {l : Launch} {e : Env} {R : Room} {s : State} {m : MethodId} {args : Array Value} {below : List Frame} {meth : Method} {c : Code} {H : Heap} {locs : List Loc} {cells slots : Nat} {Q : State → Prop} {g : JFrame}
    (k : H.size ≤ s.heap.size + cells → W p l e R s m args below meth c H locs cells slots Q g) : W p l e R s m args below meth c H locs cells slots Q g := fun T hT X => k (by rw [← hT]; exact X.heapSize) T hT X
theorem va_S_tr {A : Nat → Prop} {H0 H H1 : Heap} {locs locs1 : List Loc} (h : va_S A H0 H locs) (h1 : va_S A H H1 locs1) : va_S A H0 H1 locs1 :=
  ⟨Nat.le_trans h.1 h1.1, fun q hq hA => (h1.2.1 q (Nat.lt_of_lt_of_le hq h.1) hA).trans (h.2.1 q hq hA), h1.2.2⟩
theorem va_S_at {A : Nat → Prop} {H0 H : Heap} {locs : List Loc} (h : va_S A H0 H locs) : va_S A H H locs := ⟨Nat.le_refl _, fun _ _ _ => rfl, h.2.2⟩

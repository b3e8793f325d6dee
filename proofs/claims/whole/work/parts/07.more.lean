/-! rows: nest mates' static methods, constructors, the library's functions, static arrays, switches, floating point -/
theorem met_of_vx {l : Launch} {y : MethodName} {ws : List Cond} {rm : Room} {Pc : Array Value → State → Prop} {Qc : Array Value → State → Outcome → State → Prop} {XC : String → State → State → Prop} {mc ms : Nat} {free : Addr → Prop}
    (hM : vx_Met l y ws rm Pc Qc XC mc ms free) (hno : ∀ E st t, ¬ XC E st t) : Met l y ws rm Pc Qc mc ms free := by
  intro p e ha hc hk s m args below hf happ hP hK
  obtain ⟨n, o, h1, h2, h3, h4⟩ := hM p e ha hc hk s m args below hf happ hP hK
  refine ⟨n, o, h1, h2, h3, ?_⟩
  rcases h4 with h | ⟨q, -, E, ce, L, hx, -⟩
  · exact h
  · exact absurd hx (hno E s _)
def i_max {α : Type} (x y : Int) (k : Int → Option α) : Option α := if (-2147483648 ≤ x ∧ x < 2147483648) ∧ (-2147483648 ≤ y ∧ y < 2147483648) then k (if x < y then y else x) else none
def i_min {α : Type} (x y : Int) (k : Int → Option α) : Option α := if (-2147483648 ≤ x ∧ x < 2147483648) ∧ (-2147483648 ≤ y ∧ y < 2147483648) then k (if y < x then y else x) else none
def i_abs {α : Type} (x : Int) (k : Int → Option α) : Option α := if -2147483648 ≤ x ∧ x < 2147483648 then k (if 0 ≤ x then x else 0 - x) else none
def cpM (μ : Mu) (a0 sp a dp n : Nat) : Mu := fun a' k => if a' = a ∧ dp ≤ k ∧ k < dp + n then μ a0 (sp + (k - dp)) else μ a' k
def cpyI {α : Type} (μ : Mu) (a0 n0 : Nat) (sp : Int) (a n1 : Nat) (dp n : Int) (k : Mu → Option α) : Option α := if (0 ≤ sp ∧ sp < 2147483648) ∧ (0 ≤ dp ∧ dp < 2147483648) ∧ (0 ≤ n ∧ n < 2147483648) ∧ sp + n ≤ n0 ∧ dp + n ≤ n1 then k (cpM μ a0 sp.toNat a dp.toNat n.toNat) else none
def rdC {α : Type} (n : Nat) (i : Int) (f : Nat → Int) (k : Int → Option α) : Option α := if 0 ≤ i ∧ i < n then k (f i.toNat) else none
def i_sw {α : Type} (x lo : Int) (As : List (Option α)) (D : Option α) : Option α := if -2147483648 ≤ x ∧ x < 2147483648 then (if x < lo then D else As.getD (x - lo).toNat D) else none
def kSw (P : Int → Option Res → Prop) : List Int → List (Option Res) → Prop
  | o :: os, A :: As => P o A ∧ kSw P os As
  | [], [] => True
  | _, _ => False
theorem kSw_at {P : Int → Option Res → Prop} : ∀ (os : List Int) (As : List (Option Res)) (j : Nat) (D : Option Res), kSw P os As → j < As.length → ∃ o, os[j]? = some o ∧ P o (As.getD j D)
  | o :: os, A :: As, 0, D, h, _ => ⟨o, rfl, h.1⟩
  | o :: os, A :: As, j + 1, D, h, hj => by
    obtain ⟨o', h1, h2⟩ := kSw_at os As j D h.2 (by simpa using hj)
    exact ⟨o', by simpa using h1, by simpa using h2⟩
  | [], [], j, D, _, hj => by simp at hj
  | [], A :: As, j, D, h, _ => h.elim
  | o :: os, [], j, D, h, _ => h.elim
theorem kSw_len {P : Int → Option Res → Prop} : ∀ (os : List Int) (As : List (Option Res)), kSw P os As → os.length = As.length
  | o :: os, A :: As, h => by simp [kSw_len os As h.2]
  | [], [], _ => rfl
  | [], A :: As, h => h.elim
  | o :: os, [], h => h.elim
def dcI (op : CmpOp) (x y : UInt64) : Int := (Op.cmpValue (FP.dcmp x y) op).toInt
def fcI (op : CmpOp) (x y : UInt32) : Int := (Op.cmpValue (FP.fcmp x y) op).toInt
def d_ck {α : Type} (r : UInt64) (k : UInt64 → Option α) : Option α := if r &&& 0x7fffffffffffffff ≤ 0x7ff0000000000000 then k r else none
def f_ck {α : Type} (r : UInt32) (k : UInt32 → Option α) : Option α := if r &&& 0x7fffffff ≤ 0x7f800000 then k r else none
section KR6
variable {X : kX} {md mdY : kM} {d d' : Nat} {ex : Bool} {po poY : kPo} {sk : List Kd} {cr sr pc mcY msY : Nat} {l : List (Nat × Value)} {st As : List Value} {μ : Mu} {res : Res} {x y : Int} {b n ci idx a a0 n0 n1 : Nat} {rf rf0 : Nat → Option Nat} {host : String}
theorem K_callSN (hd : decode md.2.1 pc = .ok (.invokestatic idx, 3)) (M : kMSN md.1.cls idx mdY n host) (hn : As.length = n) (hst : (st.map fun v => v.category).sum ≤ 8) (hdd : d' + 1 ≤ d)
    (hC : Ct X mdY d' sk ex μ mcY msY As poY) (hlen : ex = true → ∀ v sk' μ', poY.1 v sk' μ' → sk'.length = sk.length + mcY)
    (kk : ∀ v sk' μ', poY.1 v sk' μ' → KJ X md d ex po sk' cr sr (pc + 3) l (v.toList ++ st) μ') (kx : ∀ e sk' μ', ¬ poY.2 e sk' μ') {st1 : List Value} (hs1 : st1 = As.reverse ++ st) : KJ X md d ex po sk (cr + mcY) (sr + msY) pc l st1 μ := by
  subst hs1
  intro p l0 e R s m args below meth c H locs cells slots mc ms ls C hc hs hl hH hS hz
  obtain ⟨M1, M2, m1, m2, m3, m4⟩ := M
  have C' := C
  obtain ⟨c1, c2, c3, c4, c5, c6, c7, c8, c9, ⟨r1, r2, r3, r4⟩, c11, c12, c13⟩ := C'
  have hM := met_of_vx (hC l0 c11) (fun E st t h => by obtain ⟨e0, sk', μ', -, h2, -⟩ := h; exact kx e0 sk' μ' h2)
  have hr := va_runSN (p := p) (e := e) (R := R) (below := below) (meth := meth) (H := H) (locs := locs) (cells := cells) (slots := slots) (g := F0 m pc ls (As.reverse ++ st)) (As := As) (rest := st) (index := idx) (n := n) (own := md.1.cls) (host := host) ⟨c1, c2, c3, c6, c8⟩ hM ⟨va_cnB n c8 (fun w hw => by
    rcases List.mem_cons.mp hw with rfl | hw
    · exact ⟨m1, kG_good m1⟩
    · exact ⟨hw, kG_good hw⟩) rfl rfl rfl (c9.2.1 _ M1) (c8 _ m2) m3 ⟨by show 8 + d' + 1 ≤ R.frames; omega, by show 8 + (mdY.2.2.1 + 11) + (d' + 1) * 100 ≤ R.locals; omega⟩, c8 _ M2, trivial⟩ ⟨kPc_blind, k_pre C hH hS⟩ rfl hn hl.1 rfl (lv_room hst) hd ⟨by omega, by omega⟩
  have hr' : vx_Run p l0 e R s m args below meth c H locs cells slots mcY msY (F0 m pc ls (As.reverse ++ st)) st (kQ X ex poY As.toArray) (kQx X poY) (kFree X) := fun T hT X0 => Or.inl (hr T hT X0)
  exact K_run hr' hS
    (fun v sk' μ' H' locs' hp hH' hS' => kk v sk' μ' hp p l0 e R s m args below meth c H' locs' (cells + mcY) (slots + msY) mc ms ls C (by omega) (by omega) hl hH' hS' (fun h => by have a1 := hH'.2 h; have a2 := hH.2 h; have a3 := hz h; have a4 := hlen h v sk' μ' hp; omega))
    (fun e0 ce q sk' μ' H' locs' hp hH' hS' h1 h2 h3 => absurd hp (kx e0 sk' μ'))
theorem K_callI (hd : decode md.2.1 pc = .ok (.invokespecial idx, 3)) (hl0 : Cond.methodLink md.1.cls idx mdY.1 ∈ kG) (M2 : Cond.instanceMethod mdY.1 ∈ kG) (M4 : kMf mdY n) (hnm : mdY.1.name = "<init>") (hrt : mdY.2.2.2.1 = none) (hn : As.length = n) (hst : (st.map fun v => v.category).sum ≤ 8) (hdd : d' + 1 ≤ d)
    (hC : Ct X mdY d' sk ex μ mcY msY (.ref (X.1 + b) :: As) poY) (hlen : ex = true → ∀ v sk' μ', poY.1 v sk' μ' → sk'.length = sk.length + mcY)
    (kk : ∀ v sk' μ', poY.1 v sk' μ' → KJ X md d ex po sk' cr sr (pc + 3) l (v.toList ++ st) μ') (kx : ∀ e sk' μ', ¬ poY.2 e sk' μ') {st1 : List Value} (hs1 : st1 = As.reverse ++ .ref (X.1 + b) :: st) : KJ X md d ex po sk (cr + mcY) (sr + msY) pc l st1 μ := by
  subst hs1
  intro p l0 e R s m args below meth c H locs cells slots mc ms ls C hc hs hl hH hS hz
  obtain ⟨y0, c0, n0, r0, t0⟩ := mdY
  dsimp only at hrt hnm
  subst hrt
  obtain ⟨m1, m2, m3, m4⟩ := M4
  have C' := C
  obtain ⟨c1, c2, c3, c4, c5, c6, c7, c8, c9, ⟨r1, r2, r3, r4⟩, c11, c12, c13⟩ := C'
  have hM := met_of_vx (hC l0 c11) (fun E st t h => by obtain ⟨e0, sk', μ', -, h2, -⟩ := h; exact kx e0 sk' μ' h2)
  have hr := va_runI (p := p) (e := e) (R := R) (below := below) (meth := meth) (H := H) (locs := locs) (cells := cells) (slots := slots) (g := F0 m pc ls (As.reverse ++ .ref (X.1 + b) :: st)) (As := As) (b := X.1 + b) (rest := st) (index := idx) (n := n) (own := md.1.cls) ⟨c1, c2, c3, c6, c8⟩ hM (cwI n c8 (fun w hw => by
    rcases List.mem_cons.mp hw with rfl | hw
    · exact ⟨m1, kG_good m1⟩
    · exact ⟨hw, kG_good hw⟩) rfl rfl rfl (c8 _ m2) (c8 _ hl0) (c8 _ M2) hnm m3 ⟨by show 8 + d' + 1 ≤ R.frames; omega, by show 8 + (n0 + 11) + (d' + 1) * 100 ≤ R.locals; dsimp only at m4; omega⟩) ⟨kPc_blind, k_pre C hH hS⟩ rfl hn hl.1 rfl (lv_room hst) hd ⟨by omega, by omega⟩
  have hr' : vx_Run p l0 e R s m args below meth c H locs cells slots mcY msY (F0 m pc ls (As.reverse ++ .ref (X.1 + b) :: st)) st (kQ X ex poY (Value.ref (X.1 + b) :: As).toArray) (kQx X poY) (kFree X) := fun T hT X0 => Or.inl (hr T hT X0)
  exact K_run hr' hS
    (fun v sk' μ' H' locs' hp hH' hS' => kk v sk' μ' hp p l0 e R s m args below meth c H' locs' (cells + mcY) (slots + msY) mc ms ls C (by omega) (by omega) hl hH' hS' (fun h => by have a1 := hH'.2 h; have a2 := hH.2 h; have a3 := hz h; have a4 := hlen h v sk' μ' hp; omega))
    (fun e0 ce q sk' μ' H' locs' hp hH' hS' h1 h2 h3 => absurd hp (kx e0 sk' μ'))
theorem K_callIN (hd : decode md.2.1 pc = .ok (.invokespecial idx, 3)) (M1 : (md.1.cls, idx, mdY.1, host) ∈ kNM) (M2 : Cond.instanceMethod mdY.1 ∈ kG) (M4 : kMf mdY n) (hnm : mdY.1.name = "<init>") (hrt : mdY.2.2.2.1 = none) (hn : As.length = n) (hst : (st.map fun v => v.category).sum ≤ 8) (hdd : d' + 1 ≤ d)
    (hC : Ct X mdY d' sk ex μ mcY msY (.ref (X.1 + b) :: As) poY) (hlen : ex = true → ∀ v sk' μ', poY.1 v sk' μ' → sk'.length = sk.length + mcY)
    (kk : ∀ v sk' μ', poY.1 v sk' μ' → KJ X md d ex po sk' cr sr (pc + 3) l (v.toList ++ st) μ') (kx : ∀ e sk' μ', ¬ poY.2 e sk' μ') {st1 : List Value} (hs1 : st1 = As.reverse ++ .ref (X.1 + b) :: st) : KJ X md d ex po sk (cr + mcY) (sr + msY) pc l st1 μ := by
  subst hs1
  intro p l0 e R s m args below meth c H locs cells slots mc ms ls C hc hs hl hH hS hz
  obtain ⟨y0, c0, n0, r0, t0⟩ := mdY
  dsimp only at hrt hnm
  subst hrt
  obtain ⟨m1, m2, m3, m4⟩ := M4
  have C' := C
  obtain ⟨c1, c2, c3, c4, c5, c6, c7, c8, c9, ⟨r1, r2, r3, r4⟩, c11, c12, c13⟩ := C'
  have hM := met_of_vx (hC l0 c11) (fun E st t h => by obtain ⟨e0, sk', μ', -, h2, -⟩ := h; exact kx e0 sk' μ' h2)
  have hr := va_runIN (p := p) (e := e) (R := R) (below := below) (meth := meth) (H := H) (locs := locs) (cells := cells) (slots := slots) (g := F0 m pc ls (As.reverse ++ .ref (X.1 + b) :: st)) (As := As) (b := X.1 + b) (rest := st) (index := idx) (n := n) (own := md.1.cls) (host := host) ⟨c1, c2, c3, c6, c8⟩ hM ⟨va_cnB n c8 (fun w hw => by
    rcases List.mem_cons.mp hw with rfl | hw
    · exact ⟨m1, kG_good m1⟩
    · exact ⟨hw, kG_good hw⟩) rfl rfl rfl (c9.2.1 _ M1) (c8 _ m2) m3 ⟨by show 8 + d' + 1 ≤ R.frames; omega, by show 8 + (n0 + 11) + (d' + 1) * 100 ≤ R.locals; dsimp only at m4; omega⟩, hnm, c8 _ M2⟩ ⟨kPc_blind, k_pre C hH hS⟩ rfl hn hl.1 rfl (lv_room hst) hd ⟨by omega, by omega⟩
  have hr' : vx_Run p l0 e R s m args below meth c H locs cells slots mcY msY (F0 m pc ls (As.reverse ++ .ref (X.1 + b) :: st)) st (kQ X ex poY (Value.ref (X.1 + b) :: As).toArray) (kQx X poY) (kFree X) := fun T hT X0 => Or.inl (hr T hT X0)
  exact K_run hr' hS
    (fun v sk' μ' H' locs' hp hH' hS' => kk v sk' μ' hp p l0 e R s m args below meth c H' locs' (cells + mcY) (slots + msY) mc ms ls C (by omega) (by omega) hl hH' hS' (fun h => by have a1 := hH'.2 h; have a2 := hH.2 h; have a3 := hz h; have a4 := hlen h v sk' μ' hp; omega))
    (fun e0 ce q sk' μ' H' locs' hp hH' hS' h1 h2 h3 => absurd hp (kx e0 sk' μ'))
theorem K_objInit (hd : decode md.2.1 pc = .ok (.invokespecial idx, 3)) (h1 : Cond.methodLink md.1.cls idx Lib.objectInit ∈ kG) (h2 : Cond.instanceMethod Lib.objectInit ∈ kG) (h3 : Cond.code Lib.objectInit ⟨#[0xb1]⟩ 1 none ∈ kG) (hst : (st.map fun v => v.category).sum ≤ 8) (kk : KJ X md d ex po sk cr sr (pc + 3) l st μ) : KJ X md d ex po sk cr sr pc l (.ref (X.1 + b) :: st) μ := by
  intro p l0 e R s m args below meth c H locs cells slots mc ms ls C hc hs hl hH hS hz
  have C' := C
  obtain ⟨c1, c2, c3, c4, c5, c6, c7, c8, c9, ⟨r1, r2, r3, r4⟩, c11, c12, c13⟩ := C'
  refine W.objInit c1 c2 c6 (c8 _ h1) (c8 _ h2) (c8 _ h3) rfl (by rw [c3]; exact hl.1) rfl hd (by omega) (by show 2 * 0 + _ + 12 ≤ _; omega) ?_
  exact kk p l0 e R s m args below meth c H locs cells slots mc ms ls C hc hs hl hH hS hz
/-- the library's functions -/
theorem K_mmax {r : Res} {k0 : Int → Option Res} (hd : decode md.2.1 pc = .ok (.invokestatic idx, 3)) (h1 : Cond.methodLink md.1.cls idx Lib.Math.max.name ∈ kG) (h2 : Cond.static Lib.Math.max.name ∈ kG) (h3 : Cond.initialized "java/lang/Math" ∈ kG) (h4 : Cond.code Lib.Math.max.name Lib.Math.max.code 2 (some .int) ∈ kG) (hst : (st.map fun v => v.category).sum ≤ 8)
    (h : i_max x y k0 = some r) (k : k0 (if x < y then y else x) = some r → KJ X md d ex po sk cr sr (pc + 3) l (.int (iI (if x < y then y else x)) :: st) μ) : KJ X md d ex po sk cr sr pc l (.int (iI y) :: .int (iI x) :: st) μ := by
  intro p l0 e R s m args below meth c H locs cells slots mc ms ls C hc hs hl hH hS hz
  have C' := C
  obtain ⟨c1, c2, c3, c4, c5, c6, c7, c8, c9, ⟨r1, r2, r3, r4⟩, c11, c12, c13⟩ := C'
  obtain ⟨⟨g1, g2⟩, h⟩ := og h
  refine va_mmax c1 c2 (by rw [c3]; exact hl.1.symm) c6 (c8 _ h1) (c8 _ h2) (c8 _ h3) (c8 _ h4) (by omega) (by omega) (by omega) (by omega) hd ?_
  rw [show (if iI x < iI y then iI y else iI x) = iI (if x < y then y else x) by
    by_cases q : x < y
    · rw [if_pos q, if_pos ((iI_lt g1 g2).mpr q)]
    · rw [if_neg q, if_neg (fun z => q ((iI_lt g1 g2).mp z))]]
  exact k h p l0 e R s m args below meth c H locs cells slots mc ms ls C hc hs hl hH hS hz
theorem K_mmin {r : Res} {k0 : Int → Option Res} (hd : decode md.2.1 pc = .ok (.invokestatic idx, 3)) (h1 : Cond.methodLink md.1.cls idx Lib.Math.min.name ∈ kG) (h2 : Cond.static Lib.Math.min.name ∈ kG) (h3 : Cond.initialized "java/lang/Math" ∈ kG) (h4 : Cond.code Lib.Math.min.name Lib.Math.min.code 2 (some .int) ∈ kG) (hst : (st.map fun v => v.category).sum ≤ 8)
    (h : i_min x y k0 = some r) (k : k0 (if y < x then y else x) = some r → KJ X md d ex po sk cr sr (pc + 3) l (.int (iI (if y < x then y else x)) :: st) μ) : KJ X md d ex po sk cr sr pc l (.int (iI y) :: .int (iI x) :: st) μ := by
  intro p l0 e R s m args below meth c H locs cells slots mc ms ls C hc hs hl hH hS hz
  have C' := C
  obtain ⟨c1, c2, c3, c4, c5, c6, c7, c8, c9, ⟨r1, r2, r3, r4⟩, c11, c12, c13⟩ := C'
  obtain ⟨⟨g1, g2⟩, h⟩ := og h
  refine va_mmin c1 c2 (by rw [c3]; exact hl.1.symm) c6 (c8 _ h1) (c8 _ h2) (c8 _ h3) (c8 _ h4) (by omega) (by omega) (by omega) (by omega) hd ?_
  rw [show (if iI y < iI x then iI y else iI x) = iI (if y < x then y else x) by
    by_cases q : y < x
    · rw [if_pos q, if_pos ((iI_lt g2 g1).mpr q)]
    · rw [if_neg q, if_neg (fun z => q ((iI_lt g2 g1).mp z))]]
  exact k h p l0 e R s m args below meth c H locs cells slots mc ms ls C hc hs hl hH hS hz
theorem K_mabs {r : Res} {k0 : Int → Option Res} (hd : decode md.2.1 pc = .ok (.invokestatic idx, 3)) (h1 : Cond.methodLink md.1.cls idx Lib.Math.abs.name ∈ kG) (h2 : Cond.static Lib.Math.abs.name ∈ kG) (h3 : Cond.initialized "java/lang/Math" ∈ kG) (h4 : Cond.code Lib.Math.abs.name Lib.Math.abs.code 1 (some .int) ∈ kG) (hst : (st.map fun v => v.category).sum ≤ 8)
    (h : i_abs x k0 = some r) (k : k0 (if 0 ≤ x then x else 0 - x) = some r → KJ X md d ex po sk cr sr (pc + 3) l (.int (iI (if 0 ≤ x then x else 0 - x)) :: st) μ) : KJ X md d ex po sk cr sr pc l (.int (iI x) :: st) μ := by
  intro p l0 e R s m args below meth c H locs cells slots mc ms ls C hc hs hl hH hS hz
  have C' := C
  obtain ⟨c1, c2, c3, c4, c5, c6, c7, c8, c9, ⟨r1, r2, r3, r4⟩, c11, c12, c13⟩ := C'
  obtain ⟨g1, h⟩ := og h
  refine va_mabs c1 c2 (by rw [c3]; exact hl.1.symm) c6 (c8 _ h1) (c8 _ h2) (c8 _ h3) (c8 _ h4) (by omega) (by omega) (by omega) (by omega) hd ?_
  rw [show (if 0 ≤ iI x then iI x else 0 - iI x) = iI (if 0 ≤ x then x else 0 - x) by
    rw [← iI_0]
    by_cases q : 0 ≤ x
    · rw [if_pos q, if_pos ((iI_le gI_0 g1).mpr q)]
    · rw [if_neg q, if_neg (fun z => q ((iI_le gI_0 g1).mp z)), iI_sub]]
  exact k h p l0 e R s m args below meth c H locs cells slots mc ms ls C hc hs hl hH hS hz
theorem K_tsw {dflt lo hi : Int} {offs : Array Int} {len dt : Nat} {r : Res} {Cs : List (Option Res)} {D : Option Res} (hd : decode md.2.1 pc = .ok (.tableswitch dflt lo hi offs, len)) (hdt : (pc : Int) + dflt = (dt : Int)) (hhi : hi = lo + Cs.length - 1)
    (h : i_sw x lo Cs D = some r) (kin : kSw (fun o A => A = some r → ∃ tgt : Nat, (pc : Int) + o = (tgt : Int) ∧ KJ X md d ex po sk cr sr tgt l st μ) offs.toList Cs) (kout : D = some r → KJ X md d ex po sk cr sr dt l st μ) : KJ X md d ex po sk cr sr pc l (.int (iI x) :: st) μ := by
  intro p l0 e R s m args below meth c H locs cells slots mc ms ls C hc hs hl hH hS hz
  obtain ⟨g1, h⟩ := og h
  have ex : (iI x).toInt = x := iI_toInt g1
  by_cases q : x < lo ∨ hi < x
  · refine lv_tableOut C.1 C.2.1 hd (by rw [ex]; exact q) hdt ?_
    refine kout ?_ p l0 e R s m args below meth c H locs cells slots mc ms ls C hc hs hl hH hS hz
    by_cases q2 : x < lo
    · rw [if_pos q2] at h; exact h
    · rw [if_neg q2, List.getD_eq_getElem?_getD, List.getElem?_eq_none (by omega)] at h; exact h
  · rw [if_neg (by omega)] at h
    have hj : (x - lo).toNat < Cs.length := by omega
    obtain ⟨o, h1, h2⟩ := kSw_at (D := D) offs.toList Cs _ kin hj
    obtain ⟨tgt, h3, h4⟩ := h2 h
    refine lv_tableIn (off := o) (tgt := tgt) C.1 C.2.1 hd (by rw [ex]; omega) (by rw [ex]; omega) (by rw [ex, ← Array.getElem?_toList]; exact h1) h3 ?_
    exact h4 p l0 e R s m args below meth c H locs cells slots mc ms ls C hc hs hl hH hS hz
end KR6

/-! more rows in the printed form; functions that never throw -/
theorem vx_ofWF {l : Launch} {y : MethodName} {ws ws' : List Cond} {rm : Room} {Pc : Array Value → State → Prop} {Qc : Array Value → State → Outcome → State → Prop} {XC : String → State → State → Prop} {mc ms : Nat} {free : Addr → Prop} {cc : ByteArray} {maxL : Nat} {ret : Option FieldType}
    (hy : plainFor y = true) (hw : ws = Cond.code y cc maxL ret :: ws')
    (body : ∀ p e s m args below meth c s₁, BodyLoose p l y (headSpec ws rm) cc maxL ret e s m args below meth c s₁ → c.maxLocals = maxL → (∀ x ∈ c.exceptionTable.toList, False) → Pc args s →
      W p l e (headSpec ws rm).room s m args below meth c s.heap [] 0 0 (vx_MQ below Qc XC args s mc ms free) (entryFrame m args maxL)) : vx_Met l y ws rm Pc Qc XC mc ms free := by
  refine MetFree.of_bodySF (code := cc) (maxLocals := maxL) (ret := ret) hy ?_ ?_
  · intro args s m h hn
    obtain ⟨meth, c, h1, h2, h3, h4, h5, h6, -, -⟩ := Cond.code_spec hn (atoms_spec (ws := ws) h _ (by rw [hw]; exact List.mem_cons_self))
    exact ⟨meth, c, h1, h2, h3, h4, h5, h6⟩
  · intro p e s m args below meth c s₁ B hml hP _
    have hh0 : s₁.heap = s.heap := by rw [B.state]; rfl
    have ht : ∀ x ∈ c.exceptionTable.toList, False := by
      obtain ⟨meth9, c9, h1, h2, -, -, -, -, h7, -⟩ := Cond.code_spec B.named (atoms_spec (ws := ws) B.pre _ (by rw [hw]; exact List.mem_cons_self))
      cases Option.some.inj (h1.symm.trans B.method)
      cases Option.some.inj (h2.symm.trans (Stand.of_body B).code)
      intro x hx
      rw [Array.isEmpty_iff.mp h7] at hx
      cases hx
    obtain ⟨t, a1, o, b1, b2, b3⟩ := body p e s m args below meth c s₁ B hml ht hP s₁ hh0 (Stand.of_body B)
    exact ⟨t, o, a1, b1, b2, b3⟩
theorem ct_ofF {X : kX} {md : kM} {d : Nat} {sk : List Kd} {ex : Bool} {μ : Mu} {mc ms : Nat} {args : List Value} {po : kPo} (hy : plainFor md.1 = true) (ht : md.2.2.2.2 = []) (hl : (lg_sl args).length ≤ md.2.2.1)
    (k : KJ X md d ex po sk mc ms 0 (lv_args 0 args) [] μ) : Ct X md d sk ex μ mc ms args po := by
  intro l0 hl0
  refine vx_ofWF (cc := md.2.1) (maxL := md.2.2.1) (ret := md.2.2.2.1) hy rfl ?_
  intro p e s m args0 below meth c s₁ B hml hxt hv
  obtain ⟨rfl, hE, hH, hz⟩ := hv
  have hts := atoms_spec (ws := kWs md) B.pre
  rw [lg_entry_eq]
  exact k p l0 e _ s m _ below meth c s.heap [] 0 0 mc ms _
    ⟨B.exec, B.bytes, hml, B.returns, B.notSynchronized, findClass_of_methodNamed B.named, (name_of_methodNamed B.named B.method).1, fun w hw => hts w (List.mem_cons_of_mem _ hw), hE, ⟨Nat.le_refl _, Nat.le_refl _, Nat.le_refl _, Nat.le_refl _⟩, hl0, by rw [ht]; exact List.eq_nil_iff_forall_not_mem.mpr hxt, hz⟩
    (by omega) (by omega) (lv_entry args hl) hH va_S.rf (fun _ => rfl)
section KZ2
variable {X : kX} {md mdY : kM} {d d' rk rkY : Nat} {res : Res} {pc : Nat} {l : List (Nat × Value)} {st As : List Value} {μ : Mu} {x y w : Int} {a a0 n0 n1 n ci k idx b t : Nat} {rf rf0 : Nat → Option Nat} {host : String} {fin : Bool}
def FU : Nat := 100000
theorem kTab_at {cc : ByteArray} {t : List (Nat × Instr × Nat)} (h : kTab cc t) (k : Nat) {pc len : Nat} {i : Instr} (hk : t[k]? = some (pc, i, len)) : decode cc pc = .ok (i, len) := h k (pc, i, len) hk
theorem Z_mmax {k0 : Int → Option Res} (hd : decode md.2.1 pc = .ok (.invokestatic idx, 3)) (h1 : Cond.methodLink md.1.cls idx Lib.Math.max.name ∈ kG) (h2 : Cond.static Lib.Math.max.name ∈ kG) (h3 : Cond.initialized "java/lang/Math" ∈ kG) (h4 : Cond.code Lib.Math.max.name Lib.Math.max.code 2 (some .int) ∈ kG) (hst : (st.map fun v => v.category).sum ≤ 8)
    (h : i_max x y k0 = some res) (kk : ∀ v, k0 v = some res → KK X md d rk res (pc + 3) l (.int (iI v) :: st) μ) : KK X md d rk res pc l (.int (iI y) :: .int (iI x) :: st) μ := K_mmax hd h1 h2 h3 h4 hst h (kk _)
theorem Z_mmin {k0 : Int → Option Res} (hd : decode md.2.1 pc = .ok (.invokestatic idx, 3)) (h1 : Cond.methodLink md.1.cls idx Lib.Math.min.name ∈ kG) (h2 : Cond.static Lib.Math.min.name ∈ kG) (h3 : Cond.initialized "java/lang/Math" ∈ kG) (h4 : Cond.code Lib.Math.min.name Lib.Math.min.code 2 (some .int) ∈ kG) (hst : (st.map fun v => v.category).sum ≤ 8)
    (h : i_min x y k0 = some res) (kk : ∀ v, k0 v = some res → KK X md d rk res (pc + 3) l (.int (iI v) :: st) μ) : KK X md d rk res pc l (.int (iI y) :: .int (iI x) :: st) μ := K_mmin hd h1 h2 h3 h4 hst h (kk _)
theorem Z_mabs {k0 : Int → Option Res} (hd : decode md.2.1 pc = .ok (.invokestatic idx, 3)) (h1 : Cond.methodLink md.1.cls idx Lib.Math.abs.name ∈ kG) (h2 : Cond.static Lib.Math.abs.name ∈ kG) (h3 : Cond.initialized "java/lang/Math" ∈ kG) (h4 : Cond.code Lib.Math.abs.name Lib.Math.abs.code 1 (some .int) ∈ kG) (hst : (st.map fun v => v.category).sum ≤ 8)
    (h : i_abs x k0 = some res) (kk : ∀ v, k0 v = some res → KK X md d rk res (pc + 3) l (.int (iI v) :: st) μ) : KK X md d rk res pc l (.int (iI x) :: st) μ := K_mabs hd h1 h2 h3 h4 hst h (kk _)
theorem Z_copy {k0 : Mu → Option Res} (hd : decode md.2.1 pc = .ok (.invokestatic idx, 3)) (h1 : Cond.methodLink md.1.cls idx arraycopyName ∈ kG) (h2 : Cond.native arraycopyName ∈ kG) (h3 : Cond.static arraycopyName ∈ kG) (h4 : Cond.initialized "java/lang/System" ∈ kG) (hsk0 : SK[a0]? = some (.inl (0, n0, rf0))) (hsk : SK[a]? = some (.inl (0, n1, rf))) (hst : (st.map fun v => v.category).sum ≤ 8)
    (h : cpyI μ a0 n0 x a n1 y w k0 = some res) (kk : ∀ μ', k0 μ' = some res → KK X md d rk res (pc + 3) l st μ') : KK X md d rk res pc l (.int (iI w) :: .int (iI y) :: .ref (X.1 + a) :: .int (iI x) :: .ref (X.1 + a0) :: st) μ := K_copy (po := poR rk SK res) (cr := cq res) (sr := 6 * cq res) (ex := false) (sk := SK) (x := x) (y := y) (w := w) (r := res) hd h1 h2 h3 h4 hsk0 hsk hst h (kk (cpM μ a0 x.toNat a y.toNat w.toNat))
theorem Z_least {k0 : Int → Option Res} {i : Fin 4} (j0 : Nat) (hd : decode md.2.1 pc = .ok (.getstatic idx, 3)) (hl0 : Cond.fieldLink md.1.cls idx "ExamMarker" "LEAST_SETTINGS" "[I" ∈ kG) (hd2 : decode md.2.1 (pc + 3) = .ok (.iload_n i, 1)) (hj : l[j0]? = some ((i : Nat), .int (iI x))) (hd3 : decode md.2.1 (pc + 3 + 1) = .ok (.iaload, 1))
    (h : rdC 5 x (fun j => (if j = 1 then 1 else 0)) k0 = some res) (kk : ∀ v, k0 v = some res → KK X md d rk res (pc + 3 + 1 + 1) l (.int (iI v) :: st) μ) : KK X md d rk res pc l st μ := K_least j0 hd hl0 hd2 hj hd3 h (kk _)
theorem Z_great {k0 : Int → Option Res} {i : Fin 4} (j0 : Nat) (hd : decode md.2.1 pc = .ok (.getstatic idx, 3)) (hl0 : Cond.fieldLink md.1.cls idx "ExamMarker" "GREATEST_SETTINGS" "[I" ∈ kG) (hd2 : decode md.2.1 (pc + 3) = .ok (.iload_n i, 1)) (hj : l[j0]? = some ((i : Nat), .int (iI x))) (hd3 : decode md.2.1 (pc + 3 + 1) = .ok (.iaload, 1))
    (h : rdC 5 x (fun j => (if j = 0 then 5 else if j = 1 then 40 else if j = 2 then 10 else if j = 3 then 5 else 99)) k0 = some res) (kk : ∀ v, k0 v = some res → KK X md d rk res (pc + 3 + 1 + 1) l (.int (iI v) :: st) μ) : KK X md d rk res pc l st μ := K_great j0 hd hl0 hd2 hj hd3 h (kk _)
theorem Z_ddiv {u v : UInt64} {k0 : UInt64 → Option Res} (hd : decode md.2.1 pc = .ok (.ddiv, 1)) (h : d_ck (FP.ddiv u v) k0 = some res) (kk : ∀ z, k0 z = some res → KK X md d rk res (pc + 1) l (.double z :: st) μ) : KK X md d rk res pc l (.double v :: .double u :: st) μ := K_ddiv hd h (kk _)
theorem Z_dmul {u v : UInt64} {k0 : UInt64 → Option Res} (hd : decode md.2.1 pc = .ok (.dmul, 1)) (h : d_ck (FP.dmul u v) k0 = some res) (kk : ∀ z, k0 z = some res → KK X md d rk res (pc + 1) l (.double z :: st) μ) : KK X md d rk res pc l (.double v :: .double u :: st) μ := K_dmul hd h (kk _)
theorem Z_dsub {u v : UInt64} {k0 : UInt64 → Option Res} (hd : decode md.2.1 pc = .ok (.dsub, 1)) (h : d_ck (FP.dsub u v) k0 = some res) (kk : ∀ z, k0 z = some res → KK X md d rk res (pc + 1) l (.double z :: st) μ) : KK X md d rk res pc l (.double v :: .double u :: st) μ := K_dsub hd h (kk _)
theorem Z_fdiv {u v : UInt32} {k0 : UInt32 → Option Res} (hd : decode md.2.1 pc = .ok (.fdiv, 1)) (h : f_ck (FP.fdiv u v) k0 = some res) (kk : ∀ z, k0 z = some res → KK X md d rk res (pc + 1) l (.float z :: st) μ) : KK X md d rk res pc l (.float v :: .float u :: st) μ := K_fdiv hd h (kk _)
theorem Z_f2d {u : UInt32} {k0 : UInt64 → Option Res} (hd : decode md.2.1 pc = .ok (.f2d, 1)) (h : d_ck (FP.f2d u) k0 = some res) (kk : ∀ z, k0 z = some res → KK X md d rk res (pc + 1) l (.double z :: st) μ) : KK X md d rk res pc l (.float u :: st) μ := K_f2d hd h (kk _)
theorem Z_aaldL {ks : Nat → List Kd} {k0 : Nat → Option Res} {f : Nat → Nat} (hd : decode md.2.1 pc = .ok (.aaload, 1)) (hsk : SK[a]? = some (.inl (t, n, fun j => some (f j)))) (ht : t = 3 ∨ t = 4) (hn : n < 2 ^ 31) (hL : ∀ j, j < n → Lay (f j) (ks (f j))) (h : rdA n x f k0 = some res) (kk : ∀ o, Lay o (ks o) → k0 o = some res → KK X md d rk res (pc + 1) l (.ref (X.1 + o) :: st) μ) : KK X md d rk res pc l (.int (iI x) :: .ref (X.1 + a) :: st) μ :=
  Z_aald hd hsk ht hn h (fun g h => kk _ (hL _ g) h)
theorem Z_thN {ik is ic : Nat} {text : String} (F : kTN md.1.cls ic) (hk : Cond.classLink md.1.cls ik (exName 5) ∈ kG) (hstr : (md.1.cls, is, text) ∈ kSR) (htab : md.2.2.2.2 = [])
    (d0 : decode md.2.1 pc = .ok (.new ik, 3)) (d3 : decode md.2.1 (pc + 3) = .ok (.dup, 1)) (d4 : decode md.2.1 (pc + 4) = .ok (.ldc is, 2)) (d6 : decode md.2.1 (pc + 6) = .ok (.invokespecial ic, 3)) (d9 : decode md.2.1 (pc + 9) = .ok (.athrow, 1)) (h : some (μ, 6, 0) = some res) : KK X md d rk res pc l [] μ := by
  cases h
  exact K_throwN (cr := 0) (sr := 0) F hk hstr htab d0 d3 d4 d6 d9 ⟨rfl, rfl, rfl⟩
theorem Z_thNW {ik is ic : Nat} {text : String} (F : kTN md.1.cls ic) (hk : Cond.classLink md.1.cls ik (exName 5) ∈ kG) (hstr : (md.1.cls, is, text) ∈ kSR) (htab : md.2.2.2.2 = [])
    (d0 : decode md.2.1 pc = .ok (.new ik, 3)) (d3 : decode md.2.1 (pc + 3) = .ok (.dup, 1)) (d4 : decode md.2.1 (pc + 4) = .ok (.ldc_w is, 3)) (d6 : decode md.2.1 (pc + 7) = .ok (.invokespecial ic, 3)) (d9 : decode md.2.1 (pc + 10) = .ok (.athrow, 1)) (h : some (μ, 6, 0) = some res) : KK X md d rk res pc l [] μ := by
  cases h
  exact K_throwNW (cr := 0) (sr := 0) F hk hstr htab d0 d3 d4 d6 d9 ⟨rfl, rfl, rfl⟩
end KZ2
theorem nth_s (μ : Mu) (x : Int) : nth (some (μ, 0, x)) := fun r h => by cases h; rfl
theorem nth_Z (μ : Mu) (x : Int) : nth (retZ μ x) := fun r h => by have h := (og h).2; cases h; rfl
theorem nth_ite {P : Prop} [Decidable P] {A B : Option Res} (a : nth A) (b : nth B) : nth (if P then A else B) := by
  by_cases h : P
  · rw [if_pos h]; exact a
  · rw [if_neg h]; exact b
theorem nth_no : nth none := fun r h => nomatch h
theorem nth_ilt {x y : Int} {A B : Option Res} (a : nth A) (b : nth B) : nth (i_lt x y A B) := nth_ite (nth_ite a b) nth_no
theorem nth_ieq {x y : Int} {A B : Option Res} (a : nth A) (b : nth B) : nth (i_eq x y A B) := nth_ite (nth_ite a b) nth_no
theorem nth_llt {x y : Int} {A B : Option Res} (a : nth A) (b : nth B) : nth (l_lt x y A B) := nth_ite (nth_ite a b) nth_no
theorem nth_leq {x y : Int} {A B : Option Res} (a : nth A) (b : nth B) : nth (l_eq x y A B) := nth_ite (nth_ite a b) nth_no
theorem nth_rdI {μ : Mu} {a n : Nat} {i : Int} {k : Int → Option Res} (h : ∀ v, nth (k v)) : nth (rdI μ a n i k) := nth_ite (h _) nth_no
theorem nth_wrI {μ : Mu} {a n : Nat} {i x : Int} {k : Mu → Option Res} (h : ∀ v, nth (k v)) : nth (wrI μ a n i x k) := nth_ite (h _) nth_no
theorem nth_bnd {x : Int} {k : Int → Option Res} (h : ∀ v, nth (k v)) : nth (bnd x k) := h x
theorem nth_idiv {x y : Int} {k : Int → Option Res} (h : ∀ v, nth (k v)) : nth (i_div x y k) := nth_ite (h _) nth_no
theorem nth_irem {x y : Int} {k : Int → Option Res} (h : ∀ v, nth (k v)) : nth (i_rem x y k) := nth_ite (h _) nth_no
theorem nth_ldiv {x y : Int} {k : Int → Option Res} (h : ∀ v, nth (k v)) : nth (l_div x y k) := nth_ite (h _) nth_no
theorem nth_lrem {x y : Int} {k : Int → Option Res} (h : ∀ v, nth (k v)) : nth (l_rem x y k) := nth_ite (h _) nth_no
theorem nth_max {x y : Int} {k : Int → Option Res} (h : ∀ v, nth (k v)) : nth (i_max x y k) := nth_ite (h _) nth_no
theorem nth_min {x y : Int} {k : Int → Option Res} (h : ∀ v, nth (k v)) : nth (i_min x y k) := nth_ite (h _) nth_no
theorem nth_cpy {μ : Mu} {a0 n0 a n1 : Nat} {sp dp n : Int} {k : Mu → Option Res} (h : ∀ v, nth (k v)) : nth (cpyI μ a0 n0 sp a n1 dp n k) := nth_ite (h _) nth_no
theorem nth_rb {r : Option Res} {k : Mu → Int → Option Res} (h : nth r) (hk : ∀ μ x, nth (k μ x)) : nth (rb r k) := by
  cases r with
  | none => exact nth_no
  | some r =>
    obtain ⟨μ, c, x⟩ := r
    have := h _ rfl
    dsimp only at this
    subst this
    exact hk μ x

/-! rows: an instruction each, over the judgement KJ -/
def gI (x : Int) : Prop := -2147483648 ≤ x ∧ x < 2147483648
def gL (x : Int) : Prop := -9223372036854775808 ≤ x ∧ x < 9223372036854775808
theorem iI_toInt {x : Int} (h : gI x) : (iI x).toInt = x := Int32.toInt_ofInt_of_le h.1 h.2
theorem iL_toInt {x : Int} (h : gL x) : (iL x).toInt = x := Int64.toInt_ofInt_of_le h.1 h.2
theorem iI_of (v : Int32) : iI v.toInt = v := Int32.ofInt_toInt v
theorem iL_of (v : Int64) : iL v.toInt = v := Int64.ofInt_toInt v
theorem iI_add (x y : Int) : iI x + iI y = iI (x + y) := (Int32.ofInt_add x y).symm
theorem iI_mul (x y : Int) : iI x * iI y = iI (x * y) := (Int32.ofInt_mul x y).symm
theorem iI_sub (x y : Int) : iI x - iI y = iI (x - y) := (Int32.ofInt_sub x y).symm
theorem iI_neg (x : Int) : - iI x = iI (-x) := (Int32.ofInt_neg x).symm
theorem iL_add (x y : Int) : iL x + iL y = iL (x + y) := (Int64.ofInt_add x y).symm
theorem iL_mul (x y : Int) : iL x * iL y = iL (x * y) := (Int64.ofInt_mul x y).symm
theorem iL_sub (x y : Int) : iL x - iL y = iL (x - y) := (Int64.ofInt_sub x y).symm
theorem iI_lt {x y : Int} (hx : gI x) (hy : gI y) : iI x < iI y ↔ x < y := by rw [Int32.lt_iff_toInt_lt, iI_toInt hx, iI_toInt hy]
theorem iI_le {x y : Int} (hx : gI x) (hy : gI y) : iI x ≤ iI y ↔ x ≤ y := by rw [Int32.le_iff_toInt_le, iI_toInt hx, iI_toInt hy]
theorem iI_eq {x y : Int} (hx : gI x) (hy : gI y) : iI x = iI y ↔ x = y := by rw [← Int32.toInt_inj, iI_toInt hx, iI_toInt hy]
theorem iL_lt {x y : Int} (hx : gL x) (hy : gL y) : iL x < iL y ↔ x < y := by rw [Int64.lt_iff_toInt_lt, iL_toInt hx, iL_toInt hy]
theorem iL_eq {x y : Int} (hx : gL x) (hy : gL y) : iL x = iL y ↔ x = y := by rw [← Int64.toInt_inj, iL_toInt hx, iL_toInt hy]
theorem gI_0 : gI 0 := by unfold gI; omega
theorem iI_0 : iI 0 = 0 := by decide
theorem iI_div {x y : Int} (hx : gI x) (hy : gI y) (h : ¬ (x = -2147483648 ∧ y = -1)) : iI x / iI y = iI (x.tdiv y) := by
  rw [← Int32.toInt_inj, Int32.toInt_div, iI_toInt hx, iI_toInt hy]
  unfold iI
  rw [Int32.toInt_ofInt]
theorem iL_div {x y : Int} (hx : gL x) (hy : gL y) (h : ¬ (x = -9223372036854775808 ∧ y = -1)) : iL x / iL y = iL (x.tdiv y) := by
  rw [← Int64.toInt_inj, Int64.toInt_div, iL_toInt hx, iL_toInt hy]
  unfold iL
  rw [Int64.toInt_ofInt]
theorem iI_rem {x y : Int} (hx : gI x) (hy : gI y) (h : ¬ (x = -2147483648 ∧ y = -1)) : iI x - iI x / iI y * iI y = iI (x.tmod y) := by
  rw [iI_div hx hy h, iI_mul, iI_sub]
  congr 1
  have := Int.mul_tdiv_add_tmod x y
  rw [Int.mul_comm] at this
  omega
theorem iL_rem {x y : Int} (hx : gL x) (hy : gL y) (h : ¬ (x = -9223372036854775808 ∧ y = -1)) : iL x - iL x / iL y * iL y = iL (x.tmod y) := by
  rw [iL_div hx hy h, iL_mul, iL_sub]
  congr 1
  have := Int.mul_tdiv_add_tmod x y
  rw [Int.mul_comm] at this
  omega
theorem iI_ne0 {y : Int} (hy : gI y) (h : y ≠ 0) : ¬ iI y = 0 := by
  rw [← iI_0, iI_eq hy gI_0]; exact h
theorem gL_0 : gL 0 := by unfold gL; omega
theorem iL_0 : iL 0 = 0 := by decide
theorem iL_ne0 {y : Int} (hy : gL y) (h : y ≠ 0) : ¬ iL y = 0 := by
  rw [← iL_0, iL_eq hy gL_0]; exact h
def andI (x y : Int) : Int := (iI x &&& iI y).toInt
def orI (x y : Int) : Int := (iI x ||| iI y).toInt
def xorI (x y : Int) : Int := (iI x ^^^ iI y).toInt
def shlI (x y : Int) : Int := (iI x <<< (iI y &&& 31)).toInt
def shrI (x y : Int) : Int := (iI x >>> (iI y &&& 31)).toInt
def ushrI (x y : Int) : Int := (((iI x).toUInt32 >>> ((iI y).toUInt32 &&& Int32.toUInt32 31)).toInt32).toInt
def charI (x : Int) : Int := (((iI x).toUInt32 % 65536).toInt32).toInt
def orL (x y : Int) : Int := (iL x ||| iL y).toInt
def xorL (x y : Int) : Int := (iL x ^^^ iL y).toInt
def shlL (x y : Int) : Int := (iL x <<< ((iI y).toInt64 &&& 63)).toInt
def ushrL (x y : Int) : Int := (((iL x).toUInt64 >>> ((iI y).toInt64.toUInt64 &&& Int64.toUInt64 63)).toInt64).toInt
abbrev Res : Type := Mu × Nat × Int
def i_lt {α : Type} (x y : Int) (A B : Option α) : Option α := if (-2147483648 ≤ x ∧ x < 2147483648) ∧ (-2147483648 ≤ y ∧ y < 2147483648) then (if x < y then A else B) else none
def i_eq {α : Type} (x y : Int) (A B : Option α) : Option α := if (-2147483648 ≤ x ∧ x < 2147483648) ∧ (-2147483648 ≤ y ∧ y < 2147483648) then (if x = y then A else B) else none
def l_lt {α : Type} (x y : Int) (A B : Option α) : Option α := if (-9223372036854775808 ≤ x ∧ x < 9223372036854775808) ∧ (-9223372036854775808 ≤ y ∧ y < 9223372036854775808) then (if x < y then A else B) else none
def l_eq {α : Type} (x y : Int) (A B : Option α) : Option α := if (-9223372036854775808 ≤ x ∧ x < 9223372036854775808) ∧ (-9223372036854775808 ≤ y ∧ y < 9223372036854775808) then (if x = y then A else B) else none
def i_div {α : Type} (x y : Int) (k : Int → Option α) : Option α := if ((-2147483648 ≤ x ∧ x < 2147483648) ∧ (-2147483648 ≤ y ∧ y < 2147483648)) ∧ y ≠ 0 ∧ ¬ (x = -2147483648 ∧ y = -1) then k (x.tdiv y) else none
def i_rem {α : Type} (x y : Int) (k : Int → Option α) : Option α := if ((-2147483648 ≤ x ∧ x < 2147483648) ∧ (-2147483648 ≤ y ∧ y < 2147483648)) ∧ y ≠ 0 ∧ ¬ (x = -2147483648 ∧ y = -1) then k (x.tmod y) else none
def l_div {α : Type} (x y : Int) (k : Int → Option α) : Option α := if ((-9223372036854775808 ≤ x ∧ x < 9223372036854775808) ∧ (-9223372036854775808 ≤ y ∧ y < 9223372036854775808)) ∧ y ≠ 0 ∧ ¬ (x = -9223372036854775808 ∧ y = -1) then k (x.tdiv y) else none
def l_rem {α : Type} (x y : Int) (k : Int → Option α) : Option α := if ((-9223372036854775808 ≤ x ∧ x < 9223372036854775808) ∧ (-9223372036854775808 ≤ y ∧ y < 9223372036854775808)) ∧ y ≠ 0 ∧ ¬ (x = -9223372036854775808 ∧ y = -1) then k (x.tmod y) else none
def i_2l {α : Type} (x : Int) (k : Option α) : Option α := if -2147483648 ≤ x ∧ x < 2147483648 then k else none
theorem og {α : Type} {P : Prop} [d : Decidable P] {a : Option α} {r : α} (h : (if P then a else none) = some r) : P ∧ a = some r := by
  by_cases hp : P
  · rw [if_pos hp] at h; exact ⟨hp, h⟩
  · rw [if_neg hp] at h; cases h
section KR
variable {X : kX} {md : kM} {d : Nat} {ex : Bool} {po : kPo} {sk : List Kd} {cr sr pc : Nat} {l : List (Nat × Value)} {st : List Value} {μ : Mu} {res : Res} {x y : Int}
theorem K_iconst {n : Int} (hd : decode md.2.1 pc = .ok (.iconst n, 1)) (hv : Int32.ofInt n = iI x) (k : KJ X md d ex po sk cr sr (pc + 1) l (.int (iI x) :: st) μ) : KJ X md d ex po sk cr sr (pc) l (st) μ := by
  intro p l0 e R s m args below meth c H locs cells slots mc ms ls C hc hs hl hH hS hz
  refine lv_iconst C.1 C.2.1 hd hv ?_
  exact k p l0 e R s m args below meth c H locs cells slots mc ms ls C hc hs hl hH hS hz
theorem K_bipush {n : Int} (hd : decode md.2.1 pc = .ok (.bipush n, 2)) (hv : (Int8.ofInt n).toInt32 = iI x) (k : KJ X md d ex po sk cr sr (pc + 2) l (.int (iI x) :: st) μ) : KJ X md d ex po sk cr sr (pc) l (st) μ := by
  intro p l0 e R s m args below meth c H locs cells slots mc ms ls C hc hs hl hH hS hz
  refine lv_bipush C.1 C.2.1 hd hv ?_
  exact k p l0 e R s m args below meth c H locs cells slots mc ms ls C hc hs hl hH hS hz
theorem K_sipush {n : Int} (hd : decode md.2.1 pc = .ok (.sipush n, 3)) (hv : (Int16.ofInt n).toInt32 = iI x) (k : KJ X md d ex po sk cr sr (pc + 3) l (.int (iI x) :: st) μ) : KJ X md d ex po sk cr sr (pc) l (st) μ := by
  intro p l0 e R s m args below meth c H locs cells slots mc ms ls C hc hs hl hH hS hz
  refine lv_sipush C.1 C.2.1 hd hv ?_
  exact k p l0 e R s m args below meth c H locs cells slots mc ms ls C hc hs hl hH hS hz
theorem K_lconst {n : Fin 2} (hd : decode md.2.1 pc = .ok (.lconst n, 1)) (hv : Int64.ofNat (n : Nat) = iL x) (k : KJ X md d ex po sk cr sr (pc + 1) l (.long (iL x) :: st) μ) : KJ X md d ex po sk cr sr (pc) l (st) μ := by
  intro p l0 e R s m args below meth c H locs cells slots mc ms ls C hc hs hl hH hS hz
  refine lv_lconst C.1 C.2.1 hd hv ?_
  exact k p l0 e R s m args below meth c H locs cells slots mc ms ls C hc hs hl hH hS hz
theorem K_ldc {n : Nat} {v : Int32} (hd : decode md.2.1 pc = .ok (.ldc n, 2)) (hw : Cond.constant md.1.cls n v ∈ kG) (hv : v = iI x) (k : KJ X md d ex po sk cr sr (pc + 2) l (.int (iI x) :: st) μ) : KJ X md d ex po sk cr sr (pc) l (st) μ := by
  intro p l0 e R s m args below meth c H locs cells slots mc ms ls C hc hs hl hH hS hz
  subst hv
  refine lv_ldc C.1 C.2.1 C.2.2.2.2.2.1 (C.2.2.2.2.2.2.2.1 _ hw) hd ?_
  exact k p l0 e R s m args below meth c H locs cells slots mc ms ls C hc hs hl hH hS hz
theorem K_ldcw {n : Nat} {v : Int32} (hd : decode md.2.1 pc = .ok (.ldc_w n, 3)) (hw : Cond.constant md.1.cls n v ∈ kG) (hv : v = iI x) (k : KJ X md d ex po sk cr sr (pc + 3) l (.int (iI x) :: st) μ) : KJ X md d ex po sk cr sr (pc) l (st) μ := by
  intro p l0 e R s m args below meth c H locs cells slots mc ms ls C hc hs hl hH hS hz
  subst hv
  refine lv_ldcw C.1 C.2.1 C.2.2.2.2.2.1 (C.2.2.2.2.2.2.2.1 _ hw) hd ?_
  exact k p l0 e R s m args below meth c H locs cells slots mc ms ls C hc hs hl hH hS hz
theorem K_ldc2 {n : Nat} {v : Int64} (hd : decode md.2.1 pc = .ok (.ldc2_w n, 3)) (hw : Cond.constantLong md.1.cls n v ∈ kG) (hv : v = iL x) (k : KJ X md d ex po sk cr sr (pc + 3) l (.long (iL x) :: st) μ) : KJ X md d ex po sk cr sr (pc) l (st) μ := by
  intro p l0 e R s m args below meth c H locs cells slots mc ms ls C hc hs hl hH hS hz
  subst hv
  refine lv_ldc2 C.1 C.2.1 C.2.2.2.2.2.1 (C.2.2.2.2.2.2.2.1 _ hw) hd ?_
  exact k p l0 e R s m args below meth c H locs cells slots mc ms ls C hc hs hl hH hS hz
theorem K_ldc2d {n : Nat} {v : UInt64} (hd : decode md.2.1 pc = .ok (.ldc2_w n, 3)) (hw : Cond.constantDouble md.1.cls n v ∈ kG) (k : KJ X md d ex po sk cr sr (pc + 3) l (.double v :: st) μ) : KJ X md d ex po sk cr sr (pc) l (st) μ := by
  intro p l0 e R s m args below meth c H locs cells slots mc ms ls C hc hs hl hH hS hz
  refine lv_ldc2d C.1 C.2.1 C.2.2.2.2.2.1 (C.2.2.2.2.2.2.2.1 _ hw) hd ?_
  exact k p l0 e R s m args below meth c H locs cells slots mc ms ls C hc hs hl hH hS hz
theorem K_dconst0 (hd : decode md.2.1 pc = .ok (.dconst 0, 1)) (k : KJ X md d ex po sk cr sr (pc + 1) l (.double FP.dconst0 :: st) μ) : KJ X md d ex po sk cr sr (pc) l (st) μ := by
  intro p l0 e R s m args below meth c H locs cells slots mc ms ls C hc hs hl hH hS hz
  refine lv_dconst0 C.1 C.2.1 hd ?_
  exact k p l0 e R s m args below meth c H locs cells slots mc ms ls C hc hs hl hH hS hz
theorem K_dconst1 (hd : decode md.2.1 pc = .ok (.dconst 1, 1)) (k : KJ X md d ex po sk cr sr (pc + 1) l (.double FP.dconst1 :: st) μ) : KJ X md d ex po sk cr sr (pc) l (st) μ := by
  intro p l0 e R s m args below meth c H locs cells slots mc ms ls C hc hs hl hH hS hz
  refine lv_dconst1 C.1 C.2.1 hd ?_
  exact k p l0 e R s m args below meth c H locs cells slots mc ms ls C hc hs hl hH hS hz
theorem K_iload_n {n : Fin 4} {v : Int32} (j : Nat) (hd : decode md.2.1 pc = .ok (.iload_n n, 1)) (hj : l[j]? = some ((n : Nat), .int v)) (k : KJ X md d ex po sk cr sr (pc + 1) l (.int v :: st) μ) : KJ X md d ex po sk cr sr (pc) l (st) μ := by
  intro p l0 e R s m args below meth c H locs cells slots mc ms ls C hc hs hl hH hS hz
  refine lv_iload_n C.1 C.2.1 hd rfl (lv_at hl j hj) ?_
  exact k p l0 e R s m args below meth c H locs cells slots mc ms ls C hc hs hl hH hS hz
theorem K_iload {n : Nat} {v : Int32} (j : Nat) (hd : decode md.2.1 pc = .ok (.iload n, 2)) (hj : l[j]? = some (n, .int v)) (k : KJ X md d ex po sk cr sr (pc + 2) l (.int v :: st) μ) : KJ X md d ex po sk cr sr (pc) l (st) μ := by
  intro p l0 e R s m args below meth c H locs cells slots mc ms ls C hc hs hl hH hS hz
  refine lv_iload C.1 C.2.1 hd (lv_at hl j hj) ?_
  exact k p l0 e R s m args below meth c H locs cells slots mc ms ls C hc hs hl hH hS hz
theorem K_lload_n {n : Fin 4} {v : Int64} (j : Nat) (hd : decode md.2.1 pc = .ok (.lload_n n, 1)) (hj : l[j]? = some ((n : Nat), .long v)) (k : KJ X md d ex po sk cr sr (pc + 1) l (.long v :: st) μ) : KJ X md d ex po sk cr sr (pc) l (st) μ := by
  intro p l0 e R s m args below meth c H locs cells slots mc ms ls C hc hs hl hH hS hz
  refine lv_lload_n C.1 C.2.1 hd rfl (lv_at hl j hj) ?_
  exact k p l0 e R s m args below meth c H locs cells slots mc ms ls C hc hs hl hH hS hz
theorem K_lload {n : Nat} {v : Int64} (j : Nat) (hd : decode md.2.1 pc = .ok (.lload n, 2)) (hj : l[j]? = some (n, .long v)) (k : KJ X md d ex po sk cr sr (pc + 2) l (.long v :: st) μ) : KJ X md d ex po sk cr sr (pc) l (st) μ := by
  intro p l0 e R s m args below meth c H locs cells slots mc ms ls C hc hs hl hH hS hz
  refine lv_lload C.1 C.2.1 hd (lv_at hl j hj) ?_
  exact k p l0 e R s m args below meth c H locs cells slots mc ms ls C hc hs hl hH hS hz
theorem K_aload_n {n : Fin 4} {v : Nat} (j : Nat) (hd : decode md.2.1 pc = .ok (.aload_n n, 1)) (hj : l[j]? = some ((n : Nat), .ref v)) (k : KJ X md d ex po sk cr sr (pc + 1) l (.ref v :: st) μ) : KJ X md d ex po sk cr sr (pc) l (st) μ := by
  intro p l0 e R s m args below meth c H locs cells slots mc ms ls C hc hs hl hH hS hz
  refine lv_aload_n C.1 C.2.1 hd rfl (lv_at hl j hj) ?_
  exact k p l0 e R s m args below meth c H locs cells slots mc ms ls C hc hs hl hH hS hz
theorem K_aload {n : Nat} {v : Nat} (j : Nat) (hd : decode md.2.1 pc = .ok (.aload n, 2)) (hj : l[j]? = some (n, .ref v)) (k : KJ X md d ex po sk cr sr (pc + 2) l (.ref v :: st) μ) : KJ X md d ex po sk cr sr (pc) l (st) μ := by
  intro p l0 e R s m args below meth c H locs cells slots mc ms ls C hc hs hl hH hS hz
  refine lv_aload C.1 C.2.1 hd (lv_at hl j hj) ?_
  exact k p l0 e R s m args below meth c H locs cells slots mc ms ls C hc hs hl hH hS hz
theorem K_dload_n {n : Fin 4} {v : UInt64} (j : Nat) (hd : decode md.2.1 pc = .ok (.dload_n n, 1)) (hj : l[j]? = some ((n : Nat), .double v)) (k : KJ X md d ex po sk cr sr (pc + 1) l (.double v :: st) μ) : KJ X md d ex po sk cr sr (pc) l (st) μ := by
  intro p l0 e R s m args below meth c H locs cells slots mc ms ls C hc hs hl hH hS hz
  refine lv_dload_n C.1 C.2.1 hd rfl (lv_at hl j hj) ?_
  exact k p l0 e R s m args below meth c H locs cells slots mc ms ls C hc hs hl hH hS hz
theorem K_dload {n : Nat} {v : UInt64} (j : Nat) (hd : decode md.2.1 pc = .ok (.dload n, 2)) (hj : l[j]? = some (n, .double v)) (k : KJ X md d ex po sk cr sr (pc + 2) l (.double v :: st) μ) : KJ X md d ex po sk cr sr (pc) l (st) μ := by
  intro p l0 e R s m args below meth c H locs cells slots mc ms ls C hc hs hl hH hS hz
  refine lv_dload C.1 C.2.1 hd (lv_at hl j hj) ?_
  exact k p l0 e R s m args below meth c H locs cells slots mc ms ls C hc hs hl hH hS hz
theorem K_fload_n {n : Fin 4} {v : UInt32} (j : Nat) (hd : decode md.2.1 pc = .ok (.fload_n n, 1)) (hj : l[j]? = some ((n : Nat), .float v)) (k : KJ X md d ex po sk cr sr (pc + 1) l (.float v :: st) μ) : KJ X md d ex po sk cr sr (pc) l (st) μ := by
  intro p l0 e R s m args below meth c H locs cells slots mc ms ls C hc hs hl hH hS hz
  refine lv_fload_n C.1 C.2.1 hd rfl (lv_at hl j hj) ?_
  exact k p l0 e R s m args below meth c H locs cells slots mc ms ls C hc hs hl hH hS hz
theorem K_istore_n {n : Fin 4} {v : Int32} {l' : List (Nat × Value)} (hd : decode md.2.1 pc = .ok (.istore_n n, 1)) (hn : (n : Nat) < md.2.2.1) (hf : ((n : Nat), Value.int v) :: l.filter (fun q => !(q.1 == (n : Nat)) && !(q.1 + 1 == (n : Nat) && q.2.category == 2)) = l') (k : KJ X md d ex po sk cr sr (pc + 1) l' (st) μ) : KJ X md d ex po sk cr sr (pc) l (.int v :: st) μ := by
  intro p l0 e R s m args below meth c H locs cells slots mc ms ls C hc hs hl hH hS hz
  refine lv_istore_n C.1 C.2.1 hd rfl hl hn hf (fun ls hl => ?_)
  exact k p l0 e R s m args below meth c H locs cells slots mc ms ls C hc hs hl hH hS hz
theorem K_istore {n : Nat} {v : Int32} {l' : List (Nat × Value)} (hd : decode md.2.1 pc = .ok (.istore n, 2)) (hn : n < md.2.2.1) (hf : (n, Value.int v) :: l.filter (fun q => !(q.1 == n) && !(q.1 + 1 == n && q.2.category == 2)) = l') (k : KJ X md d ex po sk cr sr (pc + 2) l' (st) μ) : KJ X md d ex po sk cr sr (pc) l (.int v :: st) μ := by
  intro p l0 e R s m args below meth c H locs cells slots mc ms ls C hc hs hl hH hS hz
  refine lv_istore C.1 C.2.1 hd hl hn hf (fun ls hl => ?_)
  exact k p l0 e R s m args below meth c H locs cells slots mc ms ls C hc hs hl hH hS hz
theorem K_lstore_n {n : Fin 4} {v : Int64} {l' : List (Nat × Value)} (hd : decode md.2.1 pc = .ok (.lstore_n n, 1)) (hn : (n : Nat) + 1 < md.2.2.1) (hf : ((n : Nat), Value.long v) :: l.filter (fun q => !(q.1 == (n : Nat)) && (!(q.1 == (n : Nat) + 1) && !(q.1 + 1 == (n : Nat) && q.2.category == 2))) = l') (k : KJ X md d ex po sk cr sr (pc + 1) l' (st) μ) : KJ X md d ex po sk cr sr (pc) l (.long v :: st) μ := by
  intro p l0 e R s m args below meth c H locs cells slots mc ms ls C hc hs hl hH hS hz
  refine lv_lstore_n C.1 C.2.1 hd rfl hl hn hf (fun ls hl => ?_)
  exact k p l0 e R s m args below meth c H locs cells slots mc ms ls C hc hs hl hH hS hz
theorem K_lstore {n : Nat} {v : Int64} {l' : List (Nat × Value)} (hd : decode md.2.1 pc = .ok (.lstore n, 2)) (hn : n + 1 < md.2.2.1) (hf : (n, Value.long v) :: l.filter (fun q => !(q.1 == n) && (!(q.1 == n + 1) && !(q.1 + 1 == n && q.2.category == 2))) = l') (k : KJ X md d ex po sk cr sr (pc + 2) l' (st) μ) : KJ X md d ex po sk cr sr (pc) l (.long v :: st) μ := by
  intro p l0 e R s m args below meth c H locs cells slots mc ms ls C hc hs hl hH hS hz
  refine lv_lstore C.1 C.2.1 hd hl hn hf (fun ls hl => ?_)
  exact k p l0 e R s m args below meth c H locs cells slots mc ms ls C hc hs hl hH hS hz
theorem K_astore_n {n : Fin 4} {v : Nat} {l' : List (Nat × Value)} (hd : decode md.2.1 pc = .ok (.astore_n n, 1)) (hn : (n : Nat) < md.2.2.1) (hf : ((n : Nat), Value.ref v) :: l.filter (fun q => !(q.1 == (n : Nat)) && !(q.1 + 1 == (n : Nat) && q.2.category == 2)) = l') (k : KJ X md d ex po sk cr sr (pc + 1) l' (st) μ) : KJ X md d ex po sk cr sr (pc) l (.ref v :: st) μ := by
  intro p l0 e R s m args below meth c H locs cells slots mc ms ls C hc hs hl hH hS hz
  refine lv_astore_n C.1 C.2.1 hd rfl hl hn hf (fun ls hl => ?_)
  exact k p l0 e R s m args below meth c H locs cells slots mc ms ls C hc hs hl hH hS hz
theorem K_astore {n : Nat} {v : Nat} {l' : List (Nat × Value)} (hd : decode md.2.1 pc = .ok (.astore n, 2)) (hn : n < md.2.2.1) (hf : (n, Value.ref v) :: l.filter (fun q => !(q.1 == n) && !(q.1 + 1 == n && q.2.category == 2)) = l') (k : KJ X md d ex po sk cr sr (pc + 2) l' (st) μ) : KJ X md d ex po sk cr sr (pc) l (.ref v :: st) μ := by
  intro p l0 e R s m args below meth c H locs cells slots mc ms ls C hc hs hl hH hS hz
  refine lv_astore C.1 C.2.1 hd hl hn hf (fun ls hl => ?_)
  exact k p l0 e R s m args below meth c H locs cells slots mc ms ls C hc hs hl hH hS hz
theorem K_dstore_n {n : Fin 4} {v : UInt64} {l' : List (Nat × Value)} (hd : decode md.2.1 pc = .ok (.dstore_n n, 1)) (hn : (n : Nat) + 1 < md.2.2.1) (hf : ((n : Nat), Value.double v) :: l.filter (fun q => !(q.1 == (n : Nat)) && (!(q.1 == (n : Nat) + 1) && !(q.1 + 1 == (n : Nat) && q.2.category == 2))) = l') (k : KJ X md d ex po sk cr sr (pc + 1) l' (st) μ) : KJ X md d ex po sk cr sr (pc) l (.double v :: st) μ := by
  intro p l0 e R s m args below meth c H locs cells slots mc ms ls C hc hs hl hH hS hz
  refine lv_dstore_n C.1 C.2.1 hd rfl hl hn hf (fun ls hl => ?_)
  exact k p l0 e R s m args below meth c H locs cells slots mc ms ls C hc hs hl hH hS hz
theorem K_dstore {n : Nat} {v : UInt64} {l' : List (Nat × Value)} (hd : decode md.2.1 pc = .ok (.dstore n, 2)) (hn : n + 1 < md.2.2.1) (hf : (n, Value.double v) :: l.filter (fun q => !(q.1 == n) && (!(q.1 == n + 1) && !(q.1 + 1 == n && q.2.category == 2))) = l') (k : KJ X md d ex po sk cr sr (pc + 2) l' (st) μ) : KJ X md d ex po sk cr sr (pc) l (.double v :: st) μ := by
  intro p l0 e R s m args below meth c H locs cells slots mc ms ls C hc hs hl hH hS hz
  refine lv_dstore C.1 C.2.1 hd hl hn hf (fun ls hl => ?_)
  exact k p l0 e R s m args below meth c H locs cells slots mc ms ls C hc hs hl hH hS hz
theorem K_iinc {i : Nat} {n : Int} {l' : List (Nat × Value)} (j : Nat) (hd : decode md.2.1 pc = .ok (.iinc i n, 3)) (hj : l[j]? = some (i, .int (iI x))) (hn : i < md.2.2.1) (hf : (i, Value.int (iI (x + n))) :: l.filter (fun q => !(q.1 == i) && !(q.1 + 1 == i && q.2.category == 2)) = l') (k : KJ X md d ex po sk cr sr (pc + 3) l' (st) μ) : KJ X md d ex po sk cr sr (pc) l (st) μ := by
  intro p l0 e R s m args below meth c H locs cells slots mc ms ls C hc hs hl hH hS hz
  refine lv_iinc C.1 C.2.1 hd hl hj (by rw [show Int32.ofInt n = iI n from rfl, iI_add]) hn hf (fun ls hl => ?_)
  exact k p l0 e R s m args below meth c H locs cells slots mc ms ls C hc hs hl hH hS hz
theorem K_iadd (hd : decode md.2.1 pc = .ok (.iadd, 1)) (k : KJ X md d ex po sk cr sr (pc + 1) l (.int (iI (x + y)) :: st) μ) : KJ X md d ex po sk cr sr (pc) l (.int (iI y) :: .int (iI x) :: st) μ := by
  intro p l0 e R s m args below meth c H locs cells slots mc ms ls C hc hs hl hH hS hz
  refine lv_iadd C.1 C.2.1 hd ?_
  rw [iI_add]
  exact k p l0 e R s m args below meth c H locs cells slots mc ms ls C hc hs hl hH hS hz
theorem K_isub (hd : decode md.2.1 pc = .ok (.isub, 1)) (k : KJ X md d ex po sk cr sr (pc + 1) l (.int (iI (x - y)) :: st) μ) : KJ X md d ex po sk cr sr (pc) l (.int (iI y) :: .int (iI x) :: st) μ := by
  intro p l0 e R s m args below meth c H locs cells slots mc ms ls C hc hs hl hH hS hz
  refine lv_isub C.1 C.2.1 hd ?_
  rw [iI_sub]
  exact k p l0 e R s m args below meth c H locs cells slots mc ms ls C hc hs hl hH hS hz
theorem K_imul (hd : decode md.2.1 pc = .ok (.imul, 1)) (k : KJ X md d ex po sk cr sr (pc + 1) l (.int (iI (x * y)) :: st) μ) : KJ X md d ex po sk cr sr (pc) l (.int (iI y) :: .int (iI x) :: st) μ := by
  intro p l0 e R s m args below meth c H locs cells slots mc ms ls C hc hs hl hH hS hz
  refine lv_imul C.1 C.2.1 hd ?_
  rw [iI_mul]
  exact k p l0 e R s m args below meth c H locs cells slots mc ms ls C hc hs hl hH hS hz
theorem K_ladd (hd : decode md.2.1 pc = .ok (.ladd, 1)) (k : KJ X md d ex po sk cr sr (pc + 1) l (.long (iL (x + y)) :: st) μ) : KJ X md d ex po sk cr sr (pc) l (.long (iL y) :: .long (iL x) :: st) μ := by
  intro p l0 e R s m args below meth c H locs cells slots mc ms ls C hc hs hl hH hS hz
  refine lv_ladd C.1 C.2.1 hd ?_
  rw [iL_add]
  exact k p l0 e R s m args below meth c H locs cells slots mc ms ls C hc hs hl hH hS hz
theorem K_lsub (hd : decode md.2.1 pc = .ok (.lsub, 1)) (k : KJ X md d ex po sk cr sr (pc + 1) l (.long (iL (x - y)) :: st) μ) : KJ X md d ex po sk cr sr (pc) l (.long (iL y) :: .long (iL x) :: st) μ := by
  intro p l0 e R s m args below meth c H locs cells slots mc ms ls C hc hs hl hH hS hz
  refine lv_lsub C.1 C.2.1 hd ?_
  rw [iL_sub]
  exact k p l0 e R s m args below meth c H locs cells slots mc ms ls C hc hs hl hH hS hz
theorem K_lmul (hd : decode md.2.1 pc = .ok (.lmul, 1)) (k : KJ X md d ex po sk cr sr (pc + 1) l (.long (iL (x * y)) :: st) μ) : KJ X md d ex po sk cr sr (pc) l (.long (iL y) :: .long (iL x) :: st) μ := by
  intro p l0 e R s m args below meth c H locs cells slots mc ms ls C hc hs hl hH hS hz
  refine lv_lmul C.1 C.2.1 hd ?_
  rw [iL_mul]
  exact k p l0 e R s m args below meth c H locs cells slots mc ms ls C hc hs hl hH hS hz
theorem K_ineg (hd : decode md.2.1 pc = .ok (.ineg, 1)) (k : KJ X md d ex po sk cr sr (pc + 1) l (.int (iI (-x)) :: st) μ) : KJ X md d ex po sk cr sr (pc) l (.int (iI x) :: st) μ := by
  intro p l0 e R s m args below meth c H locs cells slots mc ms ls C hc hs hl hH hS hz
  refine lv_ineg C.1 C.2.1 hd ?_
  rw [iI_neg]
  exact k p l0 e R s m args below meth c H locs cells slots mc ms ls C hc hs hl hH hS hz
theorem K_iand (hd : decode md.2.1 pc = .ok (.iand, 1)) (k : KJ X md d ex po sk cr sr (pc + 1) l (.int (iI (andI x y)) :: st) μ) : KJ X md d ex po sk cr sr (pc) l (.int (iI y) :: .int (iI x) :: st) μ := by
  intro p l0 e R s m args below meth c H locs cells slots mc ms ls C hc hs hl hH hS hz
  refine lv_iand C.1 C.2.1 hd ?_
  rw [show (_ : Int32) = iI (andI x y) from (iI_of _).symm]
  exact k p l0 e R s m args below meth c H locs cells slots mc ms ls C hc hs hl hH hS hz
theorem K_ior (hd : decode md.2.1 pc = .ok (.ior, 1)) (k : KJ X md d ex po sk cr sr (pc + 1) l (.int (iI (orI x y)) :: st) μ) : KJ X md d ex po sk cr sr (pc) l (.int (iI y) :: .int (iI x) :: st) μ := by
  intro p l0 e R s m args below meth c H locs cells slots mc ms ls C hc hs hl hH hS hz
  refine lv_ior C.1 C.2.1 hd ?_
  rw [show (_ : Int32) = iI (orI x y) from (iI_of _).symm]
  exact k p l0 e R s m args below meth c H locs cells slots mc ms ls C hc hs hl hH hS hz
theorem K_ixor (hd : decode md.2.1 pc = .ok (.ixor, 1)) (k : KJ X md d ex po sk cr sr (pc + 1) l (.int (iI (xorI x y)) :: st) μ) : KJ X md d ex po sk cr sr (pc) l (.int (iI y) :: .int (iI x) :: st) μ := by
  intro p l0 e R s m args below meth c H locs cells slots mc ms ls C hc hs hl hH hS hz
  refine lv_ixor C.1 C.2.1 hd ?_
  rw [show (_ : Int32) = iI (xorI x y) from (iI_of _).symm]
  exact k p l0 e R s m args below meth c H locs cells slots mc ms ls C hc hs hl hH hS hz
theorem K_ishl (hd : decode md.2.1 pc = .ok (.ishl, 1)) (k : KJ X md d ex po sk cr sr (pc + 1) l (.int (iI (shlI x y)) :: st) μ) : KJ X md d ex po sk cr sr (pc) l (.int (iI y) :: .int (iI x) :: st) μ := by
  intro p l0 e R s m args below meth c H locs cells slots mc ms ls C hc hs hl hH hS hz
  refine lv_ishl C.1 C.2.1 hd ?_
  rw [show (_ : Int32) = iI (shlI x y) from (iI_of _).symm]
  exact k p l0 e R s m args below meth c H locs cells slots mc ms ls C hc hs hl hH hS hz
theorem K_ishr (hd : decode md.2.1 pc = .ok (.ishr, 1)) (k : KJ X md d ex po sk cr sr (pc + 1) l (.int (iI (shrI x y)) :: st) μ) : KJ X md d ex po sk cr sr (pc) l (.int (iI y) :: .int (iI x) :: st) μ := by
  intro p l0 e R s m args below meth c H locs cells slots mc ms ls C hc hs hl hH hS hz
  refine lv_ishr C.1 C.2.1 hd ?_
  rw [show (_ : Int32) = iI (shrI x y) from (iI_of _).symm]
  exact k p l0 e R s m args below meth c H locs cells slots mc ms ls C hc hs hl hH hS hz
theorem K_iushr (hd : decode md.2.1 pc = .ok (.iushr, 1)) (k : KJ X md d ex po sk cr sr (pc + 1) l (.int (iI (ushrI x y)) :: st) μ) : KJ X md d ex po sk cr sr (pc) l (.int (iI y) :: .int (iI x) :: st) μ := by
  intro p l0 e R s m args below meth c H locs cells slots mc ms ls C hc hs hl hH hS hz
  refine lv_iushr C.1 C.2.1 hd (v := iI (ushrI x y)) (iI_of _).symm ?_
  exact k p l0 e R s m args below meth c H locs cells slots mc ms ls C hc hs hl hH hS hz
theorem K_i2c (hd : decode md.2.1 pc = .ok (.i2c, 1)) (k : KJ X md d ex po sk cr sr (pc + 1) l (.int (iI (charI x)) :: st) μ) : KJ X md d ex po sk cr sr (pc) l (.int (iI x) :: st) μ := by
  intro p l0 e R s m args below meth c H locs cells slots mc ms ls C hc hs hl hH hS hz
  refine lv_i2c C.1 C.2.1 hd (v := iI (charI x)) (iI_of _).symm ?_
  exact k p l0 e R s m args below meth c H locs cells slots mc ms ls C hc hs hl hH hS hz
theorem K_lor (hd : decode md.2.1 pc = .ok (.lor, 1)) (k : KJ X md d ex po sk cr sr (pc + 1) l (.long (iL (orL x y)) :: st) μ) : KJ X md d ex po sk cr sr (pc) l (.long (iL y) :: .long (iL x) :: st) μ := by
  intro p l0 e R s m args below meth c H locs cells slots mc ms ls C hc hs hl hH hS hz
  refine lv_lor C.1 C.2.1 hd ?_
  rw [show (_ : Int64) = iL (orL x y) from (iL_of _).symm]
  exact k p l0 e R s m args below meth c H locs cells slots mc ms ls C hc hs hl hH hS hz
theorem K_lxor (hd : decode md.2.1 pc = .ok (.lxor, 1)) (k : KJ X md d ex po sk cr sr (pc + 1) l (.long (iL (xorL x y)) :: st) μ) : KJ X md d ex po sk cr sr (pc) l (.long (iL y) :: .long (iL x) :: st) μ := by
  intro p l0 e R s m args below meth c H locs cells slots mc ms ls C hc hs hl hH hS hz
  refine lv_lxor C.1 C.2.1 hd ?_
  rw [show (_ : Int64) = iL (xorL x y) from (iL_of _).symm]
  exact k p l0 e R s m args below meth c H locs cells slots mc ms ls C hc hs hl hH hS hz
theorem K_lshl (hd : decode md.2.1 pc = .ok (.lshl, 1)) (k : KJ X md d ex po sk cr sr (pc + 1) l (.long (iL (shlL x y)) :: st) μ) : KJ X md d ex po sk cr sr (pc) l (.int (iI y) :: .long (iL x) :: st) μ := by
  intro p l0 e R s m args below meth c H locs cells slots mc ms ls C hc hs hl hH hS hz
  refine lv_lshl C.1 C.2.1 hd (v := iL (shlL x y)) (iL_of _).symm ?_
  exact k p l0 e R s m args below meth c H locs cells slots mc ms ls C hc hs hl hH hS hz
theorem K_lushr (hd : decode md.2.1 pc = .ok (.lushr, 1)) (k : KJ X md d ex po sk cr sr (pc + 1) l (.long (iL (ushrL x y)) :: st) μ) : KJ X md d ex po sk cr sr (pc) l (.int (iI y) :: .long (iL x) :: st) μ := by
  intro p l0 e R s m args below meth c H locs cells slots mc ms ls C hc hs hl hH hS hz
  refine lv_lushr C.1 C.2.1 hd (v := iL (ushrL x y)) (iL_of _).symm ?_
  exact k p l0 e R s m args below meth c H locs cells slots mc ms ls C hc hs hl hH hS hz
theorem K_l2i (hd : decode md.2.1 pc = .ok (.l2i, 1)) (k : KJ X md d ex po sk cr sr (pc + 1) l (.int (iI x) :: st) μ) : KJ X md d ex po sk cr sr (pc) l (.long (iL x) :: st) μ := by
  intro p l0 e R s m args below meth c H locs cells slots mc ms ls C hc hs hl hH hS hz
  refine lv_l2i C.1 C.2.1 hd (v := iI x) (by unfold iI iL; exact Int64.toInt32_ofInt) ?_
  exact k p l0 e R s m args below meth c H locs cells slots mc ms ls C hc hs hl hH hS hz
theorem K_i2l {r : Res} {k0 : Option Res} (hd : decode md.2.1 pc = .ok (.i2l, 1)) (h : i_2l x k0 = some r) (k : k0 = some r → KJ X md d ex po sk cr sr (pc + 1) l (.long (iL x) :: st) μ) : KJ X md d ex po sk cr sr (pc) l (.int (iI x) :: st) μ := by
  intro p l0 e R s m args below meth c H locs cells slots mc ms ls C hc hs hl hH hS hz
  obtain ⟨g, h⟩ := og h
  refine lv_i2l C.1 C.2.1 hd (v := iL x) (by unfold iI iL; exact Int32.toInt64_ofInt g.1 (by have := g.2; show x ≤ 2147483647; omega)) ?_
  exact k h p l0 e R s m args below meth c H locs cells slots mc ms ls C hc hs hl hH hS hz
theorem K_idiv {r : Res} {k0 : Int → Option Res} (hd : decode md.2.1 pc = .ok (.idiv, 1)) (h : i_div x y k0 = some r) (k : k0 (x.tdiv y) = some r → KJ X md d ex po sk cr sr (pc + 1) l (.int (iI (x.tdiv y)) :: st) μ) : KJ X md d ex po sk cr sr (pc) l (.int (iI y) :: .int (iI x) :: st) μ := by
  intro p l0 e R s m args below meth c H locs cells slots mc ms ls C hc hs hl hH hS hz
  obtain ⟨⟨⟨g1, g2⟩, g3, g4⟩, h⟩ := og h
  refine lv_idiv C.1 C.2.1 hd (iI_ne0 g2 g3) ?_
  rw [iI_div g1 g2 g4]
  exact k h p l0 e R s m args below meth c H locs cells slots mc ms ls C hc hs hl hH hS hz
theorem K_irem {r : Res} {k0 : Int → Option Res} (hd : decode md.2.1 pc = .ok (.irem, 1)) (h : i_rem x y k0 = some r) (k : k0 (x.tmod y) = some r → KJ X md d ex po sk cr sr (pc + 1) l (.int (iI (x.tmod y)) :: st) μ) : KJ X md d ex po sk cr sr (pc) l (.int (iI y) :: .int (iI x) :: st) μ := by
  intro p l0 e R s m args below meth c H locs cells slots mc ms ls C hc hs hl hH hS hz
  obtain ⟨⟨⟨g1, g2⟩, g3, g4⟩, h⟩ := og h
  refine lv_irem C.1 C.2.1 hd (iI_ne0 g2 g3) ?_
  rw [iI_rem g1 g2 g4]
  exact k h p l0 e R s m args below meth c H locs cells slots mc ms ls C hc hs hl hH hS hz
theorem K_ldiv {r : Res} {k0 : Int → Option Res} (hd : decode md.2.1 pc = .ok (.ldiv, 1)) (h : l_div x y k0 = some r) (k : k0 (x.tdiv y) = some r → KJ X md d ex po sk cr sr (pc + 1) l (.long (iL (x.tdiv y)) :: st) μ) : KJ X md d ex po sk cr sr (pc) l (.long (iL y) :: .long (iL x) :: st) μ := by
  intro p l0 e R s m args below meth c H locs cells slots mc ms ls C hc hs hl hH hS hz
  obtain ⟨⟨⟨g1, g2⟩, g3, g4⟩, h⟩ := og h
  refine lv_ldiv C.1 C.2.1 hd (iL_ne0 g2 g3) ?_
  rw [iL_div g1 g2 g4]
  exact k h p l0 e R s m args below meth c H locs cells slots mc ms ls C hc hs hl hH hS hz
theorem K_lrem {r : Res} {k0 : Int → Option Res} (hd : decode md.2.1 pc = .ok (.lrem, 1)) (h : l_rem x y k0 = some r) (k : k0 (x.tmod y) = some r → KJ X md d ex po sk cr sr (pc + 1) l (.long (iL (x.tmod y)) :: st) μ) : KJ X md d ex po sk cr sr (pc) l (.long (iL y) :: .long (iL x) :: st) μ := by
  intro p l0 e R s m args below meth c H locs cells slots mc ms ls C hc hs hl hH hS hz
  obtain ⟨⟨⟨g1, g2⟩, g3, g4⟩, h⟩ := og h
  refine lv_lrem C.1 C.2.1 hd (iL_ne0 g2 g3) ?_
  rw [iL_rem g1 g2 g4]
  exact k h p l0 e R s m args below meth c H locs cells slots mc ms ls C hc hs hl hH hS hz
theorem K_icmp_lt {r : Res} {A B : Option Res} {off : Int} {tgt : Nat} (hd : decode md.2.1 pc = .ok (.if_icmp .lt off, 3)) (ht : (pc : Int) + off = (tgt : Int)) (h : i_lt x y A B = some r) (kt : A = some r → KJ X md d ex po sk cr sr (tgt) l (st) μ) (kf : B = some r → KJ X md d ex po sk cr sr (pc + 3) l (st) μ) : KJ X md d ex po sk cr sr (pc) l (.int (iI y) :: .int (iI x) :: st) μ := by
  intro p l0 e R s m args below meth c H locs cells slots mc ms ls C hc hs hl hH hS hz
  obtain ⟨⟨g1, g2⟩, h⟩ := og h
  refine lv_icmp_lt C.1 C.2.1 hd ht (fun q => ?_) (fun q => ?_)
  · have q2 : x < y := (iI_lt g1 g2).mp q
    rw [if_pos (by omega)] at h
    exact kt h p l0 e R s m args below meth c H locs cells slots mc ms ls C hc hs hl hH hS hz
  · have q2 : ¬ (x < y) := fun z => q ((iI_lt g1 g2).mpr z)
    rw [if_neg (by omega)] at h
    exact kf h p l0 e R s m args below meth c H locs cells slots mc ms ls C hc hs hl hH hS hz
theorem K_if_lt {r : Res} {A B : Option Res} {off : Int} {tgt : Nat} (hd : decode md.2.1 pc = .ok (.ifCond .lt off, 3)) (ht : (pc : Int) + off = (tgt : Int)) (h : i_lt x 0 A B = some r) (kt : A = some r → KJ X md d ex po sk cr sr (tgt) l (st) μ) (kf : B = some r → KJ X md d ex po sk cr sr (pc + 3) l (st) μ) : KJ X md d ex po sk cr sr (pc) l (.int (iI x) :: st) μ := by
  intro p l0 e R s m args below meth c H locs cells slots mc ms ls C hc hs hl hH hS hz
  obtain ⟨⟨g1, g2⟩, h⟩ := og h
  refine lv_if_lt C.1 C.2.1 hd ht (fun q => ?_) (fun q => ?_)
  · rw [← iI_0] at q; have q2 : x < 0 := (iI_lt g1 g2).mp q
    rw [if_pos (by omega)] at h
    exact kt h p l0 e R s m args below meth c H locs cells slots mc ms ls C hc hs hl hH hS hz
  · rw [← iI_0] at q; have q2 : ¬ (x < 0) := fun z => q ((iI_lt g1 g2).mpr z)
    rw [if_neg (by omega)] at h
    exact kf h p l0 e R s m args below meth c H locs cells slots mc ms ls C hc hs hl hH hS hz
theorem K_icmp_ge {r : Res} {A B : Option Res} {off : Int} {tgt : Nat} (hd : decode md.2.1 pc = .ok (.if_icmp .ge off, 3)) (ht : (pc : Int) + off = (tgt : Int)) (h : i_lt x y B A = some r) (kt : A = some r → KJ X md d ex po sk cr sr (tgt) l (st) μ) (kf : B = some r → KJ X md d ex po sk cr sr (pc + 3) l (st) μ) : KJ X md d ex po sk cr sr (pc) l (.int (iI y) :: .int (iI x) :: st) μ := by
  intro p l0 e R s m args below meth c H locs cells slots mc ms ls C hc hs hl hH hS hz
  obtain ⟨⟨g1, g2⟩, h⟩ := og h
  refine lv_icmp_ge C.1 C.2.1 hd ht (fun q => ?_) (fun q => ?_)
  · have q2 : y ≤ x := (iI_le g2 g1).mp q
    rw [if_neg (by omega)] at h
    exact kt h p l0 e R s m args below meth c H locs cells slots mc ms ls C hc hs hl hH hS hz
  · have q2 : ¬ (y ≤ x) := fun z => q ((iI_le g2 g1).mpr z)
    rw [if_pos (by omega)] at h
    exact kf h p l0 e R s m args below meth c H locs cells slots mc ms ls C hc hs hl hH hS hz
theorem K_if_ge {r : Res} {A B : Option Res} {off : Int} {tgt : Nat} (hd : decode md.2.1 pc = .ok (.ifCond .ge off, 3)) (ht : (pc : Int) + off = (tgt : Int)) (h : i_lt x 0 B A = some r) (kt : A = some r → KJ X md d ex po sk cr sr (tgt) l (st) μ) (kf : B = some r → KJ X md d ex po sk cr sr (pc + 3) l (st) μ) : KJ X md d ex po sk cr sr (pc) l (.int (iI x) :: st) μ := by
  intro p l0 e R s m args below meth c H locs cells slots mc ms ls C hc hs hl hH hS hz
  obtain ⟨⟨g1, g2⟩, h⟩ := og h
  refine lv_if_ge C.1 C.2.1 hd ht (fun q => ?_) (fun q => ?_)
  · rw [← iI_0] at q; have q2 : 0 ≤ x := (iI_le g2 g1).mp q
    rw [if_neg (by omega)] at h
    exact kt h p l0 e R s m args below meth c H locs cells slots mc ms ls C hc hs hl hH hS hz
  · rw [← iI_0] at q; have q2 : ¬ (0 ≤ x) := fun z => q ((iI_le g2 g1).mpr z)
    rw [if_pos (by omega)] at h
    exact kf h p l0 e R s m args below meth c H locs cells slots mc ms ls C hc hs hl hH hS hz
theorem K_icmp_gt {r : Res} {A B : Option Res} {off : Int} {tgt : Nat} (hd : decode md.2.1 pc = .ok (.if_icmp .gt off, 3)) (ht : (pc : Int) + off = (tgt : Int)) (h : i_lt y x A B = some r) (kt : A = some r → KJ X md d ex po sk cr sr (tgt) l (st) μ) (kf : B = some r → KJ X md d ex po sk cr sr (pc + 3) l (st) μ) : KJ X md d ex po sk cr sr (pc) l (.int (iI y) :: .int (iI x) :: st) μ := by
  intro p l0 e R s m args below meth c H locs cells slots mc ms ls C hc hs hl hH hS hz
  obtain ⟨⟨g1, g2⟩, h⟩ := og h
  refine lv_icmp_gt C.1 C.2.1 hd ht (fun q => ?_) (fun q => ?_)
  · have q2 : y < x := (iI_lt g1 g2).mp q
    rw [if_pos (by omega)] at h
    exact kt h p l0 e R s m args below meth c H locs cells slots mc ms ls C hc hs hl hH hS hz
  · have q2 : ¬ (y < x) := fun z => q ((iI_lt g1 g2).mpr z)
    rw [if_neg (by omega)] at h
    exact kf h p l0 e R s m args below meth c H locs cells slots mc ms ls C hc hs hl hH hS hz
theorem K_if_gt {r : Res} {A B : Option Res} {off : Int} {tgt : Nat} (hd : decode md.2.1 pc = .ok (.ifCond .gt off, 3)) (ht : (pc : Int) + off = (tgt : Int)) (h : i_lt 0 x A B = some r) (kt : A = some r → KJ X md d ex po sk cr sr (tgt) l (st) μ) (kf : B = some r → KJ X md d ex po sk cr sr (pc + 3) l (st) μ) : KJ X md d ex po sk cr sr (pc) l (.int (iI x) :: st) μ := by
  intro p l0 e R s m args below meth c H locs cells slots mc ms ls C hc hs hl hH hS hz
  obtain ⟨⟨g1, g2⟩, h⟩ := og h
  refine lv_if_gt C.1 C.2.1 hd ht (fun q => ?_) (fun q => ?_)
  · rw [← iI_0] at q; have q2 : 0 < x := (iI_lt g1 g2).mp q
    rw [if_pos (by omega)] at h
    exact kt h p l0 e R s m args below meth c H locs cells slots mc ms ls C hc hs hl hH hS hz
  · rw [← iI_0] at q; have q2 : ¬ (0 < x) := fun z => q ((iI_lt g1 g2).mpr z)
    rw [if_neg (by omega)] at h
    exact kf h p l0 e R s m args below meth c H locs cells slots mc ms ls C hc hs hl hH hS hz
theorem K_icmp_le {r : Res} {A B : Option Res} {off : Int} {tgt : Nat} (hd : decode md.2.1 pc = .ok (.if_icmp .le off, 3)) (ht : (pc : Int) + off = (tgt : Int)) (h : i_lt y x B A = some r) (kt : A = some r → KJ X md d ex po sk cr sr (tgt) l (st) μ) (kf : B = some r → KJ X md d ex po sk cr sr (pc + 3) l (st) μ) : KJ X md d ex po sk cr sr (pc) l (.int (iI y) :: .int (iI x) :: st) μ := by
  intro p l0 e R s m args below meth c H locs cells slots mc ms ls C hc hs hl hH hS hz
  obtain ⟨⟨g1, g2⟩, h⟩ := og h
  refine lv_icmp_le C.1 C.2.1 hd ht (fun q => ?_) (fun q => ?_)
  · have q2 : x ≤ y := (iI_le g2 g1).mp q
    rw [if_neg (by omega)] at h
    exact kt h p l0 e R s m args below meth c H locs cells slots mc ms ls C hc hs hl hH hS hz
  · have q2 : ¬ (x ≤ y) := fun z => q ((iI_le g2 g1).mpr z)
    rw [if_pos (by omega)] at h
    exact kf h p l0 e R s m args below meth c H locs cells slots mc ms ls C hc hs hl hH hS hz
theorem K_if_le {r : Res} {A B : Option Res} {off : Int} {tgt : Nat} (hd : decode md.2.1 pc = .ok (.ifCond .le off, 3)) (ht : (pc : Int) + off = (tgt : Int)) (h : i_lt 0 x B A = some r) (kt : A = some r → KJ X md d ex po sk cr sr (tgt) l (st) μ) (kf : B = some r → KJ X md d ex po sk cr sr (pc + 3) l (st) μ) : KJ X md d ex po sk cr sr (pc) l (.int (iI x) :: st) μ := by
  intro p l0 e R s m args below meth c H locs cells slots mc ms ls C hc hs hl hH hS hz
  obtain ⟨⟨g1, g2⟩, h⟩ := og h
  refine lv_if_le C.1 C.2.1 hd ht (fun q => ?_) (fun q => ?_)
  · rw [← iI_0] at q; have q2 : x ≤ 0 := (iI_le g2 g1).mp q
    rw [if_neg (by omega)] at h
    exact kt h p l0 e R s m args below meth c H locs cells slots mc ms ls C hc hs hl hH hS hz
  · rw [← iI_0] at q; have q2 : ¬ (x ≤ 0) := fun z => q ((iI_le g2 g1).mpr z)
    rw [if_pos (by omega)] at h
    exact kf h p l0 e R s m args below meth c H locs cells slots mc ms ls C hc hs hl hH hS hz
theorem K_icmp_eq {r : Res} {A B : Option Res} {off : Int} {tgt : Nat} (hd : decode md.2.1 pc = .ok (.if_icmp .eq off, 3)) (ht : (pc : Int) + off = (tgt : Int)) (h : i_eq x y A B = some r) (kt : A = some r → KJ X md d ex po sk cr sr (tgt) l (st) μ) (kf : B = some r → KJ X md d ex po sk cr sr (pc + 3) l (st) μ) : KJ X md d ex po sk cr sr (pc) l (.int (iI y) :: .int (iI x) :: st) μ := by
  intro p l0 e R s m args below meth c H locs cells slots mc ms ls C hc hs hl hH hS hz
  obtain ⟨⟨g1, g2⟩, h⟩ := og h
  refine lv_icmp_eq C.1 C.2.1 hd ht (fun q => ?_) (fun q => ?_)
  · have q2 : x = y := (iI_eq g1 g2).mp q
    rw [if_pos (by omega)] at h
    exact kt h p l0 e R s m args below meth c H locs cells slots mc ms ls C hc hs hl hH hS hz
  · have q2 : ¬ (x = y) := fun z => q ((iI_eq g1 g2).mpr z)
    rw [if_neg (by omega)] at h
    exact kf h p l0 e R s m args below meth c H locs cells slots mc ms ls C hc hs hl hH hS hz
theorem K_if_eq {r : Res} {A B : Option Res} {off : Int} {tgt : Nat} (hd : decode md.2.1 pc = .ok (.ifCond .eq off, 3)) (ht : (pc : Int) + off = (tgt : Int)) (h : i_eq x 0 A B = some r) (kt : A = some r → KJ X md d ex po sk cr sr (tgt) l (st) μ) (kf : B = some r → KJ X md d ex po sk cr sr (pc + 3) l (st) μ) : KJ X md d ex po sk cr sr (pc) l (.int (iI x) :: st) μ := by
  intro p l0 e R s m args below meth c H locs cells slots mc ms ls C hc hs hl hH hS hz
  obtain ⟨⟨g1, g2⟩, h⟩ := og h
  refine lv_if_eq C.1 C.2.1 hd ht (fun q => ?_) (fun q => ?_)
  · rw [← iI_0] at q; have q2 : x = 0 := (iI_eq g1 g2).mp q
    rw [if_pos (by omega)] at h
    exact kt h p l0 e R s m args below meth c H locs cells slots mc ms ls C hc hs hl hH hS hz
  · rw [← iI_0] at q; have q2 : ¬ (x = 0) := fun z => q ((iI_eq g1 g2).mpr z)
    rw [if_neg (by omega)] at h
    exact kf h p l0 e R s m args below meth c H locs cells slots mc ms ls C hc hs hl hH hS hz
theorem K_icmp_ne {r : Res} {A B : Option Res} {off : Int} {tgt : Nat} (hd : decode md.2.1 pc = .ok (.if_icmp .ne off, 3)) (ht : (pc : Int) + off = (tgt : Int)) (h : i_eq x y B A = some r) (kt : A = some r → KJ X md d ex po sk cr sr (tgt) l (st) μ) (kf : B = some r → KJ X md d ex po sk cr sr (pc + 3) l (st) μ) : KJ X md d ex po sk cr sr (pc) l (.int (iI y) :: .int (iI x) :: st) μ := by
  intro p l0 e R s m args below meth c H locs cells slots mc ms ls C hc hs hl hH hS hz
  obtain ⟨⟨g1, g2⟩, h⟩ := og h
  refine lv_icmp_ne C.1 C.2.1 hd ht (fun q => ?_) (fun q => ?_)
  · have q2 : x ≠ y := fun z => q ((iI_eq g1 g2).mpr z)
    rw [if_neg (by omega)] at h
    exact kt h p l0 e R s m args below meth c H locs cells slots mc ms ls C hc hs hl hH hS hz
  · have q2 : ¬ (x ≠ y) := fun z => z ((iI_eq g1 g2).mp q)
    rw [if_pos (by omega)] at h
    exact kf h p l0 e R s m args below meth c H locs cells slots mc ms ls C hc hs hl hH hS hz
theorem K_if_ne {r : Res} {A B : Option Res} {off : Int} {tgt : Nat} (hd : decode md.2.1 pc = .ok (.ifCond .ne off, 3)) (ht : (pc : Int) + off = (tgt : Int)) (h : i_eq x 0 B A = some r) (kt : A = some r → KJ X md d ex po sk cr sr (tgt) l (st) μ) (kf : B = some r → KJ X md d ex po sk cr sr (pc + 3) l (st) μ) : KJ X md d ex po sk cr sr (pc) l (.int (iI x) :: st) μ := by
  intro p l0 e R s m args below meth c H locs cells slots mc ms ls C hc hs hl hH hS hz
  obtain ⟨⟨g1, g2⟩, h⟩ := og h
  refine lv_if_ne C.1 C.2.1 hd ht (fun q => ?_) (fun q => ?_)
  · rw [← iI_0] at q; have q2 : x ≠ 0 := fun z => q ((iI_eq g1 g2).mpr z)
    rw [if_neg (by omega)] at h
    exact kt h p l0 e R s m args below meth c H locs cells slots mc ms ls C hc hs hl hH hS hz
  · rw [← iI_0] at q; have q2 : ¬ (x ≠ 0) := fun z => z ((iI_eq g1 g2).mp q)
    rw [if_pos (by omega)] at h
    exact kf h p l0 e R s m args below meth c H locs cells slots mc ms ls C hc hs hl hH hS hz
theorem K_goto {off : Int} {tgt : Nat} (hd : decode md.2.1 pc = .ok (.goto off, 3)) (ht : (pc : Int) + off = (tgt : Int)) (k : KJ X md d ex po sk cr sr (tgt) l (st) μ) : KJ X md d ex po sk cr sr (pc) l (st) μ := by
  intro p l0 e R s m args below meth c H locs cells slots mc ms ls C hc hs hl hH hS hz
  refine lv_goto C.1 C.2.1 hd ht ?_
  exact k p l0 e R s m args below meth c H locs cells slots mc ms ls C hc hs hl hH hS hz
theorem K_dup {v : Value} (hd : decode md.2.1 pc = .ok (.dup, 1)) (hv : v.category = 1) (k : KJ X md d ex po sk cr sr (pc + 1) l (v :: v :: st) μ) : KJ X md d ex po sk cr sr (pc) l (v :: st) μ := by
  intro p l0 e R s m args below meth c H locs cells slots mc ms ls C hc hs hl hH hS hz
  refine lv_dup C.1 C.2.1 hd hv ?_
  exact k p l0 e R s m args below meth c H locs cells slots mc ms ls C hc hs hl hH hS hz
theorem K_dup2 {v w : Value} (hd : decode md.2.1 pc = .ok (.dup2, 1)) (hv : v.category = 1) (hw : w.category = 1) (k : KJ X md d ex po sk cr sr (pc + 1) l (v :: w :: v :: w :: st) μ) : KJ X md d ex po sk cr sr (pc) l (v :: w :: st) μ := by
  intro p l0 e R s m args below meth c H locs cells slots mc ms ls C hc hs hl hH hS hz
  refine lv_dup2_11 C.1 C.2.1 hd hv hw ?_
  exact k p l0 e R s m args below meth c H locs cells slots mc ms ls C hc hs hl hH hS hz
theorem K_pop {v : Value} (hd : decode md.2.1 pc = .ok (.pop, 1)) (hv : v.category = 1) (k : KJ X md d ex po sk cr sr (pc + 1) l (st) μ) : KJ X md d ex po sk cr sr (pc) l (v :: st) μ := by
  intro p l0 e R s m args below meth c H locs cells slots mc ms ls C hc hs hl hH hS hz
  refine lv_pop C.1 C.2.1 hd hv ?_
  exact k p l0 e R s m args below meth c H locs cells slots mc ms ls C hc hs hl hH hS hz
theorem K_sub {l' : List (Nat × Value)} (js : List Nat) (hj : lv_pick l js = l') (k : KJ X md d ex po sk cr sr (pc) l' (st) μ) : KJ X md d ex po sk cr sr (pc) l (st) μ := by
  intro p l0 e R s m args below meth c H locs cells slots mc ms ls C hc hs hl hH hS hz
  exact k p l0 e R s m args below meth c H locs cells slots mc ms ls C hc hs (lv_sub hl js hj) hH hS hz
end KR

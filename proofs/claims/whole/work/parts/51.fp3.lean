/-! the class's own bits of a double and of a float -/
theorem b_ofN {n : Nat} : (iL (n : Int)).toBitVec = BitVec.ofNat 64 n := by
  show BitVec.ofInt 64 (n : Int) = _
  exact BitVec.ofInt_natCast 64 n
theorem b_int {x : Int64} {n : Nat} (h : x.toBitVec.toNat = n) (hn : n < 9223372036854775808) : x.toInt = (n : Int) := by
  show x.toBitVec.toInt = _
  rw [BitVec.toInt_eq_toNat_of_lt (by omega), h]
theorem or_bits {E T : Nat} (hE : E < 2047) (hT : T < 4503599627370496) : orL (shlL (E : Int) 52) (T : Int) = ((E * 4503599627370496 + T : Nat) : Int) := by
  unfold orL shlL
  have e : (iI 52).toInt64 &&& 63 = 52 := by decide
  rw [e]
  have e2 : iL (iL (E : Int) <<< (52 : Int64)).toInt = iL (E : Int) <<< (52 : Int64) := Int64.ofInt_toInt _
  rw [e2]
  refine b_int ?_ (by omega)
  rw [Int64.toBitVec_or, Int64.toBitVec_shiftLeft, BitVec.toNat_or, b_ofN, b_ofN]
  have e3 : (52 : Int64).toBitVec.smod 64 = 52#64 := by decide
  rw [e3, BitVec.shiftLeft_eq', BitVec.toNat_shiftLeft, BitVec.toNat_ofNat, BitVec.toNat_ofNat, BitVec.toNat_ofNat, Nat.mod_eq_of_lt (show E < 2 ^ 64 by omega), Nat.mod_eq_of_lt (show T < 2 ^ 64 by omega)]
  rw [show 52 % 2 ^ 64 = 52 from rfl, Nat.mod_eq_of_lt (by rw [Nat.shiftLeft_eq]; omega), ← Nat.shiftLeft_add_eq_or_of_lt (show T < 2 ^ 52 from hT), Nat.shiftLeft_eq]
theorem shr_bits {n : Nat} (h : n < 9223372036854775808) : ushrL (n : Int) 29 = ((n / 536870912 : Nat) : Int) := by
  unfold ushrL
  have e : (iI 29).toInt64.toUInt64 &&& Int64.toUInt64 63 = 29 := by decide
  rw [e]
  refine b_int ?_ (by omega)
  show ((iL (n : Int)).toUInt64 >>> (29 : UInt64)).toNat = _
  rw [UInt64.toNat_shiftRight]
  have e3 : (29 : UInt64).toNat % 64 = 29 := by decide
  have e4 : (iL (n : Int)).toUInt64.toNat = n := by
    show (iL (n : Int)).toBitVec.toNat = n
    rw [b_ofN, BitVec.toNat_ofNat, Nat.mod_eq_of_lt (by omega)]
  rw [e3, e4, Nat.shiftRight_eq_div_pow]
def cvO : Ordering → Int
  | .lt => -1
  | .eq => 0
  | .gt => 1
theorem dcI_of {op : CmpOp} {x y : UInt64} {o : Ordering} (h : FP.dcmp x y = some o) : dcI op x y = cvO o := by
  unfold dcI
  rw [h]
  cases o <;> rfl
theorem db_18 {p0 : UInt64} {T : Nat} (K : UInt64 → Int → Mu → Option Res) (μ : Mu) : ∀ (n fu : Nat) (x : UInt64) (v : Int) (i : Int), n < 200 → Dn x.toNat (1023 + n) T → n < fu → 0 ≤ i → i + n < 1000 → ∃ y : UInt64, f_X10_doubleBits_18 p0 K fu x v i μ = K y (v + n) μ ∧ Dn y.toNat 1023 T
  | 0, fu + 1, x, v, i, hn, hx, hf, h0, hi => by
    refine ⟨x, ?_, hx⟩
    rw [f_X10_doubleBits_18, p_lt (by omega), if_pos (by omega), dcI_of (u_lt hx u_two (by omega))]
    rw [p_lt (by decide), if_pos (by decide)]
    congr 1; omega
  | n + 1, fu + 1, x, v, i, hn, hx, hf, h0, hi => by
    have h2 := u_half hx (by omega)
    obtain ⟨y, a1, a2⟩ := db_18 K μ n fu (FP.ddiv x 4611686018427387904) (v + 1) (i + 1) (by omega) (h2.to (by omega) rfl) (by omega) (by omega) (by omega)
    refine ⟨y, ?_, a2⟩
    have hc : dcI .l x 4611686018427387904 = 0 ∨ dcI .l x 4611686018427387904 = 1 := by
      rcases u_ge hx u_two (by omega) with w | w
      · exact Or.inl (dcI_of w)
      · exact Or.inr (dcI_of w)
    rw [f_X10_doubleBits_18, p_lt (by omega), if_pos (by omega), p_lt (by omega), if_neg (by omega), d_ckn (by have := h2.lt; omega), p_bnd, a1]
    congr 1; omega
theorem db_55 {p0 : UInt64} {T : Nat} (K : UInt64 → Int → Mu → Option Res) (μ : Mu) : ∀ (n fu E : Nat) (x : UInt64) (v : Int) (i : Int), E + n = 1023 → n < 200 → Dn x.toNat E T → n < fu → 0 ≤ i → i + n < 1000 → ∃ y : UInt64, f_X10_doubleBits_55 p0 K fu x v i μ = K y (v - n) μ ∧ Dn y.toNat 1023 T
  | 0, fu + 1, E, x, v, i, hE, hn, hx, hf, h0, hi => by
    have hx' := hx.to (show E = 1023 by omega) rfl
    refine ⟨x, ?_, hx'⟩
    have hc : dcI .g x FP.dconst1 = 0 ∨ dcI .g x FP.dconst1 = 1 := by
      rcases u_ge hx' u_one (by omega) with w | w
      · exact Or.inl (dcI_of w)
      · exact Or.inr (dcI_of w)
    rw [f_X10_doubleBits_55, p_lt (by omega), if_pos (by omega), p_lt (by omega), if_neg (by omega)]
    congr 1; omega
  | n + 1, fu + 1, E, x, v, i, hE, hn, hx, hf, h0, hi => by
    have h2 := u_mul hx u_two (by omega)
    obtain ⟨y, a1, a2⟩ := db_55 K μ n fu (E + 1) (FP.dmul x 4611686018427387904) (v - 1) (i + 1) (by omega) (by omega) (h2.to (by omega) rfl) (by omega) (by omega) (by omega)
    refine ⟨y, ?_, a2⟩
    have hc : dcI .g x FP.dconst1 = -1 := dcI_of (u_lt hx u_one (by omega))
    rw [f_X10_doubleBits_55, p_lt (by omega), if_pos (by omega), p_lt (by omega), if_pos (by omega), d_ckn (by have := h2.lt; omega), p_bnd, a1]
    congr 1; omega
theorem db_87 {p0 x : UInt64} {T E : Nat} (μ : Mu) (hx : Dn x.toNat 1023 T) (hE : E < 2047) : f_X10_doubleBits_87 p0 x (E : Int) μ = some (μ, 0, ((E * 4503599627370496 + T : Nat) : Int)) := by
  obtain ⟨⟨a1, a2⟩, a3⟩ := u_frac hx
  unfold f_X10_doubleBits_87
  rw [d_ckn a1, d_ckn a2, a3, or_bits hE hx.2.2.2]
theorem c_dbits {x : UInt64} {E T : Nat} (μ : Mu) (hx : Dn x.toNat E T) (hE : 900 ≤ E ∧ E ≤ 1200) : f_X10_doubleBits x μ = some (μ, 0, (x.toNat : Int)) := by
  unfold f_X10_doubleBits
  have hp : dcI .l x FP.dconst0 = 1 := dcI_of (u_pos hx)
  rw [hp, p_lt (by omega), if_pos (by omega)]
  have hxx := hx.1
  by_cases p : 1023 ≤ E
  · obtain ⟨n, rfl⟩ := Nat.le.dest p
    obtain ⟨y, a1, a2⟩ := db_18 (p0 := x) (fun v2 v4 μ => f_X10_doubleBits_52 x v2 v4 μ) μ n FU x 1023 0 (by omega) hx (by unfold FU; omega) (by omega) (by omega)
    refine Eq.trans a1 ?_
    unfold f_X10_doubleBits_52
    obtain ⟨z, b1, b2'⟩ := db_55 (p0 := x) (fun v2 v4 μ => f_X10_doubleBits_87 x v2 v4 μ) μ 0 FU 1023 y (1023 + (n : Int)) 0 (by omega) (by omega) a2 (by unfold FU; omega) (by omega) (by omega)
    refine Eq.trans b1 ?_
    rw [show (1023 : Int) + n - ((0 : Nat) : Int) = ((1023 + n : Nat) : Int) by omega]
    rw [db_87 μ b2' (by omega), hxx]
  · have h18 : f_X10_doubleBits_18 x (fun v2 v4 μ => f_X10_doubleBits_52 x v2 v4 μ) FU x 1023 0 μ = f_X10_doubleBits_52 x x 1023 μ := by
      show f_X10_doubleBits_18 x (fun v2 v4 μ => f_X10_doubleBits_52 x v2 v4 μ) (FU - 1 + 1) x 1023 0 μ = _
      rw [f_X10_doubleBits_18, p_lt (by omega), if_pos (by omega), dcI_of (u_lt hx u_two (by omega))]
      rw [p_lt (by decide), if_pos (by decide)]
    rw [h18]
    unfold f_X10_doubleBits_52
    obtain ⟨z, b1, b2'⟩ := db_55 (p0 := x) (fun v2 v4 μ => f_X10_doubleBits_87 x v2 v4 μ) μ (1023 - E) FU E x 1023 0 (by omega) (by omega) hx (by unfold FU; omega) (by omega) (by omega)
    refine Eq.trans b1 ?_
    rw [show (1023 : Int) - ((1023 - E : Nat) : Int) = ((E : Nat) : Int) by omega]
    rw [db_87 μ b2' (by omega), hxx]
theorem c_dbits0 (μ : Mu) : f_X10_doubleBits 0 μ = some (μ, 0, 0) := by
  unfold f_X10_doubleBits
  have hp : dcI .l 0 FP.dconst0 = 0 := by decide +kernel
  rw [hp, p_lt (by omega), if_neg (by omega)]
theorem u_int {x : UInt64} (h : x.toNat < 9223372036854775808) : x.toInt64.toInt = (x.toNat : Int) := b_int rfl h
theorem r_dbits {x : UInt64} {E T : Nat} (μ : Mu) (hx : Dn x.toNat E T) : f_Jxe99ae_doubleToLongBits_ccdee x μ = some (μ, 0, (x.toNat : Int)) := by
  unfold f_Jxe99ae_doubleToLongBits_ccdee f_Jxe99ae_isNaN_b9ae7 f_Jxe99ae_isNaN_b9ae7_11
  have h0 : dcI .l x x = 0 := dcI_of (u_self hx)
  rw [h0, p_eq (by omega), if_pos rfl, p_Z0, p_rb, p_eq (by omega), if_pos rfl, u_int (by have := hx.lt; omega)]
theorem r_dbits0 (μ : Mu) : f_Jxe99ae_doubleToLongBits_ccdee 0 μ = some (μ, 0, 0) := by
  unfold f_Jxe99ae_doubleToLongBits_ccdee f_Jxe99ae_isNaN_b9ae7 f_Jxe99ae_isNaN_b9ae7_11
  have h0 : dcI .l 0 0 = 0 := by decide +kernel
  rw [h0, p_eq (by omega), if_pos rfl, p_Z0, p_rb, p_eq (by omega), if_pos rfl]; rfl

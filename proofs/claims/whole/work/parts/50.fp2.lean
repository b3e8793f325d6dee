/-! doubles: the operations that the class uses -/
theorem Dn.lt {n E T : Nat} (h : Dn n E T) : 4503599627370496 ≤ n ∧ n < 9218868437227405312 := by
  obtain ⟨h1, h2, h3, h4⟩ := h
  omega
theorem u_of {n : Nat} (h : n < 18446744073709551616) : (UInt64.ofNat n).toNat = n := UInt64.toNat_ofNat_of_lt h
theorem d_ckn {α : Type} {x : UInt64} {k : UInt64 → Option α} (h : x.toNat ≤ 9218868437227405312) : d_ck x k = k x := by
  unfold d_ck
  rw [if_pos]
  rw [UInt64.le_iff_toNat_le, UInt64.toNat_and]
  exact Nat.le_trans Nat.and_le_left h
theorem d_mk {c : Nat} {q : Int} {d : FP.Core.Datum} (hd : d = .fin false c q) (h : 4503599627370496 ≤ c ∧ c < 9007199254740992) (hq : -1074 ≤ q ∧ q ≤ 971) : Dn (UInt64.ofNat (FP.Core.encode FP.Core.b64 d)).toNat (q + 1075).toNat (c - 4503599627370496) := by
  have a := d_enc h hq
  rw [hd, u_of (by have := a.lt; omega)]
  exact a
theorem Dn.to {n E T E' T' : Nat} (h : Dn n E T) (h1 : E = E') (h2 : T = T') : Dn n E' T' := by subst h1; subst h2; exact h
theorem u_div {x y : UInt64} {E1 T1 E2 T2 : Nat} (hx : Dn x.toNat E1 T1) (hy : Dn y.toNat E2 T2) (h : E2 ≤ E1 + 900 ∧ E1 ≤ E2 + 800) : ∃ E3 T3, Dn (FP.ddiv x y).toNat E3 T3 ∧ E1 + 1022 ≤ E3 + E2 ∧ E3 + E2 ≤ E1 + 1024 := by
  obtain ⟨c', q', a1, a2, a3, a4⟩ := f_div (c := 4503599627370496 + T1) (d := 4503599627370496 + T2) (e := ((E1 : Int) - 1075) - ((E2 : Int) - 1075)) (by have := hx.2.2.2; omega) (by have := hy.2.2.2; omega) (by omega)
  have hd : FP.Core.quotient FP.Core.b64 (FP.Core.decode FP.Core.b64 x.toNat) (FP.Core.decode FP.Core.b64 y.toNat) = .fin false c' q' := by
    rw [d_dec hx, d_dec hy]
    simp only [FP.Core.quotient]
    rw [if_neg (by omega)]
    exact a1
  exact ⟨_, _, d_mk hd a2 (by omega), by omega, by omega⟩
theorem u_two : Dn (4611686018427387904 : UInt64).toNat 1024 0 := ⟨rfl, by omega, by omega, by omega⟩
theorem u_one : Dn FP.dconst1.toNat 1023 0 := ⟨rfl, by omega, by omega, by omega⟩
theorem u_p52 : Dn (4841369599423283200 : UInt64).toNat 1075 0 := ⟨rfl, by omega, by omega, by omega⟩
theorem u_120 : ∃ T, Dn (4638144666238189568 : UInt64).toNat 1029 T := ⟨(4638144666238189568 : Nat) - 1029 * 4503599627370496, by unfold Dn; refine ⟨rfl, by omega, by omega, by omega⟩⟩
theorem u_half {x : UInt64} {E T : Nat} (hx : Dn x.toNat E T) (h : 100 ≤ E ∧ E ≤ 1900) : Dn (FP.ddiv x 4611686018427387904).toNat (E - 1) T := by
  have hT := hx.2.2.2
  have hd : FP.Core.quotient FP.Core.b64 (FP.Core.decode FP.Core.b64 x.toNat) (FP.Core.decode FP.Core.b64 (4611686018427387904 : UInt64).toNat) = .fin false (4503599627370496 + T) (((E : Int) - 1075) - (((1024 : Nat) : Int) - 1075) - 52) := by
    rw [d_dec hx, d_dec u_two]
    simp only [FP.Core.quotient]
    rw [if_neg (by omega)]
    refine Eq.trans (f_divc (by omega) (by omega) (by omega)) ?_
    rw [if_pos (by omega), Nat.add_zero, f_nearM _ (by omega), f_settle (by omega) (by omega)]
  exact (d_mk hd (by omega) (by omega)).to (by omega) (by omega)
theorem u_mul {x y : UInt64} {E E2 T : Nat} (hx : Dn x.toNat E T) (hy : Dn y.toNat E2 0) (h : 1024 ≤ E + E2 ∧ E + E2 ≤ 3000) : Dn (FP.dmul x y).toNat (E + E2 - 1023) T := by
  have hT := hx.2.2.2
  have hd : FP.Core.round FP.Core.b64 (FP.Core.exactProduct (FP.Core.decode FP.Core.b64 x.toNat) (FP.Core.decode FP.Core.b64 y.toNat)) = .fin false (4503599627370496 + T) (((E : Int) - 1075) + ((E2 : Int) - 1075) + 52) := by
    rw [d_dec hx, d_dec hy]
    simp only [FP.Core.exactProduct, FP.Core.round]
    rw [Nat.add_zero]
    exact f_mulp (by omega) (by omega)
  exact (d_mk hd (by omega) (by omega)).to (by omega) (by omega)
theorem cmp_int {a b : Int} : compare a b = if a < b then Ordering.lt else if a = b then Ordering.eq else Ordering.gt := rfl
theorem u_lt {x y : UInt64} {E1 T1 E2 T2 : Nat} (hx : Dn x.toNat E1 T1) (hy : Dn y.toNat E2 T2) (h : E1 < E2) : FP.dcmp x y = some .lt := by
  have h1 := hx.2.2.2
  have h2 := hy.2.2.2
  show FP.Core.order (FP.Core.decode FP.Core.b64 x.toNat) (FP.Core.decode FP.Core.b64 y.toNat) = _
  rw [d_dec hx, d_dec hy]
  simp only [FP.Core.order, FP.Core.signed, FP.Core.inUnits, Bool.false_eq_true, ↓reduceIte]
  rw [show min ((E1 : Int) - 1075) ((E2 : Int) - 1075) = (E1 : Int) - 1075 by omega, show ((E1 : Int) - 1075 - ((E1 : Int) - 1075)).toNat = 0 by omega, show ((E2 : Int) - 1075 - ((E1 : Int) - 1075)).toNat = (E2 - E1 - 1) + 1 by omega, Nat.pow_succ]
  have hp := Nat.two_pow_pos (E2 - E1 - 1)
  have hm : (4503599627370496 + T2) * (1 * 2) ≤ (4503599627370496 + T2) * (2 ^ (E2 - E1 - 1) * 2) := Nat.mul_le_mul_left _ (by omega)
  rw [cmp_int, if_pos (by rw [show (4503599627370496 + T1) * 2 ^ 0 = 4503599627370496 + T1 by omega]; omega)]
theorem u_ge {x y : UInt64} {E1 T1 E2 : Nat} (hx : Dn x.toNat E1 T1) (hy : Dn y.toNat E2 0) (h : E2 ≤ E1) : FP.dcmp x y = some .eq ∨ FP.dcmp x y = some .gt := by
  have h1 := hx.2.2.2
  have e : FP.dcmp x y = FP.Core.order (FP.Core.decode FP.Core.b64 x.toNat) (FP.Core.decode FP.Core.b64 y.toNat) := rfl
  rw [e, d_dec hx, d_dec hy]
  simp only [FP.Core.order, FP.Core.signed, FP.Core.inUnits, Bool.false_eq_true, ↓reduceIte]
  rw [show min ((E1 : Int) - 1075) ((E2 : Int) - 1075) = (E2 : Int) - 1075 by omega, show ((E2 : Int) - 1075 - ((E2 : Int) - 1075)).toNat = 0 by omega]
  have hp := Nat.two_pow_pos ((E1 : Int) - 1075 - ((E2 : Int) - 1075)).toNat
  have hm : (4503599627370496 + T1) * 1 ≤ (4503599627370496 + T1) * 2 ^ ((E1 : Int) - 1075 - ((E2 : Int) - 1075)).toNat := Nat.mul_le_mul_left _ (by omega)
  rw [cmp_int, if_neg (by rw [show (4503599627370496 + 0) * 2 ^ 0 = 4503599627370496 by omega]; omega)]
  split
  · exact Or.inl rfl
  · exact Or.inr rfl
theorem u_pos {x : UInt64} {E T : Nat} (hx : Dn x.toNat E T) : FP.dcmp x FP.dconst0 = some .gt := by
  have h1 := hx.2.2.2
  show FP.Core.order (FP.Core.decode FP.Core.b64 x.toNat) (FP.Core.decode FP.Core.b64 FP.dconst0.toNat) = _
  have e : FP.Core.decode FP.Core.b64 FP.dconst0.toNat = .fin false 0 (-1074) := rfl
  rw [d_dec hx, e]
  simp only [FP.Core.order, FP.Core.signed, FP.Core.inUnits, Bool.false_eq_true, ↓reduceIte]
  generalize ((E : Int) - 1075 - min ((E : Int) - 1075) (-1074)).toNat = j
  have hp := Nat.two_pow_pos j
  have hm : (4503599627370496 + T) * 1 ≤ (4503599627370496 + T) * 2 ^ j := Nat.mul_le_mul_left _ (by omega)
  rw [Nat.zero_mul, cmp_int, if_neg (by omega), if_neg (by omega)]
theorem u_self {x : UInt64} {E T : Nat} (hx : Dn x.toNat E T) : FP.dcmp x x = some .eq := by
  show FP.Core.order (FP.Core.decode FP.Core.b64 x.toNat) (FP.Core.decode FP.Core.b64 x.toNat) = _
  rw [d_dec hx]
  simp only [FP.Core.order]
  rw [cmp_int, if_neg (by omega), if_pos rfl]
/-- what stands behind the point -/
theorem u_frac {x : UInt64} {T : Nat} (hx : Dn x.toNat 1023 T) : ((FP.dsub x FP.dconst1).toNat ≤ 9218868437227405312 ∧ (FP.dmul (FP.dsub x FP.dconst1) 4841369599423283200).toNat ≤ 9218868437227405312) ∧ (FP.d2l (FP.dmul (FP.dsub x FP.dconst1) 4841369599423283200)).toInt = (T : Int) := by
  have hT := hx.2.2.2
  have hs : FP.Core.exactSum (FP.Core.decode FP.Core.b64 x.toNat) (FP.Core.negate (FP.Core.decode FP.Core.b64 FP.dconst1.toNat)) = .fin false T (-52) := by
    rw [d_dec hx, d_dec u_one]
    simp only [FP.Core.negate, FP.Core.exactSum]
    have e1 : min (((1023 : Nat) : Int) - 1075) (((1023 : Nat) : Int) - 1075) = -52 := rfl
    have e2 : FP.Core.sumUnits false (4503599627370496 + T) (((1023 : Nat) : Int) - 1075) (!false) (4503599627370496 + 0) (((1023 : Nat) : Int) - 1075) (-52) = (T : Int) := by
      unfold FP.Core.sumUnits FP.Core.signed FP.Core.inUnits
      rw [show ((((1023 : Nat) : Int) - 1075) - -52).toNat = 0 from rfl, if_neg (by decide), if_pos (show (!false) = true from rfl)]
      omega
    rw [e1, e2]
    have e3 : FP.Core.sumSign false (!false) (T : Int) = false := by
      unfold FP.Core.sumSign
      split
      · rfl
      · exact decide_eq_false (by omega)
    rw [e3, Int.natAbs_natCast]
  have hsub : FP.dsub x FP.dconst1 = UInt64.ofNat (FP.Core.encode FP.Core.b64 (FP.Core.roundRatio FP.Core.b64 false T 1 (-52))) := by
    show UInt64.ofNat (FP.Core.encode FP.Core.b64 (FP.Core.round FP.Core.b64 (FP.Core.exactSum (FP.Core.decode FP.Core.b64 x.toNat) (FP.Core.negate (FP.Core.decode FP.Core.b64 FP.dconst1.toNat))))) = _
    rw [hs]; rfl
  by_cases p : T = 0
  · subst p
    have e0 : FP.dsub x FP.dconst1 = 0 := by rw [hsub]; decide +kernel
    rw [e0]
    decide +kernel
  · have k1 : 2 ^ T.log2 ≤ T := Nat.log2_self_le p
    have k2 : T < 2 ^ (T.log2 + 1) := Nat.lt_log2_self
    have k3 : T.log2 < 52 := (Nat.log2_lt p).mpr hT
    generalize T.log2 = k at k1 k2 k3
    have sh := f_shift k1 k2 (by omega)
    have d1 := d_mk (f_small (e := -52) k1 k2 (by omega) (by omega)) sh (by omega)
    rw [← hsub] at d1
    have d2 := u_mul d1 u_p52 (by omega)
    refine ⟨⟨by have := d1.lt; omega, by have := d2.lt; omega⟩, ?_⟩
    show (FP.Core.toL (FP.Core.decode FP.Core.b64 _)).toInt = _
    rw [d_dec d2]
    unfold FP.Core.toL
    simp only [FP.Core.toInt, FP.Core.truncate, FP.Core.signed, Bool.false_eq_true, ↓reduceIte]
    rw [show 4503599627370496 + (T * 2 ^ (52 - k) - 4503599627370496) = T * 2 ^ (52 - k) by omega]
    rw [show ((((k : Int) + -52 - 52 + 1075).toNat + 1075 - 1023 : Nat) : Int) - 1075 = (k : Int) - 52 by omega, show ((k : Int) - 52).toNat = 0 by omega, show (-((k : Int) - 52)).toNat = 52 - k by omega, show T * 2 ^ (52 - k) * 2 ^ 0 = T * 2 ^ (52 - k) by omega, Nat.mul_div_cancel _ (Nat.two_pow_pos _)]
    rw [show max (-2 ^ 63) (min (2 ^ 63 - 1) (T : Int)) = (T : Int) by omega]
    exact Int64.toInt_ofInt_of_le (by omega) (by omega)

/-! numbers with a binary point: what is exact -/
def Dn (n E T : Nat) : Prop := n = E * 4503599627370496 + T ∧ 1 ≤ E ∧ E ≤ 2046 ∧ T < 4503599627370496
theorem f_lg {n k : Nat} (h1 : 2 ^ k ≤ n) (h2 : n < 2 ^ (k + 1)) : n.log2 = k := by
  have h0 : n ≠ 0 := by have := Nat.two_pow_pos k; omega
  exact (Nat.log2_eq_iff h0).mpr ⟨h1, h2⟩
theorem f_lg52 {c : Nat} (h : 4503599627370496 ≤ c ∧ c < 9007199254740992) : c.log2 = 52 := f_lg (show 2 ^ 52 ≤ c from h.1) (show c < 2 ^ 53 from h.2)
theorem d_dec {n E T : Nat} (h : Dn n E T) : FP.Core.decode FP.Core.b64 n = .fin false (4503599627370496 + T) ((E : Int) - 1075) := by
  obtain ⟨rfl, h1, h2, h3⟩ := h
  have t : FP.Core.b64.tails = 4503599627370496 := rfl
  have e : FP.Core.b64.exps = 2048 := rfl
  have q : FP.Core.b64.qmin = -1074 := rfl
  have a1 : (E * 4503599627370496 + T) / 4503599627370496 = E := by omega
  have a2 : (E * 4503599627370496 + T) % 4503599627370496 = T := by omega
  have a3 : E % 2048 = E := by omega
  have a4 : E / 2048 = 0 := by omega
  unfold FP.Core.decode FP.Core.fieldE FP.Core.fieldT FP.Core.fieldS
  rw [t, e, q, a1, a2, a3, a4, if_neg (by omega), if_neg (by omega)]
  congr 1
  omega
theorem d_enc {c : Nat} {q : Int} (h : 4503599627370496 ≤ c ∧ c < 9007199254740992) (hq : -1074 ≤ q ∧ q ≤ 971) : Dn (FP.Core.encode FP.Core.b64 (.fin false c q)) (q + 1075).toNat (c - 4503599627370496) := by
  have t : FP.Core.b64.tails = 4503599627370496 := rfl
  have e : FP.Core.b64.exps = 2048 := rfl
  have q0 : FP.Core.b64.qmin = -1074 := rfl
  refine ⟨?_, by omega, by omega, by omega⟩
  simp only [FP.Core.encode]
  rw [t, if_neg (by omega)]
  unfold FP.Core.assemble
  rw [t, e, q0, Bool.toNat_false]
  omega
theorem f_quant {num den : Nat} {e k : Int} (hl : FP.Core.leading num den = k) (h : -1074 ≤ k + e - 52) : FP.Core.quantum FP.Core.b64 num den e = k + e - 52 := by
  have q0 : FP.Core.b64.qmin = -1074 := rfl
  have p0 : FP.Core.b64.p = 53 := rfl
  unfold FP.Core.quantum
  rw [hl, q0, p0]
  omega
theorem f_near1 (n : Nat) : FP.Core.nearest n 1 = n := by
  unfold FP.Core.nearest
  rw [if_pos (by omega), Nat.div_one]
theorem f_nearM (c : Nat) {d : Nat} (hd : 0 < d) : FP.Core.nearest (c * d) d = c := by
  unfold FP.Core.nearest
  rw [Nat.mul_mod_left, if_pos (by omega), Nat.mul_div_cancel _ hd]
theorem f_settle {c : Nat} {q : Int} (h : c < 9007199254740992) (hq : q ≤ 971) : FP.Core.settle FP.Core.b64 false c q = .fin false c q := by
  have p0 : FP.Core.b64.p = 53 := rfl
  have q1 : FP.Core.b64.qmax = 971 := rfl
  unfold FP.Core.settle FP.Core.bound
  rw [p0, q1, if_pos (show c < 2 ^ 53 from h), if_pos hq]
/-- a small whole number times a power of two -/
theorem f_small {v k : Nat} {e : Int} (h1 : 2 ^ k ≤ v) (h2 : v < 2 ^ (k + 1)) (hk : k ≤ 52) (hq : -1074 ≤ (k : Int) + e - 52 ∧ (k : Int) + e - 52 ≤ 971) : FP.Core.roundRatio FP.Core.b64 false v 1 e = .fin false (v * 2 ^ (52 - k)) ((k : Int) + e - 52) := by
  have h0 := Nat.two_pow_pos k
  have hl : FP.Core.leading v 1 = (k : Int) := by
    unfold FP.Core.leading
    rw [f_lg h1 h2]
    have e1 : (1 : Nat).log2 = 0 := by decide
    rw [e1]
    simp only [Int.natCast_zero, Int.sub_zero, Int.toNat_natCast]
    rw [show (-(k : Int)).toNat = 0 by omega, if_pos (by omega)]
  have hv : v * 2 ^ (52 - k) < 9007199254740992 := by
    have : v * 2 ^ (52 - k) < 2 ^ (k + 1) * 2 ^ (52 - k) := Nat.mul_lt_mul_of_pos_right h2 (Nat.two_pow_pos _)
    rw [← Nat.pow_add, show k + 1 + (52 - k) = 53 by omega] at this
    exact this
  unfold FP.Core.roundRatio
  rw [if_neg (by omega)]
  unfold FP.Core.roundAt
  rw [f_quant hl hq.1]
  unfold FP.Core.unitsNum FP.Core.unitsDen
  rw [show (e - ((k : Int) + e - 52)).toNat = 52 - k by omega, show ((k : Int) + e - 52 - e).toNat = 0 by omega]
  rw [show 1 * 2 ^ 0 = 1 from rfl, f_near1, f_settle hv hq.2]
theorem f_shift {v k : Nat} (h1 : 2 ^ k ≤ v) (h2 : v < 2 ^ (k + 1)) (hk : k ≤ 52) : 4503599627370496 ≤ v * 2 ^ (52 - k) ∧ v * 2 ^ (52 - k) < 9007199254740992 := by
  constructor
  · have : 2 ^ k * 2 ^ (52 - k) ≤ v * 2 ^ (52 - k) := Nat.mul_le_mul_right _ h1
    rw [← Nat.pow_add, show k + (52 - k) = 52 by omega] at this
    exact this
  · have : v * 2 ^ (52 - k) < 2 ^ (k + 1) * 2 ^ (52 - k) := Nat.mul_lt_mul_of_pos_right h2 (Nat.two_pow_pos _)
    rw [← Nat.pow_add, show k + 1 + (52 - k) = 53 by omega] at this
    exact this
/-- times a power of two -/
theorem f_mulp {c : Nat} {e : Int} (h : 4503599627370496 ≤ c ∧ c < 9007199254740992) (hq : -1074 ≤ e + 52 ∧ e + 52 ≤ 971) : FP.Core.roundRatio FP.Core.b64 false (c * 4503599627370496) 1 e = .fin false c (e + 52) := by
  have hl : FP.Core.leading (c * 4503599627370496) 1 = 104 := by
    have e0 : (c * 4503599627370496).log2 = 104 := f_lg (by
      show 20282409603651670423947251286016 ≤ _; omega) (by
      show _ < 40564819207303340847894502572032; omega)
    have e1 : (1 : Nat).log2 = 0 := by decide
    unfold FP.Core.leading
    rw [e0, e1]
    have e2 : (((104 : Nat) : Int) - ((0 : Nat) : Int)).toNat = 104 := rfl
    have e3 : (-(((104 : Nat) : Int) - ((0 : Nat) : Int))).toNat = 0 := rfl
    simp only [e2, e3]
    rw [if_pos (by omega)]; rfl
  unfold FP.Core.roundRatio
  rw [if_neg (by omega)]
  unfold FP.Core.roundAt
  rw [f_quant hl (by omega)]
  unfold FP.Core.unitsNum FP.Core.unitsDen
  rw [show (e - (104 + e - 52)).toNat = 0 by omega, show (104 + e - 52 - e).toNat = 52 by omega]
  rw [show c * 4503599627370496 * 2 ^ 0 = c * 4503599627370496 by omega, show 1 * 2 ^ 52 = 4503599627370496 from rfl, f_nearM c (by omega), f_settle h.2 (by omega)]
  congr 1
  omega
/-- a quotient of two full numbers -/
theorem f_divc {c d : Nat} {e : Int} (hc : 4503599627370496 ≤ c ∧ c < 9007199254740992) (hd : 4503599627370496 ≤ d ∧ d < 9007199254740992) (he : -1000 ≤ e ∧ e ≤ 900) : FP.Core.roundRatio FP.Core.b64 false c d e = if d ≤ c then FP.Core.settle FP.Core.b64 false (FP.Core.nearest (c * 4503599627370496) d) (e - 52) else FP.Core.settle FP.Core.b64 false (FP.Core.nearest (c * 9007199254740992) d) (e - 53) := by
  have hl : FP.Core.leading c d = if d ≤ c then 0 else -1 := by
    unfold FP.Core.leading
    rw [f_lg52 hc, f_lg52 hd]
    have e2 : (((52 : Nat) : Int) - ((52 : Nat) : Int)).toNat = 0 := rfl
    have e3 : (-(((52 : Nat) : Int) - ((52 : Nat) : Int))).toNat = 0 := rfl
    simp only [e2, e3]
    by_cases p : d ≤ c
    · rw [if_pos (by omega), if_pos p]; rfl
    · rw [if_neg (by omega), if_neg p]; rfl
  unfold FP.Core.roundRatio
  rw [if_neg (by omega)]
  unfold FP.Core.roundAt
  by_cases p : d ≤ c
  · rw [if_pos p] at hl ⊢
    rw [f_quant hl (by omega)]
    unfold FP.Core.unitsNum FP.Core.unitsDen
    rw [show (e - (0 + e - 52)).toNat = 52 by omega, show (0 + e - 52 - e).toNat = 0 by omega, show d * 2 ^ 0 = d by omega, show (2 : Nat) ^ 52 = 4503599627370496 from rfl, show 0 + e - 52 = e - 52 by omega]
  · rw [if_neg p] at hl ⊢
    rw [f_quant hl (by omega)]
    unfold FP.Core.unitsNum FP.Core.unitsDen
    rw [show (e - (-1 + e - 52)).toNat = 53 by omega, show (-1 + e - 52 - e).toNat = 0 by omega, show d * 2 ^ 0 = d by omega, show (2 : Nat) ^ 53 = 9007199254740992 from rfl, show -1 + e - 52 = e - 53 by omega]
theorem f_near {a d m M : Nat} (hd : 0 < d) (h1 : m * d ≤ a) (h2 : a < M * d) : m ≤ FP.Core.nearest a d ∧ FP.Core.nearest a d ≤ M := by
  have a1 : m ≤ a / d := (Nat.le_div_iff_mul_le hd).mpr h1
  have a2 : a / d < M := (Nat.div_lt_iff_lt_mul hd).mpr h2
  unfold FP.Core.nearest
  split
  · omega
  · split
    · omega
    · omega
theorem f_set {n : Nat} {q : Int} (h : 4503599627370496 ≤ n ∧ n ≤ 9007199254740992) (hq : -1060 ≤ q ∧ q ≤ 960) : ∃ c' q', FP.Core.settle FP.Core.b64 false n q = .fin false c' q' ∧ (4503599627370496 ≤ c' ∧ c' < 9007199254740992) ∧ q ≤ q' ∧ q' ≤ q + 1 := by
  by_cases p : n < 9007199254740992
  · exact ⟨n, q, f_settle p (by omega), ⟨h.1, p⟩, by omega, by omega⟩
  · refine ⟨4503599627370496, q + 1, ?_, ⟨by omega, by omega⟩, by omega, by omega⟩
    have p0 : FP.Core.b64.p = 53 := rfl
    have q1 : FP.Core.b64.qmax = 971 := rfl
    have t : FP.Core.b64.tails = 4503599627370496 := rfl
    unfold FP.Core.settle FP.Core.bound
    rw [p0, q1, t, if_neg (fun w => p w), if_pos (by omega)]
theorem f_div {c d : Nat} {e : Int} (hc : 4503599627370496 ≤ c ∧ c < 9007199254740992) (hd : 4503599627370496 ≤ d ∧ d < 9007199254740992) (he : -1000 ≤ e ∧ e ≤ 900) : ∃ c' q', FP.Core.roundRatio FP.Core.b64 false c d e = .fin false c' q' ∧ (4503599627370496 ≤ c' ∧ c' < 9007199254740992) ∧ e - 53 ≤ q' ∧ q' ≤ e - 51 := by
  rw [f_divc hc hd he]
  by_cases p : d ≤ c
  · rw [if_pos p]
    obtain ⟨c', q', a1, a2, a3, a4⟩ := f_set (q := e - 52) (f_near (a := c * 4503599627370496) (d := d) (m := 4503599627370496) (M := 9007199254740992) (by omega) (by omega) (by omega)) (by omega)
    exact ⟨c', q', a1, a2, by omega, by omega⟩
  · rw [if_neg p]
    obtain ⟨c', q', a1, a2, a3, a4⟩ := f_set (q := e - 53) (f_near (a := c * 9007199254740992) (d := d) (m := 4503599627370496) (M := 9007199254740992) (by omega) (by omega) (by omega)) (by omega)
    exact ⟨c', q', a1, a2, by omega, by omega⟩

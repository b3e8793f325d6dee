/-! a text is read: the class -/
def CY (μ : Mu) (t : Int → Int) (L : Int) : Prop := μ 219 2 = L ∧ ∀ j : Int, 0 ≤ j → j < L → μ 220 j.toNat = t j
def JC (μ μ' : Mu) : Prop := ∀ a k : Nat, ¬ (a = 221 ∨ a = 222 ∨ (a = 219 ∧ (k = 1 ∨ k = 4 ∨ k = 5 ∨ k = 6))) → μ' a k = μ a k
theorem JC.rf (μ : Mu) : JC μ μ := fun _ _ _ => rfl
theorem JC.tr {μ μ1 μ2 : Mu} (h1 : JC μ μ1) (h2 : JC μ1 μ2) : JC μ μ2 := fun a k h => (h2 a k h).trans (h1 a k h)
theorem JC.up {μ μ1 : Mu} (h : JC μ μ1) {a k : Nat} {v : Int} (hk : a = 221 ∨ a = 222 ∨ (a = 219 ∧ (k = 1 ∨ k = 4 ∨ k = 5 ∨ k = 6))) : JC μ (up2 μ1 a k v) := fun a' k' hn => by
  rw [up2_eq, if_neg]
  · exact h a' k' hn
  · rintro ⟨rfl, rfl⟩; exact hn hk
theorem CY.jc {μ μ' : Mu} {t : Int → Int} {L : Int} (R : CY μ t L) (h : JC μ μ') : CY μ' t L := ⟨(h 219 2 (by omega)).trans R.1, fun j a b => (h 220 _ (by omega)).trans (R.2 j a b)⟩
def S_dg (x : Int) : Int := if 48 ≤ x ∧ x ≤ 57 then x - 48 else -1
theorem dg_bd {x : Int} : -1 ≤ S_dg x ∧ S_dg x ≤ 9 := by
  unfold S_dg
  split <;> omega
theorem dg_in {x c : Int} (hc : 1 ≤ c ∧ c ≤ 10) : (0 ≤ S_dg x ∧ S_dg x < c) ↔ (48 ≤ x ∧ x ≤ 47 + c) := by
  unfold S_dg
  split <;> omega
theorem dg_of {x : Int} (h : 48 ≤ x ∧ x ≤ 57) : S_dg x = x - 48 := if_pos h
theorem c_acc {μ : Mu} {x : Int} (hx : 33 ≤ x ∧ x ≤ 126) : f_X8_accepts x μ = f_X8_accepts_20 x (S_dg x) μ := by
  unfold f_X8_accepts f_X8_accepts_19 S_dg
  rw [p_lt (by omega)]
  by_cases a : x < 48
  · rw [if_pos a, if_neg (by omega)]
  · rw [if_neg a, p_lt (by omega)]
    by_cases b : 57 < x
    · rw [if_pos b, if_neg (by omega)]
    · rw [if_neg b, if_pos (by omega)]
theorem c_goes {μ : Mu} {r n : Int} (hr : r = 0 ∨ r = 1) : f_X8_goesOn r n μ = some (up2 μ 219 1 n, 0, r) := by
  unfold f_X8_goesOn
  rw [p_wrF, p_Z hr]
theorem c_acc0 {μ : Mu} {x : Int} (hx : 33 ≤ x ∧ x ≤ 126) (e : μ 219 1 = 0) : f_X8_accepts x μ = some (up2 (up2 μ 219 4 (S_dg x)) 219 1 1, 0, b2 (48 ≤ x ∧ x ≤ 51)) := by
  have hd := dg_bd (x := x)
  rw [c_acc hx]
  unfold f_X8_accepts_20
  rw [p_rdF, e, p_sw (by omega)]
  show (wrF μ 219 4 (S_dg x) fun μ => rb (f_X10_isBelow (S_dg x) 4 μ) fun μ x2 => rb (f_X8_goesOn x2 1 μ) fun μ x3 => retZ μ x3) = _
  rw [p_wrF, c_below (by unfold iG; omega) (by unfold iG; omega), p_rb, c_goes (b2_01 _), p_rb, p_Z (b2_01 _), b2_congr (dg_in (x := x) (c := 4) (by omega))]
  rfl
theorem c_acc1 {μ : Mu} {x : Int} (hx : 33 ≤ x ∧ x ≤ 126) (e : μ 219 1 = 1) : f_X8_accepts x μ = some (up2 μ 219 1 2, 0, b2 (x = 47)) := by
  rw [c_acc hx]
  unfold f_X8_accepts_20
  rw [p_rdF, e, p_sw (by omega)]
  show i_eq x 47 (f_X8_accepts_100 x 1 μ) (f_X8_accepts_100 x 0 μ) = _
  unfold f_X8_accepts_100
  rw [p_eq (by omega)]
  by_cases p : x = 47
  · rw [if_pos p, c_goes (Or.inr rfl), p_rb, p_Z1, b2_t p]
  · rw [if_neg p, c_goes (Or.inl rfl), p_rb, p_Z0, b2_f p]
theorem c_acc2 {μ : Mu} {x : Int} (hx : 33 ≤ x ∧ x ≤ 126) (e : μ 219 1 = 2) : f_X8_accepts x μ = some (up2 (up2 μ 219 5 (S_dg x)) 219 1 3, 0, b2 (48 ≤ x ∧ x ≤ 52)) := by
  have hd := dg_bd (x := x)
  rw [c_acc hx]
  unfold f_X8_accepts_20
  rw [p_rdF, e, p_sw (by omega)]
  show (wrF μ 219 5 (S_dg x) fun μ => rb (f_X10_isBelow (S_dg x) 5 μ) fun μ x4 => rb (f_X8_goesOn x4 3 μ) fun μ x5 => retZ μ x5) = _
  rw [p_wrF, c_below (by unfold iG; omega) (by unfold iG; omega), p_rb, c_goes (b2_01 _), p_rb, p_Z (b2_01 _), b2_congr (dg_in (x := x) (c := 5) (by omega))]
  rfl
theorem c_acc3 {μ : Mu} {x : Int} (hx : 33 ≤ x ∧ x ≤ 126) (e : μ 219 1 = 3) : f_X8_accepts x μ = some (up2 μ 219 1 4, 0, b2 (x = 58)) := by
  rw [c_acc hx]
  unfold f_X8_accepts_20
  rw [p_rdF, e, p_sw (by omega)]
  show i_eq x 58 (f_X8_accepts_133 x 1 μ) (f_X8_accepts_133 x 0 μ) = _
  unfold f_X8_accepts_133
  rw [p_eq (by omega)]
  by_cases p : x = 58
  · rw [if_pos p, c_goes (Or.inr rfl), p_rb, p_Z1, b2_t p]
  · rw [if_neg p, c_goes (Or.inl rfl), p_rb, p_Z0, b2_f p]
theorem c_acc4t {μ : Mu} {x k : Int} (hx : 48 ≤ x ∧ x ≤ 55) (e : μ 219 1 = 4) (hk : μ 219 6 = k) (h0 : 0 ≤ k ∧ k < 20) : f_X8_accepts x μ = some (up2 (up2 (up2 (up2 μ 221 k.toNat (x - 48)) 222 k.toNat 0) 219 6 (k + 1)) 219 1 5, 0, 1) := by
  rw [c_acc (by omega)]
  unfold f_X8_accepts_20
  rw [p_rdF, e, p_sw (by omega)]
  show (rb (f_X10_isBelow (S_dg x) 8 μ) fun μ x6 => i_eq x6 0 (f_X8_accepts_159 x μ) (rb (f_X8_startsEntry (S_dg x) μ) fun μ x7 => i_eq x7 0 (f_X8_accepts_159 x μ) (f_X8_accepts_160 x 1 μ))) = _
  unfold f_X8_accepts_159 f_X8_accepts_160 f_X8_startsEntry
  rw [dg_of (by omega), c_below (by unfold iG; omega) (by unfold iG; omega), p_rb, b2_t (by omega), p_eq (by omega), if_neg (by omega), p_rdF, hk, p_lt (by omega), if_pos h0.2, p_rdF, hk, p_wrI (by omega), p_rdF, up2_o (by omega), hk, p_wrI (by omega), p_rdF, up2_o (by omega), up2_o (by omega), hk, p_wrF, c_goes (Or.inr rfl), p_rb, p_Z1, p_rb, p_eq (by omega), if_neg (by omega)]
  rfl
theorem c_acc4f {μ : Mu} {x : Int} (hx : 33 ≤ x ∧ x ≤ 126) (e : μ 219 1 = 4) (hn : ¬ (48 ≤ x ∧ x ≤ 55)) : f_X8_accepts x μ = some (μ, 0, 0) := by
  have hd := dg_bd (x := x)
  have hi := dg_in (x := x) (c := 8) (by omega)
  rw [c_acc hx]
  unfold f_X8_accepts_20
  rw [p_rdF, e, p_sw (by omega)]
  show (rb (f_X10_isBelow (S_dg x) 8 μ) fun μ x6 => i_eq x6 0 (f_X8_accepts_159 x μ) (rb (f_X8_startsEntry (S_dg x) μ) fun μ x7 => i_eq x7 0 (f_X8_accepts_159 x μ) (f_X8_accepts_160 x 1 μ))) = _
  unfold f_X8_accepts_159 f_X8_accepts_160
  rw [c_below (by unfold iG; omega) (by unfold iG; omega), p_rb, b2_f (by omega), p_eq (by omega), if_pos rfl]
  rfl
theorem c_acc5 {μ : Mu} {x : Int} (hx : 33 ≤ x ∧ x ≤ 126) (e : μ 219 1 = 5) : f_X8_accepts x μ = some (up2 μ 219 1 6, 0, b2 (x = 61)) := by
  rw [c_acc hx]
  unfold f_X8_accepts_20
  rw [p_rdF, e, p_sw (by omega)]
  show i_eq x 61 (f_X8_accepts_173 x 1 μ) (f_X8_accepts_173 x 0 μ) = _
  unfold f_X8_accepts_173
  rw [p_eq (by omega)]
  by_cases p : x = 61
  · rw [if_pos p, c_goes (Or.inr rfl), p_rb, p_Z1, b2_t p]
  · rw [if_neg p, c_goes (Or.inl rfl), p_rb, p_Z0, b2_f p]
theorem c_takes {μ : Mu} {d n k v : Int} (hk : μ 219 6 = k) (h0 : 0 < k ∧ k ≤ 20) (hv : μ 222 (k - 1).toNat = v) : f_X8_takesDigit d n μ = some (up2 (up2 μ 222 (k - 1).toNat (v * 10 + d)) 219 1 n, 0, 1) := by
  unfold f_X8_takesDigit
  rw [p_rdF, hk, p_lt (by omega), if_pos h0.1, p_rdF, hk, p_rdF, hk, p_rdI (by omega), hv, p_wrI (by omega), c_goes (Or.inr rfl), p_rb, p_Z1]
theorem c_acc6t {μ : Mu} {x k v : Int} (hx : 48 ≤ x ∧ x ≤ 57) (e : μ 219 1 = 6) (hk : μ 219 6 = k) (h0 : 0 < k ∧ k ≤ 20) (hv : μ 222 (k - 1).toNat = v) : f_X8_accepts x μ = some (up2 (up2 μ 222 (k - 1).toNat (v * 10 + (x - 48))) 219 1 (if x = 48 then 8 else 7), 0, 1) := by
  rw [c_acc (by omega)]
  unfold f_X8_accepts_20
  rw [p_rdF, e, p_sw (by omega)]
  show i_lt (S_dg x) 0 (f_X8_accepts_206 x μ) (i_eq (S_dg x) 0 (f_X8_accepts_196 x (S_dg x) 8 μ) (f_X8_accepts_196 x (S_dg x) 7 μ)) = _
  unfold f_X8_accepts_206 f_X8_accepts_207 f_X8_accepts_196
  rw [dg_of hx, p_lt (by omega), if_neg (by omega), p_eq (by omega)]
  by_cases p : x = 48
  · rw [if_pos (by omega), if_pos p, c_takes hk h0 hv, p_rb, p_eq (by omega), if_neg (by omega)]
    rfl
  · rw [if_neg (by omega), if_neg p, c_takes hk h0 hv, p_rb, p_eq (by omega), if_neg (by omega)]
    rfl
theorem c_acc6f {μ : Mu} {x : Int} (hx : 33 ≤ x ∧ x ≤ 126) (e : μ 219 1 = 6) (hn : ¬ (48 ≤ x ∧ x ≤ 57)) : f_X8_accepts x μ = some (μ, 0, 0) := by
  have hd := dg_bd (x := x)
  have hi := dg_in (x := x) (c := 10) (by omega)
  rw [c_acc hx]
  unfold f_X8_accepts_20
  rw [p_rdF, e, p_sw (by omega)]
  show i_lt (S_dg x) 0 (f_X8_accepts_206 x μ) (i_eq (S_dg x) 0 (f_X8_accepts_196 x (S_dg x) 8 μ) (f_X8_accepts_196 x (S_dg x) 7 μ)) = _
  unfold f_X8_accepts_206 f_X8_accepts_207
  rw [p_lt (by omega), if_pos (by omega)]
  rfl
theorem c_acc7t {μ : Mu} {x k v : Int} (hx : 48 ≤ x ∧ x ≤ 57) (e : μ 219 1 = 7) (hk : μ 219 6 = k) (h0 : 0 < k ∧ k ≤ 20) (hv : μ 222 (k - 1).toNat = v) : f_X8_accepts x μ = some (up2 (up2 μ 222 (k - 1).toNat (v * 10 + (x - 48))) 219 1 8, 0, 1) := by
  rw [c_acc (by omega)]
  unfold f_X8_accepts_20
  rw [p_rdF, e, p_sw (by omega)]
  show i_lt (S_dg x) 0 (i_eq x 44 (f_X8_accepts_234 x 1 μ) (f_X8_accepts_234 x 0 μ)) (rb (f_X8_takesDigit (S_dg x) 8 μ) fun μ x8 => f_X8_accepts_238 x x8 μ) = _
  unfold f_X8_accepts_238
  rw [dg_of hx, p_lt (by omega), if_neg (by omega), c_takes hk h0 hv, p_rb]
  rfl
/-- after a mark -/
def EM (μ : Mu) (x : Int) : Prop := μ 219 1 = 8 ∨ (μ 219 1 = 7 ∧ ¬ (48 ≤ x ∧ x ≤ 57))
theorem c_accM {μ : Mu} {x : Int} (hx : 33 ≤ x ∧ x ≤ 126) (e : EM μ x) : f_X8_accepts x μ = some (up2 μ 219 1 4, 0, b2 (x = 44)) := by
  have hd := dg_bd (x := x)
  have hi := dg_in (x := x) (c := 10) (by omega)
  rw [c_acc hx]
  unfold f_X8_accepts_20
  rcases e with e | ⟨e, n⟩
  · rw [p_rdF, e, p_sw (by omega)]
    show i_eq x 44 (f_X8_accepts_251 x 1 μ) (f_X8_accepts_251 x 0 μ) = _
    unfold f_X8_accepts_251
    rw [p_eq (by omega)]
    by_cases p : x = 44
    · rw [if_pos p, c_goes (Or.inr rfl), p_rb, p_Z1, b2_t p]
    · rw [if_neg p, c_goes (Or.inl rfl), p_rb, p_Z0, b2_f p]
  · rw [p_rdF, e, p_sw (by omega)]
    show i_lt (S_dg x) 0 (i_eq x 44 (f_X8_accepts_234 x 1 μ) (f_X8_accepts_234 x 0 μ)) (rb (f_X8_takesDigit (S_dg x) 8 μ) fun μ x8 => f_X8_accepts_238 x x8 μ) = _
    unfold f_X8_accepts_234 f_X8_accepts_238
    rw [p_lt (by omega), if_pos (by omega), p_eq (by omega)]
    by_cases p : x = 44
    · rw [if_pos p, c_goes (Or.inr rfl), p_rb, p_Z1, b2_t p]
    · rw [if_neg p, c_goes (Or.inl rfl), p_rb, p_Z0, b2_f p]
/-! the walk through the text -/
def tq_PE (fu : Nat) (i : Int) (μ : Mu) : Option Res := f_X8_positionOfError_2 (fun v1 μ => some (μ, 0, v1)) (fun μ => f_X8_positionOfError_37 μ) fu i μ
theorem pe_t {μ μ' : Mu} {t : Int → Int} {L i : Int} {fu : Nat} (h : TY t L) (R : CY μ t L) (hi : 0 ≤ i ∧ i < L) (a : f_X8_accepts (t i) μ = some (μ', 0, 1)) : tq_PE (fu + 1) i μ = tq_PE fu (i + 1) μ' := by
  have hL := h.1
  unfold tq_PE
  rw [f_X8_positionOfError_2, p_rdF, R.1, p_lt (by omega), if_pos hi.2, p_lt (by omega), if_pos (by omega), p_rdI (by omega), R.2 i hi.1 hi.2, a, p_rb, p_eq (by omega), if_neg (by omega)]
theorem pe_f {μ μ' : Mu} {t : Int → Int} {L i : Int} {fu : Nat} (h : TY t L) (R : CY μ t L) (hi : 0 ≤ i ∧ i < L) (a : f_X8_accepts (t i) μ = some (μ', 0, 0)) : tq_PE (fu + 1) i μ = some (μ', 0, i) := by
  have hL := h.1
  unfold tq_PE
  rw [f_X8_positionOfError_2, p_rdF, R.1, p_lt (by omega), if_pos hi.2, p_lt (by omega), if_pos (by omega), p_rdI (by omega), R.2 i hi.1 hi.2, a, p_rb, p_eq (by omega), if_pos rfl]
theorem pe_e {μ : Mu} {t : Int → Int} {L i : Int} {fu : Nat} (h : TY t L) (R : CY μ t L) (hi : i = L) (he : 0 ≤ μ 219 1 ∧ μ 219 1 ≤ 8) : tq_PE (fu + 1) i μ = some (μ, 0, if μ 219 1 = 7 ∨ μ 219 1 = 8 then -1 else L) := by
  have hL := h.1
  unfold tq_PE
  rw [f_X8_positionOfError_2, p_rdF, R.1, p_lt (by omega), if_neg (by omega)]
  unfold f_X8_positionOfError_37 f_X8_positionOfError_55 f_X8_positionOfError_63
  rw [p_rdF, p_eq (by omega)]
  by_cases a : μ 219 1 = 7
  · rw [if_pos a, if_pos (Or.inl a)]
  · rw [if_neg a, p_rdF, p_eq (by omega)]
    by_cases b : μ 219 1 = 8
    · rw [if_pos b, if_pos (Or.inr b)]
    · rw [if_neg b, p_rdF, R.1, if_neg (by omega)]

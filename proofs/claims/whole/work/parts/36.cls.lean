/-! the class's books against the reference's numbers -/
/-- the slot of entry e -/
def S_sl (g : Nat → Int) (e : Int) : Int := 3 * (5 * S_ec g e + S_eq g e) + S_cnt g (S_ec g e) (S_eq g e) e.toNat
def RB (μ : Mu) (b : Nat) (g : Nat → Int) : Prop :=
  (∀ q : Int, 0 ≤ q → q < 5 → μ (b + 1) q.toNat = g q.toNat) ∧
  (∀ w : Int, 0 ≤ w → w < 5 → μ (b + 2) w.toNat = g (5 + w).toNat) ∧
  (∀ k : Int, 0 ≤ k → k < 4 → μ (b + 3) k.toNat = g (10 + k).toNat) ∧
  (∀ c : Int, 0 ≤ c → c < 8 → μ (b + 4) c.toNat = g (625 + c).toNat ∧ μ (b + 5) c.toNat = g (633 + c).toNat) ∧
  (∀ m : Int, 0 ≤ m → m < 4 → μ (b + 6) m.toNat = g (775 + m).toNat) ∧
  (∀ q : Int, 0 ≤ q → q < 5 → μ (b + 7 + 1) q.toNat = g (14 + q).toNat) ∧
  (∀ q k : Int, 0 ≤ q → q < 5 → 0 ≤ k → k < 5 → μ (b + 7 + 2) (q * 5 + k).toNat = g (19 + 5 * q + k).toNat) ∧
  (∀ m q k : Int, 0 ≤ m → m < 4 → 0 ≤ q → q < 5 → 0 ≤ k → k < 5 → μ (b + 7 + 3) ((m * 5 + q) * 5 + k).toNat = S_mk g m q k - 1) ∧
  μ (b + 11) 4 = g 144 ∧
  (∀ e : Int, 0 ≤ e → e < g 144 → μ (b + 11 + 4) e.toNat = S_sl g e ∧ μ (b + 11 + 2) (S_sl g e).toNat = S_em g e ∧ μ (b + 11 + 3) (S_sl g e).toNat = S_ev g e) ∧
  (∀ c q : Int, 0 ≤ c → c < 8 → 0 ≤ q → q < 5 → μ (b + 11 + 1) (c * 5 + q).toNat = S_cnt g c q (g 144).toNat) ∧
  μ (b + 16) 2 = g 641 ∧
  (∀ k : Int, 0 ≤ k → k < g 641 → μ (b + 16 + 1) k.toNat = S_px g k ∧ μ (b + 16 + 2) k.toNat = S_py g k) ∧
  (∀ c q : Int, 0 ≤ c → c < 8 → 0 ≤ q → q < 5 → μ (b + 19 + 1) (c * 5 + q).toNat = S_ap g c q 0 ∧ μ (b + 19 + 2) (c * 5 + q).toNat = S_ap g c q 1 ∧ μ (b + 19 + 3) (c * 5 + q).toNat = S_ap g c q 2) ∧
  μ (b + 19) 3 = g 774 ∧ μ b 10 = g 652
theorem RB.mx {μ : Mu} {b : Nat} {g : Nat → Int} (R : RB μ b g) {q : Int} (h : 0 ≤ q ∧ q < 5) : μ (b + 1) q.toNat = g q.toNat := R.1 q h.1 h.2
theorem RB.st {μ : Mu} {b : Nat} {g : Nat → Int} (R : RB μ b g) {w : Int} (h : 0 ≤ w ∧ w < 5) : μ (b + 2) w.toNat = g (5 + w).toNat := R.2.1 w h.1 h.2
theorem RB.bo {μ : Mu} {b : Nat} {g : Nat → Int} (R : RB μ b g) {k : Int} (h : 0 ≤ k ∧ k < 4) : μ (b + 3) k.toNat = g (10 + k).toNat := R.2.2.1 k h.1 h.2
theorem RB.ex {μ : Mu} {b : Nat} {g : Nat → Int} (R : RB μ b g) {c : Int} (h : 0 ≤ c ∧ c < 8) : μ (b + 4) c.toNat = g (625 + c).toNat := (R.2.2.2.1 c h.1 h.2).1
theorem RB.ra {μ : Mu} {b : Nat} {g : Nat → Int} (R : RB μ b g) {c : Int} (h : 0 ≤ c ∧ c < 8) : μ (b + 5) c.toNat = g (633 + c).toNat := (R.2.2.2.1 c h.1 h.2).2
theorem RB.pay {μ : Mu} {b : Nat} {g : Nat → Int} (R : RB μ b g) {m : Int} (h : 0 ≤ m ∧ m < 4) : μ (b + 6) m.toNat = g (775 + m).toNat := R.2.2.2.2.1 m h.1 h.2
theorem RB.many {μ : Mu} {b : Nat} {g : Nat → Int} (R : RB μ b g) {q : Int} (h : 0 ≤ q ∧ q < 5) : μ (b + 7 + 1) q.toNat = g (14 + q).toNat := R.2.2.2.2.2.1 q h.1 h.2
theorem RB.sd {μ : Mu} {b : Nat} {g : Nat → Int} (R : RB μ b g) {q k : Int} (h : 0 ≤ q ∧ q < 5) (hk : 0 ≤ k ∧ k < 5) : μ (b + 7 + 2) (q * 5 + k).toNat = g (19 + 5 * q + k).toNat := R.2.2.2.2.2.2.1 q k h.1 h.2 hk.1 hk.2
theorem RB.mk {μ : Mu} {b : Nat} {g : Nat → Int} (R : RB μ b g) {m q k : Int} (hm : 0 ≤ m ∧ m < 4) (h : 0 ≤ q ∧ q < 5) (hk : 0 ≤ k ∧ k < 5) : μ (b + 7 + 3) ((m * 5 + q) * 5 + k).toNat = S_mk g m q k - 1 := R.2.2.2.2.2.2.2.1 m q k hm.1 hm.2 h.1 h.2 hk.1 hk.2
theorem RB.tot {μ : Mu} {b : Nat} {g : Nat → Int} (R : RB μ b g) : μ (b + 11) 4 = g 144 := R.2.2.2.2.2.2.2.2.1
theorem RB.en {μ : Mu} {b : Nat} {g : Nat → Int} (R : RB μ b g) {e : Int} (h : 0 ≤ e ∧ e < g 144) : μ (b + 11 + 4) e.toNat = S_sl g e ∧ μ (b + 11 + 2) (S_sl g e).toNat = S_em g e ∧ μ (b + 11 + 3) (S_sl g e).toNat = S_ev g e := R.2.2.2.2.2.2.2.2.2.1 e h.1 h.2
theorem RB.sz {μ : Mu} {b : Nat} {g : Nat → Int} (R : RB μ b g) {c q : Int} (hc : 0 ≤ c ∧ c < 8) (hq : 0 ≤ q ∧ q < 5) : μ (b + 11 + 1) (c * 5 + q).toNat = S_cnt g c q (g 144).toNat := R.2.2.2.2.2.2.2.2.2.2.1 c q hc.1 hc.2 hq.1 hq.2
theorem RB.pm {μ : Mu} {b : Nat} {g : Nat → Int} (R : RB μ b g) : μ (b + 16) 2 = g 641 := R.2.2.2.2.2.2.2.2.2.2.2.1
theorem RB.pt {μ : Mu} {b : Nat} {g : Nat → Int} (R : RB μ b g) {k : Int} (h : 0 ≤ k ∧ k < g 641) : μ (b + 16 + 1) k.toNat = S_px g k ∧ μ (b + 16 + 2) k.toNat = S_py g k := R.2.2.2.2.2.2.2.2.2.2.2.2.1 k h.1 h.2
theorem RB.ap {μ : Mu} {b : Nat} {g : Nat → Int} (R : RB μ b g) {c q : Int} (hc : 0 ≤ c ∧ c < 8) (hq : 0 ≤ q ∧ q < 5) : μ (b + 19 + 1) (c * 5 + q).toNat = S_ap g c q 0 ∧ μ (b + 19 + 2) (c * 5 + q).toNat = S_ap g c q 1 ∧ μ (b + 19 + 3) (c * 5 + q).toNat = S_ap g c q 2 := R.2.2.2.2.2.2.2.2.2.2.2.2.2.1 c q hc.1 hc.2 hq.1 hq.2
theorem RB.rf {μ : Mu} {b : Nat} {g : Nat → Int} (R : RB μ b g) : μ (b + 19) 3 = g 774 := R.2.2.2.2.2.2.2.2.2.2.2.2.2.2.1
theorem RB.pub {μ : Mu} {b : Nat} {g : Nat → Int} (R : RB μ b g) : μ b 10 = g 652 := R.2.2.2.2.2.2.2.2.2.2.2.2.2.2.2
/-- it depends on the cells of the book alone -/
theorem RB.keep {μ : Mu} {b : Nat} {g : Nat → Int} (R : RB μ b g) {μ' : Mu} (h : ∀ a : Nat, b ≤ a → a < b + 23 → μ' a = μ a) : RB μ' b g := by
  have e : ∀ k : Nat, k < 23 → μ' (b + k) = μ (b + k) := fun k hk => h _ (by omega) (by omega)
  obtain ⟨r1, r2, r3, r4, r5, r6, r7, r8, r9, r10, r11, r12, r13, r14, r15, r16⟩ := R
  have e0 : μ' b = μ b := e 0 (by omega)
  have e7 : μ' (b + 7 + 1) = μ (b + 7 + 1) := e 8 (by omega)
  have e8 : μ' (b + 7 + 2) = μ (b + 7 + 2) := e 9 (by omega)
  have e9 : μ' (b + 7 + 3) = μ (b + 7 + 3) := e 10 (by omega)
  have e11 : μ' (b + 11 + 1) = μ (b + 11 + 1) := e 12 (by omega)
  have e12 : μ' (b + 11 + 2) = μ (b + 11 + 2) := e 13 (by omega)
  have e13 : μ' (b + 11 + 3) = μ (b + 11 + 3) := e 14 (by omega)
  have e14 : μ' (b + 11 + 4) = μ (b + 11 + 4) := e 15 (by omega)
  have e16 : μ' (b + 16 + 1) = μ (b + 16 + 1) := e 17 (by omega)
  have e17 : μ' (b + 16 + 2) = μ (b + 16 + 2) := e 18 (by omega)
  have e19 : μ' (b + 19 + 1) = μ (b + 19 + 1) := e 20 (by omega)
  have e20 : μ' (b + 19 + 2) = μ (b + 19 + 2) := e 21 (by omega)
  have e21 : μ' (b + 19 + 3) = μ (b + 19 + 3) := e 22 (by omega)
  unfold RB
  rw [e0, e 1 (by omega), e 2 (by omega), e 3 (by omega), e 4 (by omega), e 5 (by omega), e 6 (by omega), e7, e8, e9, e 11 (by omega), e11, e12, e13, e14, e 16 (by omega), e16, e17, e 19 (by omega), e19, e20, e21]
  exact ⟨r1, r2, r3, r4, r5, r6, r7, r8, r9, r10, r11, r12, r13, r14, r15, r16⟩
theorem c_dist {μ : Mu} {a b : Int} (ha : iG a) (hb : iG b) : f_X10_distanceOf a b μ = some (μ, 0, absI (a - b)) := by
  unfold iG at ha hb
  unfold f_X10_distanceOf f_X10_distanceOf_14 absI
  rw [p_lt ⟨by omega, by omega⟩]
  by_cases h : b < a
  · rw [if_pos h, if_neg (by omega)]
  · rw [if_neg h]
    by_cases h2 : a - b < 0
    · rw [if_pos h2]
      rw [show -(a - b) = b - a by omega]
    · rw [if_neg h2]
      rw [show b - a = a - b by omega]
theorem c_below {μ : Mu} {v n : Int} (hv : iG v) (hn : iG n) : f_X10_isBelow v n μ = some (μ, 0, b2 (0 ≤ v ∧ v < n)) := by
  unfold iG at hv hn
  unfold f_X10_isBelow f_X10_isBelow_13 f_X10_isBelow_14
  rw [p_lt (by omega)]
  by_cases h : v < 0
  · rw [if_pos h, b2_f (by omega)]; rfl
  · rw [if_neg h, p_lt (by omega)]
    by_cases h2 : v < n
    · rw [if_pos h2, b2_t (by omega)]; rfl
    · rw [if_neg h2, b2_f (by omega)]; rfl
theorem c_strays {μ : Mu} {b : Nat} {g : Nat → Int} (h : WF g) (R : RB μ b g) {m q L : Int} (hm : 0 ≤ m ∧ m < 4) (hq : 0 ≤ q ∧ q < 5) (hL : L = g 6) : f_X7_strays (b + 7) m q L μ = some (μ, 0, b2 (S_susp g m q)) := by
  have hst := h.st
  unfold f_X7_strays
  have key := loop_find (fun fu v => f_X7_strays_3 (b + 7) m q L (fun μ => retZ μ 1) (fun μ => retZ μ 0) fu v μ) (fun _ => retZ μ 1) (retZ μ 0) (S_far g m q) 5 (fun v => 0 ≤ v ∧ v ≤ 5) ?_ (fun v hi hlt => by omega) 5 FU 0 (by omega) (by omega) (by unfold FU; omega)
  · rcases key with ⟨j, h1, h2, h3, -, h4⟩ | ⟨h1, h2⟩
    · rw [h4, b2_t (susp_ex.mpr ⟨j, h1, h2, h3⟩)]; rfl
    · rw [h2, b2_f (fun w => by obtain ⟨k, a1, a2, a3⟩ := susp_ex.mp w; exact h1 k a1 a2 a3)]; rfl
  · intro fu v hi
    show f_X7_strays_3 (b + 7) m q L _ _ (fu + 1) v μ = _
    rw [f_X7_strays_3, p_lt (by omega)]
    by_cases hvN : v < 5
    · have h1 := h.mk (m := m) (q := q) (k := v) hm hq (by omega)
      have h2 := h.sd (q := q) (k := v) hq (by omega)
      have h4 := absI_bd (x := S_dv g m q v) (A := 100) (by unfold S_dv S_mk; omega)
      have m1 := R.mk (m := m) (q := q) (k := v) hm hq (by omega)
      have m2 := R.sd (q := q) (k := v) hq (by omega)
      rw [if_pos hvN, if_pos hvN]
      unfold f_X7_placeOf f_X7_strays_52
      rw [p_rb, p_rdI (by omega), m1]
      have hmk : S_mk g m q v = g (44 + 25 * m + 5 * q + v).toNat := rfl
      rw [p_eq (by omega)]
      by_cases p : 0 < S_mk g m q v
      · rw [if_neg (by omega), p_rdI (by omega), m2, c_dist (by unfold iG; omega) (by unfold iG; omega), p_rb]
        show i_lt L (absI (S_dv g m q v)) _ _ = _
        rw [p_lt (by omega), hL]
        by_cases p2 : g 6 < absI (S_dv g m q v)
        · rw [if_pos p2, if_pos ⟨p, p2⟩]
        · rw [if_neg p2, if_neg (fun w => p2 w.2)]
      · rw [if_pos (by omega), if_neg (fun w => p w.1)]
    · rw [if_neg hvN, if_neg hvN]
theorem c_cor {μ : Mu} {b : Nat} {g : Nat → Int} (h : WF g) (R : RB μ b g) {m q B : Int} (hm : 0 ≤ m ∧ m < 4) (hq : 0 ≤ q ∧ q < 5) (hB : B = g 5) : f_X7_correctionOf (b + 7) m q B μ = some (μ, 0, S_cor g m q) := by
  have hst := h.st
  have hcn := S_cn_bd (g := g) (m := m) (q := q)
  have hcs := S_cs_bd h hm hq
  unfold f_X7_correctionOf
  generalize hk : (fun (v4 v5 : Int) (μ : Mu) => i_eq v4 0 (f_X7_correctionOf_81 (b + 7) m q B μ) (i_abs v5 fun x1 => i_lt (v4 * B) x1 (i_div 120 v4 fun x2 => some (μ, 0, ((-v5) * x2))) (f_X7_correctionOf_81 (b + 7) m q B μ))) = k
  have key := loop_up (S := Int × Int) (fun fu s v => f_X7_correctionOf_9 (b + 7) m q B k fu s.1 s.2 v μ) (fun s => k s.1 s.2 μ) (fun s v => (s.1 + b2 (0 < S_mk g m q v), s.2 + (if 0 < S_mk g m q v then S_dv g m q v else 0))) 5 (fun s v => 0 ≤ v ∧ v ≤ 5) ?_ (fun s v hi hlt => by omega) 5 FU (0, 0) 0 (by omega) (by omega) (by unfold FU; omega)
  · rw [show f_X7_correctionOf_9 (b + 7) m q B k FU 0 0 0 μ = _ from key, itS_sm2]
    dsimp only
    rw [Int.zero_add, Int.zero_add]
    show k (S_cn g m q) (S_cs g m q) μ = _
    rw [← hk]
    dsimp only
    unfold f_X7_correctionOf_81 S_cor
    rw [p_eq (by omega)]
    by_cases c0 : S_cn g m q = 0
    · rw [if_pos c0, if_pos (Or.inl c0)]
    · have hm5 := mul_bd (a := S_cn g m q) (b := g 5) (A := 5) (B := 5) (by omega) (by omega)
      have ha := absI_bd (x := S_cs g m q) (A := 205) (by omega)
      have hab : (if 0 ≤ S_cs g m q then S_cs g m q else 0 - S_cs g m q) = absI (S_cs g m q) := by
        unfold absI
        split <;> split <;> omega
      rw [if_neg c0, p_abs (by omega), hab, hB, p_lt (by omega)]
      by_cases c1 : absI (S_cs g m q) ≤ S_cn g m q * g 5
      · rw [if_neg (by omega), if_pos (Or.inr c1)]
      · rw [if_pos (by omega), if_neg (by omega), p_div (by omega)]
  · intro fu s v hi
    show f_X7_correctionOf_9 (b + 7) m q B k (fu + 1) s.1 s.2 v μ = _
    rw [f_X7_correctionOf_9, p_lt (by omega)]
    by_cases hvN : v < 5
    · have h1 := h.mk (m := m) (q := q) (k := v) hm hq (by omega)
      have m1 := R.mk (m := m) (q := q) (k := v) hm hq (by omega)
      have m2 := R.sd (q := q) (k := v) hq (by omega)
      have hmk : S_mk g m q v = g (44 + 25 * m + 5 * q + v).toNat := rfl
      rw [if_pos hvN, if_pos hvN]
      unfold f_X7_placeOf f_X7_correctionOf_58
      rw [p_rb, p_rdI (by omega), m1, p_eq (by omega)]
      by_cases p : 0 < S_mk g m q v
      · rw [if_neg (by omega), p_rdI (by omega), m2, p_bnd, b2_t p, if_pos p]
        rfl
      · rw [if_pos (by omega), b2_f p, if_neg p, Int.add_zero, Int.add_zero]
    · rw [if_neg hvN, if_neg hvN]

/-! setMaximum -/
theorem itS_iff {step : Int → Int → Int} {Q : Int → Prop} {p : Int} (h : ∀ s v : Int, p < step s v ↔ p < s ∨ Q v) : ∀ (n : Nat) (s v : Int), p < itS step n s v ↔ p < s ∨ ∃ j : Int, v ≤ j ∧ j < v + n ∧ Q j
  | 0, s, v => by
    simp only [itS]
    constructor
    · exact Or.inl
    · rintro (w | ⟨j, a, b, -⟩)
      · exact w
      · omega
  | n + 1, s, v => by
    simp only [itS]
    rw [itS_iff h n (step s v) (v + 1), h]
    constructor
    · rintro ((w | w) | ⟨j, a, b, c⟩)
      · exact Or.inl w
      · exact Or.inr ⟨v, Int.le_refl _, by omega, w⟩
      · exact Or.inr ⟨j, by omega, by omega, c⟩
    · rintro (w | ⟨j, a, b, c⟩)
      · exact Or.inl (Or.inl w)
      · by_cases e : j = v
        · subst e; exact Or.inl (Or.inr c)
        · exact Or.inr ⟨j, by omega, by omega, c⟩
theorem itS_inv {step : Int → Int → Int} {P : Int → Prop} : ∀ (n : Nat) (s v : Int), (∀ s j : Int, v ≤ j → j < v + n → P s → P (step s j)) → P s → P (itS step n s v)
  | 0, _, _, _, h => h
  | n + 1, s, v, hs, h => by
    simp only [itS]
    exact itS_inv n (step s v) (v + 1) (fun s j a b => hs s j (by omega) (by omega)) (hs s v (by omega) (by omega) h)
def mx (a b : Int) : Int := if a < b then b else a
theorem mx_iff {p a b : Int} : p < mx a b ↔ p < a ∨ p < b := by
  unfold mx
  split <;> omega
def S_eqv (g : Nat → Int) (q e : Int) : Int := if S_eq g e = q then S_ev g e else 0
def S_ge (g : Nat → Int) (q : Int) : Int → Int := S_so g (S_eqv g q)
def S_g1 (g : Nat → Int) (q : Int) : Int := itS (fun s v => mx s (S_ge g q v)) 120 0 0
theorem S_ge_bd {g : Nat → Int} (h : WF g) {q v : Int} (hv : 0 ≤ v ∧ v < 120) : 0 ≤ S_ge g q v ∧ S_ge g q v ≤ 40 := by
  have ht := h.tot
  unfold S_ge S_so
  by_cases p : v % 3 < ((S_ents g (v / 15) (v / 3 % 5)).length : Int)
  · obtain ⟨a1, a2, a3⟩ := ents_at (g := g) (c := v / 15) (q := v / 3 % 5) ht.1 (i := (v % 3).toNat) (by omega)
    have := h.ee a1
    rw [if_pos p]
    unfold S_eqv
    split <;> omega
  · rw [if_neg p]; omega
theorem mx_bd {a b A : Int} (h1 : 0 ≤ a ∧ a ≤ A) (h2 : b ≤ A) : 0 ≤ mx a b ∧ mx a b ≤ A := by
  unfold mx
  split <;> omega
theorem c_gm1 {μ : Mu} {g : Nat → Int} (h : WF g) (h3 : WF3 g) (R : RB μ 1 g) {q : Int} (hq : 0 ≤ q ∧ q < 5) : f_X3_greatestMark (1 + 11) q μ = some (μ, 0, S_g1 g q) := by
  unfold f_X3_greatestMark S_g1
  refine loop_up (S := Int) (fun fu s v => f_X3_greatestMark_4 (1 + 11) q (fun v2 μ => some (μ, 0, v2)) fu s v μ) (fun s => some (μ, 0, s)) (fun s v => mx s (S_ge g q v)) 120 (fun s v => (0 ≤ s ∧ s ≤ 40) ∧ 0 ≤ v ∧ v ≤ 120) ?_ (fun s v hi hlt => ⟨mx_bd hi.1 (S_ge_bd h (by omega)).2, by omega⟩) 120 FU 0 0 (by omega) (by omega) (by unfold FU; omega)
  intro fu s v hi
  show f_X3_greatestMark_4 (1 + 11) q _ (fu + 1) s v μ = _
  rw [f_X3_greatestMark_4, p_lt (by omega)]
  by_cases hv : v < 120
  · rw [if_pos hv, if_pos hv]
    have ht := h.tot
    have hsz := R.sz (c := v / 15) (q := v / 3 % 5) (by omega) (by omega)
    have hln := ents_len g (v / 15) (v / 3 % 5)
    have hl3 := h3 (v / 15) (v / 3 % 5)
    have hix : v / 15 * 5 + v / 3 % 5 = v / 3 := by omega
    rw [hix, ← hln] at hsz
    have same : ∀ x : Int, x = 0 → mx s x = s := fun x e => by unfold mx; rw [e]; split <;> omega
    unfold f_X3_greatestMark_43
    rw [c_quesOf (by omega), p_rb, p_eq (by omega)]
    by_cases pq : v / 3 % 5 = q
    · rw [if_pos pq, p_rem (by omega), p_div (by omega), p_rdI (by omega), hsz, p_lt (by omega)]
      by_cases p : v % 3 < ((S_ents g (v / 15) (v / 3 % 5)).length : Int)
      · obtain ⟨a1, a2, a3⟩ := ents_at (g := g) (c := v / 15) (q := v / 3 % 5) ht.1 (i := (v % 3).toNat) (by omega)
        have e9 : S_ge g q v = S_ev g ((S_ents g (v / 15) (v / 3 % 5)).getD (v % 3).toNat 0) := by
          unfold S_ge S_so
          rw [if_pos p]
          unfold S_eqv
          rw [if_pos (by rw [← pq]; exact a2.2)]
        rw [e9]
        generalize (S_ents g (v / 15) (v / 3 % 5)).getD (v % 3).toNat 0 = e at a1 a2 a3 ⊢
        have a4 : S_sl g e = v := by omega
        have hen := R.en a1
        have hee := h.ee a1
        rw [a4] at hen
        rw [if_pos p, p_rdI (by omega), hen.2.2, p_max (by omega)]
        rfl
      · have e9 : S_ge g q v = 0 := by
          unfold S_ge S_so
          rw [if_neg p]
        rw [if_neg p, same _ e9]
    · have e9 : S_ge g q v = 0 := by
        unfold S_ge S_so
        by_cases p : v % 3 < ((S_ents g (v / 15) (v / 3 % 5)).length : Int)
        · obtain ⟨a1, a2, a3⟩ := ents_at (g := g) (c := v / 15) (q := v / 3 % 5) ht.1 (i := (v % 3).toNat) (by omega)
          rw [if_pos p]
          unfold S_eqv
          rw [if_neg (fun w => pq (by rw [← w]; exact a2.2.symm))]
        · rw [if_neg p]
      rw [if_neg pq, same _ e9]
  · rw [if_neg hv, if_neg hv]
def S_g2 (g : Nat → Int) (q s k : Int) : Int := itS (fun s m => mx s (S_mk g m q k - 1)) 4 (mx s (g (19 + 5 * q + k).toNat)) 0
theorem S_g2_bd {g : Nat → Int} (h : WF g) {q s k : Int} (hq : 0 ≤ q ∧ q < 5) (hk : 0 ≤ k ∧ k < 5) (hs : 0 ≤ s ∧ s ≤ 40) : 0 ≤ S_g2 g q s k ∧ S_g2 g q s k ≤ 40 := by
  have h1 := h.sd hq hk
  refine itS_inv (P := fun x => 0 ≤ x ∧ x ≤ 40) 4 _ 0 (fun s m a b hs => ?_) (mx_bd hs h1.2)
  have h2 := h.mk (m := m) (q := q) (k := k) (by omega) hq hk
  exact mx_bd hs (by unfold S_mk; omega)
theorem c_gm2 {μ : Mu} {g : Nat → Int} (h : WF g) (R : RB μ 1 g) {q : Int} (hq : 0 ≤ q ∧ q < 5) : f_X7_greatestMark (1 + 7) q μ = some (μ, 0, itS (S_g2 g q) (g (14 + q).toNat).toNat 0 0) := by
  have hm := h.many hq
  have rm := R.many hq
  unfold f_X7_greatestMark
  refine loop_up (S := Int) (fun fu s v => f_X7_greatestMark_4 (1 + 7) q (fun v2 μ => f_X7_greatestMark_73 (1 + 7) q v2 μ) fu s v μ) (fun s => some (μ, 0, s)) (S_g2 g q) (g (14 + q).toNat) (fun s v => (0 ≤ s ∧ s ≤ 40) ∧ 0 ≤ v ∧ v ≤ g (14 + q).toNat) ?_ (fun s v hi hlt => ⟨S_g2_bd h hq (by omega) hi.1, by omega⟩) (g (14 + q).toNat).toNat FU 0 0 (by omega) (by omega) (by unfold FU; omega)
  intro fu s v hi
  show f_X7_greatestMark_4 (1 + 7) q _ (fu + 1) s v μ = _
  rw [f_X7_greatestMark_4, p_rdI (by omega), rm, p_lt (by omega)]
  by_cases hv : v < g (14 + q).toNat
  · have h1 := h.sd hq (k := v) (by omega)
    rw [if_pos hv, if_pos hv, p_lt (by omega), if_pos (by omega), p_rdI (by omega), R.sd hq (k := v) (by omega), p_max (by omega)]
    refine Eq.trans (loop_up (S := Int) (fun fu2 s m => f_X7_greatestMark_37 (1 + 7) q (fun v2 v3 μ => (f_X7_greatestMark_4 (1 + 7) q (fun v2 μ => f_X7_greatestMark_73 (1 + 7) q v2 μ) fu) v2 (v3 + 1) μ) fu2 s v m μ) (fun s => f_X7_greatestMark_4 (1 + 7) q (fun v2 μ => f_X7_greatestMark_73 (1 + 7) q v2 μ) fu s (v + 1) μ) (fun s m => mx s (S_mk g m q v - 1)) 4 (fun s m => (0 ≤ s ∧ s ≤ 40) ∧ 0 ≤ m ∧ m ≤ 4) ?_ (fun s m hi hlt => ?_) 4 FU (mx s (g (19 + 5 * q + v).toNat)) 0 ⟨mx_bd hi.1 h1.2, by omega⟩ (by omega) (by unfold FU; omega)) rfl
    · intro fu2 s m hi2
      show f_X7_greatestMark_37 (1 + 7) q _ (fu2 + 1) s v m μ = _
      rw [f_X7_greatestMark_37, p_lt (by omega)]
      by_cases hm4 : m < 4
      · have h2 := h.mk (m := m) (q := q) (k := v) (by omega) hq (by omega)
        have h2' : 0 ≤ S_mk g m q v ∧ S_mk g m q v ≤ 41 := h2
        rw [if_pos hm4, if_pos hm4]
        unfold f_X7_placeOf
        rw [p_rb, p_rdI (by omega), R.mk (m := m) (by omega) hq (k := v) (by omega), p_max (by omega)]
        rfl
      · rw [if_neg hm4, if_neg hm4]
    · have h2 := h.mk (m := m) (q := q) (k := v) (by omega) hq (by omega)
      exact ⟨mx_bd hi.1 (by unfold S_mk; omega), by omega⟩
  · rw [if_neg hv, if_neg hv]; rfl
/-- a mark above the maximum p of question q -/
def S_abE (g : Nat → Int) (q p : Int) : Prop := ∃ e : Int, 0 ≤ e ∧ e < 0 + ((g 144).toNat : Int) ∧ (S_eq g e = q ∧ p < S_ev g e)
def S_abK (g : Nat → Int) (q p k : Int) : Prop := p < g (19 + 5 * q + k).toNat ∨ ∃ m : Int, 0 ≤ m ∧ m < 0 + ((4 : Nat) : Int) ∧ p < S_mk g m q k - 1
def S_abS (g : Nat → Int) (q p : Int) : Prop := ∃ k : Int, 0 ≤ k ∧ k < 0 + ((g (14 + q).toNat).toNat : Int) ∧ S_abK g q p k
theorem g1_iff {g : Nat → Int} (h : WF g) (h3 : WF3 g) {q p : Int} (hp : 0 ≤ p) : p < S_g1 g q ↔ S_abE g q p := by
  have ht := h.tot
  unfold S_g1 S_abE
  rw [itS_iff (Q := fun v => p < S_ge g q v) (fun s v => mx_iff) 120 0 0]
  have hb : ∀ v : Int, S_so g (fun e => b2 (S_eq g e = q ∧ p < S_ev g e)) v = b2 (p < S_ge g q v) := by
    intro v
    unfold S_ge S_so
    by_cases z : v % 3 < ((S_ents g (v / 15) (v / 3 % 5)).length : Int)
    · rw [if_pos z, if_pos z]
      generalize (S_ents g (v / 15) (v / 3 % 5)).getD (v % 3).toNat 0 = e
      show b2 (S_eq g e = q ∧ p < S_ev g e) = b2 (p < S_eqv g q e)
      unfold S_eqv
      by_cases y : S_eq g e = q
      · rw [if_pos y]
        by_cases x : p < S_ev g e
        · rw [b2_t x, b2_t ⟨y, x⟩]
        · rw [b2_f x, b2_f (fun w => x w.2)]
      · rw [if_neg y, b2_f (fun w => y w.1), b2_f (by omega)]
    · rw [if_neg z, if_neg z, b2_f (by omega)]
  have hs := slots_sum h h3 (fun e => b2 (S_eq g e = q ∧ p < S_ev g e))
  rw [sm_congr (G' := fun v => b2 (p < S_ge g q v)) 120 0 (fun j _ _ => hb j)] at hs
  have i1 := sm_pos (fun v => p < S_ge g q v) 120 0
  have i2 := sm_pos (fun e => S_eq g e = q ∧ p < S_ev g e) (g 144).toNat 0
  rw [hs] at i1
  constructor
  · rintro (w | w)
    · omega
    · exact i2.mp (i1.mpr w)
  · intro w
    exact Or.inr (i1.mp (i2.mpr w))
theorem g2_iff {g : Nat → Int} {q p : Int} (hp : 0 ≤ p) : p < itS (S_g2 g q) (g (14 + q).toNat).toNat 0 0 ↔ S_abS g q p := by
  unfold S_abS
  rw [itS_iff (Q := S_abK g q p) (fun s k => ?_) _ 0 0]
  · constructor
    · rintro (w | w)
      · omega
      · exact w
    · exact Or.inr
  · unfold S_g2 S_abK
    rw [itS_iff (Q := fun m => p < S_mk g m q k - 1) (fun s v => mx_iff) 4 _ 0, mx_iff, or_assoc]

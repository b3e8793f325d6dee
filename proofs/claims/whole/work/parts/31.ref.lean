/-! the reference's numbers: what they keep to -/
def WF (g : Nat → Int) : Prop :=
  (∀ q : Int, 0 ≤ q → q < 5 → 1 ≤ g q.toNat ∧ g q.toNat ≤ 40) ∧
  ((0 ≤ g 5 ∧ g 5 ≤ 5) ∧ (1 ≤ g 6 ∧ g 6 ≤ 40) ∧ (0 ≤ g 7 ∧ g 7 ≤ 10) ∧ (0 ≤ g 8 ∧ g 8 ≤ 5) ∧ (0 ≤ g 9 ∧ g 9 ≤ 99)) ∧
  ((1 ≤ g 13 ∧ g 13 < g 12) ∧ g 12 < g 11 ∧ g 11 < g 10 ∧ g 10 ≤ 100) ∧
  (∀ q : Int, 0 ≤ q → q < 5 → 0 ≤ g (14 + q).toNat ∧ g (14 + q).toNat ≤ 5) ∧
  (∀ i : Int, 0 ≤ i → i < 25 → 0 ≤ g (19 + i).toNat ∧ g (19 + i).toNat ≤ 40) ∧
  (∀ i : Int, 0 ≤ i → i < 100 → 0 ≤ g (44 + i).toNat ∧ g (44 + i).toNat ≤ 41) ∧
  (∀ m q k : Int, 0 ≤ m → m < 4 → 0 ≤ q → q < 5 → g (14 + q).toNat ≤ k → k < 5 → g (44 + 25 * m + 5 * q + k).toNat = 0) ∧
  (0 ≤ g 144 ∧ g 144 ≤ 120) ∧
  (∀ e : Int, 0 ≤ e → e < g 144 → (0 ≤ g (145 + 4 * e).toNat ∧ g (145 + 4 * e).toNat < 4) ∧ (0 ≤ g (145 + 4 * e + 1).toNat ∧ g (145 + 4 * e + 1).toNat < 8) ∧ (0 ≤ g (145 + 4 * e + 2).toNat ∧ g (145 + 4 * e + 2).toNat < 5) ∧ (0 ≤ g (145 + 4 * e + 3).toNat ∧ g (145 + 4 * e + 3).toNat ≤ 40)) ∧
  (∀ c : Int, 0 ≤ c → c < 8 → (0 ≤ g (625 + c).toNat ∧ g (625 + c).toNat < 32) ∧ (0 ≤ g (633 + c).toNat ∧ g (633 + c).toNat ≤ 10)) ∧
  ((0 ≤ g 641 ∧ g 641 ≤ 5) ∧ (∀ k : Int, 0 ≤ k → k < g 641 → (0 ≤ g (642 + 2 * k).toNat ∧ g (642 + 2 * k).toNat ≤ 200) ∧ (0 ≤ g (642 + 2 * k + 1).toNat ∧ g (642 + 2 * k + 1).toNat ≤ 100)) ∧
    (∀ k : Int, 0 ≤ k → k + 1 < g 641 → g (642 + 2 * k).toNat < g (642 + 2 * k + 2).toNat)) ∧
  (g 652 = 0 ∨ g 652 = 1) ∧
  (∀ c q : Int, 0 ≤ c → c < 8 → 0 ≤ q → q < 5 → (0 ≤ g (653 + 15 * c + 3 * q).toNat ∧ g (653 + 15 * c + 3 * q).toNat ≤ 3) ∧ (0 ≤ g (653 + 15 * c + 3 * q + 1).toNat ∧ g (653 + 15 * c + 3 * q + 1).toNat ≤ 99 ∧ g (653 + 15 * c + 3 * q + 1).toNat ≤ 99 * g (653 + 15 * c + 3 * q).toNat) ∧ (0 ≤ g (653 + 15 * c + 3 * q + 2).toNat ∧ g (653 + 15 * c + 3 * q + 2).toNat ≤ 40))
theorem WF.mx {g : Nat → Int} (h : WF g) {q : Int} (h1 : 0 ≤ q ∧ q < 5) : 1 ≤ g q.toNat ∧ g q.toNat ≤ 40 := h.1 q h1.1 h1.2
theorem WF.st {g : Nat → Int} (h : WF g) : (0 ≤ g 5 ∧ g 5 ≤ 5) ∧ (1 ≤ g 6 ∧ g 6 ≤ 40) ∧ (0 ≤ g 7 ∧ g 7 ≤ 10) ∧ (0 ≤ g 8 ∧ g 8 ≤ 5) ∧ (0 ≤ g 9 ∧ g 9 ≤ 99) := h.2.1
theorem WF.bo {g : Nat → Int} (h : WF g) : (1 ≤ g 13 ∧ g 13 < g 12) ∧ g 12 < g 11 ∧ g 11 < g 10 ∧ g 10 ≤ 100 := h.2.2.1
theorem WF.many {g : Nat → Int} (h : WF g) {q : Int} (h1 : 0 ≤ q ∧ q < 5) : 0 ≤ g (14 + q).toNat ∧ g (14 + q).toNat ≤ 5 := h.2.2.2.1 q h1.1 h1.2
theorem WF.sd {g : Nat → Int} (h : WF g) {q k : Int} (h1 : 0 ≤ q ∧ q < 5) (h2 : 0 ≤ k ∧ k < 5) : 0 ≤ g (19 + 5 * q + k).toNat ∧ g (19 + 5 * q + k).toNat ≤ 40 := by
  have := h.2.2.2.2.1 (5 * q + k) (by omega) (by omega)
  rw [← Int.add_assoc] at this; exact this
theorem WF.mk {g : Nat → Int} (h : WF g) {m q k : Int} (h0 : 0 ≤ m ∧ m < 4) (h1 : 0 ≤ q ∧ q < 5) (h2 : 0 ≤ k ∧ k < 5) : 0 ≤ g (44 + 25 * m + 5 * q + k).toNat ∧ g (44 + 25 * m + 5 * q + k).toNat ≤ 41 := by
  have := h.2.2.2.2.2.1 (25 * m + 5 * q + k) (by omega) (by omega)
  rw [← Int.add_assoc, ← Int.add_assoc] at this; exact this
theorem WF.un {g : Nat → Int} (h : WF g) {m q k : Int} (h0 : 0 ≤ m ∧ m < 4) (h1 : 0 ≤ q ∧ q < 5) (h2 : g (14 + q).toNat ≤ k ∧ k < 5) : g (44 + 25 * m + 5 * q + k).toNat = 0 := h.2.2.2.2.2.2.1 m q k h0.1 h0.2 h1.1 h1.2 h2.1 h2.2
theorem WF.tot {g : Nat → Int} (h : WF g) : 0 ≤ g 144 ∧ g 144 ≤ 120 := h.2.2.2.2.2.2.2.1
theorem WF.en {g : Nat → Int} (h : WF g) {e : Int} (h1 : 0 ≤ e ∧ e < g 144) : (0 ≤ g (145 + 4 * e).toNat ∧ g (145 + 4 * e).toNat < 4) ∧ (0 ≤ g (145 + 4 * e + 1).toNat ∧ g (145 + 4 * e + 1).toNat < 8) ∧ (0 ≤ g (145 + 4 * e + 2).toNat ∧ g (145 + 4 * e + 2).toNat < 5) ∧ (0 ≤ g (145 + 4 * e + 3).toNat ∧ g (145 + 4 * e + 3).toNat ≤ 40) := h.2.2.2.2.2.2.2.2.1 e h1.1 h1.2
theorem WF.ex {g : Nat → Int} (h : WF g) {c : Int} (h1 : 0 ≤ c ∧ c < 8) : (0 ≤ g (625 + c).toNat ∧ g (625 + c).toNat < 32) ∧ (0 ≤ g (633 + c).toNat ∧ g (633 + c).toNat ≤ 10) := h.2.2.2.2.2.2.2.2.2.1 c h1.1 h1.2
theorem WF.pm {g : Nat → Int} (h : WF g) : 0 ≤ g 641 ∧ g 641 ≤ 5 := h.2.2.2.2.2.2.2.2.2.2.1.1
theorem WF.pt {g : Nat → Int} (h : WF g) {k : Int} (h1 : 0 ≤ k ∧ k < g 641) : (0 ≤ g (642 + 2 * k).toNat ∧ g (642 + 2 * k).toNat ≤ 200) ∧ (0 ≤ g (642 + 2 * k + 1).toNat ∧ g (642 + 2 * k + 1).toNat ≤ 100) := h.2.2.2.2.2.2.2.2.2.2.1.2.1 k h1.1 h1.2
theorem WF.pl {g : Nat → Int} (h : WF g) {k : Int} (h1 : 0 ≤ k ∧ k + 1 < g 641) : g (642 + 2 * k).toNat < g (642 + 2 * k + 2).toNat := h.2.2.2.2.2.2.2.2.2.2.1.2.2 k h1.1 h1.2
theorem WF.pub {g : Nat → Int} (h : WF g) : g 652 = 0 ∨ g 652 = 1 := h.2.2.2.2.2.2.2.2.2.2.2.1
theorem WF.ap {g : Nat → Int} (h : WF g) {c q : Int} (h0 : 0 ≤ c ∧ c < 8) (h1 : 0 ≤ q ∧ q < 5) : (0 ≤ g (653 + 15 * c + 3 * q).toNat ∧ g (653 + 15 * c + 3 * q).toNat ≤ 3) ∧ (0 ≤ g (653 + 15 * c + 3 * q + 1).toNat ∧ g (653 + 15 * c + 3 * q + 1).toNat ≤ 99 ∧ g (653 + 15 * c + 3 * q + 1).toNat ≤ 99 * g (653 + 15 * c + 3 * q).toNat) ∧ (0 ≤ g (653 + 15 * c + 3 * q + 2).toNat ∧ g (653 + 15 * c + 3 * q + 2).toNat ≤ 40) := h.2.2.2.2.2.2.2.2.2.2.2.2 c q h0.1 h0.2 h1.1 h1.2
/-! what the reference's functions answer -/
def iG (x : Int) : Prop := -2147483648 ≤ x ∧ x < 2147483648
def b2 (P : Prop) [Decidable P] : Int := if P then 1 else 0
theorem b2_01 (P : Prop) [Decidable P] : b2 P = 0 ∨ b2 P = 1 := by unfold b2; split <;> simp
theorem b2_t {P : Prop} [Decidable P] (h : P) : b2 P = 1 := if_pos h
theorem b2_f {P : Prop} [Decidable P] (h : ¬ P) : b2 P = 0 := if_neg h
theorem b2_congr {P Q : Prop} [Decidable P] [Decidable Q] (h : P ↔ Q) : b2 P = b2 Q := by
  unfold b2
  by_cases p : P
  · rw [if_pos p, if_pos (h.mp p)]
  · rw [if_neg p, if_neg (fun q => p (h.mpr q))]
theorem r_in {μ : Mu} {v a b : Int} (hv : iG v) (ha : iG a) (hb : iG b) : f_X11_in v a b μ = some (μ, 0, b2 (a ≤ v ∧ v ≤ b)) := by
  unfold iG at hv ha hb
  unfold f_X11_in f_X11_in_14 f_X11_in_15
  rw [p_lt ⟨hv, ha⟩, p_lt ⟨hb, hv⟩]
  by_cases h1 : v < a
  · rw [if_pos h1, b2_f (by omega)]; rfl
  · rw [if_neg h1]
    by_cases h2 : b < v
    · rw [if_pos h2, b2_f (by omega)]; rfl
    · rw [if_neg h2, b2_t (by omega)]; rfl
theorem r_cand {μ : Mu} {v : Int} (hv : iG v) : f_X11_isCandidate v μ = some (μ, 0, b2 (0 ≤ v ∧ v ≤ 7)) := by
  unfold f_X11_isCandidate
  rw [r_in hv (by unfold iG; omega) (by unfold iG; omega), p_rb, p_Z (b2_01 _)]
theorem r_ques {μ : Mu} {v : Int} (hv : iG v) : f_X11_isQuestion v μ = some (μ, 0, b2 (0 ≤ v ∧ v ≤ 4)) := by
  unfold f_X11_isQuestion
  rw [r_in hv (by unfold iG; omega) (by unfold iG; omega), p_rb, p_Z (b2_01 _)]
theorem r_mark {μ : Mu} {v : Int} (hv : iG v) : f_X11_isMarker v μ = some (μ, 0, b2 (0 ≤ v ∧ v ≤ 3)) := by
  unfold f_X11_isMarker
  rw [r_in hv (by unfold iG; omega) (by unfold iG; omega), p_rb, p_Z (b2_01 _)]
def absI (x : Int) : Int := if x < 0 then -x else x
theorem r_amount {μ : Mu} {v : Int} (hv : iG v) : f_X11_amount v μ = some (μ, 0, absI v) := by
  unfold iG at hv
  unfold f_X11_amount f_X11_amount_10 absI
  rw [p_lt ⟨hv, by omega⟩]
  split <;> rfl
theorem r_pub {μ : Mu} (h : WF (μ 249)) : f_X11_isPublished μ = some (μ, 0, μ 249 652) := by
  unfold f_X11_isPublished f_X11_isPublished_17
  rw [p_rdI (by omega)]
  have := h.pub
  show i_eq (μ 249 652) 1 _ _ = _
  rcases this with e | e <;> rw [e] <;> rfl
/-- the seeds that m has marked in q, one by one -/
def S_mk (g : Nat → Int) (m q k : Int) : Int := g (44 + 25 * m + 5 * q + k).toNat
def S_dv (g : Nat → Int) (m q k : Int) : Int := S_mk g m q k - 1 - g (19 + 5 * q + k).toNat
abbrev S_far (g : Nat → Int) (m q k : Int) : Prop := 0 < S_mk g m q k ∧ g 6 < absI (S_dv g m q k)
abbrev S_susp (g : Nat → Int) (m q : Int) : Prop := S_far g m q 0 ∨ S_far g m q 1 ∨ S_far g m q 2 ∨ S_far g m q 3 ∨ S_far g m q 4
theorem susp_ex {g : Nat → Int} {m q : Int} : S_susp g m q ↔ ∃ k : Int, 0 ≤ k ∧ k < 5 ∧ S_far g m q k := by
  constructor
  · intro h
    rcases h with h | h | h | h | h
    · exact ⟨0, by omega, by omega, h⟩
    · exact ⟨1, by omega, by omega, h⟩
    · exact ⟨2, by omega, by omega, h⟩
    · exact ⟨3, by omega, by omega, h⟩
    · exact ⟨4, by omega, by omega, h⟩
  · rintro ⟨k, h1, h2, h⟩
    rcases (show k = 0 ∨ k = 1 ∨ k = 2 ∨ k = 3 ∨ k = 4 by omega) with rfl | rfl | rfl | rfl | rfl
    · exact Or.inl h
    · exact Or.inr (Or.inl h)
    · exact Or.inr (Or.inr (Or.inl h))
    · exact Or.inr (Or.inr (Or.inr (Or.inl h)))
    · exact Or.inr (Or.inr (Or.inr (Or.inr h)))
theorem b2_of {r : Int} {P : Prop} [Decidable P] (h01 : r = 0 ∨ r = 1) (h : r = 1 ↔ P) : r = b2 P := by
  by_cases p : P
  · rw [b2_t p]; exact h.mpr p
  · rw [b2_f p]
    rcases h01 with e | e
    · exact e
    · exact absurd (h.mp e) p
theorem itS_or (P : Int → Prop) [DecidablePred P] : ∀ (n : Nat) (s v : Int), (s = 0 ∨ s = 1) → (itS (fun s v => if s = 0 then b2 (P v) else 1) n s v = 0 ∨ itS (fun s v => if s = 0 then b2 (P v) else 1) n s v = 1) ∧ (itS (fun s v => if s = 0 then b2 (P v) else 1) n s v = 1 ↔ s = 1 ∨ ∃ j : Int, v ≤ j ∧ j < v + n ∧ P j)
  | 0, s, v, hs => by
    refine ⟨hs, ?_⟩
    constructor
    · intro h; exact Or.inl h
    · rintro (h | ⟨j, h1, h2, -⟩)
      · exact h
      · omega
  | n + 1, s, v, hs => by
    simp only [itS]
    rcases hs with rfl | rfl
    · rw [if_pos rfl]
      obtain ⟨a1, a2⟩ := itS_or P n (b2 (P v)) (v + 1) (b2_01 _)
      refine ⟨a1, a2.trans ?_⟩
      constructor
      · rintro (h | ⟨j, h1, h2, h3⟩)
        · by_cases p : P v
          · exact Or.inr ⟨v, by omega, by omega, p⟩
          · rw [b2_f p] at h; omega
        · exact Or.inr ⟨j, by omega, by omega, h3⟩
      · rintro (h | ⟨j, h1, h2, h3⟩)
        · omega
        · by_cases e : j = v
          · subst e; exact Or.inl (b2_t h3)
          · exact Or.inr ⟨j, by omega, by omega, h3⟩
    · rw [if_neg (by omega)]
      obtain ⟨a1, a2⟩ := itS_or P n 1 (v + 1) (Or.inr rfl)
      exact ⟨a1, a2.trans ⟨fun _ => Or.inl rfl, fun _ => Or.inl rfl⟩⟩
theorem absI_bd {x A : Int} (h : -A ≤ x ∧ x ≤ A) : 0 ≤ absI x ∧ absI x ≤ A := by
  unfold absI
  split <;> omega
theorem r_susp {μ : Mu} (h : WF (μ 249)) {m q : Int} (hm : 0 ≤ m ∧ m < 4) (hq : 0 ≤ q ∧ q < 5) : f_X11_suspended m q μ = some (μ, 0, b2 (S_susp (μ 249) m q)) := by
  have hN := h.many hq
  have hst := h.st
  unfold f_X11_suspended
  have key := loop_up (S := Int) (fun fu s v => f_X11_suspended_5 m q (fun v3 μ => retZ μ v3) fu s v μ) (fun s => retZ μ s) (fun s v => if s = 0 then b2 (S_far (μ 249) m q v) else 1) (μ 249 (14 + q).toNat) (fun s v => (s = 0 ∨ s = 1) ∧ 0 ≤ v ∧ v ≤ μ 249 (14 + q).toNat) ?_ ?_ (μ 249 (14 + q).toNat).toNat FU 0 0 ⟨Or.inl rfl, by omega, by omega⟩ (by omega) (by unfold FU; omega)
  · rw [key]
    obtain ⟨a1, a2⟩ := itS_or (S_far (μ 249) m q) (μ 249 (14 + q).toNat).toNat 0 0 (Or.inl rfl)
    rw [p_Z a1]
    rw [b2_of a1 (a2.trans (show _ ↔ S_susp (μ 249) m q from ?_))]
    rw [susp_ex]
    constructor
    · rintro (h1 | ⟨j, h1, h2, h3⟩)
      · omega
      · exact ⟨j, h1, by omega, h3⟩
    · rintro ⟨k, h1, h2, h3⟩
      refine Or.inr ⟨k, h1, ?_, h3⟩
      by_cases hk : μ 249 (14 + q).toNat ≤ k
      · have := h.un hm hq ⟨hk, h2⟩
        have h4 := h3.1
        unfold S_mk at h4
        omega
      · omega
  · intro fu s v hi
    obtain ⟨hs, hv⟩ := hi
    show f_X11_suspended_5 m q _ (fu + 1) s v μ = _
    rw [f_X11_suspended_5, p_rdI (by omega), p_lt (by omega)]
    by_cases hvN : v < μ 249 (14 + q).toNat
    · rw [if_pos hvN, if_pos hvN]
      have h1 := h.mk (m := m) (q := q) (k := v) hm hq (by omega)
      have h2 := h.sd (q := q) (k := v) hq (by omega)
      have h3 : iG (S_dv (μ 249) m q v) := by unfold S_dv S_mk iG; omega
      have h4 := absI_bd (x := S_dv (μ 249) m q v) (A := 100) (by unfold S_dv S_mk; omega)
      have e1 : f_X11_hasMarked m q v μ = some (μ, 0, b2 (0 < S_mk (μ 249) m q v)) := by
        unfold f_X11_hasMarked f_X11_hasMarked_19 f_X11_markedAt
        rw [p_rb, p_rdI (by omega), p_lt (by omega)]
        show (if 0 < S_mk (μ 249) m q v then _ else _) = _
        by_cases p : 0 < S_mk (μ 249) m q v
        · rw [if_pos p, b2_t p]; rfl
        · rw [if_neg p, b2_f p]; rfl
      have e2 : f_X11_deviation m q v μ = some (μ, 0, S_dv (μ 249) m q v) := by
        unfold f_X11_deviation f_X11_markedAt
        rw [p_rb, p_rdI (by omega), p_rdI (by omega)]; rfl
      have e3 : f_X11_setting 1 μ = some (μ, 0, μ 249 6) := by
        unfold f_X11_setting
        rw [p_rdI (by omega)]; rfl
      rw [p_eq (by omega)]
      rcases hs with rfl | rfl
      · rw [if_pos rfl, if_pos rfl, e1, p_rb]
        by_cases p : 0 < S_mk (μ 249) m q v
        · rw [b2_t p]
          rw [p_eq (by omega), if_neg (by omega), e2, p_rb, r_amount h3, p_rb, e3, p_rb, p_lt (by omega)]
          by_cases p2 : μ 249 6 < absI (S_dv (μ 249) m q v)
          · rw [if_pos p2, b2_t (show S_far (μ 249) m q v from ⟨p, p2⟩)]; rfl
          · rw [if_neg p2, b2_f (show ¬ S_far (μ 249) m q v from fun w => p2 w.2)]; rfl
        · rw [b2_f p, b2_f (show ¬ S_far (μ 249) m q v from fun w => p w.1)]
          rw [p_eq (by omega), if_pos rfl]; rfl
      · rw [if_neg (by omega), if_neg (by omega)]; rfl
    · rw [if_neg hvN, if_neg hvN]
  · intro s v hi hlt
    refine ⟨?_, by omega, by omega⟩
    rcases hi.1 with e | e
    · rw [if_pos e]; exact b2_01 _
    · rw [if_neg (by omega)]; exact Or.inr rfl

/-! a text is read: the reference -/
def TY (t : Int → Int) (L : Int) : Prop := (0 ≤ L ∧ L ≤ 60) ∧ (∀ j : Int, 0 ≤ j → j < L → 33 ≤ t j ∧ t j ≤ 126) ∧ (∀ j : Int, L ≤ j → t j = -1)
def TYr (μ : Mu) (t : Int → Int) (L : Int) : Prop := μ 248 8 = L ∧ ∀ j : Int, 0 ≤ j → j < L → μ 253 j.toNat = t j
theorem TY.bd {t : Int → Int} {L : Int} (h : TY t L) {j : Int} (h0 : 0 ≤ j) : -1 ≤ t j ∧ t j ≤ 126 := by
  by_cases p : j < L
  · have := h.2.1 j h0 p
    omega
  · rw [h.2.2 j (by omega)]; omega
theorem TY.lt {t : Int → Int} {L : Int} (h : TY t L) {j : Int} (hj : t j ≠ -1) : j < L := by
  by_cases p : j < L
  · exact p
  · exact absurd (h.2.2 j (by omega)) hj
/-- the reader's place alone changes -/
def JQ (μ μ' : Mu) : Prop := ∀ a k : Nat, ¬ (a = 248 ∧ (k = 21 ∨ k = 22)) → μ' a k = μ a k
theorem JQ.up {μ μ1 : Mu} (h : JQ μ μ1) {k : Nat} {v : Int} (hk : k = 21 ∨ k = 22) : JQ μ (up2 μ1 248 k v) := fun a' k' hn => by
  rw [up2_eq, if_neg]
  · exact h a' k' hn
  · rintro ⟨rfl, rfl⟩; exact hn ⟨rfl, hk⟩
theorem JQ.rf (μ : Mu) : JQ μ μ := fun _ _ _ => rfl
/-- its place, and what it has read -/
def JP (μ μ' : Mu) : Prop := ∀ a k : Nat, ¬ (a = 248 ∧ 21 ≤ k ∧ k ≤ 24) → μ' a k = μ a k
theorem JP.rf (μ : Mu) : JP μ μ := fun _ _ _ => rfl
theorem JP.tr {μ μ1 μ2 : Mu} (h1 : JP μ μ1) (h2 : JP μ1 μ2) : JP μ μ2 := fun a k h => (h2 a k h).trans (h1 a k h)
theorem JP.up {μ μ1 : Mu} (h : JP μ μ1) {k : Nat} {v : Int} (hk : 21 ≤ k ∧ k ≤ 24) : JP μ (up2 μ1 248 k v) := fun a' k' hn => by
  rw [up2_eq, if_neg]
  · exact h a' k' hn
  · rintro ⟨rfl, rfl⟩; exact hn ⟨rfl, hk⟩
theorem JP.jr {μ μ' : Mu} (h : JP μ μ') : JR μ μ' := fun a k hn => h a k (fun w => hn (by unfold jR; omega))
theorem JQ.jp {μ μ' : Mu} (h : JQ μ μ') : JP μ μ' := fun a k hn => h a k (fun w => hn (by omega))
theorem TYr.jp {μ μ' : Mu} {t : Int → Int} {L : Int} (R : TYr μ t L) (h : JP μ μ') : TYr μ' t L := ⟨(h 248 8 (by omega)).trans R.1, fun j a b => (h 253 _ (by omega)).trans (R.2 j a b)⟩
theorem r_here {μ : Mu} {t : Int → Int} {L i : Int} (h : TY t L) (R : TYr μ t L) (hs : μ 248 21 = i) (hi : 0 ≤ i ∧ i ≤ L) : f_X11_here μ = some (μ, 0, t i) := by
  obtain ⟨hL, -, h3⟩ := h
  unfold f_X11_here f_X11_here_24
  rw [p_rdF, hs, p_rdF, R.1, p_lt (by omega)]
  by_cases p : i < L
  · rw [if_pos p, p_rdF, hs, p_rdI (by omega), R.2 i hi.1 p]
  · rw [if_neg p, h3 i (by omega)]
/-- where the reader stands, and whether all was right -/
def SQ (μ : Mu) (i r : Int) : Prop := μ 248 21 = i ∧ μ 248 22 = r
theorem r_m21 {μ : Mu} {i r c x : Int} (S : SQ μ i r) (hx : x = 0 ∨ x = 1) : f_X11_must_21 c x μ = some (up2 (up2 μ 248 22 x) 248 21 (i + x), 0, 0) := by
  unfold f_X11_must_21 f_X11_must_41
  rw [p_wrZ hx, p_rdF, up2_k (by omega), S.1, p_rdF, up2_s, p_eq (by omega)]
  by_cases z : x = 0
  · rw [if_pos z, p_wrF, z]
  · rw [if_neg z, p_wrF, show x = 1 by omega]
theorem r_mt {μ : Mu} {t : Int → Int} {L i c : Int} (h : TY t L) (R : TYr μ t L) (S : SQ μ i 1) (hi : 0 ≤ i ∧ i ≤ L) (hc : 0 ≤ c ∧ c ≤ 126) (e : t i = c) : ∃ μ', f_X11_must c μ = some (μ', 0, 0) ∧ JQ μ μ' ∧ SQ μ' (i + 1) 1 := by
  unfold f_X11_must
  rw [p_rdF, S.2, p_eq (by omega), if_neg (by omega), r_here h R S.1 hi, p_rb, p_eq (by omega), if_pos e, r_m21 S (Or.inr rfl)]
  exact ⟨_, rfl, ((JQ.rf μ).up (by omega)).up (by omega), up2_s, by rw [up2_k (by omega), up2_s]⟩
theorem r_mf {μ : Mu} {t : Int → Int} {L i r c : Int} (h : TY t L) (R : TYr μ t L) (S : SQ μ i r) (hi : 0 ≤ i ∧ i ≤ L) (hc : 0 ≤ c ∧ c ≤ 126) (e : r = 0 ∨ (r = 1 ∧ t i ≠ c)) : ∃ μ', f_X11_must c μ = some (μ', 0, 0) ∧ JQ μ μ' ∧ SQ μ' i 0 := by
  have hb := h.bd hi.1
  have o : ∃ μ', some (up2 (up2 μ 248 22 0) 248 21 (i + 0), 0, (0 : Int)) = some (μ', 0, (0 : Int)) ∧ JQ μ μ' ∧ SQ μ' i 0 := ⟨_, rfl, ((JQ.rf μ).up (by omega)).up (by omega), by rw [up2_s, Int.add_zero], by rw [up2_k (by omega), up2_s]⟩
  unfold f_X11_must f_X11_must_20
  rw [p_rdF, S.2, p_eq (by omega)]
  rcases e with rfl | ⟨rfl, e⟩
  · rw [if_pos rfl, r_m21 S (Or.inl rfl)]; exact o
  · rw [if_neg (by omega), r_here h R S.1 hi, p_rb, p_eq (by omega), if_neg e, r_m21 S (Or.inl rfl)]; exact o
theorem r_dt {μ : Mu} {t : Int → Int} {L i c : Int} (h : TY t L) (R : TYr μ t L) (S : SQ μ i 1) (hi : 0 ≤ i ∧ i ≤ L) (hc : 48 ≤ c ∧ c ≤ 57) (e : 48 ≤ t i ∧ t i ≤ c) : ∃ μ', f_X11_digit c μ = some (μ', 0, t i - 48) ∧ JQ μ μ' ∧ SQ μ' (i + 1) 1 := by
  have hL := h.1
  have hlt := h.lt (j := i) (by omega)
  unfold f_X11_digit f_X11_digit_26
  rw [p_rdF, S.2, p_eq (by omega), if_neg (by omega), r_here h R S.1 hi, p_rb, r_in (by unfold iG; omega) (by unfold iG; omega) (by unfold iG; omega), p_rb, b2_t e, p_eq (by omega), if_neg (by omega)]
  rw [p_wrZ (Or.inr rfl), p_rdF, up2_s, p_eq (by omega), if_neg (by omega), p_rdF, up2_k (by omega), S.1, p_wrF, p_rdF, up2_s, p_rdI (by omega), up2_o (by omega), up2_o (by omega), show i + 1 - 1 = i by omega, R.2 i hi.1 hlt]
  exact ⟨_, rfl, ((JQ.rf μ).up (by omega)).up (by omega), up2_s, by rw [up2_k (by omega), up2_s]⟩
theorem r_df {μ : Mu} {t : Int → Int} {L i r c : Int} (h : TY t L) (R : TYr μ t L) (S : SQ μ i r) (hi : 0 ≤ i ∧ i ≤ L) (hc : 48 ≤ c ∧ c ≤ 57) (e : r = 0 ∨ (r = 1 ∧ ¬ (48 ≤ t i ∧ t i ≤ c))) : ∃ μ', f_X11_digit c μ = some (μ', 0, 0) ∧ JQ μ μ' ∧ SQ μ' i 0 := by
  have hb := h.bd hi.1
  have d0 : f_X11_digit_25 c μ = some (up2 μ 248 22 0, 0, 0) := by
    unfold f_X11_digit_25 f_X11_digit_26
    rw [p_wrZ (Or.inl rfl), p_rdF, up2_s, p_eq (by omega), if_pos rfl]
  have o : ∃ μ', some (up2 μ 248 22 0, 0, (0 : Int)) = some (μ', 0, (0 : Int)) ∧ JQ μ μ' ∧ SQ μ' i 0 := ⟨_, rfl, (JQ.rf μ).up (by omega), (up2_k (by omega)).trans S.1, up2_s⟩
  unfold f_X11_digit
  rw [p_rdF, S.2, p_eq (by omega)]
  rcases e with rfl | ⟨rfl, e⟩
  · rw [if_pos rfl, d0]; exact o
  · rw [if_neg (by omega), r_here h R S.1 hi, p_rb, r_in (by unfold iG; omega) (by unfold iG; omega) (by unfold iG; omega), p_rb, b2_f e, p_eq (by omega), if_pos rfl, d0]; exact o
/-! an entry in a text -/
abbrev tq_E (t : Int → Int) (i : Int) : Prop := (48 ≤ t i ∧ t i ≤ 55) ∧ t (i + 1) = 61 ∧ (48 ≤ t (i + 2) ∧ t (i + 2) ≤ 57)
abbrev tq_2 (t : Int → Int) (i : Int) : Prop := 48 < t (i + 2) ∧ 48 ≤ t (i + 3) ∧ t (i + 3) ≤ 57
def tq_J (t : Int → Int) (i : Int) : Int := if tq_2 t i then i + 4 else i + 3
def tq_C (t : Int → Int) (i : Int) : Int := t i - 48
def tq_V (t : Int → Int) (i : Int) : Int := if tq_2 t i then 10 * (t (i + 2) - 48) + (t (i + 3) - 48) else t (i + 2) - 48
def tq_F (t : Int → Int) (i : Int) : Int := if 48 ≤ t i ∧ t i ≤ 55 then (if t (i + 1) = 61 then i + 2 else i + 1) else i
theorem tq_Jb {t : Int → Int} {L i : Int} (h : TY t L) (hE : tq_E t i) : i + 3 ≤ tq_J t i ∧ tq_J t i ≤ L ∧ tq_J t i ≤ i + 4 := by
  have h2 := h.lt (j := i + 2) (by have := hE.2.2; omega)
  unfold tq_J
  by_cases p : tq_2 t i
  · have h3 := h.lt (j := i + 3) (by have := p.2; omega)
    rw [if_pos p]; omega
  · rw [if_neg p]; omega
theorem SQ.up {μ : Mu} {i r v : Int} {k : Nat} (S : SQ μ i r) (hk : k ≠ 21 ∧ k ≠ 22) : SQ (up2 μ 248 k v) i r := ⟨(up2_k (by omega)).trans S.1, (up2_k (by omega)).trans S.2⟩
/-- the rest of an entry once something was wrong -/
theorem r_rE0 {m1 : Mu} {t : Int → Int} {L i r : Int} (h : TY t L) (R : TYr m1 t L) (S : SQ m1 i r) (hi : 0 ≤ i ∧ i ≤ L) (e : r = 0 ∨ (r = 1 ∧ t i ≠ 61)) : ∃ μ', (rb (f_X11_must 61 m1) fun μ _ => rb (f_X11_digit 57 μ) fun μ x2 => wrF μ 248 24 x2 fun μ => rdF μ 248 22 fun x3 => i_eq x3 0 (f_X11_readsEntry_72 μ) (rdF μ 248 24 fun x4 => i_lt 0 x4 (rb (f_X11_here μ) fun μ x5 => rb (f_X11_in x5 48 57 μ) fun μ x6 => i_eq x6 0 (f_X11_readsEntry_72 μ) (rdF μ 248 24 fun x7 => rb (f_X11_digit 57 μ) fun μ x8 => wrF μ 248 24 ((10 * x7) + x8) fun μ => f_X11_readsEntry_72 μ)) (f_X11_readsEntry_72 μ))) = some (μ', 0, 0) ∧ JP m1 μ' ∧ SQ μ' i 0 := by
  obtain ⟨m2, a2, j2, s2⟩ := r_mf h R S hi (c := 61) (by omega) e
  obtain ⟨m3, a3, j3, s3⟩ := r_df h (R.jp j2.jp) s2 hi (c := 57) (by omega) (Or.inl rfl)
  have s4 := s3.up (k := 24) (v := 0) (by omega)
  refine ⟨up2 m3 248 24 0, ?_, (j2.jp.tr j3.jp).up (by omega), s4⟩
  unfold f_X11_readsEntry_72
  rw [a2, p_rb, a3, p_rb, p_wrF, p_rdF, s4.2, p_eq (by omega), if_pos rfl]
theorem r_rEd {μ : Mu} {t : Int → Int} {L i : Int} (h : TY t L) (R : TYr μ t L) (S : SQ μ i 0) (hi : 0 ≤ i ∧ i ≤ L) : ∃ μ', f_X11_readsEntry μ = some (μ', 0, 0) ∧ JP μ μ' ∧ SQ μ' i 0 := by
  obtain ⟨m1, a1, j1, s1⟩ := r_df h R S hi (c := 55) (by omega) (Or.inl rfl)
  have j1' : JP μ (up2 m1 248 23 0) := j1.jp.up (by omega)
  obtain ⟨m2, a2, j2, s2⟩ := r_rE0 h (R.jp j1') (s1.up (k := 23) (v := 0) (by omega)) hi (Or.inl rfl)
  refine ⟨m2, ?_, j1'.tr j2, s2⟩
  unfold f_X11_readsEntry
  rw [a1, p_rb, p_wrF]; exact a2
theorem r_rE {μ : Mu} {t : Int → Int} {L i : Int} (h : TY t L) (R : TYr μ t L) (S : SQ μ i 1) (hi : 0 ≤ i ∧ i ≤ L) : ∃ μ', f_X11_readsEntry μ = some (μ', 0, 0) ∧ JP μ μ' ∧ (tq_E t i → SQ μ' (tq_J t i) 1 ∧ μ' 248 23 = tq_C t i ∧ μ' 248 24 = tq_V t i) ∧ (¬ tq_E t i → SQ μ' (tq_F t i) 0) := by
  have hL := h.1
  by_cases p1 : 48 ≤ t i ∧ t i ≤ 55
  · have l1 := h.lt (j := i) (by omega)
    obtain ⟨m1, a1, j1, s1⟩ := r_dt h R S hi (c := 55) (by omega) p1
    have j1' : JP μ (up2 m1 248 23 (t i - 48)) := j1.jp.up (by omega)
    have s1' := s1.up (k := 23) (v := t i - 48) (by omega)
    by_cases p2 : t (i + 1) = 61
    · have l2 := h.lt (j := i + 1) (by omega)
      obtain ⟨m2, a2, j2, s2⟩ := r_mt h (R.jp j1') s1' (by omega) (c := 61) (by omega) p2
      rw [show i + 1 + 1 = i + 2 by omega] at s2
      have j2' := j1'.tr j2.jp
      have c2 : m2 248 23 = t i - 48 := (j2 248 23 (by omega)).trans up2_s
      by_cases p3 : 48 ≤ t (i + 2) ∧ t (i + 2) ≤ 57
      · have hE : tq_E t i := ⟨p1, p2, p3⟩
        have l3 := h.lt (j := i + 2) (by omega)
        obtain ⟨m3, a3, j3, s3⟩ := r_dt h (R.jp j2') s2 (by omega) (c := 57) (by omega) p3
        rw [show i + 2 + 1 = i + 3 by omega] at s3
        have j3' : JP μ (up2 m3 248 24 (t (i + 2) - 48)) := (j2'.tr j3.jp).up (by omega)
        have s3' := s3.up (k := 24) (v := t (i + 2) - 48) (by omega)
        have c3 : (up2 m3 248 24 (t (i + 2) - 48)) 248 23 = t i - 48 := (up2_k (by omega)).trans ((j3 248 23 (by omega)).trans c2)
        have b3 := h.bd (j := i + 3) (by omega)
        by_cases p4 : 48 < t (i + 2)
        · by_cases p5 : 48 ≤ t (i + 3) ∧ t (i + 3) ≤ 57
          · have h2 : tq_2 t i := ⟨p4, p5⟩
            obtain ⟨m4, a4, j4, s4⟩ := r_dt h (R.jp j3') s3' (by omega) (c := 57) (by omega) p5
            rw [show i + 3 + 1 = i + 4 by omega] at s4
            refine ⟨up2 m4 248 24 (10 * (t (i + 2) - 48) + (t (i + 3) - 48)), ?_, (j3'.tr j4.jp).up (by omega), fun _ => ⟨?_, ?_, ?_⟩, fun w => absurd hE w⟩
            · unfold f_X11_readsEntry f_X11_readsEntry_72
              rw [a1, p_rb, p_wrF, a2, p_rb, a3, p_rb, p_wrF, p_rdF, s3'.2, p_eq (by omega), if_neg (by omega), p_rdF, up2_s, p_lt (by omega), if_pos (by omega), r_here h (R.jp j3') s3'.1 (by omega), p_rb, r_in (by unfold iG; omega) (by unfold iG; omega) (by unfold iG; omega), p_rb, b2_t p5, p_eq (by omega), if_neg (by omega), p_rdF, up2_s, a4, p_rb, p_wrF]
            · unfold tq_J
              rw [if_pos h2]; exact s4.up (by omega)
            · rw [up2_k (by omega), j4 248 23 (by omega)]; exact c3
            · rw [up2_s]
              unfold tq_V
              rw [if_pos h2]
          · have h2 : ¬ tq_2 t i := fun w => p5 w.2
            refine ⟨up2 m3 248 24 (t (i + 2) - 48), ?_, j3', fun _ => ⟨?_, c3, ?_⟩, fun w => absurd hE w⟩
            · unfold f_X11_readsEntry f_X11_readsEntry_72
              rw [a1, p_rb, p_wrF, a2, p_rb, a3, p_rb, p_wrF, p_rdF, s3'.2, p_eq (by omega), if_neg (by omega), p_rdF, up2_s, p_lt (by omega), if_pos (by omega), r_here h (R.jp j3') s3'.1 (by omega), p_rb, r_in (by unfold iG; omega) (by unfold iG; omega) (by unfold iG; omega), p_rb, b2_f p5, p_eq (by omega), if_pos rfl]
            · unfold tq_J
              rw [if_neg h2]; exact s3'
            · rw [up2_s]
              unfold tq_V
              rw [if_neg h2]
        · have h2 : ¬ tq_2 t i := fun w => p4 w.1
          refine ⟨up2 m3 248 24 (t (i + 2) - 48), ?_, j3', fun _ => ⟨?_, c3, ?_⟩, fun w => absurd hE w⟩
          · unfold f_X11_readsEntry f_X11_readsEntry_72
            rw [a1, p_rb, p_wrF, a2, p_rb, a3, p_rb, p_wrF, p_rdF, s3'.2, p_eq (by omega), if_neg (by omega), p_rdF, up2_s, p_lt (by omega), if_neg (by omega)]
          · unfold tq_J
            rw [if_neg h2]; exact s3'
          · rw [up2_s]
            unfold tq_V
            rw [if_neg h2]
      · obtain ⟨m3, a3, j3, s3⟩ := r_df h (R.jp j2') s2 (by omega) (c := 57) (by omega) (Or.inr ⟨rfl, p3⟩)
        have s3' := s3.up (k := 24) (v := 0) (by omega)
        refine ⟨up2 m3 248 24 0, ?_, (j2'.tr j3.jp).up (by omega), fun w => absurd w.2.2 p3, fun _ => ?_⟩
        · unfold f_X11_readsEntry f_X11_readsEntry_72
          rw [a1, p_rb, p_wrF, a2, p_rb, a3, p_rb, p_wrF, p_rdF, s3'.2, p_eq (by omega), if_pos rfl]
        · unfold tq_F
          rw [if_pos p1, if_pos p2]; exact s3'
    · obtain ⟨m2, a2, j2, s2⟩ := r_rE0 h (R.jp j1') s1' (by omega) (Or.inr ⟨rfl, p2⟩)
      refine ⟨m2, ?_, j1'.tr j2, fun w => absurd w.2.1 p2, fun _ => ?_⟩
      · unfold f_X11_readsEntry
        rw [a1, p_rb, p_wrF]; exact a2
      · unfold tq_F
        rw [if_pos p1, if_neg p2]; exact s2
  · obtain ⟨m1, a1, j1, s1⟩ := r_df h R S hi (c := 55) (by omega) (Or.inr ⟨rfl, p1⟩)
    have j1' : JP μ (up2 m1 248 23 0) := j1.jp.up (by omega)
    obtain ⟨m2, a2, j2, s2⟩ := r_rE0 h (R.jp j1') (s1.up (k := 23) (v := 0) (by omega)) hi (Or.inl rfl)
    refine ⟨m2, ?_, j1'.tr j2, fun w => absurd w.1 p1, fun _ => ?_⟩
    · unfold f_X11_readsEntry
      rw [a1, p_rb, p_wrF]; exact a2
    · unfold tq_F
      rw [if_neg p1]; exact s2
/-! all entries of a text -/
def tq_ok (t : Int → Int) (L : Int) : Nat → Int → Int
  | 0, _ => 0
  | n + 1, i => if tq_E t i then (if t (tq_J t i) = 44 then tq_ok t L n (tq_J t i + 1) else b2 (tq_J t i = L)) else 0
def tq_pos (t : Int → Int) : Nat → Int → Int
  | 0, i => i
  | n + 1, i => if tq_E t i then (if t (tq_J t i) = 44 then tq_pos t n (tq_J t i + 1) else tq_J t i) else tq_F t i
def tq_es (t : Int → Int) : Nat → Int → List (Int × Int)
  | 0, _ => []
  | n + 1, i => if tq_E t i then (tq_C t i, tq_V t i) :: (if t (tq_J t i) = 44 then tq_es t n (tq_J t i + 1) else []) else []
theorem tq_ok01 {t : Int → Int} {L : Int} : ∀ (n : Nat) (i : Int), tq_ok t L n i = 0 ∨ tq_ok t L n i = 1
  | 0, _ => Or.inl rfl
  | n + 1, i => by
    simp only [tq_ok]
    by_cases p : tq_E t i
    · rw [if_pos p]
      by_cases q : t (tq_J t i) = 44
      · rw [if_pos q]; exact tq_ok01 n _
      · rw [if_neg q]; exact b2_01 _
    · rw [if_neg p]; exact Or.inl rfl
theorem r_loop {t : Int → Int} {L : Int} (h : TY t L) (K : Mu → Option Res) : ∀ (n fu : Nat) (i : Int) (μ : Mu), TYr μ t L → SQ μ i 1 → 0 ≤ i → i ≤ L → L ≤ i + n → n < fu → ∃ μ' r, (rb (f_X11_readsEntry μ) fun μ _ => f_X11_isSheet_40 K fu μ) = K μ' ∧ JP μ μ' ∧ SQ μ' (tq_pos t n i) r ∧ (r = 0 ∨ r = 1) ∧ b2 (r = 1 ∧ tq_pos t n i = L) = tq_ok t L n i
  | 0, fu + 1, i, μ, R, S, h0, hi, hn, hf => by
    obtain ⟨m1, a1, j1, b1, c1⟩ := r_rE h R S ⟨h0, hi⟩
    have ne : ¬ tq_E t i := fun w => by
      have := h.2.2 i (by omega)
      have := w.1
      omega
    have s1 := c1 ne
    have e : tq_F t i = i := by
      have := h.2.2 i (by omega)
      unfold tq_F
      rw [if_neg (by omega)]
    rw [e] at s1
    refine ⟨m1, 0, ?_, j1, s1, Or.inl rfl, b2_f (by omega)⟩
    rw [a1, p_rb, f_X11_isSheet_40, p_rdF, s1.2, p_eq (by omega), if_pos rfl]
  | n + 1, fu + 1, i, μ, R, S, h0, hi, hn, hf => by
    obtain ⟨m1, a1, j1, b1, c1⟩ := r_rE h R S ⟨h0, hi⟩
    by_cases p : tq_E t i
    · obtain ⟨s1, -, -⟩ := b1 p
      have jb := tq_Jb h p
      have hh := r_here h (R.jp j1) s1.1 (by omega)
      have bd := h.bd (j := tq_J t i) (by omega)
      by_cases q : t (tq_J t i) = 44
      · have lt := h.lt (j := tq_J t i) (by omega)
        have jn : JP μ (up2 m1 248 21 (tq_J t i + 1)) := j1.up (by omega)
        obtain ⟨m2, r, a2, j2, s2, r2, o2⟩ := r_loop h K n fu (tq_J t i + 1) (up2 m1 248 21 (tq_J t i + 1)) (R.jp jn) ⟨up2_s, (up2_k (by omega)).trans s1.2⟩ (by omega) (by omega) (by omega) (by omega)
        have eP : tq_pos t (n + 1) i = tq_pos t n (tq_J t i + 1) := by
          simp only [tq_pos]
          rw [if_pos p, if_pos q]
        have eO : tq_ok t L (n + 1) i = tq_ok t L n (tq_J t i + 1) := by
          simp only [tq_ok]
          rw [if_pos p, if_pos q]
        rw [eP, eO]
        refine ⟨m2, r, ?_, jn.tr j2, s2, r2, o2⟩
        rw [a1, p_rb, f_X11_isSheet_40, p_rdF, s1.2, p_eq (by omega), if_neg (by omega), hh, p_rb, p_eq (by omega), if_pos q, p_rdF, s1.1, p_wrF]
        exact a2
      · have eP : tq_pos t (n + 1) i = tq_J t i := by
          simp only [tq_pos]
          rw [if_pos p, if_neg q]
        have eO : tq_ok t L (n + 1) i = b2 (tq_J t i = L) := by
          simp only [tq_ok]
          rw [if_pos p, if_neg q]
        rw [eP, eO]
        refine ⟨m1, 1, ?_, j1, s1, Or.inr rfl, b2_congr ⟨fun w => w.2, fun w => ⟨rfl, w⟩⟩⟩
        rw [a1, p_rb, f_X11_isSheet_40, p_rdF, s1.2, p_eq (by omega), if_neg (by omega), hh, p_rb, p_eq (by omega), if_neg q]
    · have s1 := c1 p
      have eP : tq_pos t (n + 1) i = tq_F t i := by
        simp only [tq_pos]
        rw [if_neg p]
      have eO : tq_ok t L (n + 1) i = 0 := by
        simp only [tq_ok]
        rw [if_neg p]
      rw [eP, eO]
      refine ⟨m1, 0, ?_, j1, s1, Or.inl rfl, b2_f (by omega)⟩
      rw [a1, p_rb, f_X11_isSheet_40, p_rdF, s1.2, p_eq (by omega), if_pos rfl]

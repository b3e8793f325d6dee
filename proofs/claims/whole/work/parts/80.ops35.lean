/-! why an entry is refused -/
abbrev S_hag (g : Nat → Int) (c q : Int) : Prop := (S_vals g c q).length = 2 ∧ S_agr g ((S_vals g c q).getD 0 0) ((S_vals g c q).getD 1 0)
def S_why (g : Nat → Int) (m c q v : Int) : Int := if g 652 = 0 then (if g q.toNat < v then 12 else if S_hb g m c q then 13 else if S_cnt g c q (g 144).toNat = 3 then 14 else if S_hag g c q then 15 else 0) else 11
def S_wd (g : Nat → Int) (m q w : Int) : Int := if w = 11 then 0 else if w = 12 then g q.toNat else if w = 13 then m else if w = 14 then 3 else q
theorem wd11 {g : Nat → Int} {m q : Int} : S_wd g m q 11 = 0 := by
  unfold S_wd
  rw [if_pos rfl]
theorem wd12 {g : Nat → Int} {m q : Int} : S_wd g m q 12 = g q.toNat := by
  unfold S_wd
  rw [if_neg (by omega), if_pos rfl]
theorem wd13 {g : Nat → Int} {m q : Int} : S_wd g m q 13 = m := by
  unfold S_wd
  rw [if_neg (by omega), if_neg (by omega), if_pos rfl]
theorem wd14 {g : Nat → Int} {m q : Int} : S_wd g m q 14 = 3 := by
  unfold S_wd
  rw [if_neg (by omega), if_neg (by omega), if_neg (by omega), if_pos rfl]
theorem wd15 {g : Nat → Int} {m q : Int} : S_wd g m q 15 = q := by
  unfold S_wd
  rw [if_neg (by omega), if_neg (by omega), if_neg (by omega), if_neg (by omega)]
theorem why_bd {g : Nat → Int} {m c q v : Int} : 0 ≤ S_why g m c q v ∧ S_why g m c q v ≤ 15 := by
  unfold S_why
  repeat' split
  all_goals omega
theorem vals_at {g : Nat → Int} (h : WF g) {c q : Int} {i : Nat} (hi : i < (S_vals g c q).length) : 0 ≤ (S_vals g c q).getD i 0 ∧ (S_vals g c q).getD i 0 ≤ 4800 := by
  refine S_vals_bd (c := c) (q := q) h _ ?_
  rw [List.getD_eq_getElem?_getD, List.getElem?_eq_getElem hi]
  exact List.getElem_mem hi
theorem c_hasAgr {μ : Mu} {b : Nat} {g : Nat → Int} (h : WF g) (h3 : WF3 g) (R : RB μ b g) {c q s : Int} (hc : 0 ≤ c ∧ c < 8) (hq : 0 ≤ q ∧ q < 5) (hs : s = c * 5 + q) : ∃ μ', f_X1_hasAgreement b s μ = some (μ', 0, b2 (S_hag g c q)) ∧ JB b μ μ' := by
  obtain ⟨μ1, a1, a2, a3⟩ := c_rvv h h3 R hc hq hs
  have hl := S_vals_len h3 (c := c) (q := q)
  refine ⟨μ1, ?_, a2⟩
  unfold f_X1_hasAgreement f_X1_hasAgreement_32 f_X1_hasAgreement_33
  rw [a1, p_rb, p_eq (by omega)]
  by_cases p : (S_vals g c q).length = 2
  · have v0 := vals_at h (c := c) (q := q) (i := 0) (by omega)
    have v1 := vals_at h (c := c) (q := q) (i := 1) (by omega)
    have r0 : μ1 (b + 23) (0 : Int).toNat = (S_vals g c q).getD 0 0 := a3 0 (by omega)
    have r1 : μ1 (b + 23) (1 : Int).toNat = (S_vals g c q).getD 1 0 := a3 1 (by omega)
    rw [if_pos (by omega), p_rdI (by omega), r0, p_rdI (by omega), r1, c_agree h (a2.R R) (by omega) (by omega), p_rb]
    by_cases p2 : S_agr g ((S_vals g c q).getD 0 0) ((S_vals g c q).getD 1 0)
    · rw [b2_t p2, p_eq (by omega), if_neg (by omega), p_Z1, b2_t (show S_hag g c q from ⟨p, p2⟩)]
    · rw [b2_f p2, p_eq (by omega), if_pos rfl, p_Z0, b2_f (show ¬ S_hag g c q from fun w => p2 w.2)]
  · rw [if_neg (by omega), p_Z0, b2_f (show ¬ S_hag g c q from fun w => p w.1)]
theorem c_refE {μ : Mu} {b : Nat} {g : Nat → Int} (h : WF g) (h3 : WF3 g) (R : RB μ b g) {i m c q s v : Int} (hm : 0 ≤ m ∧ m < 4) (hc : 0 ≤ c ∧ c < 8) (hq : 0 ≤ q ∧ q < 5) (hs : s = c * 5 + q) (hv : iG v) :
    ∃ μ', f_X10_refusesEntry b i m s v μ = (if S_why g m c q v = 0 then some (μ', 0, 0) else some (TLc μ' 1 i (S_why g m c q v) (S_wd g m q (S_why g m c q v)), 0, 1)) ∧ JB b μ μ' := by
  have hpb := h.pub
  have hmx := h.mx hq
  have hcn := h3 c q
  have hc0 := cnt_0 (g := g) (c := c) (q := q) (n := (g 144).toNat)
  have rmx : μ (b + 1) q.toNat = g q.toNat := R.mx hq
  have rsz : μ (b + 11 + 1) s.toNat = S_cnt g c q (g 144).toNat := by rw [hs]; exact R.sz hc hq
  have hE := c_hasEB h h3 R hm hc hq hs
  unfold iG at hv
  unfold f_X10_refusesEntry
  rw [p_rem (by omega), show s % 5 = q by omega, p_rdF, R.pub, p_eq (by omega)]
  unfold S_why
  by_cases q1 : g 652 = 0
  · rw [if_pos q1, if_pos q1, p_rdI (by omega), rmx, p_lt (by omega)]
    by_cases q2 : g q.toNat < v
    · rw [if_pos q2, if_pos q2, p_rdI (by omega), rmx, c_tell, p_rb, p_Z1]
      exact ⟨μ, by rw [if_neg (by omega), wd12], JB.rf b μ⟩
    · rw [if_neg q2, if_neg q2, hE, p_rb]
      by_cases q3 : S_hb g m c q
      · rw [b2_t q3, p_eq (by omega), if_neg (by omega), c_tell, p_rb, p_Z1, if_pos q3]
        exact ⟨μ, by rw [if_neg (by omega), wd13], JB.rf b μ⟩
      · rw [b2_f q3, p_eq (by omega), if_pos rfl, p_rdI (by omega), rsz, p_lt (by omega), if_neg q3]
        by_cases q4 : S_cnt g c q (g 144).toNat = 3
        · rw [if_neg (by omega), c_tell, p_rb, p_Z1, if_pos q4]
          exact ⟨μ, by rw [if_neg (by omega), wd14], JB.rf b μ⟩
        · obtain ⟨μ1, a1, a2⟩ := c_hasAgr h h3 R hc hq hs
          rw [if_pos (by omega), a1, p_rb, if_neg q4]
          by_cases q5 : S_hag g c q
          · rw [b2_t q5, p_eq (by omega), if_neg (by omega), c_tell, p_rb, p_Z1, if_pos q5]
            exact ⟨μ1, by rw [if_neg (by omega), wd15], a2⟩
          · rw [b2_f q5, p_eq (by omega), if_pos rfl, p_Z0, if_neg q5]
            exact ⟨μ1, by rw [if_pos rfl], a2⟩
  · rw [if_neg q1, if_neg q1, c_tell, p_rb, p_Z1]
    exact ⟨μ, by rw [if_neg (by omega), wd11], JB.rf b μ⟩
/-- what a refusal may spoil -/
def JZ (μ μ' : Mu) : Prop := ∀ a k : Nat, ¬ (a = 255 ∨ (a = 248 ∧ (k = 13 ∨ k = 20))) → μ' a k = μ a k
theorem JZ.rf (μ : Mu) : JZ μ μ := fun _ _ _ => rfl
theorem JZ.tr {μ μ1 μ2 : Mu} (h1 : JZ μ μ1) (h2 : JZ μ1 μ2) : JZ μ μ2 := fun a k h => (h2 a k h).trans (h1 a k h)
theorem JZ.up {μ μ1 : Mu} (h : JZ μ μ1) {v : Int} : JZ μ (up2 μ1 248 20 v) := fun a' k' hn => by
  rw [up2_eq, if_neg (by omega)]
  exact h a' k' hn
theorem JZ.jr {μ μ' : Mu} (h : JZ μ μ') : JR μ μ' := fun a k hn => h a k (fun w => hn (by unfold jR; omega))
theorem JF.jz {μ μ' : Mu} (h : JF μ μ') : JZ μ μ' := fun a k hn => h a k (fun w => hn (by unfold jF at w; omega))
theorem r_refusal {μ : Mu} (h : WF (μ 249)) (h3 : WF3 (μ 249)) {m c q v : Int} (hm : 0 ≤ m ∧ m < 4) (hc : 0 ≤ c ∧ c < 8) (hq : 0 ≤ q ∧ q < 5) (hv : iG v) :
    ∃ μ', f_X11_refusal m c q v μ = some (μ', 0, S_why (μ 249) m c q v) ∧ (S_why (μ 249) m c q v ≠ 0 → μ' 248 20 = S_wd (μ 249) m q (S_why (μ 249) m c q v)) ∧ JZ μ μ' := by
  have hpb := h.pub
  have hmx := h.mx hq
  have hcn := h3 c q
  have hc0 := cnt_0 (g := μ 249) (c := c) (q := q) (n := (μ 249 144).toNat)
  have iv := hv
  have e : ∀ (m1 : Mu) (x : Int), (up2 m1 248 20 x) 249 = m1 249 := fun _ _ => up2_oo (by omega)
  have j : ∀ (m1 : Mu) (x : Int), JZ μ m1 → JZ μ (up2 m1 248 20 x) := fun m1 x w => w.up
  have gm : iG m := by unfold iG; omega
  have gc : iG c := by unfold iG; omega
  have gq : iG q := by unfold iG; omega
  unfold iG at hv
  unfold f_X11_refusal f_X11_refusal_122 f_X11_refusal_123
  rw [p_wrF, r_pub (by rw [e]; exact h), p_rb, e, p_eq (by omega)]
  unfold S_why
  by_cases q1 : μ 249 652 = 0
  · rw [if_pos q1, if_pos q1, p_rdI (by omega), e, Int.zero_add, p_wrF, p_rdI (by omega), e, e, p_lt (by omega)]
    by_cases q2 : μ 249 q.toNat < v
    · rw [if_pos q2, if_pos q2]
      exact ⟨_, rfl, fun _ => up2_s.trans wd12.symm, j _ _ (j _ _ (JZ.rf μ))⟩
    · rw [if_neg q2, if_neg q2, p_wrF, r_hasEnt (by rw [e, e, e]; exact h) gm gc gq, p_rb, e, e, e]
      by_cases q3 : S_hb (μ 249) m c q
      · rw [b2_t q3, p_eq (by omega), if_neg (by omega), if_pos q3]
        exact ⟨_, rfl, fun _ => up2_s.trans wd13.symm, j _ _ (j _ _ (j _ _ (JZ.rf μ)))⟩
      · rw [b2_f q3, p_eq (by omega), if_pos rfl, p_wrF, r_entries (by rw [e, e, e, e]; exact h) gc gq, p_rb, e, e, e, e, p_eq (by omega), if_neg q3]
        by_cases q4 : S_cnt (μ 249) c q (μ 249 144).toNat = 3
        · rw [if_pos q4, if_pos q4]
          exact ⟨_, rfl, fun _ => up2_s.trans wd14.symm, j _ _ (j _ _ (j _ _ (j _ _ (JZ.rf μ))))⟩
        · rw [if_neg q4, if_neg q4, p_wrF]
          have e5 : (up2 (up2 (up2 (up2 (up2 μ 248 20 0) 248 20 (μ 249 q.toNat)) 248 20 m) 248 20 3) 248 20 q) 249 = μ 249 := by rw [e, e, e, e, e]
          have j5 : JZ μ (up2 (up2 (up2 (up2 (up2 μ 248 20 0) 248 20 (μ 249 q.toNat)) 248 20 m) 248 20 3) 248 20 q) := j _ _ (j _ _ (j _ _ (j _ _ (j _ _ (JZ.rf μ)))))
          have s5 : (up2 (up2 (up2 (up2 (up2 μ 248 20 0) 248 20 (μ 249 q.toNat)) 248 20 m) 248 20 3) 248 20 q) 248 20 = q := up2_s
          generalize up2 (up2 (up2 (up2 (up2 μ 248 20 0) 248 20 (μ 249 q.toNat)) 248 20 m) 248 20 3) 248 20 q = m5 at e5 j5 s5 ⊢
          obtain ⟨m6, a1, a2, a3, a4⟩ := r_finds (μ := m5) (by rw [e5]; exact h) (by rw [e5]; exact h3) gc gq
          rw [e5] at a3 a4
          have e6 : m6 249 = μ 249 := a2.s.trans e5
          have hl := S_vals_len h3 (c := c) (q := q)
          have s6 : m6 248 20 = q := (a2 248 20 (by unfold jF; omega)).trans s5
          have j6 : JZ μ m6 := j5.tr a2.jz
          rw [a1, p_rb, p_rdF, a3, p_eq (by omega)]
          by_cases p : (S_vals (μ 249) c q).length = 2
          · have v0 := vals_at h (c := c) (q := q) (i := 0) (by omega)
            have v1 := vals_at h (c := c) (q := q) (i := 1) (by omega)
            have r0 : m6 255 (0 : Int).toNat = (S_vals (μ 249) c q).getD 0 0 := a4 0 (by omega)
            have r1 : m6 255 (1 : Int).toNat = (S_vals (μ 249) c q).getD 1 0 := a4 1 (by omega)
            rw [if_pos (by omega), p_rdI (by omega), r0, p_rdI (by omega), r1, r_agree (by rw [e6]; exact h) (by omega) (by omega), p_rb, e6]
            by_cases p2 : S_agr (μ 249) ((S_vals (μ 249) c q).getD 0 0) ((S_vals (μ 249) c q).getD 1 0)
            · rw [b2_t p2, p_eq (by omega), if_neg (by omega), if_pos (show S_hag (μ 249) c q from ⟨p, p2⟩)]
              exact ⟨m6, rfl, fun _ => s6.trans wd15.symm, j6⟩
            · rw [b2_f p2, p_eq (by omega), if_pos rfl, if_neg (show ¬ S_hag (μ 249) c q from fun w => p2 w.2)]
              exact ⟨m6, rfl, fun w => absurd rfl w, j6⟩
          · rw [if_neg (by omega), if_neg (show ¬ S_hag (μ 249) c q from fun w => p w.1)]
            exact ⟨m6, rfl, fun w => absurd rfl w, j6⟩
  · rw [if_neg q1, if_neg q1]
    exact ⟨_, rfl, fun _ => up2_s.trans wd11.symm, j _ _ (JZ.rf μ)⟩

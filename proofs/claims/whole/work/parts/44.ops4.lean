/-! graded, needed, ranked -/
theorem r_gradeOf {μ : Mu} (h : WF (μ 249)) (h3 : WF3 (μ 249)) (hx : WFx (μ 249)) {c : Int} (hc : 0 ≤ c ∧ c < 8) : ∃ μ', f_X11_gradeOf c μ = some (μ', 0, S_grade (μ 249) c (S_set (μ 249) c)) ∧ JR μ μ' := by
  obtain ⟨μ1, μ2, a1, a2, a3, -, -, -, -, g5⟩ := r_gradesOf h h3 hx hc
  refine ⟨μ2, ?_, a3⟩
  unfold f_X11_gradeOf
  rw [a1, p_rb, a2, p_rb, p_rdF, g5]
def S_gd (g : Nat → Int) (w c : Int) : Int := b2 (S_hg g c ∧ S_grade g c (S_set g c) = w)
theorem c_graded_l {T : Int} {μ : Mu} (I : Inv T μ) {w : Int} (hw : iG w) : ∀ (n fu : Nat) (s v : Int) (μ1 : Mu), 0 ≤ v → v + n = 8 → n < fu → KA μ μ1 → ∃ μ2, f_X10_graded_8 w (fun v2 μ => some (μ, 0, v2)) fu s v μ1 = some (μ2, 0, s + sm (S_gd (μ 249) w) n v) ∧ KA μ μ2
  | 0, fu + 1, s, v, μ1, h0, hn, hf, hk => by
    refine ⟨μ1, ?_, hk⟩
    rw [f_X10_graded_8, p_lt (by omega), if_neg (by omega)]
    simp [sm]
  | n + 1, fu + 1, s, v, μ1, h0, hn, hf, hk => by
    have I1 := I.keep hk
    have e1 : μ1 249 = μ 249 := hk.s
    obtain ⟨μ2, a1, a2, a3⟩ := o_find I1 (c := v) (by omega)
    have I2 := I1.keep a3
    have e2 : μ2 249 = μ 249 := a3.s.trans e1
    have r := S_gr_bd (g := μ 249) (c := v) (M := S_set (μ 249) v)
    obtain ⟨μ3, b1, b2'⟩ := c_graded_l I hw n fu (s + S_gd (μ 249) w v) (v + 1) μ2 (by omega) (by omega) (by omega) (hk.tr a3)
    refine ⟨μ3, ?_, b2'⟩
    unfold iG at hw
    rw [f_X10_graded_8, p_lt (by omega), if_pos (by omega), p_rdA (by omega), a1, p_rb, c_hasGrade I2.wf I2.w3 I2.R (by omega), p_rb, e2]
    unfold f_X10_graded_55
    simp only [sm]
    rw [← Int.add_assoc, ← b1]
    unfold S_gd
    have g5 := a2.2.2.2.2.2.2
    rw [e1] at g5
    by_cases p : S_hg (μ 249) v
    · rw [b2_t p, p_eq (by omega), if_neg (by omega), p_rdA (by omega), p_rdF, g5, p_eq (by omega)]
      by_cases q : S_grade (μ 249) v (S_set (μ 249) v) = w
      · rw [if_pos q, b2_t ⟨p, q⟩]
      · rw [if_neg q, b2_f (fun z => q z.2), Int.add_zero]
    · rw [b2_f p, p_eq (by omega), if_pos rfl, b2_f (fun z => p z.1), Int.add_zero]
theorem r_graded_l {g : Nat → Int} (h : WF g) (h3 : WF3 g) (hx : WFx g) {w : Int} (hw : iG w) : ∀ (n fu : Nat) (s v : Int) (μ1 : Mu), 0 ≤ v → v + n = 8 → n < fu → μ1 249 = g → ∃ μ2, f_X11_graded_24 w (fun v2 μ => some (μ, 0, v2)) fu s v μ1 = some (μ2, 0, s + sm (S_gd g w) n v) ∧ JR μ1 μ2
  | 0, fu + 1, s, v, μ1, h0, hn, hf, hk => by
    refine ⟨μ1, ?_, JR.rf μ1⟩
    rw [f_X11_graded_24, p_lt (by omega), if_neg (by omega)]
    simp [sm]
  | n + 1, fu + 1, s, v, μ1, h0, hn, hf, hk => by
    subst hk
    have r := S_gr_bd (g := μ1 249) (c := v) (M := S_set (μ1 249) v)
    rw [f_X11_graded_24, p_lt (by omega), if_pos (by omega), r_hasGrade h (by unfold iG; omega), p_rb]
    unfold f_X11_graded_52 f_X11_graded_53
    simp only [sm]
    rw [← Int.add_assoc]
    have hw9 := hw
    unfold iG at hw9
    by_cases p : S_hg (μ1 249) v
    · obtain ⟨μ2, a1, a2⟩ := r_gradeOf h h3 hx (c := v) (by omega)
      rw [b2_t p, p_eq (by omega), if_neg (by omega), a1, p_rb, p_eq (by omega)]
      obtain ⟨μ3, b1, b2'⟩ := r_graded_l h h3 hx hw n fu (s + S_gd (μ1 249) w v) (v + 1) μ2 (by omega) (by omega) (by omega) a2.s
      refine ⟨μ3, ?_, a2.tr b2'⟩
      rw [← b1]
      unfold S_gd
      by_cases q : S_grade (μ1 249) v (S_set (μ1 249) v) = w
      · rw [if_pos q, b2_t ⟨p, q⟩, p_bnd]
      · rw [if_neg q, b2_f (fun z => q z.2), p_bnd]
    · obtain ⟨μ3, b1, b2'⟩ := r_graded_l h h3 hx hw n fu (s + S_gd (μ1 249) w v) (v + 1) μ1 (by omega) (by omega) (by omega) rfl
      refine ⟨μ3, ?_, b2'⟩
      rw [← b1]
      unfold S_gd
      rw [b2_f p, p_eq (by omega), if_pos rfl, b2_f (fun z => p z.1), p_bnd]
theorem o_graded {T : Int} {μ : Mu} (I : Inv T μ) {w1 : Int} (h1 : iG w1) : OK T (lc_graded w1 μ) := by
  unfold lc_graded
  by_cases p : 0 ≤ w1 ∧ w1 < 5
  · obtain ⟨μ1, a1, a2⟩ := c_graded_l I h1 8 FU 0 0 μ (by omega) (by omega) (by unfold FU; omega) (KA.rf μ)
    have hb := sm_bd (G := S_gd (μ 249) w1) (a := 0) (b := 1) 8 0 (fun j _ _ => by have := b2_01 (S_hg (μ 249) j ∧ S_grade (μ 249) j (S_set (μ 249) j) = w1); unfold S_gd; omega)
    have hi : iG (0 + sm (S_gd (μ 249) w1) 8 0) := by unfold iG; omega
    refine op_ok I (μ1 := μ1) (x := 0 + sm (S_gd (μ 249) w1) 8 0) ?_ a2 (hg0 hi) (fun μ => cI_ok hi) (fun μ9 I9 k9 => ?_)
    · unfold f_X10_graded
      rw [c_reqG h1, if_pos p, p_rb, a1]
    · have e9 : (up2 μ9 248 0 0) 249 = μ 249 := by rw [up2_oo (by omega), k9.s]
      obtain ⟨μ2, b1, b2'⟩ := r_graded_l I.wf I.w3 I.wx h1 8 FU 0 0 (up2 μ9 248 0 0) (by omega) (by omega) (by unfold FU; omega) e9
      refine ⟨μ2, ?_, JT.th.tr b2'.jt, by rw [b2' 248 0 (by unfold jR; omega), up2_s]⟩
      unfold f_X11_graded
      rw [p_wrF, r_in h1 (by unfold iG; omega) (by unfold iG; omega), p_rb, b2_t (by omega), p_eq (by omega), if_neg (by omega), b1]
  · refine op_ex I (e := 2) (i := 0) (x := 0) (b := 0) (μ2 := up2 (up2 μ 248 0 0) 248 0 1) ?_ rfl (by omega) ?_ (JT.th.up (by unfold jT; omega)) up2_s
    · unfold f_X10_graded
      rw [c_reqG h1, if_neg p]; rfl
    · unfold f_X11_graded
      rw [p_wrF, r_in h1 (by unfold iG; omega) (by unfold iG; omega), p_rb, b2_f (by omega), p_eq (by omega), if_pos rfl]; rfl
/-- the least mark from v on that brings grade w -/
def S_need (g : Nat → Int) (c q w : Int) : Nat → Int → Option Int
  | 0, _ => none
  | n + 1, v => if S_grade g c (S_with (S_set g c) q (v * 120)) ≤ w then some v else S_need g c q w n (v + 1)
theorem S_need_bd {g : Nat → Int} {c q w r : Int} : ∀ (n : Nat) (v : Int), S_need g c q w n v = some r → v ≤ r ∧ r < v + n
  | 0, v, h => by cases h
  | n + 1, v, h => by
    unfold S_need at h
    split at h
    · cases h; omega
    · have := S_need_bd n (v + 1) h
      omega
theorem c_need_l {T : Int} {μ : Mu} (I : Inv T μ) {c q w : Int} (hc : 0 ≤ c ∧ c < 8) (hq : 0 ≤ q ∧ q < 5) (hw : 0 ≤ w ∧ w < 5) : ∀ (n fu : Nat) (v : Int) (μ1 : Mu) (M : Int → Int), 0 ≤ v → v + n = μ 249 q.toNat + 1 → n < fu → KA μ μ1 → (∀ j : Int, j ≠ q → M j = S_set (μ 249) c j) → (∀ j : Int, 0 ≤ j → j < 5 → 0 ≤ M j ∧ M j ≤ 4800) → (∀ j : Int, 0 ≤ j → j < 5 → μ1 (232 + 2 * c.toNat + 1) j.toNat = M j) →
    ∃ μ2, f_X10_needed_35 c q w (fun v5 μ => some (μ, 0, v5)) (fun μ => some (μ, 6, 0)) fu (232 + 2 * c.toNat) v μ1 = (match S_need (μ 249) c q w n v with | some r => some (μ2, 0, r) | none => some (μ2, 6, 0)) ∧ KA μ μ2
  | 0, fu + 1, v, μ1, M, h0, hn, hf, hk, hM1, hM2, hM3 => by
    have hmx := I.wf.mx hq
    have I1 := I.keep hk
    have e1 : μ1 249 = μ 249 := hk.s
    refine ⟨μ1, ?_, hk⟩
    rw [f_X10_needed_35, p_rdI (by omega), I1.R.mx hq, e1, p_lt (by omega), if_pos (by omega)]; rfl
  | n + 1, fu + 1, v, μ1, M, h0, hn, hf, hk, hM1, hM2, hM3 => by
    have hmx := I.wf.mx hq
    have I1 := I.keep hk
    have e1 : μ1 249 = μ 249 := hk.s
    obtain ⟨μ2, a1, a2⟩ := c_suppose (μ := μ1) (b := 1) (o := 232 + 2 * c.toNat) (g := μ 249) (M := M) I.wf I.wx (by have := I1.R; rw [e1] at this; exact this) (by omega) hc hq (v := v) (by omega) hM2 hM3
    have eW : S_with M q (v * 120) = S_with (S_set (μ 249) c) q (v * 120) := by
      funext j
      unfold S_with
      by_cases z : j = q
      · rw [if_pos z, if_pos z]
      · rw [if_neg z, if_neg z]; exact hM1 j z
    rw [eW] at a2
    have g5 := a2.2.2.2.2.2.2
    have r := S_gr_bd (g := μ 249) (c := c) (M := S_with (S_set (μ 249) c) q (v * 120))
    have k2 : KA μ μ2 := hk.tr (RF.ka hc a2)
    rw [f_X10_needed_35, p_rdI (by omega), I1.R.mx hq, e1, p_lt (by omega), if_neg (by omega), a1, p_rb, p_rdF, g5, p_lt (by omega)]
    simp only [S_need]
    by_cases z : S_grade (μ 249) c (S_with (S_set (μ 249) c) q (v * 120)) ≤ w
    · rw [if_neg (by omega), if_pos z]
      exact ⟨μ2, rfl, k2⟩
    · rw [if_pos (by omega), if_neg z]
      exact c_need_l I hc hq hw n fu (v + 1) μ2 (S_with (S_set (μ 249) c) q (v * 120)) (by omega) (by omega) (by omega) k2 (fun j hj => if_neg hj) (fun j x y => by
        have := S_set_ok I.wf hc j x y
        unfold S_with
        split <;> omega) a2.2.1
theorem r_need_l {g : Nat → Int} (h : WF g) (h3 : WF3 g) (hx : WFx g) {c q w : Int} (hc : 0 ≤ c ∧ c < 8) (hq : 0 ≤ q ∧ q < 5) (hw : 0 ≤ w ∧ w < 5) {K : Int → Mu → Option Res} {E : Mu → Option Res} : ∀ (n fu : Nat) (v : Int) (μ1 : Mu), 0 ≤ v → v + n = g q.toNat + 1 → n < fu → μ1 249 = g →
    ∃ μ2, f_X11_needed_51 c q w K E fu v μ1 = (match S_need g c q w n v with | some r => K r μ2 | none => E μ2) ∧ JR μ1 μ2
  | 0, fu + 1, v, μ1, h0, hn, hf, hk => by
    subst hk
    have hmx := h.mx hq
    refine ⟨μ1, ?_, JR.rf μ1⟩
    rw [f_X11_needed_51, p_rdI (by omega), Int.zero_add, p_lt (by omega), if_pos (by omega)]; rfl
  | n + 1, fu + 1, v, μ1, h0, hn, hf, hk => by
    subst hk
    have hmx := h.mx hq
    obtain ⟨μ2, a1, a2⟩ := r_gradeWith h h3 hx hc hq (v := v) (by omega)
    have r := S_gr_bd (g := μ1 249) (c := c) (M := S_with (S_set (μ1 249) c) q (v * 120))
    rw [f_X11_needed_51, p_rdI (by omega), Int.zero_add, p_lt (by omega), if_neg (by omega), a1, p_rb, p_lt (by omega)]
    simp only [S_need]
    by_cases z : S_grade (μ1 249) c (S_with (S_set (μ1 249) c) q (v * 120)) ≤ w
    · rw [if_neg (by omega), if_pos z]
      exact ⟨μ2, rfl, a2⟩
    · rw [if_pos (by omega), if_neg z]
      obtain ⟨μ3, b1, b2'⟩ := r_need_l (g := μ1 249) h h3 hx hc hq hw (K := K) (E := E) n fu (v + 1) μ2 (by omega) (by omega) (by omega) a2.s
      exact ⟨μ3, b1, a2.tr b2'⟩
theorem o_needed {T : Int} {μ : Mu} (I : Inv T μ) {w1 w2 w3 : Int} (h1 : iG w1) (h2 : iG w2) (h3 : iG w3) : OK T (lc_needed w1 w2 w3 μ) := by
  unfold lc_needed
  by_cases p : (0 ≤ w1 ∧ w1 < 8) ∧ (0 ≤ w2 ∧ w2 < 5)
  · have hmx := I.wf.mx p.2
    by_cases p2 : 0 ≤ w3 ∧ w3 < 5
    · by_cases p3 : S_hg (μ 249) w1
      · obtain ⟨μ1, a1, a2, a3⟩ := o_find I p.1
        obtain ⟨μ2, b1, b2'⟩ := c_need_l I p.1 p.2 p2 (μ 249 w2.toNat + 1).toNat FU 0 μ1 (S_set (μ 249) w1) (by omega) (by omega) (by unfold FU; omega) a3 (fun _ _ => rfl) (S_set_ok I.wf p.1) a2.2.1
        have hcl : f_X10_needed w1 w2 w3 μ = (match S_need (μ 249) w1 w2 w3 (μ 249 w2.toNat + 1).toNat 0 with | some r => some (μ2, 0, r) | none => some (μ2, 6, 0)) := by
          unfold f_X10_needed
          rw [c_reqS h1 h2, if_pos p, p_rb, c_reqG h3, if_pos p2, p_rb, c_reqGr I p.1, if_pos p3, p_rb, p_rdA (by omega), a1, p_rb, b1]
        have rcl : ∀ μ9 : Mu, μ9 249 = μ 249 → ∃ μ3, f_X11_needed w1 w2 w3 μ9 = (match S_need (μ 249) w1 w2 w3 (μ 249 w2.toNat + 1).toNat 0 with | some r => some (μ3, 0, r) | none => some (up2 μ3 248 0 2, 0, 0)) ∧ JT μ9 μ3 ∧ μ3 248 0 = 0 := by
          intro μ9 e9'
          have e9 : (up2 μ9 248 0 0) 249 = μ 249 := by rw [up2_oo (by omega), e9']
          obtain ⟨μ3, d1, d2⟩ := r_need_l I.wf I.w3 I.wx p.1 p.2 p2 (K := fun v4 μ => some (μ, 0, v4)) (E := fun μ => rb (f_X11_fails 2 μ) fun μ x5 => some (μ, 0, x5)) (μ 249 w2.toNat + 1).toNat FU 0 (up2 μ9 248 0 0) (by omega) (by omega) (by unfold FU; omega) e9
          refine ⟨μ3, ?_, JT.th.tr d2.jt, by rw [d2 248 0 (by unfold jR; omega), up2_s]⟩
          unfold f_X11_needed
          rw [p_wrF, r_cand h1, p_rb, b2_t (by omega), p_eq (by omega), if_neg (by omega), r_ques h2, p_rb, b2_t (by omega), p_eq (by omega), if_neg (by omega), r_in h3 (by unfold iG; omega) (by unfold iG; omega), p_rb, b2_t (by omega), p_eq (by omega), if_neg (by omega), r_hasGrade (by rw [e9]; exact I.wf) h1, p_rb, e9, b2_t p3, p_eq (by omega), if_neg (by omega), d1]
          cases S_need (μ 249) w1 w2 w3 (μ 249 w2.toNat + 1).toNat 0 <;> rfl
        cases hS : S_need (μ 249) w1 w2 w3 (μ 249 w2.toNat + 1).toNat 0 with
        | some r =>
          rw [hS] at hcl rcl
          have rb9 := S_need_bd _ _ hS
          have hi : iG r := by unfold iG; omega
          refine op_ok I (μ1 := μ2) (x := r) hcl b2' (hg0 hi) (fun μ => cI_ok hi) (fun μ9 I9 k9 => ?_)
          exact rcl μ9 k9.s
        | none =>
          rw [hS] at hcl rcl
          obtain ⟨μ3, d1, d2, d3⟩ := rcl μ2 b2'.s
          have I2 := I.keep b2'
          exact ⟨up2 μ3 248 0 2, lc_ex (e := 5) (i := 1) hcl rfl (by omega) d1 up2_s, (I2.keep (d2.up (by unfold jT; omega)).ka).up (by omega)⟩
      · refine op_ex I (e := 5) (i := 1) (x := 0) (b := 0) (μ2 := up2 (up2 μ 248 0 0) 248 0 2) ?_ rfl (by omega) ?_ (JT.th.up (by unfold jT; omega)) up2_s
        · unfold f_X10_needed
          rw [c_reqS h1 h2, if_pos p, p_rb, c_reqG h3, if_pos p2, p_rb, c_reqGr I p.1, if_neg p3]; rfl
        · have e9 : (up2 μ 248 0 0) 249 = μ 249 := up2_oo (by omega)
          unfold f_X11_needed
          rw [p_wrF, r_cand h1, p_rb, b2_t (by omega), p_eq (by omega), if_neg (by omega), r_ques h2, p_rb, b2_t (by omega), p_eq (by omega), if_neg (by omega), r_in h3 (by unfold iG; omega) (by unfold iG; omega), p_rb, b2_t (by omega), p_eq (by omega), if_neg (by omega), r_hasGrade (by rw [e9]; exact I.wf) h1, p_rb, e9, b2_f p3, p_eq (by omega), if_pos rfl]; rfl
    · refine op_ex I (e := 2) (i := 0) (x := 0) (b := 0) (μ2 := up2 (up2 μ 248 0 0) 248 0 1) ?_ rfl (by omega) ?_ (JT.th.up (by unfold jT; omega)) up2_s
      · unfold f_X10_needed
        rw [c_reqS h1 h2, if_pos p, p_rb, c_reqG h3, if_neg p2]; rfl
      · unfold f_X11_needed f_X11_needed_28
        rw [p_wrF, r_cand h1, p_rb, b2_t (by omega), p_eq (by omega), if_neg (by omega), r_ques h2, p_rb, b2_t (by omega), p_eq (by omega), if_neg (by omega), r_in h3 (by unfold iG; omega) (by unfold iG; omega), p_rb, b2_f (by omega), p_eq (by omega), if_pos rfl]; rfl
  · refine op_ex I (e := 2) (i := 0) (x := 0) (b := 0) (μ2 := up2 (up2 μ 248 0 0) 248 0 1) ?_ rfl (by omega) ?_ (JT.th.up (by unfold jT; omega)) up2_s
    · unfold f_X10_needed
      rw [c_reqS h1 h2, if_neg p]; rfl
    · unfold f_X11_needed f_X11_needed_28
      rw [p_wrF, r_cand h1, p_rb]
      by_cases q : 0 ≤ w1 ∧ w1 < 8
      · rw [b2_t (by omega), p_eq (by omega), if_neg (by omega), r_ques h2, p_rb, b2_f (by omega), p_eq (by omega), if_pos rfl]; rfl
      · rw [b2_f (by omega), p_eq (by omega), if_pos rfl]; rfl

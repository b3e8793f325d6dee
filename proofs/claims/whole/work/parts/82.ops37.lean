/-! enter -/
theorem why_0 {g : Nat → Int} {m c q v : Int} (h3 : WF3 g) (h : S_why g m c q v = 0) : g 652 = 0 ∧ v ≤ g q.toNat ∧ ¬ S_hb g m c q ∧ S_cnt g c q (g 144).toNat < 3 := by
  have hn := h3 c q
  unfold S_why at h
  by_cases q1 : g 652 = 0
  · rw [if_pos q1] at h
    by_cases q2 : g q.toNat < v
    · rw [if_pos q2] at h; omega
    · rw [if_neg q2] at h
      by_cases q3 : S_hb g m c q
      · rw [if_pos q3] at h; omega
      · rw [if_neg q3] at h
        by_cases q4 : S_cnt g c q (g 144).toNat = 3
        · rw [if_pos q4] at h; omega
        · exact ⟨q1, by omega, q3, by omega⟩
  · rw [if_neg q1] at h; omega
theorem wd_iG {g : Nat → Int} (h : WF g) {m q w : Int} (hm : 0 ≤ m ∧ m < 4) (hq : 0 ≤ q ∧ q < 5) : iG (S_wd g m q w) := by
  have hmx := h.mx hq
  unfold S_wd iG
  repeat' split
  all_goals omega
theorem o_enter {T : Int} {μ : Mu} (I : Inv T μ) {w1 w2 w3 w4 : Int} (h1 : iG w1) (h2 : iG w2) (h3 : iG w3) (h4 : iG w4) : OK T (lc_enter w1 w2 w3 w4 μ) := by
  have g4 := h4
  unfold iG at g4
  unfold lc_enter
  have exc : ∀ m : Mu, f_X11_enter_26 w1 w2 w3 w4 m = some (up2 m 248 0 1, 0, 0) := fun _ => rfl
  have f2 : ∀ m1 : Mu, m1 249 = μ 249 → (up2 m1 248 0 0) 249 = μ 249 := fun m1 f1 => (up2_oo (by omega)).trans f1
  by_cases p : (0 ≤ w1 ∧ w1 < 4) ∧ (0 ≤ w2 ∧ w2 < 8) ∧ (0 ≤ w3 ∧ w3 < 5)
  · obtain ⟨hm, hc, hq⟩ := p
    by_cases p4 : 0 ≤ w4
    · have hmx := I.wf.mx hq
      have sO : f_X10_scriptOf w2 w3 μ = some (μ, 0, w2 * 5 + w3) := rfl
      obtain ⟨μ1, a1, a2⟩ := c_refE I.wf I.w3 I.R (i := 0) (s := w2 * 5 + w3) hm hc hq rfl h4
      have c0 : f_X10_enter w1 w2 w3 w4 μ = rb (f_X10_refusesEntry 1 0 w1 (w2 * 5 + w3) w4 μ) fun μ x2 => i_eq x2 0 (rb (f_X4_keep 1 μ) fun μ _ => rb (f_X1_makeEntry 1 w1 (w2 * 5 + w3) w4 μ) fun μ x3 => some (μ, 0, x3)) (some (μ, 5, 0)) := by
        unfold f_X10_enter
        rw [c_reqM h1, if_pos hm, p_rb, c_reqS h2 h3, if_pos ⟨hc, hq⟩, p_rb, c_reqN h4, if_pos p4, p_rb, sO, p_rb]
      have hw := why_bd (g := μ 249) (m := w1) (c := w2) (q := w3) (v := w4)
      -- the reference up to the refusal
      have ref : ∀ m1 : Mu, m1 249 = μ 249 → ∃ m2, f_X11_enter w1 w2 w3 w4 m1 = i_lt 0 (S_why (μ 249) w1 w2 w3 w4) (rb (f_X11_reports 1 0 (S_why (μ 249) w1 w2 w3 w4) (m2 248 20) 3 m2) fun μ x7 => some (μ, 0, x7)) (rb (f_X11_changes m2) fun μ _ => rb (f_X11_enters w1 w2 w3 w4 μ) fun μ _ => rb (f_X11_entries w2 w3 μ) fun μ x5 => some (μ, 0, x5)) ∧ JR (up2 m1 248 0 0) m2 ∧ (S_why (μ 249) w1 w2 w3 w4 ≠ 0 → m2 248 20 = S_wd (μ 249) w1 w3 (S_why (μ 249) w1 w2 w3 w4)) := by
        intro m1 f1
        obtain ⟨m2, b1, b2', b3⟩ := r_refusal (μ := up2 m1 248 0 0) (by rw [f2 m1 f1]; exact I.wf) (by rw [f2 m1 f1]; exact I.w3) hm hc hq h4
        rw [f2 m1 f1] at b1 b2'
        refine ⟨m2, ?_, b3.jr, b2'⟩
        unfold f_X11_enter
        rw [p_wrF, r_mark h1, p_rb, b2_t (by omega), p_eq (by omega), if_neg (by omega), r_cand h2, p_rb, b2_t (by omega), p_eq (by omega), if_neg (by omega), r_ques h3, p_rb, b2_t (by omega), p_eq (by omega), if_neg (by omega), p_lt (by omega), if_neg (by omega), b1, p_rb, p_rdF]
      by_cases q : S_why (μ 249) w1 w2 w3 w4 = 0
      · obtain ⟨z1, z2, z3, z4⟩ := why_0 I.w3 q
        rw [if_pos q] at a1
        have I1 : Inv T μ1 := I.keep a2.ka
        have e1 : μ1 249 = μ 249 := a2.ka.s
        obtain ⟨μ2, c1, C, c3⟩ := c_kept I1
        rw [e1] at C
        obtain ⟨μ3, d1, d2, d3⟩ := c_makeE (s := w2 * 5 + w3) (v := w4) I.wf I.w3 C.1 hm hc hq rfl z4
        have W := enG_W I.1.2 (tot_lt I.wf I.w3 hc hq z4) hm hc hq (v := w4) (by omega) z4
        have hn0 := cnt_0 (g := μ 249) (c := w2) (q := w3) (n := (μ 249 144).toNat)
        have hi : iG (S_cnt (μ 249) w2 w3 (μ 249 144).toNat + 1) := by unfold iG; omega
        have ht := I.wf.tot
        have ht2 := tot_lt I.wf I.w3 hc hq z4
        refine op_mut I1 (μ1 := μ3) (x := S_cnt (μ 249) w2 w3 (μ 249 144).toNat + 1) (g1 := S_enG (μ 249) w1 w2 w3 w4) ?_ (W.up (by omega)) (C.wr (fun a h => d3 a (by omega)) d2) (hg0 hi) (fun μ => cI_ok hi) (fun μ9 k9 => ?_)
        · rw [c0, a1, p_rb, p_eq (by omega), if_pos rfl, c1, p_rb, d1, p_rb]
        · have f1 : μ9 249 = μ 249 := (k9 249 (by omega) (by omega)).trans e1
          obtain ⟨m2, b1, b2', -⟩ := ref μ9 f1
          have j2 : JT μ9 m2 := JT.th.tr b2'.jt
          obtain ⟨m3, r1, R, r3, r4⟩ := r_kept (μ9 := m2) I1 (j2.s.trans (k9 249 (by omega) (by omega))) ((funext fun k => j2 252 k (by unfold jT; omega)).trans (k9 252 (by omega) (by omega))) ((j2 248 5 (by unfold jT; omega)).trans (congrFun (k9 248 (by omega) (by omega)) 5))
          have r3 : m3 249 = μ 249 := r3.trans e1
          obtain ⟨m4, s1, s2, s3⟩ := r_enters (μ := m3) (c := w2) (v := w4) hm hc hq (by rw [r3]; omega)
          rw [r3] at s2
          refine ⟨m4, ?_, RM.jt j2 (R.to s3 s2), ?_⟩
          · rw [b1, p_lt (by omega), if_neg (by omega), r1, p_rb, s1, p_rb, r_entries (by rw [s2]; exact W.1) h2 h3, p_rb, s2, enG_cnt hm ⟨ht.1, ht2⟩, b2_t ⟨rfl, rfl⟩]
          · rw [s3 248 (by omega), r4, b2' 248 0 (by unfold jR; omega), up2_s]
      · rw [if_neg q] at a1
        refine op_tell I a2.ka (s1 := 1) (s2 := 0) (s3 := S_why (μ 249) w1 w2 w3 w4) (s4 := S_wd (μ 249) w1 w3 (S_why (μ 249) w1 w2 w3 w4)) (x := 0) (e := 4) (t := 3) (i := 2) rfl ?_ rfl (by omega) ⟨by unfold iG; omega, by unfold iG; omega, by unfold iG; omega, wd_iG I.wf hm hq⟩ (fun m1 u1 f1 => ?_)
        · rw [c0, a1, p_rb, p_eq (by omega), if_neg (by omega)]
        · obtain ⟨m2, b1, b2', b3⟩ := ref m1 f1
          refine ⟨m2, 0, ?_, JT.th.tr b2'.jt⟩
          rw [b1, p_lt (by omega), if_pos (by omega), b3 q, r_rep, p_rb]
    · refine op_ex I (e := 1) (i := 1) (x := 0) (b := 0) (μ2 := up2 (up2 μ 248 0 0) 248 0 2) ?_ rfl (by omega) ?_ (JT.th.up (by unfold jT; omega)) up2_s
      · unfold f_X10_enter
        rw [c_reqM h1, if_pos hm, p_rb, c_reqS h2 h3, if_pos ⟨hc, hq⟩, p_rb, c_reqN h4, if_neg p4]; rfl
      · unfold f_X11_enter f_X11_fails
        rw [p_wrF, r_mark h1, p_rb, b2_t (by omega), p_eq (by omega), if_neg (by omega), r_cand h2, p_rb, b2_t (by omega), p_eq (by omega), if_neg (by omega), r_ques h3, p_rb, b2_t (by omega), p_eq (by omega), if_neg (by omega), p_lt (by omega), if_pos (by omega)]; rfl
  · refine op_ex I (e := 2) (i := 0) (x := 0) (b := 0) (μ2 := up2 (up2 μ 248 0 0) 248 0 1) ?_ rfl (by omega) ?_ (JT.th.up (by unfold jT; omega)) up2_s
    · unfold f_X10_enter
      rw [c_reqM h1]
      by_cases q : 0 ≤ w1 ∧ w1 < 4
      · rw [if_pos q, p_rb, c_reqS h2 h3, if_neg (fun w => p ⟨q, w⟩)]; rfl
      · rw [if_neg q]; rfl
    · unfold f_X11_enter
      rw [p_wrF, r_mark h1, p_rb]
      by_cases q : 0 ≤ w1 ∧ w1 < 4
      · rw [b2_t (by omega), p_eq (by omega), if_neg (by omega), r_cand h2, p_rb]
        by_cases q2 : 0 ≤ w2 ∧ w2 < 8
        · rw [b2_t (by omega), p_eq (by omega), if_neg (by omega), r_ques h3, p_rb, b2_f (by omega), p_eq (by omega), if_pos rfl, exc]
        · rw [b2_f (by omega), p_eq (by omega), if_pos rfl, exc]
      · rw [b2_f (by omega), p_eq (by omega), if_pos rfl, exc]

/-! publish -/
theorem o_publish {T : Int} {μ : Mu} (I : Inv T μ) : OK T (lc_publish μ) := by
  have hpb := I.wf.pub
  have e0 : (up2 μ 248 0 0) 249 = μ 249 := up2_oo (by omega)
  unfold lc_publish
  by_cases p : μ 249 652 = 0
  · obtain ⟨μ1, a1, a2⟩ := c_refP_out I.wf I.w3 (fun v1 v2 v3 μ => i_eq v3 1 (f_X10_refusesPublication_73 v2 2 v1 21 μ) (f_X10_refusesPublication_73 v2 2 v1 22 μ)) (fun μ => retZ μ 0) 8 FU 0 μ I.R (by omega) (by omega) (by unfold FU; omega)
    have I1 : Inv T μ1 := I.keep a2.ka
    have e1 : μ1 249 = μ 249 := a2.ka.s
    cases hfc : S_fc (μ 249) 8 0 with
    | none =>
      rw [hfc] at a1
      have a1 : f_X10_refusesPublication μ = retZ μ1 0 := a1
      obtain ⟨μ2, b1, C⟩ := c_pubset I1 (v := 1) (Or.inr rfl)
      rw [e1] at b1 C
      have hw := wg_bd (g := gup (μ 249) 652 1)
      have hi : iG (S_wg (gup (μ 249) 652 1)) := by unfold iG; omega
      have hf : f_X10_publish μ = some (μ2, 0, S_wg (gup (μ 249) 652 1)) := by
        unfold f_X10_publish
        rw [p_rdF, I.R.pub, p_eq (by omega), if_pos p, a1, p_Z0, p_rb, p_eq (by omega), if_pos rfl]
        exact b1
      refine op_mut I1 (μ1 := μ2) (x := S_wg (gup (μ 249) 652 1)) hf ((W_pub I.1.2 (Or.inr rfl)).up (by omega)) C (hg0 hi) (fun μ => cI_ok hi) (fun μ9 k9 => ?_)
      have f1 : (up2 μ9 248 0 0) 249 = μ1 249 := (up2_oo (by omega)).trans (k9 249 (by omega) (by omega))
      obtain ⟨μ3, d1, d2⟩ := r_refP_out (μ0 := up2 μ9 248 0 0) (by rw [f1]; exact I1.wf) (by rw [f1]; exact I1.w3) (fun v1 v2 μ => rb (f_X11_state v1 v2 μ) fun μ x2 => rb (f_X11_reports 2 v1 (20 + x2) v2 2 μ) fun μ x3 => some (μ, 0, x3)) (fun μ => rb (f_X11_changes μ) fun μ _ => wrI μ 249 779 652 1 fun μ => rb (f_X11_withGrades μ) fun μ x4 => some (μ, 0, x4)) 8 FU 0 _ (JF.rf _) (by omega) (by omega) (by unfold FU; omega)
      rw [f1, e1, hfc] at d1
      have j3 : JT μ9 μ3 := JT.th.tr d2.r.jt
      obtain ⟨μ4, g1, g2, g3⟩ := r_pubset (μ9 := μ3) I1 (v := 1) (Or.inr rfl) ((j3.s).trans (k9 249 (by omega) (by omega))) ((funext fun k => j3 252 k (by unfold jT; omega)).trans (k9 252 (by omega) (by omega))) ((j3 248 5 (by unfold jT; omega)).trans (congrFun (k9 248 (by omega) (by omega)) 5))
      rw [e1] at g1 g2
      refine ⟨μ4, ?_, RM.jt j3 g2, ?_⟩
      · unfold f_X11_publish
        rw [p_wrF, r_pub (by rw [f1]; exact I1.wf), p_rb, f1, e1, p_eq (by omega), if_pos p]
        refine Eq.trans d1 ?_
        simp only [Option.elim_none]
        exact g1
      · rw [g3, d2 248 0 (by unfold jF; omega), up2_s]
    | some r =>
      obtain ⟨c, q⟩ := r
      rw [hfc] at a1
      obtain ⟨hc, hq, hb⟩ := fc_some 8 0 c q hfc
      have hst := S_st02 (g := μ 249) (c := c) (q := q)
      have hs0 := hb.2.2
      have a1 : f_X10_refusesPublication μ = some (up2 (up2 (up2 (up2 (up2 μ1 224 0 2) 225 0 c) 224 1 (20 + S_state (μ 249) c q)) 225 1 q) 223 2 2, 0, 1) := by
        refine Eq.trans a1 ?_
        show i_eq (S_state (μ 249) c q) 1 (f_X10_refusesPublication_73 q 2 c 21 μ1) (f_X10_refusesPublication_73 q 2 c 22 μ1) = _
        rw [p_eq (by omega)]
        by_cases z : S_state (μ 249) c q = 1
        · rw [if_pos z, z]; rfl
        · rw [if_neg z, show S_state (μ 249) c q = 2 by omega]; rfl
      generalize hm1 : up2 (up2 (up2 (up2 (up2 μ1 224 0 2) 225 0 c) 224 1 (20 + S_state (μ 249) c q)) 225 1 q) 223 2 2 = m1 at a1
      have u1 : ∀ a k : Nat, ¬ jk a k → ¬ (223 ≤ a ∧ a ≤ 225) → m1 a k = μ a k := fun a k x y => by
        rw [← hm1, up2_o (by omega), up2_o (by omega), up2_o (by omega), up2_o (by omega), up2_o (by omega)]
        exact a2.ka a k x
      have f0 : m1 249 = μ 249 := funext fun k => u1 249 k (by unfold jk; omega) (by omega)
      have f1 : (up2 m1 248 0 0) 249 = μ 249 := (up2_oo (by omega)).trans f0
      obtain ⟨μ3, d1, d2⟩ := r_refP_out (μ0 := up2 m1 248 0 0) (by rw [f1]; exact I.wf) (by rw [f1]; exact I.w3) (fun v1 v2 μ => rb (f_X11_state v1 v2 μ) fun μ x2 => rb (f_X11_reports 2 v1 (20 + x2) v2 2 μ) fun μ x3 => some (μ, 0, x3)) (fun μ => rb (f_X11_changes μ) fun μ _ => wrI μ 249 779 652 1 fun μ => rb (f_X11_withGrades μ) fun μ x4 => some (μ, 0, x4)) 8 FU 0 _ (JF.rf _) (by omega) (by omega) (by unfold FU; omega)
      rw [f1, hfc] at d1
      have f3 : μ3 249 = μ 249 := (d2.r.jt.s).trans f1
      obtain ⟨μ4, g1, g2⟩ := r_state (μ := μ3) (by rw [f3]; exact I.wf) (by rw [f3]; exact I.w3) (c := c) (q := q) (by omega) hq
      rw [f3] at g1
      have j4 : JT m1 μ4 := JT.th.tr (d2.r.jt.tr g2.r.jt)
      refine op_rep I (μ1 := m1) (x := 0) (e := 4) (i := 1) (b := 0) (s1 := 2) (s2 := c) (s3 := 20 + S_state (μ 249) c q) (s4 := q) (μ2 := up2 (up2 (up2 (up2 (up2 (up2 μ4 254 0 2) 254 1 c) 254 2 (20 + S_state (μ 249) c q)) 254 3 q) 248 11 2) 248 0 2) ?_ rfl (by omega) u1 ?_ (by unfold iG; omega) ?_ (fun a k x y z => ?_) ?_ up2_s
      · unfold f_X10_publish
        rw [p_rdF, I.R.pub, p_eq (by omega), if_pos p, a1, p_rb, p_eq (by omega), if_neg (by omega)]
      · rw [← hm1]
        refine ⟨up2_s, ?_, ?_, ?_, ?_⟩
        · rw [up2_o (by omega), up2_o (by omega), up2_k (by omega), up2_o (by omega), up2_s]
        · rw [up2_o (by omega), up2_k (by omega), up2_o (by omega), up2_s]
        · rw [up2_o (by omega), up2_o (by omega), up2_s]
        · rw [up2_o (by omega), up2_s]
      · unfold f_X11_publish
        rw [p_wrF, r_pub (by rw [f1]; exact I.wf), p_rb, f1, p_eq (by omega), if_pos p]
        refine Eq.trans d1 ?_
        show rb (f_X11_state c q μ3) _ = _
        rw [g1, p_rb]
        rfl
      · rw [up2_eq, if_neg (by unfold jT at x; omega), up2_eq, if_neg z, up2_o y, up2_o y, up2_o y, up2_o y]
        exact j4 a k x
      · refine ⟨?_, ?_, ?_, ?_, ?_⟩
        · rw [up2_k (by omega), up2_s]
        · rw [up2_o (by omega), up2_o (by omega), up2_k (by omega), up2_k (by omega), up2_k (by omega), up2_s]
        · rw [up2_o (by omega), up2_o (by omega), up2_k (by omega), up2_k (by omega), up2_s]
        · rw [up2_o (by omega), up2_o (by omega), up2_k (by omega), up2_s]
        · rw [up2_o (by omega), up2_o (by omega), up2_s]
  · refine op_ex I (e := 0) (i := 0) (x := 0) (b := 0) (μ2 := up2 (up2 μ 248 0 0) 248 0 1) ?_ rfl (by omega) ?_ (JT.th.up (by unfold jT; omega)) up2_s
    · unfold f_X10_publish
      rw [p_rdF, I.R.pub, p_eq (by omega), if_neg p]
    · unfold f_X11_publish f_X11_fails
      rw [p_wrF, r_pub (by rw [e0]; exact I.wf), p_rb, e0, p_eq (by omega), if_neg p]; rfl

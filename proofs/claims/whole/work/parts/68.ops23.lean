/-! excuse -/
theorem o_excuse {T : Int} {μ : Mu} (I : Inv T μ) {w1 w2 w3 : Int} (h1 : iG w1) (h2 : iG w2) : OK T (lc_excuse w1 w2 w3 μ) := by
  have hpb := I.wf.pub
  unfold lc_excuse
  have hz : (if w3 = 0 then (0 : Int) else 1) = 0 ∨ (if w3 = 0 then (0 : Int) else 1) = 1 := by split <;> simp
  generalize (if w3 = 0 then (0 : Int) else 1) = z at hz
  by_cases p : (0 ≤ w1 ∧ w1 < 8) ∧ (0 ≤ w2 ∧ w2 < 5)
  · have hx := (I.wf.ex p.1).1
    have hfx := (I.wx w1 p.1.1 p.1.2).1
    rw [S_B_ex hx] at hfx
    have hex : μ (1 + 4) w1.toNat = μ 249 (625 + w1).toNat := I.R.ex p.1
    have hB := S_B_bd hx
    have b01 := b2_01 (S_exc (μ 249) w1 w2)
    have e0 : ∀ μ9 : Mu, (up2 μ9 248 0 0) 249 = μ9 249 := fun _ => up2_oo (by omega)
    obtain ⟨t1, t2, t3, t4, t5, t6, t7⟩ := S_bits hx p.2
    by_cases p3 : μ 249 652 = 0
    · by_cases p4 : z = 0 ∨ S_exc (μ 249) w1 w2 ∨ S_B (μ 249 (625 + w1).toNat) < 2
      · obtain ⟨μ1, a1, C, a3⟩ := c_kept I
        generalize hV : (if z = 0 then S_n0b (μ 249 (625 + w1).toNat) w2 else S_n1b (μ 249 (625 + w1).toNat) w2) = V
        have hVb : (0 ≤ V ∧ V < 32) ∧ S_B V ≤ 2 := by
          rw [← hV]
          by_cases q : z = 0
          · rw [if_pos q]; exact ⟨t1, by omega⟩
          · rw [if_neg q]
            refine ⟨t4, ?_⟩
            by_cases y : S_exc (μ 249) w1 w2
            · rw [t6 y]; exact hfx
            · have := (p4.resolve_left q).resolve_left y
              omega
        have W : WS (gup (μ 249) (625 + w1).toNat V) T := by
          refine WS.exc I.1.2 (fun k x => gup_o (by omega)) (fun c x y => ?_) (fun c x y => ?_)
          · by_cases e : c = w1
            · subst e; rw [gup_s]; exact hVb.1
            · rw [gup_o (by omega)]; exact (I.wf.ex ⟨x, y⟩).1
          · by_cases e : c = w1
            · subst e
              rw [S_B_ex (by rw [gup_s]; exact hVb.1), gup_s]; exact hVb.2
            · have e1 : (gup (μ 249) (625 + w1).toNat V) (625 + c).toNat = μ 249 (625 + c).toNat := gup_o (by omega)
              have := (I.wx c x y).1
              rw [S_B_ex (I.wf.ex ⟨x, y⟩).1] at this
              rw [S_B_ex (by rw [e1]; exact (I.wf.ex ⟨x, y⟩).1), e1]; exact this
        have R1 : RB (up2 μ1 5 w1.toNat V) 1 (gup (μ 249) (625 + w1).toNat V) := by
          refine RB.exc I.wf C.1 (fun k x => gup_o (by omega)) (fun a ha => up2_oo (by omega)) (fun c x y => ?_)
          by_cases e : c = w1
          · subst e; rw [up2_s, gup_s]
          · rw [up2_k (by omega), gup_o (by omega)]; exact C.1.ex ⟨x, y⟩
        refine op_mut I (μ1 := up2 μ1 5 w1.toNat V) (x := b2 (S_exc (μ 249) w1 w2)) ?_ (W.up (by omega)) (C.wr (fun a h => up2_oo (by omega)) R1) (hg1 b01) (fun μ => cZ_ok b01) (fun μ9 k9 => ?_)
        · have r5 : μ1 (1 + 4) w1.toNat = μ 249 (625 + w1).toNat := C.1.ex p.1
          have tail : f_X10_excuse_55 w1 w2 z (b2 (S_exc (μ 249) w1 w2)) μ = some (up2 μ1 5 w1.toNat V, 0, b2 (S_exc (μ 249) w1 w2)) := by
            unfold f_X10_excuse_55 f_X10_excuse_112
            rw [a1, p_rb, p_bnd, p_eq (by omega), ← hV]
            by_cases q : z = 0
            · rw [if_pos q, if_pos q, p_rdI (by omega), r5, p_wrI (by omega), p_Z b01]; rfl
            · rw [if_neg q, if_neg q, p_rdI (by omega), r5, p_wrI (by omega), p_Z b01]; rfl
          unfold f_X10_excuse
          rw [c_reqS h1 h2, if_pos p, p_rb, c_reqU I.wf I.R, if_pos p3, p_rb, c_exc I.wf I.R p.1 p.2, p_rb, p_eq (by omega)]
          by_cases q : z = 0
          · rw [if_pos q, tail]
          · rw [if_neg q, p_eq (by omega)]
            by_cases y : S_exc (μ 249) w1 w2
            · rw [if_neg (by rw [b2_t y]; omega), tail]
            · have yy := (p4.resolve_left q).resolve_left y
              rw [if_pos (b2_f y), p_rdI (by omega), hex, c_bits hx, p_rb, p_lt (by omega), if_pos yy, tail]
        · have k249 : μ9 249 = μ 249 := k9 249 (by omega) (by omega)
          have e1 : (up2 μ9 248 0 0) 249 = μ 249 := (e0 μ9).trans k249
          have e2 : (up2 (up2 μ9 248 0 0) 248 0 0) 249 = μ 249 := (e0 _).trans e1
          obtain ⟨μ3, c1, R, c3, c4⟩ := r_kept (μ9 := up2 (up2 μ9 248 0 0) 248 0 0) I e2 ((up2_oo (by omega)).trans ((up2_oo (by omega)).trans (k9 252 (by omega) (by omega)))) ((up2_k (by omega)).trans ((up2_k (by omega)).trans (congrFun (k9 248 (by omega) (by omega)) 5)))
          refine ⟨up2 μ3 249 (625 + w1).toNat V, ?_, RM.jt (JT.th.tr JT.th) R.wr, ?_⟩
          · have tail : f_X11_excuse_61 w1 w2 z (b2 (S_exc (μ 249) w1 w2)) (up2 μ9 248 0 0) = some (up2 μ3 249 (625 + w1).toNat V, 0, b2 (S_exc (μ 249) w1 w2)) := by
              unfold f_X11_excuse_61 f_X11_excuse_62 f_X11_excuse_114
              rw [p_wrF, p_rdF, up2_s, p_lt (by omega), if_neg (by omega), c1, p_rb, p_rdI (by omega), c3, p_eq (by omega), ← hV]
              by_cases q : z = 0
              · rw [if_pos q, if_pos q, p_wrI (by omega), p_Z b01, show andI (μ 249 (625 + w1).toNat) (xorI (shlI 1 w2) (-1)) = S_n0b (μ 249 (625 + w1).toNat) w2 from rfl, t3]
              · rw [if_neg q, if_neg q, p_wrI (by omega), p_Z b01, show andI (μ 249 (625 + w1).toNat) (xorI (shlI 1 w2) (-1)) = S_n0b (μ 249 (625 + w1).toNat) w2 from rfl, t5]
            unfold f_X11_excuse
            rw [r_sref h1 h2, if_pos p, p_rb, p_lt (by omega), if_neg (by omega), r_exc (by rw [e1]; exact I.wf) p.1 p.2, p_rb, e1, r_pub (by rw [e1]; exact I.wf), p_rb, e1, p_eq (by omega), if_pos p3, p_eq (by omega)]
            by_cases q : z = 0
            · rw [if_pos q, tail]
            · rw [if_neg q, p_eq (by omega)]
              by_cases y : S_exc (μ 249) w1 w2
              · rw [if_neg (by rw [b2_t y]; omega), tail]
              · have yy := (p4.resolve_left q).resolve_left y
                rw [if_pos (b2_f y), p_rdI (by omega), e1, r_bits hx, p_rb, p_eq (by omega), if_neg (by omega), tail]
          · rw [up2_o (by omega), c4, up2_s]
      · have q : ¬ z = 0 := fun w => p4 (Or.inl w)
        have y : ¬ S_exc (μ 249) w1 w2 := fun w => p4 (Or.inr (Or.inl w))
        have yy : ¬ S_B (μ 249 (625 + w1).toNat) < 2 := fun w => p4 (Or.inr (Or.inr w))
        refine op_ex I (e := 0) (i := 2) (x := 0) (b := 0) (μ2 := up2 (up2 μ 248 0 0) 248 0 3) ?_ rfl (by omega) ?_ (JT.th.up (by unfold jT; omega)) up2_s
        · unfold f_X10_excuse
          rw [c_reqS h1 h2, if_pos p, p_rb, c_reqU I.wf I.R, if_pos p3, p_rb, c_exc I.wf I.R p.1 p.2, p_rb, p_eq (by omega), if_neg q, p_eq (by omega), if_pos (b2_f y), p_rdI (by omega), hex, c_bits hx, p_rb, p_lt (by omega), if_neg yy]
        · unfold f_X11_excuse f_X11_excuse_62
          rw [r_sref h1 h2, if_pos p, p_rb, p_lt (by omega), if_neg (by omega), r_exc (by rw [e0]; exact I.wf) p.1 p.2, p_rb, e0, r_pub (by rw [e0]; exact I.wf), p_rb, e0, p_eq (by omega), if_pos p3, p_eq (by omega), if_neg q, p_eq (by omega), if_pos (b2_f y), p_rdI (by omega), e0, r_bits hx, p_rb, p_eq (by omega), if_pos (by omega), p_wrF, p_rdF, up2_s, p_lt (by omega), if_pos (by omega), p_Z0]
    · refine op_ex I (e := 4) (i := 1) (x := 0) (b := 0) (μ2 := up2 (up2 μ 248 0 0) 248 0 2) ?_ rfl (by omega) ?_ (JT.th.up (by unfold jT; omega)) up2_s
      · unfold f_X10_excuse
        rw [c_reqS h1 h2, if_pos p, p_rb, c_reqU I.wf I.R, if_neg p3]; rfl
      · unfold f_X11_excuse f_X11_excuse_62
        rw [r_sref h1 h2, if_pos p, p_rb, p_lt (by omega), if_neg (by omega), r_exc (by rw [e0]; exact I.wf) p.1 p.2, p_rb, e0, r_pub (by rw [e0]; exact I.wf), p_rb, e0, p_eq (by omega), if_neg p3, p_wrF, p_rdF, up2_s, p_lt (by omega), if_pos (by omega), p_Z0]
  · refine op_ex I (e := 2) (i := 0) (x := 0) (b := 0) (μ2 := up2 μ 248 0 1) ?_ rfl (by omega) ?_ JT.th up2_s
    · unfold f_X10_excuse
      rw [c_reqS h1 h2, if_neg p]; rfl
    · unfold f_X11_excuse
      rw [r_sref h1 h2, if_neg p, p_rb, p_lt (by omega), if_pos (by omega), p_Z0]

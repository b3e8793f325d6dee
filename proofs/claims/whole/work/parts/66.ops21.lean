/-! markSeed -/
theorem o_markSeed {T : Int} {μ : Mu} (I : Inv T μ) {w1 w2 w3 w4 : Int} (h1 : iG w1) (h2 : iG w2) (h3 : iG w3) (h4 : iG w4) : OK T (lc_markSeed w1 w2 w3 w4 μ) := by
  have g3 := h3
  unfold iG at g3
  have hpb := I.wf.pub
  have e0 : (up2 μ 248 0 0) 249 = μ 249 := up2_oo (by omega)
  unfold lc_markSeed
  have exc0 : ∀ μ2 : Mu, f_X11_markSeed_38 w1 w2 w3 w4 μ2 = some (up2 μ2 248 0 1, 0, 0) := fun _ => rfl
  by_cases p : 0 ≤ w1 ∧ w1 < 4
  · by_cases pq : 0 ≤ w2 ∧ w2 < 5
    · have hmx := I.wf.mx pq
      have hra : μ (1 + 1) w2.toNat = μ 249 w2.toNat := I.R.mx pq
      have hmn : μ (1 + 7 + 1) w2.toNat = μ 249 (14 + w2).toNat := I.R.many pq
      have hm := I.wf.many pq
      by_cases pk : 0 ≤ w3 ∧ w3 < μ 249 (14 + w2).toNat
      · by_cases p2 : 0 ≤ w4 ∧ w4 ≤ μ 249 w2.toNat
        · by_cases p3 : μ 249 652 = 0
          · have hmk := I.wf.mk (k := w3) p pq (by omega)
            have rmk : μ (1 + 7 + 3) ((w1 * 5 + w2) * 5 + w3).toNat = S_mk (μ 249) w1 w2 w3 - 1 := I.R.mk p pq (k := w3) (by omega)
            have emk : S_mk (μ 249) w1 w2 w3 = μ 249 (44 + 25 * w1 + 5 * w2 + w3).toNat := rfl
            have cim : f_X7_isMarked (1 + 7) w1 w2 w3 μ = some (μ, 0, b2 (0 < S_mk (μ 249) w1 w2 w3)) := by
              unfold f_X7_isMarked f_X7_isMarked_21 f_X7_placeOf
              rw [p_rb, p_rdI (by omega), rmk, p_eq (by omega)]
              by_cases z : 0 < S_mk (μ 249) w1 w2 w3
              · rw [if_neg (by omega), b2_t z]; rfl
              · rw [if_pos (by omega), b2_f z]; rfl
            by_cases p4 : 0 < S_mk (μ 249) w1 w2 w3
            · refine op_ex I (e := 0) (i := 3) (x := 0) (b := 0) (μ2 := up2 (up2 μ 248 0 0) 248 0 4) ?_ rfl (by omega) ?_ (JT.th.up (by unfold jT; omega)) up2_s
              · unfold f_X10_markSeed
                rw [c_reqM h1, if_pos p, p_rb, c_reqQ h2, if_pos pq, p_rb, p_lt (by omega), if_neg (by omega), p_rdI (by omega), hmn, p_lt (by omega), if_pos pk.2, p_rdI (by omega), hra, c_reqR h4 (by unfold iG; omega) (by unfold iG; omega), if_pos p2, p_rb, c_reqU I.wf I.R, if_pos p3, p_rb, cim, p_rb, b2_t p4, p_eq (by omega), if_neg (by omega)]
              · unfold f_X11_markSeed f_X11_fails
                rw [p_wrF, r_mark h1, p_rb, b2_t (by omega), p_eq (by omega), if_neg (by omega), r_ques h2, p_rb, b2_t (by omega), p_eq (by omega), if_neg (by omega), p_rdI (by omega), e0, r_in h3 (by unfold iG; omega) (by unfold iG; omega), p_rb, b2_t (by omega), p_eq (by omega), if_neg (by omega), p_rdI (by omega), Int.zero_add, e0, r_in h4 (by unfold iG; omega) (by unfold iG; omega), p_rb, b2_t p2, p_eq (by omega), if_neg (by omega), r_pub (by rw [e0]; exact I.wf), p_rb, e0, p_eq (by omega), if_pos p3, r_hasM (by rw [e0]; exact I.wf) p pq (by omega), p_rb, e0, b2_t p4, p_eq (by omega), if_neg (by omega)]; rfl
            · obtain ⟨μ1, a1, C, a3⟩ := c_kept I
              have hsd := I.wf.sd pq (k := w3) (by omega)
              have hpay := I.1.2.2.2.2.1 w1 p.1 p.2
              generalize hP : μ 249 (775 + w1).toNat + (10 + μ 249 w2.toNat) = P
              have ge : ∀ k : Nat, k ≠ (775 + w1).toNat → k ≠ (44 + 25 * w1 + 5 * w2 + w3).toNat → gup (gup (μ 249) (44 + 25 * w1 + 5 * w2 + w3).toNat (w4 + 1)) (775 + w1).toNat P k = μ 249 k := fun k x y => by rw [gup_o x, gup_o y]
              have W : WS (gup (gup (μ 249) (44 + 25 * w1 + 5 * w2 + w3).toNat (w4 + 1)) (775 + w1).toNat P) (T + 1000) := by
                refine WS.mid I.1.2 (by omega) (fun k x y => ge k (by omega) (by omega)) (fun q x y => ?_) (fun i x y => ?_) (fun i x y => ?_) (fun m q k x y z w u v => ?_) (fun m x y => ?_)
                · rw [ge _ (by omega) (by omega)]; exact I.wf.many ⟨x, y⟩
                · rw [ge _ (by omega) (by omega)]; exact I.wf.2.2.2.2.1 i x y
                · by_cases e : i = 25 * w1 + 5 * w2 + w3
                  · rw [gup_o (by omega), show (44 + i).toNat = (44 + 25 * w1 + 5 * w2 + w3).toNat by omega, gup_s]; omega
                  · rw [ge _ (by omega) (by omega)]; exact I.wf.2.2.2.2.2.1 i x y
                · rw [ge _ (by omega) (by omega)] at u
                  have := I.wf.many ⟨z, w⟩
                  have ne : ¬ (m = w1 ∧ q = w2 ∧ k = w3) := by
                    rintro ⟨rfl, rfl, rfl⟩; omega
                  rw [ge _ (by omega) (by omega)]; exact I.wf.un ⟨x, y⟩ ⟨z, w⟩ ⟨u, v⟩
                · by_cases e : m = w1
                  · subst e; rw [gup_s]; omega
                  · rw [ge _ (by omega) (by omega)]
                    have := I.1.2.2.2.2.1 m x y
                    omega
              have R1 : RB (up2 (up2 μ1 7 w1.toNat P) 11 ((w1 * 5 + w2) * 5 + w3).toNat w4) 1 (gup (gup (μ 249) (44 + 25 * w1 + 5 * w2 + w3).toNat (w4 + 1)) (775 + w1).toNat P) := by
                refine RB.mid I.wf C.1 (fun k x y => ge k (by omega) (by omega)) (fun a ha => (up2_oo (by omega)).trans (up2_oo (by omega))) (fun m x y => ?_) (fun q x y => ?_) (fun q k x y z w => ?_) (fun m q k x y z w u v => ?_)
                · rw [up2_o (by omega)]
                  by_cases e : m = w1
                  · subst e; rw [up2_s, gup_s]
                  · rw [up2_k (by omega), ge _ (by omega) (by omega)]; exact C.1.pay ⟨x, y⟩
                · rw [up2_o (by omega), up2_o (by omega), ge _ (by omega) (by omega)]; exact C.1.many ⟨x, y⟩
                · rw [up2_o (by omega), up2_o (by omega), ge _ (by omega) (by omega)]; exact C.1.sd ⟨x, y⟩ ⟨z, w⟩
                · by_cases e : m = w1 ∧ q = w2 ∧ k = w3
                  · obtain ⟨rfl, rfl, rfl⟩ := e
                    rw [up2_s]
                    unfold S_mk
                    rw [gup_o (by omega), gup_s]; omega
                  · have es : S_mk (gup (gup (μ 249) (44 + 25 * w1 + 5 * w2 + w3).toNat (w4 + 1)) (775 + w1).toNat P) m q k = S_mk (μ 249) m q k := ge _ (by omega) (by omega)
                    rw [up2_k (by omega), up2_o (by omega), es]; exact C.1.mk ⟨x, y⟩ ⟨z, w⟩ ⟨u, v⟩
              have hi : iG (w4 - μ 249 (19 + 5 * w2 + w3).toNat) := by unfold iG; omega
              refine op_mut I (μ1 := up2 (up2 μ1 7 w1.toNat P) 11 ((w1 * 5 + w2) * 5 + w3).toNat w4) (x := w4 - μ 249 (19 + 5 * w2 + w3).toNat) ?_ W (C.wr (fun a h => (up2_oo (by omega)).trans (up2_oo (by omega))) R1) (hg0 hi) (fun μ => cI_ok hi) (fun μ9 k9 => ?_)
              · have r6 : μ1 (1 + 6) w1.toNat = μ 249 (775 + w1).toNat := C.1.pay p
                have r1 : μ1 (1 + 1) w2.toNat = μ 249 w2.toNat := C.1.mx pq
                have r9 : μ1 (1 + 7 + 2) (w2 * 5 + w3).toNat = μ 249 (19 + 5 * w2 + w3).toNat := C.1.sd pq (k := w3) (by omega)
                unfold f_X10_markSeed f_X1_earn f_X7_give f_X7_placeOf
                rw [c_reqM h1, if_pos p, p_rb, c_reqQ h2, if_pos pq, p_rb, p_lt (by omega), if_neg (by omega), p_rdI (by omega), hmn, p_lt (by omega), if_pos pk.2, p_rdI (by omega), hra, c_reqR h4 (by unfold iG; omega) (by unfold iG; omega), if_pos p2, p_rb, c_reqU I.wf I.R, if_pos p3, p_rb, cim, p_rb, b2_f p4, p_eq (by omega), if_pos rfl, a1, p_rb, p_rdI (by omega), r6, p_rdI (by omega), r1, p_wrI (by omega), hP, p_rb, p_rb, p_wrI (by omega), p_rdI (by omega), up2_o (by omega), up2_o (by omega), r9, p_rb]
              · have e1 : (up2 μ9 248 0 0) 249 = μ 249 := (up2_oo (by omega)).trans (k9 249 (by omega) (by omega))
                obtain ⟨μ3, c1, R, c3, c4⟩ := r_kept (μ9 := up2 μ9 248 0 0) I e1 ((up2_oo (by omega)).trans (k9 252 (by omega) (by omega))) ((up2_k (by omega)).trans (congrFun (k9 248 (by omega) (by omega)) 5))
                refine ⟨up2 (up2 μ3 249 (44 + 25 * w1 + 5 * w2 + w3).toNat (w4 + 1)) 249 (775 + w1).toNat P, ?_, RM.jt JT.th (R.wr.wr), ?_⟩
                · have ev : S_dv ((up2 (up2 μ3 249 (44 + 25 * w1 + 5 * w2 + w3).toNat (w4 + 1)) 249 (775 + w1).toNat P) 249) w1 w2 w3 = w4 - μ 249 (19 + 5 * w2 + w3).toNat := by
                    unfold S_dv S_mk
                    rw [up2_k (by omega), up2_s, up2_k (by omega), up2_k (by omega), c3]; omega
                  unfold f_X11_markSeed f_X11_markedAt f_X11_pays
                  rw [p_wrF, r_mark h1, p_rb, b2_t (by omega), p_eq (by omega), if_neg (by omega), r_ques h2, p_rb, b2_t (by omega), p_eq (by omega), if_neg (by omega), p_rdI (by omega), e1, r_in h3 (by unfold iG; omega) (by unfold iG; omega), p_rb, b2_t (by omega), p_eq (by omega), if_neg (by omega), p_rdI (by omega), Int.zero_add, e1, r_in h4 (by unfold iG; omega) (by unfold iG; omega), p_rb, b2_t p2, p_eq (by omega), if_neg (by omega), r_pub (by rw [e1]; exact I.wf), p_rb, e1, p_eq (by omega), if_pos p3, r_hasM (by rw [e1]; exact I.wf) p pq (by omega), p_rb, e1, b2_f p4, p_eq (by omega), if_pos rfl, c1, p_rb, p_rb, p_wrI (by omega), p_rdI (by omega), up2_k (by omega), c3, p_rdI (by omega), up2_k (by omega), c3, p_wrI (by omega), hP, p_rb, r_dev p pq (by omega), p_rb, ev]
                · rw [up2_o (by omega), up2_o (by omega), c4, up2_s]
          · refine op_ex I (e := 4) (i := 2) (x := 0) (b := 0) (μ2 := up2 (up2 μ 248 0 0) 248 0 3) ?_ rfl (by omega) ?_ (JT.th.up (by unfold jT; omega)) up2_s
            · unfold f_X10_markSeed
              rw [c_reqM h1, if_pos p, p_rb, c_reqQ h2, if_pos pq, p_rb, p_lt (by omega), if_neg (by omega), p_rdI (by omega), hmn, p_lt (by omega), if_pos pk.2, p_rdI (by omega), hra, c_reqR h4 (by unfold iG; omega) (by unfold iG; omega), if_pos p2, p_rb, c_reqU I.wf I.R, if_neg p3]; rfl
            · unfold f_X11_markSeed f_X11_fails
              rw [p_wrF, r_mark h1, p_rb, b2_t (by omega), p_eq (by omega), if_neg (by omega), r_ques h2, p_rb, b2_t (by omega), p_eq (by omega), if_neg (by omega), p_rdI (by omega), e0, r_in h3 (by unfold iG; omega) (by unfold iG; omega), p_rb, b2_t (by omega), p_eq (by omega), if_neg (by omega), p_rdI (by omega), Int.zero_add, e0, r_in h4 (by unfold iG; omega) (by unfold iG; omega), p_rb, b2_t p2, p_eq (by omega), if_neg (by omega), r_pub (by rw [e0]; exact I.wf), p_rb, e0, p_eq (by omega), if_neg p3]; rfl
        · refine op_ex I (e := 1) (i := 1) (x := 0) (b := 0) (μ2 := up2 (up2 μ 248 0 0) 248 0 2) ?_ rfl (by omega) ?_ (JT.th.up (by unfold jT; omega)) up2_s
          · unfold f_X10_markSeed
            rw [c_reqM h1, if_pos p, p_rb, c_reqQ h2, if_pos pq, p_rb, p_lt (by omega), if_neg (by omega), p_rdI (by omega), hmn, p_lt (by omega), if_pos pk.2, p_rdI (by omega), hra, c_reqR h4 (by unfold iG; omega) (by unfold iG; omega), if_neg p2]; rfl
          · unfold f_X11_markSeed f_X11_fails
            rw [p_wrF, r_mark h1, p_rb, b2_t (by omega), p_eq (by omega), if_neg (by omega), r_ques h2, p_rb, b2_t (by omega), p_eq (by omega), if_neg (by omega), p_rdI (by omega), e0, r_in h3 (by unfold iG; omega) (by unfold iG; omega), p_rb, b2_t (by omega), p_eq (by omega), if_neg (by omega), p_rdI (by omega), Int.zero_add, e0, r_in h4 (by unfold iG; omega) (by unfold iG; omega), p_rb, b2_f p2, p_eq (by omega), if_pos rfl]; rfl
      · refine op_ex I (e := 2) (i := 0) (x := 0) (b := 0) (μ2 := up2 (up2 μ 248 0 0) 248 0 1) ?_ rfl (by omega) ?_ (JT.th.up (by unfold jT; omega)) up2_s
        · unfold f_X10_markSeed f_X10_markSeed_28
          rw [c_reqM h1, if_pos p, p_rb, c_reqQ h2, if_pos pq, p_rb, p_lt (by omega)]
          by_cases z : w3 < 0
          · rw [if_pos z]
          · rw [if_neg z, p_rdI (by omega), hmn, p_lt (by omega), if_neg (by omega)]
        · unfold f_X11_markSeed
          rw [p_wrF, r_mark h1, p_rb, b2_t (by omega), p_eq (by omega), if_neg (by omega), r_ques h2, p_rb, b2_t (by omega), p_eq (by omega), if_neg (by omega), p_rdI (by omega), e0, r_in h3 (by unfold iG; omega) (by unfold iG; omega), p_rb, b2_f (by omega), p_eq (by omega), if_pos rfl, exc0]
    · refine op_ex I (e := 2) (i := 0) (x := 0) (b := 0) (μ2 := up2 (up2 μ 248 0 0) 248 0 1) ?_ rfl (by omega) ?_ (JT.th.up (by unfold jT; omega)) up2_s
      · unfold f_X10_markSeed
        rw [c_reqM h1, if_pos p, p_rb, c_reqQ h2, if_neg pq]; rfl
      · unfold f_X11_markSeed
        rw [p_wrF, r_mark h1, p_rb, b2_t (by omega), p_eq (by omega), if_neg (by omega), r_ques h2, p_rb, b2_f (by omega), p_eq (by omega), if_pos rfl, exc0]
  · refine op_ex I (e := 2) (i := 0) (x := 0) (b := 0) (μ2 := up2 (up2 μ 248 0 0) 248 0 1) ?_ rfl (by omega) ?_ (JT.th.up (by unfold jT; omega)) up2_s
    · unfold f_X10_markSeed
      rw [c_reqM h1, if_neg p]; rfl
    · unfold f_X11_markSeed
      rw [p_wrF, r_mark h1, p_rb, b2_f (by omega), p_eq (by omega), if_pos rfl, exc0]

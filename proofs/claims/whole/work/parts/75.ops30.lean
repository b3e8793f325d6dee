/-! appeal -/
theorem nap_bd {g : Nat → Int} {c : Int} : 0 ≤ S_nap g c ∧ S_nap g c ≤ 5 := by
  have := sm_bd (G := fun q => b2 (1 ≤ S_ap g c q 0 ∧ S_ap g c q 0 ≤ 3)) (a := 0) (b := 1) 5 0 (fun j _ _ => b2_bd)
  unfold S_nap
  omega
/-- the scripts of a candidate without an appeal -/
theorem c_noap {μ : Mu} {g : Nat → Int} (h : WF g) (R : RB μ 1 g) {c : Int} (hc : 0 ≤ c ∧ c < 8) : f_X0_inState (1 + 19) 0 (c * 5) (c * 5 + 5) μ = some (μ, 0, 5 - S_nap g c) := by
  have r : ∀ q : Int, 0 ≤ q → q < 5 → μ (1 + 19 + 1) (q + c * 5).toNat = S_ap g c q 0 ∧ 0 ≤ S_ap g c q 0 ∧ S_ap g c q 0 ≤ 3 := fun q x y => by
    rw [Int.add_comm]
    exact ⟨(R.ap hc ⟨x, y⟩).1, (h.ap0 hc ⟨x, y⟩).1⟩
  rw [c_inState (by unfold iG; omega) (by omega) (fun s x y => by
    have w := (h.ap0 (c := s / 5) (q := s % 5) (by omega) (by omega)).1
    have z := (R.ap (c := s / 5) (q := s % 5) (by omega) (by omega)).1
    rw [show s / 5 * 5 + s % 5 = s by omega] at z
    rw [z]; unfold iG; omega)]
  have e1 := sm_shift (fun s => b2 (μ (1 + 19 + 1) s.toNat = 0)) (c * 5) 5 0
  rw [Int.zero_add] at e1
  have e := sm_sub (G := fun _ => 1) (G' := fun q => b2 (1 ≤ S_ap g c q 0 ∧ S_ap g c q 0 ≤ 3)) 5 0
  rw [sm_one] at e
  have e2 : sm (fun j => b2 (μ (1 + 19 + 1) (j + c * 5).toNat = 0)) 5 0 = sm (fun j => 1 - b2 (1 ≤ S_ap g c j 0 ∧ S_ap g c j 0 ≤ 3)) 5 0 := sm_congr 5 0 (fun j a b => by
    have w := r j a (by omega)
    by_cases p : S_ap g c j 0 = 0
    · rw [b2_t (w.1.trans p), b2_f (by omega)]; rfl
    · rw [b2_f (by rw [w.1]; exact p), b2_t (by omega)]; rfl)
  rw [show (c * 5 + 5 - c * 5).toNat = 5 by omega, e1, e2, e]; rfl
theorem o_appeal {T : Int} {μ : Mu} (I : Inv T μ) {w1 w2 : Int} (h1 : iG w1) (h2 : iG w2) : OK T (lc_appeal w1 w2 μ) := by
  have g1 := h1
  have g2 := h2
  unfold iG at g1 g2
  have hpb := I.wf.pub
  unfold lc_appeal
  by_cases p : (0 ≤ w1 ∧ w1 < 8) ∧ (0 ≤ w2 ∧ w2 < 5)
  · have hap := I.wf.ap0 p.1 p.2
    have hpf := I.wf.apf p.1 p.2
    have rap := I.R.ap p.1 p.2
    have hnx := (I.wx w1 p.1.1 p.1.2).2
    have hnb := nap_bd (g := μ 249) (c := w1)
    have hF := I.wf.st.2.2.2.2
    have sO : f_X10_scriptOf w1 0 μ = some (μ, 0, w1 * 5) := by
      show some (μ, 0, w1 * 5 + 0) = _
      rw [Int.add_zero]
    have c0 : f_X10_appeal w1 w2 μ = rb (f_X10_refusesAppeal w1 w2 μ) fun μ x1 => i_eq x1 0 (rb (f_X4_keep 1 μ) fun μ _ => rdI μ (1 + 2) 5 4 fun x2 => rb (f_X10_scriptOf w1 w2 μ) fun μ x3 => rb (f_X0_open (1 + 19) x3 x2 μ) fun μ _ => some (μ, 0, x2)) (some (μ, 5, 0)) := by
      unfold f_X10_appeal
      rw [c_reqS h1 h2, if_pos p, p_rb]
    have ref : ∀ s3 s4 : Int, f_X10_refusesAppeal w1 w2 μ = some (TLc μ 3 w1 s3 s4, 0, 1) → f_X10_appeal w1 w2 μ = some (TLc μ 3 w1 s3 s4, 4 + 1, 0) := fun s3 s4 h => by
      rw [c0, h, p_rb, p_eq (by omega), if_neg (by omega)]
    have f2 : ∀ m1 : Mu, m1 249 = μ 249 → (up2 m1 248 0 0) 249 = μ 249 := fun m1 f1 => (up2_oo (by omega)).trans f1
    by_cases q1 : μ 249 652 = 0
    · refine op_tell I (KA.rf μ) (s1 := 3) (s2 := w1) (s3 := 31) (s4 := 0) (t := 2) (i := 1) rfl (ref _ _ ?_) rfl (by omega) ⟨by unfold iG; omega, h1, by unfold iG; omega, by unfold iG; omega⟩ (fun m1 u1 f1 => ?_)
      · unfold f_X10_refusesAppeal
        rw [sO, p_rb, p_rdF, I.R.pub, p_eq (by omega), if_pos q1, c_tell, p_rb, p_Z1]
      · refine ⟨up2 m1 248 0 0, 0, ?_, JT.th⟩
        unfold f_X11_appeal
        rw [r_sref h1 h2, if_pos p, p_rb, p_lt (by omega), if_neg (by omega), r_pub (by rw [f2 m1 f1]; exact I.wf), p_rb, f2 m1 f1, p_eq (by omega), if_pos q1, r_rep, p_rb]
    · by_cases q2 : S_hg (μ 249) w1
      · by_cases q3 : 0 < S_ap (μ 249) w1 w2 0
        · refine op_tell I (KA.rf μ) (s1 := 3) (s2 := w1) (s3 := 33) (s4 := w2) (t := 2) (i := 1) rfl (ref _ _ ?_) rfl (by omega) ⟨by unfold iG; omega, h1, by unfold iG; omega, h2⟩ (fun m1 u1 f1 => ?_)
          · unfold f_X10_refusesAppeal
            rw [sO, p_rb, p_rdF, I.R.pub, p_eq (by omega), if_neg q1, c_hasGrade I.wf I.w3 I.R p.1, p_rb, b2_t q2, p_eq (by omega), if_neg (by omega), p_rdI (by omega), rap.1, p_eq (by omega), if_neg (by omega), c_tell, p_rb, p_Z1]
          · refine ⟨up2 m1 248 0 0, 0, ?_, JT.th⟩
            unfold f_X11_appeal
            rw [r_sref h1 h2, if_pos p, p_rb, p_lt (by omega), if_neg (by omega), r_pub (by rw [f2 m1 f1]; exact I.wf), p_rb, f2 m1 f1, p_eq (by omega), if_neg q1, r_hasGrade (by rw [f2 m1 f1]; exact I.wf) h1, p_rb, f2 m1 f1, b2_t q2, p_eq (by omega), if_neg (by omega), r_apP p.1 p.2 (by omega), p_rb, f2 m1 f1, p_lt (by omega), if_pos q3, r_rep, p_rb]
        · have z0 : S_ap (μ 249) w1 w2 0 = 0 := by omega
          have z1 : S_ap (μ 249) w1 w2 1 = 0 := by omega
          have rS : ∀ m1 : Mu, m1 249 = μ 249 → f_X11_appeals w1 1 3 (up2 m1 248 0 0) = some (up2 m1 248 0 0, 0, S_nap (μ 249) w1) := fun m1 f1 => by
            have := r_appeals (μ := up2 m1 248 0 0) (by rw [f2 m1 f1]; exact I.wf) p.1 (lo := 1) (hi := 3) (by unfold iG; omega) (by unfold iG; omega)
            rw [f2 m1 f1] at this
            exact this
          by_cases q4 : S_nap (μ 249) w1 = 3
          · refine op_tell I (KA.rf μ) (s1 := 3) (s2 := w1) (s3 := 34) (s4 := 3) (t := 2) (i := 1) rfl (ref _ _ ?_) rfl (by omega) ⟨by unfold iG; omega, h1, by unfold iG; omega, by unfold iG; omega⟩ (fun m1 u1 f1 => ?_)
            · unfold f_X10_refusesAppeal
              rw [sO, p_rb, p_rdF, I.R.pub, p_eq (by omega), if_neg q1, c_hasGrade I.wf I.w3 I.R p.1, p_rb, b2_t q2, p_eq (by omega), if_neg (by omega), p_rdI (by omega), rap.1, p_eq (by omega), if_pos z0, c_noap I.wf I.R p.1, p_rb, p_lt (by omega), if_neg (by omega), c_tell, p_rb, p_Z1]
            · refine ⟨up2 m1 248 0 0, 0, ?_, JT.th⟩
              unfold f_X11_appeal
              rw [r_sref h1 h2, if_pos p, p_rb, p_lt (by omega), if_neg (by omega), r_pub (by rw [f2 m1 f1]; exact I.wf), p_rb, f2 m1 f1, p_eq (by omega), if_neg q1, r_hasGrade (by rw [f2 m1 f1]; exact I.wf) h1, p_rb, f2 m1 f1, b2_t q2, p_eq (by omega), if_neg (by omega), r_apP p.1 p.2 (by omega), p_rb, f2 m1 f1, p_lt (by omega), if_neg q3, rS m1 f1, p_rb, p_eq (by omega), if_pos q4, r_rep, p_rb]
          · obtain ⟨μ1, a1, C, a3⟩ := c_kept I
            generalize hFF : μ 249 9 = F at hF
            have cF : μ1 (1 + 2) (4 : Int).toNat = F := (C.1.st (w := 4) (by omega)).trans hFF
            have ec : ∀ k : Nat, k < 653 → gup (gup (gup (μ 249) (653 + 15 * w1 + 3 * w2).toNat 1) (653 + 15 * w1 + 3 * w2 + 1).toNat F) 773 (μ 249 773 + F) k = μ 249 k := fun k x => by rw [gup_o (by omega), gup_o (by omega), gup_o (by omega)]
            have eo : ∀ x y w : Int, 0 ≤ x → x < 8 → 0 ≤ y → y < 5 → 0 ≤ w → w < 3 → ¬ (x = w1 ∧ y = w2) → S_ap (gup (gup (gup (μ 249) (653 + 15 * w1 + 3 * w2).toNat 1) (653 + 15 * w1 + 3 * w2 + 1).toNat F) 773 (μ 249 773 + F)) x y w = S_ap (μ 249) x y w := fun x y w x1 x2 y1 y2 v1 v2 n => by
              unfold S_ap
              rw [gup_o (by omega), gup_o (by omega), gup_o (by omega)]
            have s0 : S_ap (gup (gup (gup (μ 249) (653 + 15 * w1 + 3 * w2).toNat 1) (653 + 15 * w1 + 3 * w2 + 1).toNat F) 773 (μ 249 773 + F)) w1 w2 0 = 1 := by
              unfold S_ap
              rw [Int.add_zero, gup_o (by omega), gup_o (by omega), gup_s]
            have s1 : S_ap (gup (gup (gup (μ 249) (653 + 15 * w1 + 3 * w2).toNat 1) (653 + 15 * w1 + 3 * w2 + 1).toNat F) 773 (μ 249 773 + F)) w1 w2 1 = F := by
              unfold S_ap
              rw [gup_o (by omega), gup_s]
            have s2 : S_ap (gup (gup (gup (μ 249) (653 + 15 * w1 + 3 * w2).toNat 1) (653 + 15 * w1 + 3 * w2 + 1).toNat F) 773 (μ 249 773 + F)) w1 w2 2 = S_ap (μ 249) w1 w2 2 := by
              unfold S_ap
              rw [gup_o (by omega), gup_o (by omega), gup_o (by omega)]
            have W : WS (gup (gup (gup (μ 249) (653 + 15 * w1 + 3 * w2).toNat 1) (653 + 15 * w1 + 3 * w2 + 1).toNat F) 773 (μ 249 773 + F)) T := by
              refine WS.ap1 I.1.2 p.1 p.2 ec eo (by rw [s0]; omega) (by rw [s1]; omega) (by rw [s2]; exact hap.2.2) ?_ (fun m x y => ?_) ?_ ?_
              · rw [b2_f (by omega)]; omega
              · rw [gup_o (by omega), gup_o (by omega), gup_o (by omega)]; exact I.1.2.2.2.2.1 m x y
              · rw [gup_o (by omega), gup_o (by omega), gup_o (by omega)]; exact I.1.2.2.2.2.2.1
              · rw [gup_s, s1]; omega
            have R1 : RB (up2 (up2 μ1 21 (w1 * 5 + w2).toNat 1) 22 (w1 * 5 + w2).toNat F) 1 (gup (gup (gup (μ 249) (653 + 15 * w1 + 3 * w2).toNat 1) (653 + 15 * w1 + 3 * w2 + 1).toNat F) 773 (μ 249 773 + F)) := by
              refine RB.ap1 I.wf C.1 p.1 p.2 ec eo (fun a ha => (up2_oo (by omega)).trans (up2_oo (by omega))) (fun a k x y z => ?_) ⟨?_, ?_, ?_⟩ (fun m x y => ?_) ?_
              · rw [up2_eq, if_neg (by omega), up2_eq, if_neg (by omega)]
              · rw [up2_o (by omega), up2_s, s0]
              · rw [up2_s, s1]
              · rw [up2_o (by omega), up2_o (by omega), s2]; exact (C.1.ap p.1 p.2).2.2
              · rw [up2_o (by omega), up2_o (by omega), gup_o (by omega), gup_o (by omega), gup_o (by omega)]; exact C.1.pay ⟨x, y⟩
              · rw [up2_o (by omega), up2_o (by omega), gup_o (by omega), gup_o (by omega), gup_o (by omega)]; exact C.1.rf
            have hi : iG F := by unfold iG; omega
            refine op_mut I (μ1 := up2 (up2 μ1 21 (w1 * 5 + w2).toNat 1) 22 (w1 * 5 + w2).toNat F) (x := F) ?_ (W.up (by omega)) (C.wr (fun a h => (up2_oo (by omega)).trans (up2_oo (by omega))) R1) (hg0 hi) (fun μ => cI_ok hi) (fun μ9 k9 => ?_)
            · have rA : f_X10_refusesAppeal w1 w2 μ = some (μ, 0, 0) := by
                unfold f_X10_refusesAppeal
                rw [sO, p_rb, p_rdF, I.R.pub, p_eq (by omega), if_neg q1, c_hasGrade I.wf I.w3 I.R p.1, p_rb, b2_t q2, p_eq (by omega), if_neg (by omega), p_rdI (by omega), rap.1, p_eq (by omega), if_pos z0, c_noap I.wf I.R p.1, p_rb, p_lt (by omega), if_pos (by omega), p_Z0]
              have sO2 : f_X10_scriptOf w1 w2 μ1 = some (μ1, 0, w1 * 5 + w2) := rfl
              unfold f_X0_open at c0
              rw [c0, rA, p_rb, p_eq (by omega), if_pos rfl, a1, p_rb, p_rdI (by omega), cF, sO2, p_rb, p_wrI (by omega), p_wrI (by omega), p_rb]
            · have f1 : μ9 249 = μ 249 := k9 249 (by omega) (by omega)
              obtain ⟨μ3, c1, R, c3, c4⟩ := r_kept (μ9 := up2 μ9 248 0 0) I (f2 μ9 f1) ((up2_oo (by omega)).trans (k9 252 (by omega) (by omega))) ((up2_k (by omega)).trans (congrFun (k9 248 (by omega) (by omega)) 5))
              refine ⟨up2 (up2 (up2 μ3 249 (653 + 15 * w1 + 3 * w2).toNat 1) 249 (653 + 15 * w1 + 3 * w2 + 1).toNat F) 249 773 (μ 249 773 + F), ?_, RM.jt JT.th (R.wr.wr.wr), ?_⟩
              · have v1 : up2 μ3 249 (653 + 15 * w1 + 3 * w2).toNat 1 249 (5 + (4 : Int)).toNat = F := by
                  rw [up2_k (by omega), ← hFF]; exact congrFun c3 9
                have v2 : up2 (up2 μ3 249 (653 + 15 * w1 + 3 * w2).toNat 1) 249 (653 + 15 * w1 + 3 * w2 + 1).toNat F 249 (773 : Int).toNat = μ 249 773 := by
                  rw [up2_k (by omega), up2_k (by omega)]; exact congrFun c3 773
                have v3 : up2 (up2 μ3 249 (653 + 15 * w1 + 3 * w2).toNat 1) 249 (653 + 15 * w1 + 3 * w2 + 1).toNat F 249 (5 + (4 : Int)).toNat = F := by
                  rw [up2_k (by omega)]; exact v1
                have v4 : up2 (up2 (up2 μ3 249 (653 + 15 * w1 + 3 * w2).toNat 1) 249 (653 + 15 * w1 + 3 * w2 + 1).toNat F) 249 (773 : Int).toNat (μ 249 773 + F) 249 (5 + (4 : Int)).toNat = F := by
                  rw [up2_k (by omega)]; exact v3
                unfold f_X11_appeal
                rw [r_sref h1 h2, if_pos p, p_rb, p_lt (by omega), if_neg (by omega), r_pub (by rw [f2 μ9 f1]; exact I.wf), p_rb, f2 μ9 f1, p_eq (by omega), if_neg q1, r_hasGrade (by rw [f2 μ9 f1]; exact I.wf) h1, p_rb, f2 μ9 f1, b2_t q2, p_eq (by omega), if_neg (by omega), r_apP p.1 p.2 (by omega), p_rb, f2 μ9 f1, p_lt (by omega), if_neg q3, rS μ9 f1, p_rb, p_eq (by omega), if_neg q4, c1, p_rb, p_bnd, p_wrI (by omega), r_set (by omega), p_rb, v1, p_wrI (by omega), p_rdI (by omega), v2, r_set (by omega), p_rb, v3, p_wrI (by omega), r_set (by omega), p_rb, v4]
                try rfl
              · rw [up2_o (by omega), up2_o (by omega), up2_o (by omega), c4, up2_s]
      · refine op_tell I (KA.rf μ) (s1 := 3) (s2 := w1) (s3 := 32) (s4 := w1) (t := 2) (i := 1) rfl (ref _ _ ?_) rfl (by omega) ⟨by unfold iG; omega, h1, by unfold iG; omega, h1⟩ (fun m1 u1 f1 => ?_)
        · unfold f_X10_refusesAppeal
          rw [sO, p_rb, p_rdF, I.R.pub, p_eq (by omega), if_neg q1, c_hasGrade I.wf I.w3 I.R p.1, p_rb, b2_f q2, p_eq (by omega), if_pos rfl, c_tell, p_rb, p_Z1]
        · refine ⟨up2 m1 248 0 0, 0, ?_, JT.th⟩
          unfold f_X11_appeal
          rw [r_sref h1 h2, if_pos p, p_rb, p_lt (by omega), if_neg (by omega), r_pub (by rw [f2 m1 f1]; exact I.wf), p_rb, f2 m1 f1, p_eq (by omega), if_neg q1, r_hasGrade (by rw [f2 m1 f1]; exact I.wf) h1, p_rb, f2 m1 f1, b2_f q2, p_eq (by omega), if_pos rfl, r_rep, p_rb]
  · refine op_ex I (e := 2) (i := 0) (x := 0) (b := 0) (μ2 := up2 μ 248 0 1) ?_ rfl (by omega) ?_ JT.th up2_s
    · unfold f_X10_appeal
      rw [c_reqS h1 h2, if_neg p]; rfl
    · unfold f_X11_appeal
      rw [r_sref h1 h2, if_neg p, p_rb, p_lt (by omega), if_pos (by omega)]

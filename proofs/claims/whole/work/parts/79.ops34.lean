/-! remark: the reference, and the call -/
theorem r_remark {T : Int} {μ m9 : Mu} (I : Inv T μ) {w1 w2 w3 w4 : Int} (hm : 0 ≤ w1 ∧ w1 < 4) (hc : 0 ≤ w2 ∧ w2 < 8) (hq : 0 ≤ w3 ∧ w3 < 5) (hv : 0 ≤ w4 ∧ w4 ≤ 40) (ha : S_ap (μ 249) w2 w3 0 = 1) (e249 : m9 249 = μ 249) (e252 : m9 252 = μ 252) (e5 : m9 248 5 = μ 248 5) :
    ∃ μ6, (rb (f_X11_changes m9) fun μ _ => rb (f_X11_gradeOf w2 μ) fun μ x7 => bnd ((653 + (15 * w2)) + (3 * w3)) fun x8 => wrI μ 249 779 (x8 + 2) w4 fun μ => rb (f_X11_settled w2 w3 μ) fun μ x9 => rb (f_X11_agree (w4 * 120) x9 μ) fun μ x10 => i_eq x10 0 (f_X11_remark_182 w1 w2 w3 w4 x7 x8 x8 3 μ) (f_X11_remark_182 w1 w2 w3 w4 x7 x8 x8 2 μ)) = (if S_grade (S_rmG (μ 249) w2 w3 w1 w4) w2 (S_set (S_rmG (μ 249) w2 w3 w1 w4) w2) < S_grade (μ 249) w2 (S_set (μ 249) w2) then some (up2 μ6 249 774 (μ 249 774 + S_ap (μ 249) w2 w3 1), 0, S_ap (μ 249) w2 w3 1) else some (μ6, 0, 0)) ∧ RM μ m9 μ6 (S_rmG (μ 249) w2 w3 w1 w4) ∧ μ6 248 0 = m9 248 0 := by
  have hap := I.wf.ap0 hc hq
  have hmx := I.wf.mx hq
  have hpy := pay_bd I.1.2 hm hq
  have hD := S_set_bd I.wf hc hq
  obtain ⟨μ3, c1, R, c3, c4⟩ := r_kept I e249 e252 e5
  obtain ⟨μ4, d1, J4⟩ := r_gradeOf (μ := μ3) (by rw [c3]; exact I.wf) (by rw [c3]; exact I.w3) (by rw [c3]; exact I.wx) hc
  rw [c3] at d1
  have f4 : μ4 249 = μ 249 := J4.s.trans c3
  -- the mark is put
  have f5 : (up2 μ4 249 (653 + 15 * w2 + 3 * w3 + 2).toNat w4) 249 = gup (μ 249) (653 + 15 * w2 + 3 * w3 + 2).toNat w4 := by rw [up2_gup, f4]
  have E5 : ∀ k : Nat, k < 653 → gup (μ 249) (653 + 15 * w2 + 3 * w3 + 2).toNat w4 k = μ 249 k := fun k x => gup_o (by omega)
  have o5 : ∀ x y w : Int, 0 ≤ x → x < 8 → 0 ≤ y → y < 5 → 0 ≤ w → w < 3 → ¬ (x = w2 ∧ y = w3) → S_ap (gup (μ 249) (653 + 15 * w2 + 3 * w3 + 2).toNat w4) x y w = S_ap (μ 249) x y w := fun x y w x1 x2 y1 y2 v1 v2 n => gup_o (by omega)
  have s50 : S_ap (gup (μ 249) (653 + 15 * w2 + 3 * w3 + 2).toNat w4) w2 w3 0 = 1 := by
    rw [← ha]; exact gup_o (by omega)
  have s51 : S_ap (gup (μ 249) (653 + 15 * w2 + 3 * w3 + 2).toNat w4) w2 w3 1 = S_ap (μ 249) w2 w3 1 := gup_o (by omega)
  have s52 : S_ap (gup (μ 249) (653 + 15 * w2 + 3 * w3 + 2).toNat w4) w2 w3 2 = w4 := gup_s
  have W5 : WS (gup (μ 249) (653 + 15 * w2 + 3 * w3 + 2).toNat w4) T := by
    refine WS.ap1 I.1.2 hc hq E5 o5 (by rw [s50]; omega) (by rw [s51]; exact hap.2.1) (by rw [s52]; exact hv) ?_ (fun m x y => ?_) ?_ ?_
    · have := (I.wx w2 hc.1 hc.2).2
      rw [b2_t (by omega)]; omega
    · rw [gup_o (by omega)]; exact I.1.2.2.2.2.1 m x y
    · rw [gup_o (by omega)]; exact I.1.2.2.2.2.2.1
    · rw [gup_o (by omega), s51]; omega
  obtain ⟨μ6, d6, J6⟩ := r_settled (μ := up2 μ4 249 (653 + 15 * w2 + 3 * w3 + 2).toNat w4) (by rw [f5]; exact W5.1) (by rw [f5]; exact W5.2.1) hc hq
  rw [f5] at d6
  have sD : S_set (gup (μ 249) (653 + 15 * w2 + 3 * w3 + 2).toNat w4) w2 w3 = S_set (μ 249) w2 w3 := cg_set I.wf E5 (s50.trans ha.symm) (fun z => by omega)
  rw [sD] at d6
  have f6 : μ6 249 = gup (μ 249) (653 + 15 * w2 + 3 * w3 + 2).toNat w4 := J6.s.trans f5
  have ag := r_agree (μ := μ6) (by rw [f6]; exact W5.1) (v := w4 * 120) (w := S_set (μ 249) w2 w3) (by omega) (by omega)
  unfold S_agr at ag
  rw [f6, gup_o (by omega)] at ag
  -- its state, and the pay
  have f7 : (up2 (up2 μ6 249 (653 + 15 * w2 + 3 * w3).toNat (S_rst (μ 249) w2 w3 w4)) 249 (775 + w1).toNat (S_pay (μ 249) w1 w3)) 249 = S_rmG (μ 249) w2 w3 w1 w4 := by
    unfold S_rmG
    rw [up2_gup, up2_gup, f6]
  have py : f_X11_pays w1 w3 (up2 μ6 249 (653 + 15 * w2 + 3 * w3).toNat (S_rst (μ 249) w2 w3 w4)) = some (up2 (up2 μ6 249 (653 + 15 * w2 + 3 * w3).toNat (S_rst (μ 249) w2 w3 w4)) 249 (775 + w1).toNat (S_pay (μ 249) w1 w3), 0, 0) := by
    have := r_pays (μ := up2 μ6 249 (653 + 15 * w2 + 3 * w3).toNat (S_rst (μ 249) w2 w3 w4)) hm hq
    rw [up2_k (by omega), up2_k (by omega), f6, gup_o (by omega), gup_o (by omega)] at this
    exact this
  have W7 := rmG_W I.1.2 hc hq hm hv ha
  obtain ⟨μ8, d8, J8⟩ := r_gradeOf (μ := up2 (up2 μ6 249 (653 + 15 * w2 + 3 * w3).toNat (S_rst (μ 249) w2 w3 w4)) 249 (775 + w1).toNat (S_pay (μ 249) w1 w3)) (by rw [f7]; exact W7.1) (by rw [f7]; exact W7.2.1) (by rw [f7]; exact W7.2.2.1) hc
  rw [f7] at d8
  have f8 : μ8 249 = S_rmG (μ 249) w2 w3 w1 w4 := J8.s.trans f7
  have K := rmG_K (g := μ 249) (v := w4) hc hq hm
  have nb := S_gr_bd (g := S_rmG (μ 249) w2 w3 w1 w4) (c := w2) (M := S_set (S_rmG (μ 249) w2 w3 w1 w4) w2)
  have bb := S_gr_bd (g := μ 249) (c := w2) (M := S_set (μ 249) w2)
  have fe : μ8 249 (653 + 15 * w2 + 3 * w3 + 1).toNat = S_ap (μ 249) w2 w3 1 := (congrFun f8 _).trans (K.s hc hq hm).2.1
  have rf : μ8 249 (774 : Int).toNat = μ 249 774 := (congrFun f8 774).trans (rmG_774 hc hq hm)
  have t182 : ∀ n : Int, S_rst (μ 249) w2 w3 w4 = n → f_X11_remark_182 w1 w2 w3 w4 (S_grade (μ 249) w2 (S_set (μ 249) w2)) (653 + 15 * w2 + 3 * w3) (653 + 15 * w2 + 3 * w3) n μ6 = (if S_grade (S_rmG (μ 249) w2 w3 w1 w4) w2 (S_set (S_rmG (μ 249) w2 w3 w1 w4) w2) < S_grade (μ 249) w2 (S_set (μ 249) w2) then some (up2 μ8 249 774 (μ 249 774 + S_ap (μ 249) w2 w3 1), 0, S_ap (μ 249) w2 w3 1) else some (μ8, 0, 0)) := by
    intro n hs
    unfold f_X11_remark_182
    rw [← hs, p_wrI (by omega), py, p_rb, d8, p_rb, p_lt (by omega)]
    by_cases z : S_grade (S_rmG (μ 249) w2 w3 w1 w4) w2 (S_set (S_rmG (μ 249) w2 w3 w1 w4) w2) < S_grade (μ 249) w2 (S_set (μ 249) w2)
    · rw [if_pos z, if_pos z, p_rdI (by omega), rf, p_rdI (by omega), fe, p_wrI (by omega), p_rdI (by omega), up2_k (by omega), fe]
      try rfl
    · rw [if_neg z, if_neg z]
  refine ⟨μ8, ?_, ?_, ?_⟩
  · rw [c1, p_rb, d1, p_rb, p_bnd, p_wrI (by omega), d6, p_rb, ag, p_rb]
    by_cases z : S_agr (μ 249) (w4 * 120) (S_set (μ 249) w2 w3)
    · rw [b2_t z, p_eq (by omega), if_neg (by omega)]
      exact t182 2 (by unfold S_rst; rw [if_pos z])
    · rw [b2_f z, p_eq (by omega), if_pos rfl]
      exact t182 3 (by unfold S_rst; rw [if_neg z])
  · exact ((((R.jt2 J4.jt).wr).jt2 J6.r.jt).wr.wr).jt2 J8.jt
  · rw [J8 248 0 (by unfold jR; omega), up2_o (by omega), up2_o (by omega), J6 248 0 (by unfold jF; omega), up2_o (by omega), J4 248 0 (by unfold jR; omega), c4]
theorem o_remark {T : Int} {μ : Mu} (I : Inv T μ) {w1 w2 w3 w4 : Int} (h1 : iG w1) (h2 : iG w2) (h3 : iG w3) (h4 : iG w4) : OK T (lc_remark w1 w2 w3 w4 μ) := by
  have g4 := h4
  unfold iG at g4
  unfold lc_remark
  have exc : ∀ m : Mu, f_X11_remark_26 w1 w2 w3 w4 m = some (up2 m 248 0 1, 0, 0) := fun _ => rfl
  have f2 : ∀ m1 : Mu, m1 249 = μ 249 → (up2 m1 248 0 0) 249 = μ 249 := fun m1 f1 => (up2_oo (by omega)).trans f1
  by_cases p : (0 ≤ w1 ∧ w1 < 4) ∧ (0 ≤ w2 ∧ w2 < 8) ∧ (0 ≤ w3 ∧ w3 < 5)
  · obtain ⟨hm, hc, hq⟩ := p
    by_cases p4 : 0 ≤ w4
    · have hap := I.wf.ap0 hc hq
      have hmx := I.wf.mx hq
      have rap := (I.R.ap hc hq).1
      have rmx : μ (1 + 1) w3.toNat = μ 249 w3.toNat := I.R.mx hq
      have sO : f_X10_scriptOf w2 w3 μ = some (μ, 0, w2 * 5 + w3) := rfl
      have c0 : f_X10_remark w1 w2 w3 w4 μ = rb (f_X10_refusesRemark w1 w2 w3 w4 μ) fun μ x1 => i_eq x1 0 (rb (f_X4_keep 1 μ) fun μ _ => rb (f_X1_earn 1 w1 w3 μ) fun μ _ => rb (f_X10_scriptOf w2 w3 μ) fun μ x2 => rdA 8 w2 (fun j => 232 + 2 * j) fun x3 => rb (f_X5_find x3 1 w2 μ) fun μ _ => rdF μ x3 5 fun x4 => rb (f_X1_settledOf 1 x2 μ) fun μ x5 => rb (f_X1_agree 1 (w4 * 120) x5 μ) fun μ x6 => i_eq x6 0 (f_X10_remark_118 w1 w2 w3 w4 x2 x3 x4 1 μ) (f_X10_remark_118 w1 w2 w3 w4 x2 x3 x4 0 μ)) (some (μ, 5, 0)) := by
        unfold f_X10_remark
        rw [c_reqM h1, if_pos hm, p_rb, c_reqS h2 h3, if_pos ⟨hc, hq⟩, p_rb, c_reqN h4, if_pos p4, p_rb]
      have ref : ∀ s3 s4 : Int, f_X10_refusesRemark w1 w2 w3 w4 μ = some (TLc μ 4 w2 s3 s4, 0, 1) → f_X10_remark w1 w2 w3 w4 μ = some (TLc μ 4 w2 s3 s4, 4 + 1, 0) := fun s3 s4 h => by
        rw [c0, h, p_rb, p_eq (by omega), if_neg (by omega)]
      by_cases q1 : S_ap (μ 249) w2 w3 0 = 1
      · by_cases q2 : μ 249 w3.toNat < w4
        · refine op_tell I (KA.rf μ) (s1 := 4) (s2 := w2) (s3 := 42) (s4 := μ 249 w3.toNat) (t := 3) (i := 2) rfl (ref _ _ ?_) rfl (by omega) ⟨by unfold iG; omega, h2, by unfold iG; omega, by unfold iG; omega⟩ (fun m1 u1 f1 => ?_)
          · unfold f_X10_refusesRemark
            rw [sO, p_rb, p_rdI (by omega), rap, p_eq (by omega), if_pos q1, p_rdI (by omega), rmx, p_lt (by omega), if_pos q2, p_rdI (by omega), rmx, c_tell, p_rb, p_Z1]
          · refine ⟨up2 m1 248 0 0, 0, ?_, JT.th⟩
            unfold f_X11_remark
            rw [p_wrF, r_mark h1, p_rb, b2_t (by omega), p_eq (by omega), if_neg (by omega), r_cand h2, p_rb, b2_t (by omega), p_eq (by omega), if_neg (by omega), r_ques h3, p_rb, b2_t (by omega), p_eq (by omega), if_neg (by omega), p_lt (by omega), if_neg (by omega), r_apP hc hq (by omega), p_rb, f2 m1 f1, p_eq (by omega), if_pos q1, p_rdI (by omega), f2 m1 f1, Int.zero_add, p_lt (by omega), if_pos q2, p_rdI (by omega), f2 m1 f1, r_rep, p_rb]
        · by_cases q3 : S_hb (μ 249) w1 w2 w3
          · refine op_tell I (KA.rf μ) (s1 := 4) (s2 := w2) (s3 := 43) (s4 := w1) (t := 3) (i := 2) rfl (ref _ _ ?_) rfl (by omega) ⟨by unfold iG; omega, h2, by unfold iG; omega, h1⟩ (fun m1 u1 f1 => ?_)
            · unfold f_X10_refusesRemark
              rw [sO, p_rb, p_rdI (by omega), rap, p_eq (by omega), if_pos q1, p_rdI (by omega), rmx, p_lt (by omega), if_neg q2, c_hasEB I.wf I.w3 I.R hm hc hq rfl, p_rb, b2_t q3, p_eq (by omega), if_neg (by omega), c_tell, p_rb, p_Z1]
            · refine ⟨up2 m1 248 0 0, 0, ?_, JT.th⟩
              unfold f_X11_remark
              rw [p_wrF, r_mark h1, p_rb, b2_t (by omega), p_eq (by omega), if_neg (by omega), r_cand h2, p_rb, b2_t (by omega), p_eq (by omega), if_neg (by omega), r_ques h3, p_rb, b2_t (by omega), p_eq (by omega), if_neg (by omega), p_lt (by omega), if_neg (by omega), r_apP hc hq (by omega), p_rb, f2 m1 f1, p_eq (by omega), if_pos q1, p_rdI (by omega), f2 m1 f1, Int.zero_add, p_lt (by omega), if_neg q2, r_hasEnt (by rw [f2 m1 f1]; exact I.wf) h1 h2 h3, p_rb, f2 m1 f1, b2_t q3, p_eq (by omega), if_neg (by omega), r_rep, p_rb]
          · obtain ⟨μ6, a1, C⟩ := c_remark I hm hc hq (w4 := w4) (by omega) q1
            have rR : f_X10_refusesRemark w1 w2 w3 w4 μ = some (μ, 0, 0) := by
              unfold f_X10_refusesRemark
              rw [sO, p_rb, p_rdI (by omega), rap, p_eq (by omega), if_pos q1, p_rdI (by omega), rmx, p_lt (by omega), if_neg q2, c_hasEB I.wf I.w3 I.R hm hc hq rfl, p_rb, b2_f q3, p_eq (by omega), if_pos rfl, p_Z0]
            rw [rR, p_rb, p_eq (by omega), if_pos rfl, a1] at c0
            have rf9 : ∀ μ9 : Mu, (∀ a : Nat, 248 ≤ a → a ≠ 260 → μ9 a = μ a) → ∃ μ6, f_X11_remark w1 w2 w3 w4 μ9 = (if S_grade (S_rmG (μ 249) w2 w3 w1 w4) w2 (S_set (S_rmG (μ 249) w2 w3 w1 w4) w2) < S_grade (μ 249) w2 (S_set (μ 249) w2) then some (up2 μ6 249 774 (μ 249 774 + S_ap (μ 249) w2 w3 1), 0, S_ap (μ 249) w2 w3 1) else some (μ6, 0, 0)) ∧ RM μ μ9 μ6 (S_rmG (μ 249) w2 w3 w1 w4) ∧ μ6 248 0 = 0 := by
              intro μ9 k9
              have f1 : μ9 249 = μ 249 := k9 249 (by omega) (by omega)
              obtain ⟨μ6, b1, RR, b3⟩ := r_remark (m9 := up2 μ9 248 0 0) I hm hc hq (w4 := w4) (by omega) q1 (f2 μ9 f1) ((up2_oo (by omega)).trans (k9 252 (by omega) (by omega))) ((up2_k (by omega)).trans (congrFun (k9 248 (by omega) (by omega)) 5))
              refine ⟨μ6, ?_, RM.jt JT.th RR, by rw [b3, up2_s]⟩
              unfold f_X11_remark
              rw [p_wrF, r_mark h1, p_rb, b2_t (by omega), p_eq (by omega), if_neg (by omega), r_cand h2, p_rb, b2_t (by omega), p_eq (by omega), if_neg (by omega), r_ques h3, p_rb, b2_t (by omega), p_eq (by omega), if_neg (by omega), p_lt (by omega), if_neg (by omega), r_apP hc hq (by omega), p_rb, f2 μ9 f1, p_eq (by omega), if_pos q1, p_rdI (by omega), f2 μ9 f1, Int.zero_add, p_lt (by omega), if_neg q2, r_hasEnt (by rw [f2 μ9 f1]; exact I.wf) h1 h2 h3, p_rb, f2 μ9 f1, b2_f q3, p_eq (by omega), if_pos rfl]
              exact b1
            have W := rmG_W I.1.2 hc hq hm (v := w4) (by omega) q1
            have r4 := I.1.2.2.2.2.2.1
            by_cases z : S_grade (S_rmG (μ 249) w2 w3 w1 w4) w2 (S_set (S_rmG (μ 249) w2 w3 w1 w4) w2) < S_grade (μ 249) w2 (S_set (μ 249) w2)
            · have hi : iG (S_ap (μ 249) w2 w3 1) := by unfold iG; omega
              rw [if_pos z] at c0
              refine op_mut I (g1 := gup (S_rmG (μ 249) w2 w3 w1 w4) 774 (μ 249 774 + S_ap (μ 249) w2 w3 1)) c0 (W_774 W (by omega) (by omega)) (C.wr (fun a h => up2_oo (by omega)) (R_774 W.1 C.1)) (hg0 hi) (fun μ => cI_ok hi) (fun μ9 k9 => ?_)
              obtain ⟨μ6, b1, RR, b3⟩ := rf9 μ9 k9
              rw [if_pos z] at b1
              exact ⟨_, b1, RR.wr, (up2_o (by omega)).trans b3⟩
            · have hi : iG 0 := by unfold iG; omega
              rw [if_neg z] at c0
              refine op_mut I (g1 := S_rmG (μ 249) w2 w3 w1 w4) c0 (W.up (by omega)) C (hg0 hi) (fun μ => cI_ok hi) (fun μ9 k9 => ?_)
              obtain ⟨μ6, b1, RR, b3⟩ := rf9 μ9 k9
              rw [if_neg z] at b1
              exact ⟨_, b1, RR, b3⟩
      · refine op_tell I (KA.rf μ) (s1 := 4) (s2 := w2) (s3 := 41) (s4 := w3) (t := 3) (i := 2) rfl (ref _ _ ?_) rfl (by omega) ⟨by unfold iG; omega, h2, by unfold iG; omega, h3⟩ (fun m1 u1 f1 => ?_)
        · unfold f_X10_refusesRemark
          rw [sO, p_rb, p_rdI (by omega), rap, p_eq (by omega), if_neg q1, c_tell, p_rb, p_Z1]
        · refine ⟨up2 m1 248 0 0, 0, ?_, JT.th⟩
          unfold f_X11_remark
          rw [p_wrF, r_mark h1, p_rb, b2_t (by omega), p_eq (by omega), if_neg (by omega), r_cand h2, p_rb, b2_t (by omega), p_eq (by omega), if_neg (by omega), r_ques h3, p_rb, b2_t (by omega), p_eq (by omega), if_neg (by omega), p_lt (by omega), if_neg (by omega), r_apP hc hq (by omega), p_rb, f2 m1 f1, p_eq (by omega), if_neg q1, r_rep, p_rb]
    · refine op_ex I (e := 1) (i := 1) (x := 0) (b := 0) (μ2 := up2 (up2 μ 248 0 0) 248 0 2) ?_ rfl (by omega) ?_ (JT.th.up (by unfold jT; omega)) up2_s
      · unfold f_X10_remark
        rw [c_reqM h1, if_pos hm, p_rb, c_reqS h2 h3, if_pos ⟨hc, hq⟩, p_rb, c_reqN h4, if_neg p4]; rfl
      · unfold f_X11_remark f_X11_fails
        rw [p_wrF, r_mark h1, p_rb, b2_t (by omega), p_eq (by omega), if_neg (by omega), r_cand h2, p_rb, b2_t (by omega), p_eq (by omega), if_neg (by omega), r_ques h3, p_rb, b2_t (by omega), p_eq (by omega), if_neg (by omega), p_lt (by omega), if_pos (by omega)]; rfl
  · refine op_ex I (e := 2) (i := 0) (x := 0) (b := 0) (μ2 := up2 (up2 μ 248 0 0) 248 0 1) ?_ rfl (by omega) ?_ (JT.th.up (by unfold jT; omega)) up2_s
    · unfold f_X10_remark
      rw [c_reqM h1]
      by_cases q : 0 ≤ w1 ∧ w1 < 4
      · rw [if_pos q, p_rb, c_reqS h2 h3, if_neg (fun w => p ⟨q, w⟩)]; rfl
      · rw [if_neg q]; rfl
    · unfold f_X11_remark
      rw [p_wrF, r_mark h1, p_rb]
      by_cases q : 0 ≤ w1 ∧ w1 < 4
      · rw [b2_t (by omega), p_eq (by omega), if_neg (by omega), r_cand h2, p_rb]
        by_cases q2 : 0 ≤ w2 ∧ w2 < 8
        · rw [b2_t (by omega), p_eq (by omega), if_neg (by omega), r_ques h3, p_rb, b2_f (by omega), p_eq (by omega), if_pos rfl, exc]
        · rw [b2_f (by omega), p_eq (by omega), if_pos rfl, exc]
      · rw [b2_f (by omega), p_eq (by omega), if_pos rfl, exc]

/-! addSeed -/
theorem WS.mid {g g1 : Nat → Int} {T T' : Int} (W : WS g T) (hT : T ≤ T') (e : ∀ k : Nat, k < 775 → ¬ (14 ≤ k ∧ k < 144) → g1 k = g k)
    (many : ∀ q : Int, 0 ≤ q → q < 5 → 0 ≤ g1 (14 + q).toNat ∧ g1 (14 + q).toNat ≤ 5) (sd : ∀ i : Int, 0 ≤ i → i < 25 → 0 ≤ g1 (19 + i).toNat ∧ g1 (19 + i).toNat ≤ 40) (mk : ∀ i : Int, 0 ≤ i → i < 100 → 0 ≤ g1 (44 + i).toNat ∧ g1 (44 + i).toNat ≤ 41)
    (un : ∀ m q k : Int, 0 ≤ m → m < 4 → 0 ≤ q → q < 5 → g1 (14 + q).toNat ≤ k → k < 5 → g1 (44 + 25 * m + 5 * q + k).toNat = 0) (pay : ∀ m : Int, 0 ≤ m → m < 4 → 0 ≤ g1 (775 + m).toNat ∧ g1 (775 + m).toNat ≤ T') : WS g1 T' := by
  obtain ⟨h1, h2, h3, h4, h5, h6⟩ := W
  have ht := h1.tot
  have hpm := h1.pm
  have ei : ∀ x : Int, x < 775 → ¬ (14 ≤ x ∧ x < 144) → 0 ≤ x → g1 x.toNat = g x.toNat := fun x a b c => e _ (by omega) (by omega)
  have e144 : g1 144 = g 144 := e 144 (by omega) (by omega)
  have e641 : g1 641 = g 641 := e 641 (by omega) (by omega)
  refine ⟨⟨fun q x y => ?_, ?_, ?_, many, sd, mk, un, ?_, fun i x y => ?_, fun c x y => ?_, ⟨?_, fun k x y => ?_, fun k x y => ?_⟩, ?_, fun c q x y z w => ?_⟩, fun c q => ?_, fun c x y => ?_, pay, ?_, ?_⟩
  · rw [ei _ (by omega) (by omega) (by omega)]; exact h1.mx ⟨x, y⟩
  · rw [e 5 (by omega) (by omega), e 6 (by omega) (by omega), e 7 (by omega) (by omega), e 8 (by omega) (by omega), e 9 (by omega) (by omega)]; exact h1.st
  · rw [e 10 (by omega) (by omega), e 11 (by omega) (by omega), e 12 (by omega) (by omega), e 13 (by omega) (by omega)]; exact h1.bo
  · rw [e144]; exact ht
  · rw [e144] at y
    rw [ei _ (by omega) (by omega) (by omega), ei _ (by omega) (by omega) (by omega), ei _ (by omega) (by omega) (by omega), ei _ (by omega) (by omega) (by omega)]; exact h1.en ⟨x, y⟩
  · rw [ei _ (by omega) (by omega) (by omega), ei _ (by omega) (by omega) (by omega)]; exact h1.ex ⟨x, y⟩
  · rw [e641]; exact hpm
  · rw [e641] at y
    rw [ei _ (by omega) (by omega) (by omega), ei _ (by omega) (by omega) (by omega)]; exact h1.pt ⟨x, y⟩
  · rw [e641] at y
    rw [ei _ (by omega) (by omega) (by omega), ei _ (by omega) (by omega) (by omega)]; exact h1.pl ⟨x, y⟩
  · rw [e 652 (by omega) (by omega)]; exact h1.pub
  · rw [ei _ (by omega) (by omega) (by omega), ei _ (by omega) (by omega) (by omega), ei _ (by omega) (by omega) (by omega)]; exact h1.ap ⟨x, y⟩ ⟨z, w⟩
  · have : S_cnt g1 c q (g 144).toNat = S_cnt g c q (g 144).toNat := by
      unfold S_cnt
      refine sm_congr _ 0 (fun j x y => ?_)
      have e1 : S_ec g1 j = S_ec g j := ei _ (by omega) (by omega) (by omega)
      have e2 : S_eq g1 j = S_eq g j := ei _ (by omega) (by omega) (by omega)
      unfold S_is
      rw [e1, e2]
    rw [e144, this]; exact h2 c q
  · have e1 : g1 (625 + c).toNat = g (625 + c).toNat := ei _ (by omega) (by omega) (by omega)
    refine ⟨?_, by rw [nap_cg (g := g) (fun q z w => ei _ (by omega) (by omega) (by omega))]; exact (h3 c x y).2⟩
    have := (h3 c x y).1
    unfold S_exc at this ⊢
    rw [e1]; exact this
  · rw [e 774 (by omega) (by omega)]; omega
  · rw [e 773 (by omega) (by omega), h6]
    refine sm_congr 8 0 (fun c x y => sm_congr 5 0 (fun q z w => ?_))
    exact (ei _ (by omega) (by omega) (by omega)).symm
theorem RB.mid {μ1 μ2 : Mu} {g g1 : Nat → Int} (h : WF g) (R : RB μ1 1 g) (e : ∀ k : Nat, k < 775 → ¬ (14 ≤ k ∧ k < 144) → g1 k = g k) (hr : ∀ a : Nat, ((1 ≤ a ∧ a ≤ 6) ∨ (12 ≤ a ∧ a ≤ 23)) → μ2 a = μ1 a)
    (pay : ∀ m : Int, 0 ≤ m → m < 4 → μ2 7 m.toNat = g1 (775 + m).toNat) (many : ∀ q : Int, 0 ≤ q → q < 5 → μ2 9 q.toNat = g1 (14 + q).toNat) (sd : ∀ q k : Int, 0 ≤ q → q < 5 → 0 ≤ k → k < 5 → μ2 10 (q * 5 + k).toNat = g1 (19 + 5 * q + k).toNat)
    (mk : ∀ m q k : Int, 0 ≤ m → m < 4 → 0 ≤ q → q < 5 → 0 ≤ k → k < 5 → μ2 11 ((m * 5 + q) * 5 + k).toNat = S_mk g1 m q k - 1) : RB μ2 1 g1 := by
  have ht := h.tot
  have hpm := h.pm
  have e144 : g1 144 = g 144 := e 144 (by omega) (by omega)
  have e641 : g1 641 = g 641 := e 641 (by omega) (by omega)
  have ei : ∀ x : Int, x < 775 → ¬ (14 ≤ x ∧ x < 144) → 0 ≤ x → g1 x.toNat = g x.toNat := fun x a b c => e _ (by omega) (by omega)
  have ecn : ∀ (c q : Int) (n : Nat), n ≤ 120 → S_cnt g1 c q n = S_cnt g c q n := by
    intro c q n hn
    unfold S_cnt
    refine sm_congr _ 0 (fun j x y => ?_)
    have e1 : S_ec g1 j = S_ec g j := ei _ (by omega) (by omega) (by omega)
    have e2 : S_eq g1 j = S_eq g j := ei _ (by omega) (by omega) (by omega)
    unfold S_is
    rw [e1, e2]
  refine ⟨fun q x y => ?_, fun w x y => ?_, fun k x y => ?_, fun c x y => ⟨?_, ?_⟩, pay, many, sd, mk, ?_, fun i x y => ?_, fun c q x y z w => ?_, ?_, fun k x y => ⟨?_, ?_⟩, fun c q x y z w => ⟨?_, ?_, ?_⟩, ?_, ?_⟩
  · rw [hr _ (by omega), ei _ (by omega) (by omega) (by omega)]; exact R.mx ⟨x, y⟩
  · rw [hr _ (by omega), ei _ (by omega) (by omega) (by omega)]; exact R.st ⟨x, y⟩
  · rw [hr _ (by omega), ei _ (by omega) (by omega) (by omega)]; exact R.bo ⟨x, y⟩
  · rw [hr _ (by omega), ei _ (by omega) (by omega) (by omega)]; exact R.ex ⟨x, y⟩
  · rw [hr _ (by omega), ei _ (by omega) (by omega) (by omega)]; exact R.ra ⟨x, y⟩
  · rw [hr _ (by omega), e144]; exact R.tot
  · rw [e144] at y
    have e1 : S_ec g1 i = S_ec g i := ei _ (by omega) (by omega) (by omega)
    have e2 : S_eq g1 i = S_eq g i := ei _ (by omega) (by omega) (by omega)
    have e3 : S_em g1 i = S_em g i := ei _ (by omega) (by omega) (by omega)
    have e4 : S_ev g1 i = S_ev g i := ei _ (by omega) (by omega) (by omega)
    have e5 : S_sl g1 i = S_sl g i := by unfold S_sl; rw [e1, e2, ecn _ _ _ (by omega)]
    rw [e5, e3, e4, hr _ (by omega), hr _ (by omega), hr _ (by omega)]; exact R.en ⟨x, y⟩
  · rw [hr _ (by omega), e144, ecn _ _ _ (by omega)]; exact R.sz ⟨x, y⟩ ⟨z, w⟩
  · rw [hr _ (by omega), e641]; exact R.pm
  · rw [e641] at y
    rw [hr _ (by omega), (R.pt ⟨x, y⟩).1]; exact (ei _ (by omega) (by omega) (by omega)).symm
  · rw [e641] at y
    rw [hr _ (by omega), (R.pt ⟨x, y⟩).2]; exact (ei _ (by omega) (by omega) (by omega)).symm
  · rw [hr _ (by omega), (R.ap ⟨x, y⟩ ⟨z, w⟩).1]; exact (ei _ (by omega) (by omega) (by omega)).symm
  · rw [hr _ (by omega), (R.ap ⟨x, y⟩ ⟨z, w⟩).2.1]; exact (ei _ (by omega) (by omega) (by omega)).symm
  · rw [hr _ (by omega), (R.ap ⟨x, y⟩ ⟨z, w⟩).2.2]; exact (ei _ (by omega) (by omega) (by omega)).symm
  · rw [hr _ (by omega), e 774 (by omega) (by omega)]; exact R.rf
  · rw [hr _ (by omega), e 652 (by omega) (by omega)]; exact R.pub
theorem o_addSeed {T : Int} {μ : Mu} (I : Inv T μ) {w1 w2 : Int} (h1 : iG w1) (h2 : iG w2) : OK T (lc_addSeed w1 w2 μ) := by
  have hpb := I.wf.pub
  have e0 : (up2 μ 248 0 0) 249 = μ 249 := up2_oo (by omega)
  unfold lc_addSeed
  by_cases p : 0 ≤ w1 ∧ w1 < 5
  · have hmx := I.wf.mx p
    have hra : μ (1 + 1) w1.toNat = μ 249 w1.toNat := I.R.mx p
    have hmn : μ (1 + 7 + 1) w1.toNat = μ 249 (14 + w1).toNat := I.R.many p
    have hm := I.wf.many p
    by_cases p2 : 0 ≤ w2 ∧ w2 ≤ μ 249 w1.toNat
    · by_cases p3 : μ 249 652 = 0
      · by_cases p4 : μ 249 (14 + w1).toNat < 5
        · obtain ⟨μ1, a1, C, a3⟩ := c_kept I
          generalize hn : μ 249 (14 + w1).toNat = n at hm p4 hmn
          have ge : ∀ k : Nat, k ≠ (14 + w1).toNat → k ≠ (19 + 5 * w1 + n).toNat → gup (gup (μ 249) (19 + 5 * w1 + n).toNat w2) (14 + w1).toNat (n + 1) k = μ 249 k := fun k x y => by rw [gup_o x, gup_o y]
          have W : WS (gup (gup (μ 249) (19 + 5 * w1 + n).toNat w2) (14 + w1).toNat (n + 1)) T := by
            refine WS.mid I.1.2 (Int.le_refl _) (fun k x y => ge k (by omega) (by omega)) (fun q x y => ?_) (fun i x y => ?_) (fun i x y => ?_) (fun m q k x y z w u v => ?_) (fun m x y => ?_)
            · by_cases e : q = w1
              · subst e; rw [gup_s]; omega
              · rw [ge _ (by omega) (by omega)]; exact I.wf.many ⟨x, y⟩
            · by_cases e : i = 5 * w1 + n
              · rw [gup_o (by omega), show (19 + i).toNat = (19 + 5 * w1 + n).toNat by omega, gup_s]; omega
              · rw [ge _ (by omega) (by omega)]; exact I.wf.2.2.2.2.1 i x y
            · rw [ge _ (by omega) (by omega)]; exact I.wf.2.2.2.2.2.1 i x y
            · by_cases e : q = w1
              · subst e
                rw [gup_s] at u
                rw [ge _ (by omega) (by omega)]; exact I.wf.un ⟨x, y⟩ ⟨z, w⟩ ⟨by omega, v⟩
              · rw [ge _ (by omega) (by omega)] at u
                have := I.wf.many ⟨z, w⟩
                rw [ge _ (by omega) (by omega)]; exact I.wf.un ⟨x, y⟩ ⟨z, w⟩ ⟨u, v⟩
            · rw [ge _ (by omega) (by omega)]; exact I.1.2.2.2.2.1 m x y
          have R1 : RB (up2 (up2 μ1 10 (w1 * 5 + n).toNat w2) 9 w1.toNat (n + 1)) 1 (gup (gup (μ 249) (19 + 5 * w1 + n).toNat w2) (14 + w1).toNat (n + 1)) := by
            refine RB.mid I.wf C.1 (fun k x y => ge k (by omega) (by omega)) (fun a ha => (up2_oo (by omega)).trans (up2_oo (by omega))) (fun m x y => ?_) (fun q x y => ?_) (fun q k x y z w => ?_) (fun m q k x y z w u v => ?_)
            · rw [up2_o (by omega), up2_o (by omega), ge _ (by omega) (by omega)]; exact C.1.pay ⟨x, y⟩
            · by_cases e : q = w1
              · subst e; rw [up2_s, gup_s]
              · rw [up2_k (by omega), up2_o (by omega), ge _ (by omega) (by omega)]; exact C.1.many ⟨x, y⟩
            · rw [up2_o (by omega)]
              by_cases e : q = w1 ∧ k = n
              · obtain ⟨rfl, rfl⟩ := e
                rw [up2_s, gup_o (by omega), gup_s]
              · rw [up2_k (by omega), ge _ (by omega) (by omega)]; exact C.1.sd ⟨x, y⟩ ⟨z, w⟩
            · have es : S_mk (gup (gup (μ 249) (19 + 5 * w1 + n).toNat w2) (14 + w1).toNat (n + 1)) m q k = S_mk (μ 249) m q k := ge _ (by omega) (by omega)
              rw [up2_o (by omega), up2_o (by omega), es]; exact C.1.mk ⟨x, y⟩ ⟨z, w⟩ ⟨u, v⟩
          have hi : iG n := by unfold iG; omega
          refine op_mut I (μ1 := up2 (up2 μ1 10 (w1 * 5 + n).toNat w2) 9 w1.toNat (n + 1)) (x := n) ?_ (W.up (by omega)) (C.wr (fun a h => (up2_oo (by omega)).trans (up2_oo (by omega))) R1) (hg0 hi) (fun μ => cI_ok hi) (fun μ9 k9 => ?_)
          · have hmn1 : μ1 (1 + 7 + 1) w1.toNat = n := by rw [a3 _ (by omega)]; exact hmn
            unfold f_X10_addSeed f_X7_define f_X7_define_32
            rw [c_reqQ h1, if_pos p, p_rb, p_rdI (by omega), hra, c_reqR h2 (by unfold iG; omega) (by unfold iG; omega), if_pos p2, p_rb, c_reqU I.wf I.R, if_pos p3, p_rb, p_rdI (by omega), hmn, p_lt (by omega), if_pos p4, a1, p_rb, p_rdI (by omega), hmn1, p_lt (by omega), if_pos p4, p_wrI (by omega), p_wrI (by omega), p_rb]
          · have e1 : (up2 μ9 248 0 0) 249 = μ 249 := (up2_oo (by omega)).trans (k9 249 (by omega) (by omega))
            obtain ⟨μ3, c1, R, c3, c4⟩ := r_kept (μ9 := up2 μ9 248 0 0) I e1 ((up2_oo (by omega)).trans (k9 252 (by omega) (by omega))) ((up2_k (by omega)).trans (congrFun (k9 248 (by omega) (by omega)) 5))
            refine ⟨up2 (up2 μ3 249 (19 + 5 * w1 + n).toNat w2) 249 (14 + w1).toNat (n + 1), ?_, RM.jt JT.th (R.wr.wr), ?_⟩
            · unfold f_X11_addSeed
              rw [p_wrF, r_ques h1, p_rb, b2_t (by omega), p_eq (by omega), if_neg (by omega), p_rdI (by omega), Int.zero_add, e1, r_in h2 (by unfold iG; omega) (by unfold iG; omega), p_rb, b2_t p2, p_eq (by omega), if_neg (by omega), r_pub (by rw [e1]; exact I.wf), p_rb, e1, p_eq (by omega), if_pos p3, p_rdI (by omega), e1, hn, p_eq (by omega), if_neg (by omega), c1, p_rb, p_rdI (by omega), c3, hn, p_wrI (by omega), p_rdI (by omega), up2_k (by omega), c3, hn, p_wrI (by omega)]
            · rw [up2_o (by omega), up2_o (by omega), c4, up2_s]
        · refine op_ex I (e := 0) (i := 3) (x := 0) (b := 0) (μ2 := up2 (up2 μ 248 0 0) 248 0 4) ?_ rfl (by omega) ?_ (JT.th.up (by unfold jT; omega)) up2_s
          · unfold f_X10_addSeed
            rw [c_reqQ h1, if_pos p, p_rb, p_rdI (by omega), hra, c_reqR h2 (by unfold iG; omega) (by unfold iG; omega), if_pos p2, p_rb, c_reqU I.wf I.R, if_pos p3, p_rb, p_rdI (by omega), hmn, p_lt (by omega), if_neg p4]
          · unfold f_X11_addSeed f_X11_fails
            rw [p_wrF, r_ques h1, p_rb, b2_t (by omega), p_eq (by omega), if_neg (by omega), p_rdI (by omega), Int.zero_add, e0, r_in h2 (by unfold iG; omega) (by unfold iG; omega), p_rb, b2_t p2, p_eq (by omega), if_neg (by omega), r_pub (by rw [e0]; exact I.wf), p_rb, e0, p_eq (by omega), if_pos p3, p_rdI (by omega), e0, p_eq (by omega), if_pos (by omega)]; rfl
      · refine op_ex I (e := 4) (i := 2) (x := 0) (b := 0) (μ2 := up2 (up2 μ 248 0 0) 248 0 3) ?_ rfl (by omega) ?_ (JT.th.up (by unfold jT; omega)) up2_s
        · unfold f_X10_addSeed
          rw [c_reqQ h1, if_pos p, p_rb, p_rdI (by omega), hra, c_reqR h2 (by unfold iG; omega) (by unfold iG; omega), if_pos p2, p_rb, c_reqU I.wf I.R, if_neg p3]; rfl
        · unfold f_X11_addSeed f_X11_fails
          rw [p_wrF, r_ques h1, p_rb, b2_t (by omega), p_eq (by omega), if_neg (by omega), p_rdI (by omega), Int.zero_add, e0, r_in h2 (by unfold iG; omega) (by unfold iG; omega), p_rb, b2_t p2, p_eq (by omega), if_neg (by omega), r_pub (by rw [e0]; exact I.wf), p_rb, e0, p_eq (by omega), if_neg p3]; rfl
    · refine op_ex I (e := 1) (i := 1) (x := 0) (b := 0) (μ2 := up2 (up2 μ 248 0 0) 248 0 2) ?_ rfl (by omega) ?_ (JT.th.up (by unfold jT; omega)) up2_s
      · unfold f_X10_addSeed
        rw [c_reqQ h1, if_pos p, p_rb, p_rdI (by omega), hra, c_reqR h2 (by unfold iG; omega) (by unfold iG; omega), if_neg p2]; rfl
      · unfold f_X11_addSeed f_X11_fails
        rw [p_wrF, r_ques h1, p_rb, b2_t (by omega), p_eq (by omega), if_neg (by omega), p_rdI (by omega), Int.zero_add, e0, r_in h2 (by unfold iG; omega) (by unfold iG; omega), p_rb, b2_f p2, p_eq (by omega), if_pos rfl]; rfl
  · refine op_ex I (e := 2) (i := 0) (x := 0) (b := 0) (μ2 := up2 (up2 μ 248 0 0) 248 0 1) ?_ rfl (by omega) ?_ (JT.th.up (by unfold jT; omega)) up2_s
    · unfold f_X10_addSeed
      rw [c_reqQ h1, if_neg p]; rfl
    · unfold f_X11_addSeed f_X11_fails
      rw [p_wrF, r_ques h1, p_rb, b2_f (by omega), p_eq (by omega), if_pos rfl]; rfl

/-! operations that write one number -/
theorem c_reqU {μ : Mu} {g : Nat → Int} (h : WF g) (R : RB μ 1 g) : f_X10_requireUnpublished μ = if g 652 = 0 then some (μ, 0, 0) else some (μ, 5, 0) := by
  have := h.pub
  unfold f_X10_requireUnpublished
  rw [p_rdF, R.pub, p_eq (by omega)]
theorem WS.head {g g1 : Nat → Int} {T : Int} (W : WS g T) (e : ∀ k : Nat, 14 ≤ k → k < 779 → ¬ (633 ≤ k ∧ k ≤ 652) → g1 k = g k)
    (mx : ∀ q : Int, 0 ≤ q → q < 5 → 1 ≤ g1 q.toNat ∧ g1 q.toNat ≤ 40) (st : (0 ≤ g1 5 ∧ g1 5 ≤ 5) ∧ (1 ≤ g1 6 ∧ g1 6 ≤ 40) ∧ (0 ≤ g1 7 ∧ g1 7 ≤ 10) ∧ (0 ≤ g1 8 ∧ g1 8 ≤ 5) ∧ (0 ≤ g1 9 ∧ g1 9 ≤ 99)) (bo : (1 ≤ g1 13 ∧ g1 13 < g1 12) ∧ g1 12 < g1 11 ∧ g1 11 < g1 10 ∧ g1 10 ≤ 100)
    (ra : ∀ c : Int, 0 ≤ c → c < 8 → 0 ≤ g1 (633 + c).toNat ∧ g1 (633 + c).toNat ≤ 10)
    (pt : (0 ≤ g1 641 ∧ g1 641 ≤ 5) ∧ (∀ k : Int, 0 ≤ k → k < g1 641 → (0 ≤ g1 (642 + 2 * k).toNat ∧ g1 (642 + 2 * k).toNat ≤ 200) ∧ (0 ≤ g1 (642 + 2 * k + 1).toNat ∧ g1 (642 + 2 * k + 1).toNat ≤ 100)) ∧ (∀ k : Int, 0 ≤ k → k + 1 < g1 641 → g1 (642 + 2 * k).toNat < g1 (642 + 2 * k + 2).toNat))
    (pu : g1 652 = 0 ∨ g1 652 = 1) : WS g1 T := by
  obtain ⟨h1, h2, h3, h4, h5, h6⟩ := W
  have ht := h1.tot
  have e144 : g1 144 = g 144 := e 144 (by omega) (by omega) (by omega)
  have ei : ∀ x : Int, 14 ≤ x → x < 779 → ¬ (633 ≤ x ∧ x ≤ 652) → g1 x.toNat = g x.toNat := fun x a b c => e _ (by omega) (by omega) (by omega)
  refine ⟨⟨mx, st, bo, fun q x y => ?_, fun i x y => ?_, fun i x y => ?_, fun m q k x y z w u v => ?_, ?_, fun i x y => ?_, fun c x y => ⟨?_, ra c x y⟩, pt, pu, fun c q x y z w => ?_⟩, fun c q => ?_, fun c x y => ?_, fun m x y => ?_, ?_, ?_⟩
  · rw [ei _ (by omega) (by omega) (by omega)]; exact h1.many ⟨x, y⟩
  · rw [ei _ (by omega) (by omega) (by omega)]; exact h1.2.2.2.2.1 i x y
  · rw [ei _ (by omega) (by omega) (by omega)]; exact h1.2.2.2.2.2.1 i x y
  · rw [ei _ (by omega) (by omega) (by omega)] at u
    have := h1.many ⟨z, w⟩
    rw [ei _ (by omega) (by omega) (by omega)]; exact h1.2.2.2.2.2.2.1 m q k x y z w u v
  · rw [e144]; exact ht
  · rw [e144] at y
    rw [ei _ (by omega) (by omega) (by omega), ei _ (by omega) (by omega) (by omega), ei _ (by omega) (by omega) (by omega), ei _ (by omega) (by omega) (by omega)]; exact h1.en ⟨x, y⟩
  · rw [ei _ (by omega) (by omega) (by omega)]; exact (h1.ex ⟨x, y⟩).1
  · rw [ei _ (by omega) (by omega) (by omega), ei _ (by omega) (by omega) (by omega), ei _ (by omega) (by omega) (by omega)]; exact h1.ap ⟨x, y⟩ ⟨z, w⟩
  · have : S_cnt g1 c q (g 144).toNat = S_cnt g c q (g 144).toNat := by
      unfold S_cnt
      refine sm_congr _ 0 (fun j x y => ?_)
      have e1 : S_ec g1 j = S_ec g j := ei _ (by omega) (by omega) (by omega)
      have e2 : S_eq g1 j = S_eq g j := ei _ (by omega) (by omega) (by omega)
      unfold S_is
      rw [e1, e2]
    rw [e144, this]; exact h2 c q
  · have e1 : g1 (625 + c).toNat = g (625 + c).toNat := ei _ (by omega) (by omega) (by omega)
    refine ⟨?_, by rw [nap_cg (g := g) (fun q z w => ei _ (by omega) (by omega) (by omega))]; exact (h3 c x y).2⟩
    have := (h3 c x y).1
    unfold S_exc at this ⊢
    rw [e1]; exact this
  · rw [ei _ (by omega) (by omega) (by omega)]; exact h4 m x y
  · rw [e 774 (by omega) (by omega) (by omega)]; exact h5
  · rw [e 773 (by omega) (by omega) (by omega), h6]
    refine sm_congr 8 0 (fun c x y => sm_congr 5 0 (fun q z w => ?_))
    exact (ei _ (by omega) (by omega) (by omega)).symm
theorem RB.head {μ1 μ2 : Mu} {g g1 : Nat → Int} (h : WF g) (R : RB μ1 1 g) (e : ∀ k : Nat, 14 ≤ k → k < 779 → ¬ (633 ≤ k ∧ k ≤ 652) → g1 k = g k) (hr : ∀ a : Nat, (a = 5 ∨ (7 ≤ a ∧ a ≤ 16) ∨ (20 ≤ a ∧ a ≤ 23)) → μ2 a = μ1 a)
    (mx : ∀ q : Int, 0 ≤ q → q < 5 → μ2 2 q.toNat = g1 q.toNat) (st : ∀ w : Int, 0 ≤ w → w < 5 → μ2 3 w.toNat = g1 (5 + w).toNat) (bo : ∀ k : Int, 0 ≤ k → k < 4 → μ2 4 k.toNat = g1 (10 + k).toNat)
    (ra : ∀ c : Int, 0 ≤ c → c < 8 → μ2 6 c.toNat = g1 (633 + c).toNat) (pm : μ2 17 2 = g1 641) (pt : ∀ k : Int, 0 ≤ k → k < g1 641 → μ2 18 k.toNat = S_px g1 k ∧ μ2 19 k.toNat = S_py g1 k) (pu : μ2 1 10 = g1 652) : RB μ2 1 g1 := by
  have ht := h.tot
  have e144 : g1 144 = g 144 := e 144 (by omega) (by omega) (by omega)
  have ei : ∀ x : Int, 14 ≤ x → x < 779 → ¬ (633 ≤ x ∧ x ≤ 652) → g1 x.toNat = g x.toNat := fun x a b c => e _ (by omega) (by omega) (by omega)
  have ecn : ∀ (c q : Int) (n : Nat), n ≤ 120 → S_cnt g1 c q n = S_cnt g c q n := by
    intro c q n hn
    unfold S_cnt
    refine sm_congr _ 0 (fun j x y => ?_)
    have e1 : S_ec g1 j = S_ec g j := ei _ (by omega) (by omega) (by omega)
    have e2 : S_eq g1 j = S_eq g j := ei _ (by omega) (by omega) (by omega)
    unfold S_is
    rw [e1, e2]
  refine ⟨mx, st, bo, fun c x y => ⟨?_, ra c x y⟩, fun m x y => ?_, fun q x y => ?_, fun q k x y z w => ?_, fun m q k x y z w u v => ?_, ?_, fun i x y => ?_, fun c q x y z w => ?_, pm, pt, fun c q x y z w => ⟨?_, ?_, ?_⟩, ?_, pu⟩
  · rw [hr _ (by omega), ei _ (by omega) (by omega) (by omega)]; exact R.ex ⟨x, y⟩
  · rw [hr _ (by omega), ei _ (by omega) (by omega) (by omega)]; exact R.pay ⟨x, y⟩
  · rw [hr _ (by omega), ei _ (by omega) (by omega) (by omega)]; exact R.many ⟨x, y⟩
  · rw [hr _ (by omega), ei _ (by omega) (by omega) (by omega)]; exact R.sd ⟨x, y⟩ ⟨z, w⟩
  · have : S_mk g1 m q k = S_mk g m q k := ei _ (by omega) (by omega) (by omega)
    rw [hr _ (by omega), this]; exact R.mk ⟨x, y⟩ ⟨z, w⟩ ⟨u, v⟩
  · rw [hr _ (by omega), e144]; exact R.tot
  · rw [e144] at y
    have e1 : S_ec g1 i = S_ec g i := ei _ (by omega) (by omega) (by omega)
    have e2 : S_eq g1 i = S_eq g i := ei _ (by omega) (by omega) (by omega)
    have e3 : S_em g1 i = S_em g i := ei _ (by omega) (by omega) (by omega)
    have e4 : S_ev g1 i = S_ev g i := ei _ (by omega) (by omega) (by omega)
    have e5 : S_sl g1 i = S_sl g i := by unfold S_sl; rw [e1, e2, ecn _ _ _ (by omega)]
    rw [e5, e3, e4, hr _ (by omega), hr _ (by omega), hr _ (by omega)]; exact R.en ⟨x, y⟩
  · rw [hr _ (by omega), e144, ecn _ _ _ (by omega)]; exact R.sz ⟨x, y⟩ ⟨z, w⟩
  · rw [hr _ (by omega), (R.ap ⟨x, y⟩ ⟨z, w⟩).1]; exact (ei _ (by omega) (by omega) (by omega)).symm
  · rw [hr _ (by omega), (R.ap ⟨x, y⟩ ⟨z, w⟩).2.1]; exact (ei _ (by omega) (by omega) (by omega)).symm
  · rw [hr _ (by omega), (R.ap ⟨x, y⟩ ⟨z, w⟩).2.2]; exact (ei _ (by omega) (by omega) (by omega)).symm
  · rw [hr _ (by omega), e 774 (by omega) (by omega) (by omega)]; exact R.rf
theorem r_setcell {T : Int} {μ μ9 : Mu} (I : Inv T μ) (k9 : ∀ a : Nat, 248 ≤ a → a ≠ 260 → μ9 a = μ a) {i v : Int} (hi : 0 ≤ i ∧ i < 779) : ∃ μ2, (rb (f_X11_changes (up2 μ9 248 0 0)) fun μ _ => rdI μ 249 779 i fun x5 => wrI μ 249 779 i v fun μ => some (μ, 0, x5)) = some (μ2, 0, μ 249 i.toNat) ∧ RM μ μ9 μ2 (gup (μ 249) i.toNat v) ∧ μ2 248 0 = 0 := by
  have e249 : (up2 μ9 248 0 0) 249 = μ 249 := (up2_oo (by omega)).trans (k9 249 (by omega) (by omega))
  have e252 : (up2 μ9 248 0 0) 252 = μ 252 := (up2_oo (by omega)).trans (k9 252 (by omega) (by omega))
  have e5 : (up2 μ9 248 0 0) 248 5 = μ 248 5 := (up2_k (by omega)).trans (congrFun (k9 248 (by omega) (by omega)) 5)
  obtain ⟨μ3, c1, ⟨r1, r2, r4, r5, r6⟩, c3, c4⟩ := r_kept I e249 e252 e5
  have RR : RM μ μ9 μ3 (μ 249) := ⟨r1, r2, fun a h => (r4 a h).trans (up2_oo (by omega)), fun a h => (r5 a h).trans (up2_oo (by omega)), fun k x y z => (r6 k x y z).trans (up2_k x)⟩
  refine ⟨up2 μ3 249 i.toNat v, ?_, RR.wr, ?_⟩
  · rw [c1, p_rb, p_rdI (by omega), p_wrI (by omega), c3]
  · rw [up2_o (by omega), c4, up2_s]
theorem o_raise {T : Int} {μ : Mu} (I : Inv T μ) {w1 w2 : Int} (h1 : iG w1) (h2 : iG w2) : OK T (lc_raise w1 w2 μ) := by
  have hpb := I.wf.pub
  have e0 : (up2 μ 248 0 0) 249 = μ 249 := up2_oo (by omega)
  unfold lc_raise
  by_cases p : 0 ≤ w1 ∧ w1 < 8
  · by_cases p2 : 0 ≤ w2 ∧ w2 ≤ 10
    · by_cases p3 : μ 249 652 = 0
      · obtain ⟨μ1, a1, C, a3⟩ := c_kept I
        have hx := (I.wf.ex p).2
        have W : WS (gup (μ 249) (633 + w1).toNat w2) T := by
          refine WS.head I.1.2 (fun k x y z => gup_o (by omega)) (fun q x y => by rw [gup_o (by omega)]; exact I.wf.mx ⟨x, y⟩) ?_ ?_ (fun c x y => ?_) ⟨?_, fun k x y => ?_, fun k x y => ?_⟩ ?_
          · rw [gup_o (by omega), gup_o (by omega), gup_o (by omega), gup_o (by omega), gup_o (by omega)]; exact I.wf.st
          · rw [gup_o (by omega), gup_o (by omega), gup_o (by omega), gup_o (by omega)]; exact I.wf.bo
          · by_cases e : c = w1
            · subst e; rw [gup_s]; exact p2
            · rw [gup_o (by omega)]; exact (I.wf.ex ⟨x, y⟩).2
          · rw [gup_o (by omega)]; exact I.wf.pm
          · rw [gup_o (by omega)] at y
            rw [gup_o (by omega), gup_o (by omega)]; exact I.wf.pt ⟨x, y⟩
          · rw [gup_o (by omega)] at y
            rw [gup_o (by omega), gup_o (by omega)]; exact I.wf.pl ⟨x, y⟩
          · rw [gup_o (by omega)]; exact I.wf.pub
        have R1 : RB (up2 μ1 6 w1.toNat w2) 1 (gup (μ 249) (633 + w1).toNat w2) := by
          refine RB.head I.wf C.1 (fun k x y z => gup_o (by omega)) (fun a ha => up2_oo (by omega)) (fun q x y => ?_) (fun q x y => ?_) (fun q x y => ?_) (fun c x y => ?_) ?_ (fun k x y => ?_) ?_
          · rw [up2_o (by omega), gup_o (by omega)]; exact C.1.mx ⟨x, y⟩
          · rw [up2_o (by omega), gup_o (by omega)]; exact C.1.st ⟨x, y⟩
          · rw [up2_o (by omega), gup_o (by omega)]; exact C.1.bo ⟨x, y⟩
          · by_cases e : c = w1
            · subst e; rw [up2_s, gup_s]
            · rw [up2_k (by omega), gup_o (by omega)]; exact C.1.ra ⟨x, y⟩
          · rw [up2_o (by omega), gup_o (by omega)]; exact C.1.pm
          · rw [gup_o (by omega)] at y
            have hpm := I.wf.pm
            unfold S_px S_py
            rw [up2_o (by omega), gup_o (by omega), up2_o (by omega), gup_o (by omega)]; exact C.1.pt ⟨x, y⟩
          · rw [up2_o (by omega), gup_o (by omega)]; exact C.1.pub
        have hi : iG (μ 249 (633 + w1).toNat) := by unfold iG; omega
        refine op_mut I (μ1 := up2 μ1 6 w1.toNat w2) (x := μ 249 (633 + w1).toNat) ?_ (W.up (by omega)) (C.wr (fun a h => up2_oo (by omega)) R1) (hg0 hi) (fun μ => cI_ok hi) (fun μ9 k9 => ?_)
        · have hra : μ (1 + 5) w1.toNat = μ 249 (633 + w1).toNat := I.R.ra p
          unfold f_X10_raise
          rw [c_reqC h1, if_pos p, p_rb, c_reqR h2 (by unfold iG; omega) (by unfold iG; omega), if_pos p2, p_rb, c_reqU I.wf I.R, if_pos p3, p_rb, p_rdI (by omega), hra, a1, p_rb, p_wrI (by omega)]
        · obtain ⟨μ2, b1, b2', b3⟩ := r_setcell I k9 (i := 633 + w1) (v := w2) (by omega)
          refine ⟨μ2, ?_, b2', b3⟩
          have e1 : (up2 μ9 248 0 0) 249 = μ 249 := (up2_oo (by omega)).trans (k9 249 (by omega) (by omega))
          unfold f_X11_raise
          rw [p_wrF, r_cand h1, p_rb, b2_t (by omega), p_eq (by omega), if_neg (by omega), r_in h2 (by unfold iG; omega) (by unfold iG; omega), p_rb, b2_t p2, p_eq (by omega), if_neg (by omega), r_pub (by rw [e1]; exact I.wf), p_rb, e1, p_eq (by omega), if_pos p3, b1]
      · refine op_ex I (e := 4) (i := 2) (x := 0) (b := 0) (μ2 := up2 (up2 μ 248 0 0) 248 0 3) ?_ rfl (by omega) ?_ (JT.th.up (by unfold jT; omega)) up2_s
        · unfold f_X10_raise
          rw [c_reqC h1, if_pos p, p_rb, c_reqR h2 (by unfold iG; omega) (by unfold iG; omega), if_pos p2, p_rb, c_reqU I.wf I.R, if_neg p3]; rfl
        · unfold f_X11_raise f_X11_fails
          rw [p_wrF, r_cand h1, p_rb, b2_t (by omega), p_eq (by omega), if_neg (by omega), r_in h2 (by unfold iG; omega) (by unfold iG; omega), p_rb, b2_t p2, p_eq (by omega), if_neg (by omega), r_pub (by rw [e0]; exact I.wf), p_rb, e0, p_eq (by omega), if_neg p3]; rfl
    · refine op_ex I (e := 1) (i := 1) (x := 0) (b := 0) (μ2 := up2 (up2 μ 248 0 0) 248 0 2) ?_ rfl (by omega) ?_ (JT.th.up (by unfold jT; omega)) up2_s
      · unfold f_X10_raise
        rw [c_reqC h1, if_pos p, p_rb, c_reqR h2 (by unfold iG; omega) (by unfold iG; omega), if_neg p2]; rfl
      · unfold f_X11_raise f_X11_fails
        rw [p_wrF, r_cand h1, p_rb, b2_t (by omega), p_eq (by omega), if_neg (by omega), r_in h2 (by unfold iG; omega) (by unfold iG; omega), p_rb, b2_f p2, p_eq (by omega), if_pos rfl]; rfl
  · refine op_ex I (e := 2) (i := 0) (x := 0) (b := 0) (μ2 := up2 (up2 μ 248 0 0) 248 0 1) ?_ rfl (by omega) ?_ (JT.th.up (by unfold jT; omega)) up2_s
    · unfold f_X10_raise
      rw [c_reqC h1, if_neg p]; rfl
    · unfold f_X11_raise f_X11_fails
      rw [p_wrF, r_cand h1, p_rb, b2_f (by omega), p_eq (by omega), if_pos rfl]; rfl

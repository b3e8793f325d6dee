/-! setPoint -/
theorem o_setPoint {T : Int} {μ : Mu} (I : Inv T μ) {w1 w2 : Int} (h1 : iG w1) (h2 : iG w2) : OK T (lc_setPoint w1 w2 μ) := by
  have hpb := I.wf.pub
  have hpm := I.wf.pm
  have rpm : μ (1 + 16) 2 = μ 249 641 := I.R.pm
  have e641 : (641 : Int).toNat = 641 := rfl
  have e0 : (up2 μ 248 0 0) 249 = μ 249 := up2_oo (by omega)
  have exc0 : ∀ μ2 : Mu, f_X11_setPoint_26 w1 w2 μ2 = some (up2 μ2 248 0 1, 0, 0) := fun _ => rfl
  unfold lc_setPoint
  by_cases p : 0 ≤ w1 ∧ w1 ≤ 200
  · by_cases p2 : 0 ≤ w2 ∧ w2 ≤ 100
    · by_cases p3 : μ 249 652 = 0
      · have cix := c_index I.wf I.R h1
        rcases ix_bd (g := μ 249) (w := w1) hpm.1 with q | ⟨q, q'⟩
        · by_cases p4 : μ 249 641 < 5
          · obtain ⟨μ1, a1, C, a3⟩ := c_kept I
            obtain ⟨μ2, b1, b2', b3⟩ := c_put_new (y := w2) I.wf C.1 (by omega) h1 q
            have W := W_ins (y := w2) I.1.2 (by omega) p p2 rfl q
            have hPn := pos_le (g := μ 249) (w := w1) (μ 249 641).toNat
            have hi : iG (μ 249 641 + 1) := by unfold iG; omega
            refine op_mut I (μ1 := μ2) (x := μ 249 641 + 1) ?_ (W.up (by omega)) (C.wr (fun a h => b3 a (by omega) (by omega) (by omega)) b2') (hg0 hi) (fun μ => cI_ok hi) (fun μ9 k9 => ?_)
            · unfold f_X10_setPoint f_X10_setPoint_58
              rw [c_reqR h1 (by unfold iG; omega) (by unfold iG; omega), if_pos p, p_rb, c_reqR h2 (by unfold iG; omega) (by unfold iG; omega), if_pos p2, p_rb, c_reqU I.wf I.R, if_pos p3, p_rb, p_rdF, rpm, p_lt (by omega), if_pos p4, a1, p_rb, b1, p_rb]
            · have e1 : (up2 μ9 248 0 0) 249 = μ 249 := (up2_oo (by omega)).trans (k9 249 (by omega) (by omega))
              obtain ⟨μ3, c1, ⟨r1, ⟨r2, r3⟩, r4, r5, r6⟩, c3, c4⟩ := r_kept (μ9 := up2 μ9 248 0 0) I e1 ((up2_oo (by omega)).trans (k9 252 (by omega) (by omega))) ((up2_k (by omega)).trans (congrFun (k9 248 (by omega) (by omega)) 5))
              have epx : ∀ k : Int, 0 ≤ k → S_px ((up2 μ3 249 641 (μ 249 641 + 1)) 249) k = S_px (μ 249) k := fun k x => by
                unfold S_px
                rw [up2_k (by omega), c3]
              have epos : ∀ m : Nat, S_pos ((up2 μ3 249 641 (μ 249 641 + 1)) 249) w1 m = S_pos (μ 249) w1 m := by
                intro m
                induction m with
                | zero => rfl
                | succ m ih => simp only [S_pos]; rw [epx m (by omega), ih]
              obtain ⟨μ4, d1, d2, d3, d4⟩ := r_put_l (w := w1) (y := w2) (n := μ 249 641) (μ0 := up2 μ3 249 641 (μ 249 641 + 1)) (by omega) h1 (fun k a b => by
                rw [epx k a]
                have := (I.wf.pt (k := k) ⟨a, b⟩).1
                unfold iG S_px; omega) (fun v3 μ => f_X11_setPoint_186 w1 w2 v3 μ) (μ 249 641).toNat FU _ (by omega) (by unfold FU; omega) (fun _ _ => rfl) (fun _ _ => rfl) (fun j a b => by omega)
              rw [epos] at d1 d3 d4
              rw [show (((μ 249 641).toNat : Nat) : Int) = μ 249 641 by omega] at d1
              generalize S_pos (μ 249) w1 (μ 249 641).toNat = P at d1 d3 d4 hPn ⊢
              have ko : ∀ a : Nat, a ≠ 249 → (up2 (up2 μ4 249 (642 + 2 * P) w1) 249 (642 + 2 * P + 1) w2) a = μ3 a := fun a x => (up2_oo x).trans ((up2_oo x).trans ((d2 a x).trans (up2_oo x)))
              refine ⟨up2 (up2 μ4 249 (642 + 2 * P) w1) 249 (642 + 2 * P + 1) w2, ?_, ⟨fun k hk => ?_, ⟨?_, fun j x y => ?_⟩, fun a ha => ?_, fun a ha => ?_, fun k x y z => ?_⟩, ?_⟩
              · have f641 : μ4 249 641 = μ 249 641 + 1 := by rw [d3 641 (by omega), up2_s]
                unfold f_X11_setPoint f_X11_setPoint_74
                rw [p_wrF, r_in h1 (by unfold iG; omega) (by unfold iG; omega), p_rb, b2_t p, p_eq (by omega), if_neg (by omega), r_in h2 (by unfold iG; omega) (by unfold iG; omega), p_rb, b2_t p2, p_eq (by omega), if_neg (by omega), r_pub (by rw [e1]; exact I.wf), p_rb, e1, p_eq (by omega), if_pos p3, r_index (by rw [e1]; exact I.wf) h1, p_rb, e1, q, p_eq (by omega), if_pos rfl, p_rdI (by omega), e641, e1, p_eq (by omega), if_neg (by omega), c1, p_rb, p_eq (by omega), if_pos rfl, p_rdI (by omega), p_rdI (by omega), e641, c3, p_wrI (by omega)]
                refine Eq.trans d1 ?_
                unfold f_X11_setPoint_186
                rw [p_wrI (by omega), p_wrI (by omega), p_rdI (by omega), e641, show (642 + 2 * (P : Int)).toNat = 642 + 2 * P by omega, show (642 + 2 * (P : Int) + 1).toNat = 642 + 2 * P + 1 by omega, up2_k (by omega), up2_k (by omega), f641]
              · unfold S_ins
                by_cases z1 : k = 641
                · subst z1
                  rw [if_pos rfl, up2_k (by omega), up2_k (by omega), d3 641 (by omega), up2_s]
                · rw [if_neg z1]
                  by_cases z2 : k = 642 + 2 * P
                  · rw [if_pos z2, z2, up2_k (by omega), up2_s]
                  · rw [if_neg z2]
                    by_cases z3 : k = 642 + 2 * P + 1
                    · rw [if_pos z3, z3, up2_s]
                    · rw [if_neg z3, up2_k z3, up2_k z2]
                      by_cases z4 : 642 + 2 * P + 2 ≤ k ∧ (k : Int) < 642 + 2 * (μ 249 641 + 1)
                      · rw [if_pos z4, d4 k z4.1 z4.2, up2_k (by omega), c3]
                      · rw [if_neg z4, d3 k (by omega), up2_k z1, c3]
              · rw [ko 248 (by omega)]; exact r2
              · have hs : slice (up2 (up2 μ4 249 (642 + 2 * P) w1) 249 (642 + 2 * P + 1) w2) j = slice μ3 j := by unfold slice; rw [ko 252 (by omega)]
                rw [hs]; exact r3 j x y
              · exact (ko a (by omega)).trans ((r4 a ha).trans (up2_oo (by omega)))
              · exact (ko a (by omega)).trans ((r5 a ha).trans (up2_oo (by omega)))
              · rw [ko 248 (by omega), r6 k x y z, up2_k x]
              · rw [ko 248 (by omega), c4, up2_s]
          · refine op_ex I (e := 0) (i := 2) (x := 0) (b := 0) (μ2 := up2 (up2 μ 248 0 0) 248 0 3) ?_ rfl (by omega) ?_ (JT.th.up (by unfold jT; omega)) up2_s
            · unfold f_X10_setPoint
              rw [c_reqR h1 (by unfold iG; omega) (by unfold iG; omega), if_pos p, p_rb, c_reqR h2 (by unfold iG; omega) (by unfold iG; omega), if_pos p2, p_rb, c_reqU I.wf I.R, if_pos p3, p_rb, p_rdF, rpm, p_lt (by omega), if_neg p4, cix, p_rb, q, p_lt (by omega), if_pos (by omega)]
            · unfold f_X11_setPoint f_X11_fails
              rw [p_wrF, r_in h1 (by unfold iG; omega) (by unfold iG; omega), p_rb, b2_t p, p_eq (by omega), if_neg (by omega), r_in h2 (by unfold iG; omega) (by unfold iG; omega), p_rb, b2_t p2, p_eq (by omega), if_neg (by omega), r_pub (by rw [e0]; exact I.wf), p_rb, e0, p_eq (by omega), if_pos p3, r_index (by rw [e0]; exact I.wf) h1, p_rb, e0, q, p_eq (by omega), if_pos rfl, p_rdI (by omega), e641, e0, p_eq (by omega), if_pos (by omega)]; rfl
        · obtain ⟨μ1, a1, C, a3⟩ := c_kept I
          have cix1 := c_index I.wf C.1 h1
          generalize hi0 : S_ix (μ 249) w1 = i at q q' cix cix1
          have r17 : μ1 (1 + 16) 2 = μ 249 641 := C.1.pm
          have ge : ∀ k : Nat, k ≠ (642 + 2 * i).toNat → k ≠ (642 + 2 * i + 1).toNat → gup (gup (μ 249) (642 + 2 * i).toNat w1) (642 + 2 * i + 1).toNat w2 k = μ 249 k := fun k x y => by rw [gup_o y, gup_o x]
          have gx : ∀ k : Int, 0 ≤ k → gup (gup (μ 249) (642 + 2 * i).toNat w1) (642 + 2 * i + 1).toNat w2 (642 + 2 * k).toNat = μ 249 (642 + 2 * k).toNat := fun k x => by
            by_cases e : k = i
            · subst e
              rw [gup_o (by omega), gup_s]; exact q'.symm
            · exact ge _ (by omega) (by omega)
          have gy : ∀ k : Int, 0 ≤ k → gup (gup (μ 249) (642 + 2 * i).toNat w1) (642 + 2 * i + 1).toNat w2 (642 + 2 * k + 1).toNat = if k = i then w2 else μ 249 (642 + 2 * k + 1).toNat := fun k x => by
            by_cases e : k = i
            · subst e
              rw [gup_s, if_pos rfl]
            · rw [if_neg e]; exact ge _ (by omega) (by omega)
          have W : WS (gup (gup (μ 249) (642 + 2 * i).toNat w1) (642 + 2 * i + 1).toNat w2) T := by
            refine WS.head I.1.2 (fun k x y z => ge k (by omega) (by omega)) (fun q x y => ?_) ?_ ?_ (fun c x y => ?_) ⟨?_, fun k x z => ?_, fun k x z => ?_⟩ ?_
            · rw [ge _ (by omega) (by omega)]; exact I.wf.mx ⟨x, y⟩
            · rw [ge _ (by omega) (by omega), ge _ (by omega) (by omega), ge _ (by omega) (by omega), ge _ (by omega) (by omega), ge _ (by omega) (by omega)]; exact I.wf.st
            · rw [ge _ (by omega) (by omega), ge _ (by omega) (by omega), ge _ (by omega) (by omega), ge _ (by omega) (by omega)]; exact I.wf.bo
            · rw [ge _ (by omega) (by omega)]; exact (I.wf.ex ⟨x, y⟩).2
            · rw [ge _ (by omega) (by omega)]; exact hpm
            · rw [ge _ (by omega) (by omega)] at z
              rw [gx k x, gy k x]
              have := I.wf.pt (k := k) ⟨x, z⟩
              refine ⟨this.1, ?_⟩
              split
              · exact p2
              · exact this.2
            · rw [ge _ (by omega) (by omega)] at z
              have := gx (k + 1) (by omega)
              rw [show 642 + 2 * (k + 1) = 642 + 2 * k + 2 by omega] at this
              rw [gx k x, this]; exact I.wf.pl ⟨x, z⟩
            · rw [ge _ (by omega) (by omega)]; exact hpb
          have R1 : RB (up2 (up2 μ1 18 i.toNat w1) 19 i.toNat w2) 1 (gup (gup (μ 249) (642 + 2 * i).toNat w1) (642 + 2 * i + 1).toNat w2) := by
            refine R_curve I.wf C.1 (fun k x => ge k (by omega) (by omega)) (fun a x y z => (up2_oo z).trans (up2_oo y)) ?_ (fun k x z => ?_)
            · rw [up2_o (by omega), up2_o (by omega), ge _ (by omega) (by omega)]; exact r17
            · rw [ge _ (by omega) (by omega)] at z
              have hp := C.1.pt (k := k) ⟨x, z⟩
              have hx : S_px (gup (gup (μ 249) (642 + 2 * i).toNat w1) (642 + 2 * i + 1).toNat w2) k = S_px (μ 249) k := gx k x
              have hy : S_py (gup (gup (μ 249) (642 + 2 * i).toNat w1) (642 + 2 * i + 1).toNat w2) k = if k = i then w2 else S_py (μ 249) k := gy k x
              rw [hx, hy]
              by_cases e : k = i
              · subst e
                rw [if_pos rfl, up2_o (by omega), up2_s, up2_s]; exact ⟨q'.symm, rfl⟩
              · rw [if_neg e, up2_o (by omega), up2_k (by omega), up2_k (by omega), up2_o (by omega)]; exact hp
          have hi : iG (μ 249 641) := by unfold iG; omega
          refine op_mut I (μ1 := up2 (up2 μ1 18 i.toNat w1) 19 i.toNat w2) (x := μ 249 641) ?_ (W.up (by omega)) (C.wr (fun a h => (up2_oo (by omega)).trans (up2_oo (by omega))) R1) (hg0 hi) (fun μ => cI_ok hi) (fun μ9 k9 => ?_)
          · have tail : f_X10_setPoint_58 w1 w2 μ = some (up2 (up2 μ1 18 i.toNat w1) 19 i.toNat w2, 0, μ 249 641) := by
              unfold f_X10_setPoint_58 f_X2_put f_X2_put_83 f_X2_put_101
              rw [a1, p_rb, cix1, p_rb, p_lt (by omega), if_neg (by omega), p_lt (by omega), if_neg (by omega), p_wrI (by omega), p_wrI (by omega), p_rdF, up2_o (by omega), up2_o (by omega), r17, p_rb]
            unfold f_X10_setPoint
            rw [c_reqR h1 (by unfold iG; omega) (by unfold iG; omega), if_pos p, p_rb, c_reqR h2 (by unfold iG; omega) (by unfold iG; omega), if_pos p2, p_rb, c_reqU I.wf I.R, if_pos p3, p_rb, p_rdF, rpm, p_lt (by omega), tail]
            by_cases z : μ 249 641 < 5
            · rw [if_pos z]
            · rw [if_neg z, cix, p_rb, p_lt (by omega), if_neg (by omega), tail]
          · have e1 : (up2 μ9 248 0 0) 249 = μ 249 := (up2_oo (by omega)).trans (k9 249 (by omega) (by omega))
            obtain ⟨μ3, c1, R, c3, c4⟩ := r_kept (μ9 := up2 μ9 248 0 0) I e1 ((up2_oo (by omega)).trans (k9 252 (by omega) (by omega))) ((up2_k (by omega)).trans (congrFun (k9 248 (by omega) (by omega)) 5))
            refine ⟨up2 (up2 μ3 249 (642 + 2 * i).toNat w1) 249 (642 + 2 * i + 1).toNat w2, ?_, RM.jt JT.th R.wr.wr, ?_⟩
            · unfold f_X11_setPoint f_X11_setPoint_74 f_X11_setPoint_186
              rw [p_wrF, r_in h1 (by unfold iG; omega) (by unfold iG; omega), p_rb, b2_t p, p_eq (by omega), if_neg (by omega), r_in h2 (by unfold iG; omega) (by unfold iG; omega), p_rb, b2_t p2, p_eq (by omega), if_neg (by omega), r_pub (by rw [e1]; exact I.wf), p_rb, e1, p_eq (by omega), if_pos p3, r_index (by rw [e1]; exact I.wf) h1, p_rb, e1, hi0, p_eq (by omega), if_neg (by omega), c1, p_rb, p_eq (by omega), if_neg (by omega), p_wrI (by omega), p_wrI (by omega), p_rdI (by omega), e641, up2_k (by omega), up2_k (by omega), c3]
            · rw [up2_o (by omega), up2_o (by omega), c4, up2_s]
      · refine op_ex I (e := 4) (i := 1) (x := 0) (b := 0) (μ2 := up2 (up2 μ 248 0 0) 248 0 2) ?_ rfl (by omega) ?_ (JT.th.up (by unfold jT; omega)) up2_s
        · unfold f_X10_setPoint
          rw [c_reqR h1 (by unfold iG; omega) (by unfold iG; omega), if_pos p, p_rb, c_reqR h2 (by unfold iG; omega) (by unfold iG; omega), if_pos p2, p_rb, c_reqU I.wf I.R, if_neg p3]; rfl
        · unfold f_X11_setPoint f_X11_fails
          rw [p_wrF, r_in h1 (by unfold iG; omega) (by unfold iG; omega), p_rb, b2_t p, p_eq (by omega), if_neg (by omega), r_in h2 (by unfold iG; omega) (by unfold iG; omega), p_rb, b2_t p2, p_eq (by omega), if_neg (by omega), r_pub (by rw [e0]; exact I.wf), p_rb, e0, p_eq (by omega), if_neg p3]; rfl
    · refine op_ex I (e := 1) (i := 0) (x := 0) (b := 0) (μ2 := up2 (up2 μ 248 0 0) 248 0 1) ?_ rfl (by omega) ?_ (JT.th.up (by unfold jT; omega)) up2_s
      · unfold f_X10_setPoint
        rw [c_reqR h1 (by unfold iG; omega) (by unfold iG; omega), if_pos p, p_rb, c_reqR h2 (by unfold iG; omega) (by unfold iG; omega), if_neg p2]; rfl
      · unfold f_X11_setPoint
        rw [p_wrF, r_in h1 (by unfold iG; omega) (by unfold iG; omega), p_rb, b2_t p, p_eq (by omega), if_neg (by omega), r_in h2 (by unfold iG; omega) (by unfold iG; omega), p_rb, b2_f p2, p_eq (by omega), if_pos rfl, exc0]
  · refine op_ex I (e := 1) (i := 0) (x := 0) (b := 0) (μ2 := up2 (up2 μ 248 0 0) 248 0 1) ?_ rfl (by omega) ?_ (JT.th.up (by unfold jT; omega)) up2_s
    · unfold f_X10_setPoint
      rw [c_reqR h1 (by unfold iG; omega) (by unfold iG; omega), if_neg p]; rfl
    · unfold f_X11_setPoint
      rw [p_wrF, r_in h1 (by unfold iG; omega) (by unfold iG; omega), p_rb, b2_f p, p_eq (by omega), if_pos rfl, exc0]

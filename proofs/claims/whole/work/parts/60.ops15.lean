/-! set, setBoundary -/
theorem W_one {g : Nat → Int} {T v : Int} {k0 : Nat} (W : WS g T) (hk : k0 < 14) (mx : k0 < 5 → 1 ≤ v ∧ v ≤ 40) (st : (k0 = 5 → 0 ≤ v ∧ v ≤ 5) ∧ (k0 = 6 → 1 ≤ v ∧ v ≤ 40) ∧ (k0 = 7 → 0 ≤ v ∧ v ≤ 10) ∧ (k0 = 8 → 0 ≤ v ∧ v ≤ 5) ∧ (k0 = 9 → 0 ≤ v ∧ v ≤ 99))
    (bo : 10 ≤ k0 → (1 ≤ gup g k0 v 13 ∧ gup g k0 v 13 < gup g k0 v 12) ∧ gup g k0 v 12 < gup g k0 v 11 ∧ gup g k0 v 11 < gup g k0 v 10 ∧ gup g k0 v 10 ≤ 100) : WS (gup g k0 v) T := by
  have h := W.1
  have hst := h.st
  obtain ⟨s5, s6, s7, s8, s9⟩ := st
  refine WS.head W (fun k x y z => gup_o (by omega)) (fun q x y => ?_) ⟨?_, ?_, ?_, ?_, ?_⟩ ?_ (fun c x y => ?_) ⟨?_, fun k x y => ?_, fun k x y => ?_⟩ ?_
  · by_cases e : q.toNat = k0
    · rw [e, gup_s]; exact mx (by omega)
    · rw [gup_o e]; exact h.mx ⟨x, y⟩
  · by_cases e : 5 = k0
    · rw [e, gup_s]; exact s5 e.symm
    · rw [gup_o e]; exact hst.1
  · by_cases e : 6 = k0
    · rw [e, gup_s]; exact s6 e.symm
    · rw [gup_o e]; exact hst.2.1
  · by_cases e : 7 = k0
    · rw [e, gup_s]; exact s7 e.symm
    · rw [gup_o e]; exact hst.2.2.1
  · by_cases e : 8 = k0
    · rw [e, gup_s]; exact s8 e.symm
    · rw [gup_o e]; exact hst.2.2.2.1
  · by_cases e : 9 = k0
    · rw [e, gup_s]; exact s9 e.symm
    · rw [gup_o e]; exact hst.2.2.2.2
  · by_cases e : 10 ≤ k0
    · exact bo e
    · rw [gup_o (by omega), gup_o (by omega), gup_o (by omega), gup_o (by omega)]; exact h.bo
  · rw [gup_o (by omega)]; exact (h.ex ⟨x, y⟩).2
  · rw [gup_o (by omega)]; exact h.pm
  · rw [gup_o (by omega)] at y
    rw [gup_o (by omega), gup_o (by omega)]; exact h.pt ⟨x, y⟩
  · rw [gup_o (by omega)] at y
    rw [gup_o (by omega), gup_o (by omega)]; exact h.pl ⟨x, y⟩
  · rw [gup_o (by omega)]; exact h.pub
theorem R_one {μ1 : Mu} {g : Nat → Int} {v : Int} {k0 a k1 : Nat} (h : WF g) (R : RB μ1 1 g) (hk : (a = 2 ∧ k0 = k1 ∧ k1 < 5) ∨ (a = 3 ∧ k0 = 5 + k1 ∧ k1 < 5) ∨ (a = 4 ∧ k0 = 10 + k1 ∧ k1 < 4)) : RB (up2 μ1 a k1 v) 1 (gup g k0 v) := by
  have hpm := h.pm
  refine RB.head h R (fun k x y z => gup_o (by omega)) (fun a ha => up2_oo (by omega)) (fun q x y => ?_) (fun q x y => ?_) (fun q x y => ?_) (fun c x y => ?_) ?_ (fun k x y => ?_) ?_
  · rw [up2_eq]
    by_cases e : 2 = a ∧ q.toNat = k1
    · rw [if_pos e, show q.toNat = k0 by omega, gup_s]
    · rw [if_neg e, gup_o (by omega)]; exact R.mx ⟨x, y⟩
  · rw [up2_eq]
    by_cases e : 3 = a ∧ q.toNat = k1
    · rw [if_pos e, show (5 + q).toNat = k0 by omega, gup_s]
    · rw [if_neg e, gup_o (by omega)]; exact R.st ⟨x, y⟩
  · rw [up2_eq]
    by_cases e : 4 = a ∧ q.toNat = k1
    · rw [if_pos e, show (10 + q).toNat = k0 by omega, gup_s]
    · rw [if_neg e, gup_o (by omega)]; exact R.bo ⟨x, y⟩
  · rw [up2_o (by omega), gup_o (by omega)]; exact R.ra ⟨x, y⟩
  · rw [up2_o (by omega), gup_o (by omega)]; exact R.pm
  · rw [gup_o (by omega)] at y
    unfold S_px S_py
    rw [up2_o (by omega), gup_o (by omega), up2_o (by omega), gup_o (by omega)]; exact R.pt ⟨x, y⟩
  · rw [up2_o (by omega), gup_o (by omega)]; exact R.pub
/-- the least and the greatest value of a setting -/
def S_lo (w : Int) : Int := if w = 1 then 1 else 0
def S_hi (w : Int) : Int := if w = 0 then 5 else if w = 1 then 40 else if w = 2 then 10 else if w = 3 then 5 else 99
theorem r_isValue {μ : Mu} {w v : Int} (hw : 0 ≤ w ∧ w < 5) (hv : iG v) : f_X11_isValue w v μ = some (μ, 0, b2 (S_lo w ≤ v ∧ v ≤ S_hi w)) := by
  have z : ∀ a b : Int, 0 ≤ a → a ≤ 100 → 0 ≤ b → b ≤ 100 → (rb (f_X11_in v a b μ) fun μ x1 => retZ μ x1) = some (μ, 0, b2 (a ≤ v ∧ v ≤ b)) := fun a b x y s t => by
    rw [r_in hv (by unfold iG; omega) (by unfold iG; omega), p_rb, p_Z (b2_01 _)]
  unfold f_X11_isValue f_X11_isValue_32
  rw [p_sw (by omega)]
  rcases (show w = 0 ∨ w = 1 ∨ w = 2 ∨ w = 3 ∨ w = 4 by omega) with rfl | rfl | rfl | rfl | rfl
  · exact z 0 5 (by omega) (by omega) (by omega) (by omega)
  · exact z 1 40 (by omega) (by omega) (by omega) (by omega)
  · exact z 0 10 (by omega) (by omega) (by omega) (by omega)
  · exact z 0 5 (by omega) (by omega) (by omega) (by omega)
  · exact z 0 99 (by omega) (by omega) (by omega) (by omega)
theorem o_set {T : Int} {μ : Mu} (I : Inv T μ) {w1 w2 : Int} (h1 : iG w1) (h2 : iG w2) : OK T (lc_set w1 w2 μ) := by
  have g1 := h1
  unfold iG at g1
  have hpb := I.wf.pub
  have e0 : (up2 μ 248 0 0) 249 = μ 249 := up2_oo (by omega)
  have hlo : 0 ≤ S_lo w1 ∧ S_lo w1 ≤ 1 := by unfold S_lo; split <;> omega
  have hhi : 0 ≤ S_hi w1 ∧ S_hi w1 ≤ 99 := by unfold S_hi; repeat' split
                                              all_goals omega
  unfold lc_set
  by_cases p : 0 ≤ w1 ∧ w1 < 5
  · have c1 : (if w1.toNat = 1 then (1 : Int) else 0) = S_lo w1 := by
      unfold S_lo
      by_cases e : w1 = 1
      · rw [if_pos e, if_pos (by omega)]
      · rw [if_neg e, if_neg (by omega)]
    have c2 : (if w1.toNat = 0 then (5 : Int) else if w1.toNat = 1 then 40 else if w1.toNat = 2 then 10 else if w1.toNat = 3 then 5 else 99) = S_hi w1 := by
      rcases (show w1 = 0 ∨ w1 = 1 ∨ w1 = 2 ∨ w1 = 3 ∨ w1 = 4 by omega) with rfl | rfl | rfl | rfl | rfl <;> rfl
    by_cases p2 : S_lo w1 ≤ w2 ∧ w2 ≤ S_hi w1
    · by_cases p3 : μ 249 652 = 0 ∨ w1 = 4
      · obtain ⟨μ1, a1, C, a3⟩ := c_kept I
        have hst := I.wf.st
        have hx : 0 ≤ μ 249 (5 + w1).toNat ∧ μ 249 (5 + w1).toNat ≤ 99 := by
          rcases (show w1 = 0 ∨ w1 = 1 ∨ w1 = 2 ∨ w1 = 3 ∨ w1 = 4 by omega) with rfl | rfl | rfl | rfl | rfl
          · exact ⟨by show 0 ≤ μ 249 5; omega, by show μ 249 5 ≤ 99; omega⟩
          · exact ⟨by show 0 ≤ μ 249 6; omega, by show μ 249 6 ≤ 99; omega⟩
          · exact ⟨by show 0 ≤ μ 249 7; omega, by show μ 249 7 ≤ 99; omega⟩
          · exact ⟨by show 0 ≤ μ 249 8; omega, by show μ 249 8 ≤ 99; omega⟩
          · exact ⟨by show 0 ≤ μ 249 9; omega, by show μ 249 9 ≤ 99; omega⟩
        have W : WS (gup (μ 249) (5 + w1).toNat w2) T := by
          refine W_one I.1.2 (by omega) (fun x => by omega) ⟨fun e => ?_, fun e => ?_, fun e => ?_, fun e => ?_, fun e => ?_⟩ (fun x => by omega)
          · have e : w1 = 0 := by omega
            subst e; exact p2
          · have e : w1 = 1 := by omega
            subst e; exact p2
          · have e : w1 = 2 := by omega
            subst e; exact p2
          · have e : w1 = 3 := by omega
            subst e; exact p2
          · have e : w1 = 4 := by omega
            subst e; exact p2
        have R1 : RB (up2 μ1 3 w1.toNat w2) 1 (gup (μ 249) (5 + w1).toNat w2) := R_one I.wf C.1 (by omega)
        have hi : iG (μ 249 (5 + w1).toNat) := by unfold iG; omega
        refine op_mut I (μ1 := up2 μ1 3 w1.toNat w2) (x := μ 249 (5 + w1).toNat) ?_ (W.up (by omega)) (C.wr (fun a h => up2_oo (by omega)) R1) (hg0 hi) (fun μ => cI_ok hi) (fun μ9 k9 => ?_)
        · have hra : μ (1 + 2) w1.toNat = μ 249 (5 + w1).toNat := I.R.st p
          have tail : f_X10_set_42 w1 w2 μ = some (up2 μ1 3 w1.toNat w2, 0, μ 249 (5 + w1).toNat) := by
            unfold f_X10_set_42
            rw [p_rdI (by omega), hra, a1, p_rb, p_wrI (by omega)]
          unfold f_X10_set
          rw [p_lt (by omega), if_neg (by omega), p_lt (by omega), if_pos (by omega), p_rdC (by omega), p_rdC (by omega), c1, c2, c_reqR h2 (by unfold iG; omega) (by unfold iG; omega), if_pos p2, p_rb, p_eq (by omega), tail]
          by_cases p4 : w1 = 4
          · rw [if_pos p4]
          · rw [if_neg p4, c_reqU I.wf I.R, if_pos (p3.resolve_right p4), p_rb, tail]
        · obtain ⟨μ2, b1, b2', b3⟩ := r_setcell I k9 (i := 5 + w1) (v := w2) (by omega)
          refine ⟨μ2, ?_, b2', b3⟩
          have e1 : (up2 μ9 248 0 0) 249 = μ 249 := (up2_oo (by omega)).trans (k9 249 (by omega) (by omega))
          have tail : f_X11_set_52 w1 w2 (up2 μ9 248 0 0) = some (μ2, 0, μ 249 (5 + w1).toNat) := b1
          unfold f_X11_set
          rw [p_wrF, r_in h1 (by unfold iG; omega) (by unfold iG; omega), p_rb, b2_t (by omega), p_eq (by omega), if_neg (by omega), r_isValue p h2, p_rb, b2_t p2, p_eq (by omega), if_neg (by omega), r_pub (by rw [e1]; exact I.wf), p_rb, e1, p_eq (by omega), tail]
          by_cases p5 : μ 249 652 = 0
          · rw [if_pos p5]
          · rw [if_neg p5, p_eq (by omega), if_pos (p3.resolve_left p5)]
      · refine op_ex I (e := 4) (i := 2) (x := 0) (b := 0) (μ2 := up2 (up2 μ 248 0 0) 248 0 3) ?_ rfl (by omega) ?_ (JT.th.up (by unfold jT; omega)) up2_s
        · unfold f_X10_set
          rw [p_lt (by omega), if_neg (by omega), p_lt (by omega), if_pos (by omega), p_rdC (by omega), p_rdC (by omega), c1, c2, c_reqR h2 (by unfold iG; omega) (by unfold iG; omega), if_pos p2, p_rb, p_eq (by omega), if_neg (fun w => p3 (Or.inr w)), c_reqU I.wf I.R, if_neg (fun w => p3 (Or.inl w))]; rfl
        · unfold f_X11_set f_X11_fails
          rw [p_wrF, r_in h1 (by unfold iG; omega) (by unfold iG; omega), p_rb, b2_t (by omega), p_eq (by omega), if_neg (by omega), r_isValue p h2, p_rb, b2_t p2, p_eq (by omega), if_neg (by omega), r_pub (by rw [e0]; exact I.wf), p_rb, e0, p_eq (by omega), if_neg (fun w => p3 (Or.inl w)), p_eq (by omega), if_neg (fun w => p3 (Or.inr w))]; rfl
    · refine op_ex I (e := 1) (i := 1) (x := 0) (b := 0) (μ2 := up2 (up2 μ 248 0 0) 248 0 2) ?_ rfl (by omega) ?_ (JT.th.up (by unfold jT; omega)) up2_s
      · unfold f_X10_set
        rw [p_lt (by omega), if_neg (by omega), p_lt (by omega), if_pos (by omega), p_rdC (by omega), p_rdC (by omega), c1, c2, c_reqR h2 (by unfold iG; omega) (by unfold iG; omega), if_neg p2]; rfl
      · unfold f_X11_set f_X11_fails
        rw [p_wrF, r_in h1 (by unfold iG; omega) (by unfold iG; omega), p_rb, b2_t (by omega), p_eq (by omega), if_neg (by omega), r_isValue p h2, p_rb, b2_f p2, p_eq (by omega), if_pos rfl]; rfl
  · refine op_ex I (e := 2) (i := 0) (x := 0) (b := 0) (μ2 := up2 (up2 μ 248 0 0) 248 0 1) ?_ rfl (by omega) ?_ (JT.th.up (by unfold jT; omega)) up2_s
    · unfold f_X10_set f_X10_set_9
      rw [p_lt (by omega)]
      by_cases q : w1 < 0
      · rw [if_pos q]
      · rw [if_neg q, p_lt (by omega), if_neg (by omega)]
    · unfold f_X11_set f_X11_fails
      rw [p_wrF, r_in h1 (by unfold iG; omega) (by unfold iG; omega), p_rb, b2_f (by omega), p_eq (by omega), if_pos rfl]; rfl
/-- between which marks a boundary may lie -/
def S_bl (g : Nat → Int) (w : Int) : Int := if w = 3 then 1 else g (10 + w + 1).toNat + 1
def S_bh (g : Nat → Int) (w : Int) : Int := if w = 0 then 100 else g (10 + w - 1).toNat - 1
theorem bo_all {g : Nat → Int} (h : WF g) {w : Int} (hw : 0 ≤ w ∧ w < 4) : 1 ≤ g (10 + w).toNat ∧ g (10 + w).toNat ≤ 100 := by
  have := h.bo
  rcases (show w = 0 ∨ w = 1 ∨ w = 2 ∨ w = 3 by omega) with rfl | rfl | rfl | rfl
  · exact ⟨by show 1 ≤ g 10; omega, by show g 10 ≤ 100; omega⟩
  · exact ⟨by show 1 ≤ g 11; omega, by show g 11 ≤ 100; omega⟩
  · exact ⟨by show 1 ≤ g 12; omega, by show g 12 ≤ 100; omega⟩
  · exact ⟨by show 1 ≤ g 13; omega, by show g 13 ≤ 100; omega⟩
theorem o_setBoundary {T : Int} {μ : Mu} (I : Inv T μ) {w1 w2 : Int} (h1 : iG w1) (h2 : iG w2) : OK T (lc_setBoundary w1 w2 μ) := by
  have g1 := h1
  have g2 := h2
  unfold iG at g1 g2
  have hpb := I.wf.pub
  have hbo := I.wf.bo
  have e0 : (up2 μ 248 0 0) 249 = μ 249 := up2_oo (by omega)
  unfold lc_setBoundary
  by_cases p : 0 ≤ w1 ∧ w1 < 4
  · have ba := bo_all I.wf p
    have hbl : 1 ≤ S_bl (μ 249) w1 ∧ S_bl (μ 249) w1 ≤ 101 := by
      unfold S_bl
      split
      · omega
      · have := bo_all I.wf (w := w1 + 1) (by omega)
        rw [← Int.add_assoc] at this; omega
    have hbh : 0 ≤ S_bh (μ 249) w1 ∧ S_bh (μ 249) w1 ≤ 100 := by
      unfold S_bh
      split
      · omega
      · have := bo_all I.wf (w := w1 - 1) (by omega)
        rw [show 10 + (w1 - 1) = 10 + w1 - 1 by omega] at this; omega
    have cls : f_X10_setBoundary w1 w2 μ = f_X10_setBoundary_67 w1 w2 (S_bl (μ 249) w1) (S_bh (μ 249) w1) μ := by
      unfold f_X10_setBoundary f_X10_setBoundary_44 S_bl S_bh
      have hb1 : w1 ≠ 3 → μ (1 + 3) (w1 + 1).toNat = μ 249 (10 + w1 + 1).toNat := fun x => by
        have := I.R.bo (k := w1 + 1) (by omega)
        rw [← Int.add_assoc] at this; exact this
      have hb0 : w1 ≠ 0 → μ (1 + 3) (w1 - 1).toNat = μ 249 (10 + w1 - 1).toNat := fun x => by
        have := I.R.bo (k := w1 - 1) (by omega)
        rw [show 10 + (w1 - 1) = 10 + w1 - 1 by omega] at this; exact this
      rw [p_lt (by omega), if_neg (by omega), p_lt (by omega), if_pos (by omega), p_lt (by omega)]
      by_cases q3 : w1 = 3
      · rw [if_neg (by omega), if_pos q3, p_lt (by omega), if_pos (by omega), if_neg (by omega), p_rdI (by omega), hb0 (by omega)]
      · rw [if_pos (by omega), if_neg q3, p_rdI (by omega), hb1 q3, p_lt (by omega)]
        by_cases q0 : w1 = 0
        · rw [if_neg (by omega), if_pos q0]
        · rw [if_pos (by omega), if_neg q0, p_rdI (by omega), hb0 q0]
    have ref : ∀ μ9 : Mu, (up2 μ9 248 0 0) 249 = μ 249 → f_X11_setBoundary w1 w2 μ9 = if (S_bl (μ 249) w1 ≤ w2 ∧ w2 ≤ S_bh (μ 249) w1) then (if μ 249 652 = 0 then (rb (f_X11_changes (up2 μ9 248 0 0)) fun μ _ => rdI μ 249 779 (10 + w1) fun x3 => wrI μ 249 779 (10 + w1) w2 fun μ => some (μ, 0, x3)) else some (up2 (up2 μ9 248 0 0) 248 0 3, 0, 0)) else some (up2 (up2 μ9 248 0 0) 248 0 2, 0, 0) := by
      intro μ9 e1
      have f91 : f_X11_setBoundary_91 w1 w2 (up2 μ9 248 0 0) = some (up2 (up2 μ9 248 0 0) 248 0 2, 0, 0) := rfl
      have f70 : ∀ a b : Int, (a = 0 ∨ a = 1) → (b = 0 ∨ b = 1) → f_X11_setBoundary_70 w1 w2 a b (up2 μ9 248 0 0) = if ((1 ≤ w2 ∧ w2 ≤ 100) ∧ a = 1 ∧ b = 1) then (if μ 249 652 = 0 then (rb (f_X11_changes (up2 μ9 248 0 0)) fun μ _ => rdI μ 249 779 (10 + w1) fun x3 => wrI μ 249 779 (10 + w1) w2 fun μ => some (μ, 0, x3)) else some (up2 (up2 μ9 248 0 0) 248 0 3, 0, 0)) else some (up2 (up2 μ9 248 0 0) 248 0 2, 0, 0) := by
        intro a b ha hb
        unfold f_X11_setBoundary_70 f_X11_fails
        rw [r_in h2 (by unfold iG; omega) (by unfold iG; omega), p_rb]
        by_cases q : 1 ≤ w2 ∧ w2 ≤ 100
        · rw [b2_t q, p_eq (by omega), if_neg (by omega), p_eq (by omega)]
          by_cases qa : a = 0
          · rw [if_pos qa, f91, if_neg (by omega)]
          · rw [if_neg qa, p_eq (by omega)]
            by_cases qb : b = 0
            · rw [if_pos qb, f91, if_neg (by omega)]
            · rw [if_neg qb, r_pub (by rw [e1]; exact I.wf), p_rb, e1, p_eq (by omega), if_pos (show (1 ≤ w2 ∧ w2 ≤ 100) ∧ a = 1 ∧ b = 1 from ⟨q, by omega, by omega⟩)]
              rfl
        · rw [b2_f q, p_eq (by omega), if_pos rfl, f91, if_neg (fun w => q w.1)]
      have f44 : ∀ a : Int, (a = 0 ∨ a = 1) → f_X11_setBoundary_44 w1 w2 a (up2 μ9 248 0 0) = f_X11_setBoundary_70 w1 w2 a (b2 (w1 = 3 ∨ μ 249 (10 + w1 + 1).toNat < w2)) (up2 μ9 248 0 0) := by
        intro a ha
        unfold f_X11_setBoundary_44 f_X11_setBoundary_65
        rw [p_eq (by omega)]
        by_cases q3 : w1 = 3
        · rw [if_pos q3, b2_t (Or.inl q3)]
        · have := bo_all I.wf (w := w1 + 1) (by omega)
          rw [← Int.add_assoc] at this
          rw [if_neg q3, p_rdI (by omega), e1, p_lt (by omega)]
          by_cases q : μ 249 (10 + w1 + 1).toNat < w2
          · rw [if_pos q, b2_t (Or.inr q)]
          · rw [if_neg q, b2_f (by omega)]
      unfold f_X11_setBoundary f_X11_setBoundary_39
      rw [p_wrF, r_in h1 (by unfold iG; omega) (by unfold iG; omega), p_rb, b2_t (by omega), p_eq (by omega), if_neg (by omega), p_eq (by omega)]
      have fin : ∀ a : Int, (a = b2 (w1 = 0 ∨ w2 < μ 249 (10 + w1 - 1).toNat)) → f_X11_setBoundary_44 w1 w2 a (up2 μ9 248 0 0) = if (S_bl (μ 249) w1 ≤ w2 ∧ w2 ≤ S_bh (μ 249) w1) then (if μ 249 652 = 0 then (rb (f_X11_changes (up2 μ9 248 0 0)) fun μ _ => rdI μ 249 779 (10 + w1) fun x3 => wrI μ 249 779 (10 + w1) w2 fun μ => some (μ, 0, x3)) else some (up2 (up2 μ9 248 0 0) 248 0 3, 0, 0)) else some (up2 (up2 μ9 248 0 0) 248 0 2, 0, 0) := by
        rintro a rfl
        rw [f44 _ (b2_01 _), f70 _ _ (b2_01 _) (b2_01 _)]
        have hL : w1 ≠ 3 → 1 ≤ μ 249 (10 + w1 + 1).toNat := fun x => by
          have := bo_all I.wf (w := w1 + 1) (by omega)
          rw [← Int.add_assoc] at this; exact this.1
        have hH : w1 ≠ 0 → μ 249 (10 + w1 - 1).toNat ≤ 100 := fun x => by
          have := bo_all I.wf (w := w1 - 1) (by omega)
          rw [show 10 + (w1 - 1) = 10 + w1 - 1 by omega] at this; exact this.2
        have iff : ((1 ≤ w2 ∧ w2 ≤ 100) ∧ b2 (w1 = 0 ∨ w2 < μ 249 (10 + w1 - 1).toNat) = 1 ∧ b2 (w1 = 3 ∨ μ 249 (10 + w1 + 1).toNat < w2) = 1) ↔ (S_bl (μ 249) w1 ≤ w2 ∧ w2 ≤ S_bh (μ 249) w1) := by
          unfold S_bl S_bh b2
          by_cases q0 : w1 = 0
          · by_cases q3 : w1 = 3
            · omega
            · have := hL q3
              rw [if_pos (show w1 = 0 ∨ w2 < μ 249 (10 + w1 - 1).toNat from Or.inl q0), if_neg q3, if_pos q0]
              by_cases z : μ 249 (10 + w1 + 1).toNat < w2
              · rw [if_pos (Or.inr z)]; omega
              · rw [if_neg (by omega)]; omega
          · by_cases q3 : w1 = 3
            · have := hH q0
              rw [if_pos (show w1 = 3 ∨ μ 249 (10 + w1 + 1).toNat < w2 from Or.inl q3), if_pos q3, if_neg q0]
              by_cases z : w2 < μ 249 (10 + w1 - 1).toNat
              · rw [if_pos (Or.inr z)]; omega
              · rw [if_neg (by omega)]; omega
            · have := hH q0
              have := hL q3
              rw [if_neg q3, if_neg q0]
              by_cases z : w2 < μ 249 (10 + w1 - 1).toNat
              · rw [if_pos (Or.inr z)]
                by_cases z2 : μ 249 (10 + w1 + 1).toNat < w2
                · rw [if_pos (Or.inr z2)]; omega
                · rw [if_neg (by omega)]; omega
              · rw [if_neg (show ¬ (w1 = 0 ∨ w2 < μ 249 (10 + w1 - 1).toNat) by omega)]; omega
        by_cases q : S_bl (μ 249) w1 ≤ w2 ∧ w2 ≤ S_bh (μ 249) w1
        · rw [if_pos (iff.mpr q), if_pos q]
        · rw [if_neg (fun w => q (iff.mp w)), if_neg q]
      by_cases q0 : w1 = 0
      · rw [if_pos q0]
        exact fin 1 (b2_t (Or.inl q0)).symm
      · have := bo_all I.wf (w := w1 - 1) (by omega)
        rw [show 10 + (w1 - 1) = 10 + w1 - 1 by omega] at this
        rw [if_neg q0, p_rdI (by omega), e1, p_lt (by omega)]
        by_cases q : w2 < μ 249 (10 + w1 - 1).toNat
        · rw [if_pos q]
          exact fin 1 (b2_t (Or.inr q)).symm
        · rw [if_neg q]
          exact fin 0 (b2_f (by omega)).symm
    by_cases p2 : S_bl (μ 249) w1 ≤ w2 ∧ w2 ≤ S_bh (μ 249) w1
    · by_cases p3 : μ 249 652 = 0
      · obtain ⟨μ1, a1, C, a3⟩ := c_kept I
        have W : WS (gup (μ 249) (10 + w1).toNat w2) T := by
          refine W_one I.1.2 (by omega) (fun x => by omega) ⟨fun e => by omega, fun e => by omega, fun e => by omega, fun e => by omega, fun e => by omega⟩ (fun _ => ?_)
          unfold S_bl S_bh at p2
          rcases (show w1 = 0 ∨ w1 = 1 ∨ w1 = 2 ∨ w1 = 3 by omega) with rfl | rfl | rfl | rfl
          · have q : μ 249 11 + 1 ≤ w2 ∧ w2 ≤ 100 := p2
            show (1 ≤ μ 249 13 ∧ μ 249 13 < μ 249 12) ∧ μ 249 12 < μ 249 11 ∧ μ 249 11 < w2 ∧ w2 ≤ 100
            omega
          · have q : μ 249 12 + 1 ≤ w2 ∧ w2 ≤ μ 249 10 - 1 := p2
            show (1 ≤ μ 249 13 ∧ μ 249 13 < μ 249 12) ∧ μ 249 12 < w2 ∧ w2 < μ 249 10 ∧ μ 249 10 ≤ 100
            omega
          · have q : μ 249 13 + 1 ≤ w2 ∧ w2 ≤ μ 249 11 - 1 := p2
            show (1 ≤ μ 249 13 ∧ μ 249 13 < w2) ∧ w2 < μ 249 11 ∧ μ 249 11 < μ 249 10 ∧ μ 249 10 ≤ 100
            omega
          · have q : 1 ≤ w2 ∧ w2 ≤ μ 249 12 - 1 := p2
            show (1 ≤ w2 ∧ w2 < μ 249 12) ∧ μ 249 12 < μ 249 11 ∧ μ 249 11 < μ 249 10 ∧ μ 249 10 ≤ 100
            omega
        have R1 : RB (up2 μ1 4 w1.toNat w2) 1 (gup (μ 249) (10 + w1).toNat w2) := R_one I.wf C.1 (by omega)
        have hi : iG (μ 249 (10 + w1).toNat) := by unfold iG; omega
        refine op_mut I (μ1 := up2 μ1 4 w1.toNat w2) (x := μ 249 (10 + w1).toNat) ?_ (W.up (by omega)) (C.wr (fun a h => up2_oo (by omega)) R1) (hg0 hi) (fun μ => cI_ok hi) (fun μ9 k9 => ?_)
        · have hra : μ (1 + 3) w1.toNat = μ 249 (10 + w1).toNat := I.R.bo p
          rw [cls]
          unfold f_X10_setBoundary_67
          rw [c_reqR h2 (by unfold iG; omega) (by unfold iG; omega), if_pos p2, p_rb, c_reqU I.wf I.R, if_pos p3, p_rb, p_rdI (by omega), hra, a1, p_rb, p_wrI (by omega)]
        · obtain ⟨μ2, b1, b2', b3⟩ := r_setcell I k9 (i := 10 + w1) (v := w2) (by omega)
          refine ⟨μ2, ?_, b2', b3⟩
          have e1 : (up2 μ9 248 0 0) 249 = μ 249 := (up2_oo (by omega)).trans (k9 249 (by omega) (by omega))
          rw [ref μ9 e1, if_pos p2, if_pos p3, b1]
      · refine op_ex I (e := 4) (i := 2) (x := 0) (b := 0) (μ2 := up2 (up2 μ 248 0 0) 248 0 3) ?_ rfl (by omega) ?_ (JT.th.up (by unfold jT; omega)) up2_s
        · rw [cls]
          unfold f_X10_setBoundary_67
          rw [c_reqR h2 (by unfold iG; omega) (by unfold iG; omega), if_pos p2, p_rb, c_reqU I.wf I.R, if_neg p3]; rfl
        · rw [ref μ e0, if_pos p2, if_neg p3]
    · refine op_ex I (e := 1) (i := 1) (x := 0) (b := 0) (μ2 := up2 (up2 μ 248 0 0) 248 0 2) ?_ rfl (by omega) ?_ (JT.th.up (by unfold jT; omega)) up2_s
      · rw [cls]
        unfold f_X10_setBoundary_67
        rw [c_reqR h2 (by unfold iG; omega) (by unfold iG; omega), if_neg p2]; rfl
      · rw [ref μ e0, if_neg p2]
  · refine op_ex I (e := 2) (i := 0) (x := 0) (b := 0) (μ2 := up2 (up2 μ 248 0 0) 248 0 1) ?_ rfl (by omega) ?_ (JT.th.up (by unfold jT; omega)) up2_s
    · unfold f_X10_setBoundary f_X10_setBoundary_9
      rw [p_lt (by omega)]
      by_cases q : w1 < 0
      · rw [if_pos q]
      · rw [if_neg q, p_lt (by omega), if_neg (by omega)]
    · unfold f_X11_setBoundary f_X11_fails
      rw [p_wrF, r_in h1 (by unfold iG; omega) (by unfold iG; omega), p_rb, b2_f (by omega), p_eq (by omega), if_pos rfl]; rfl

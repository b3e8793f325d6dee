/-! setMaximum, the reference's side -/
def S_or (s : Int) (Q : Prop) [Decidable Q] : Int := if 0 < s then 1 else b2 Q
theorem S_or01 {s : Int} {Q : Prop} [Decidable Q] : S_or s Q = 0 ∨ S_or s Q = 1 := by
  unfold S_or
  split
  · exact Or.inr rfl
  · exact b2_01 Q
theorem S_or_iff {s : Int} {Q : Prop} [Decidable Q] : 0 < S_or s Q ↔ 0 < s ∨ Q := by
  unfold S_or
  by_cases p : 0 < s
  · rw [if_pos p]; exact ⟨fun _ => Or.inl p, fun _ => by omega⟩
  · rw [if_neg p]
    by_cases q : Q
    · rw [b2_t q]; exact ⟨fun _ => Or.inr q, fun _ => by omega⟩
    · rw [b2_f q]
      refine ⟨fun w => by omega, ?_⟩
      rintro (w | w)
      · exact absurd w p
      · exact absurd w q
def S_a3 (g : Nat → Int) (q p k s m : Int) : Int := S_or s (p < S_mk g m q k - 1)
def S_a2 (g : Nat → Int) (q p s k : Int) : Int := itS (S_a3 g q p k) 4 (S_or s (p < g (19 + 5 * q + k).toNat)) 0
def S_a1 (g : Nat → Int) (q p s e : Int) : Int := S_or s (S_eq g e = q ∧ p < S_ev g e)
theorem S_a2_01 {g : Nat → Int} {q p s k : Int} : S_a2 g q p s k = 0 ∨ S_a2 g q p s k = 1 :=
  itS_inv (P := fun x => x = 0 ∨ x = 1) 4 _ 0 (fun _ _ _ _ _ => S_or01) S_or01
def S_ab (g : Nat → Int) (q p : Int) : Int := itS (S_a2 g q p) (g (14 + q).toNat).toNat (itS (S_a1 g q p) (g 144).toNat 0 0) 0
theorem S_ab_01 {g : Nat → Int} {q p : Int} : S_ab g q p = 0 ∨ S_ab g q p = 1 :=
  itS_inv (P := fun x => x = 0 ∨ x = 1) _ _ 0 (fun _ _ _ _ _ => S_a2_01) (itS_inv (P := fun x => x = 0 ∨ x = 1) _ _ 0 (fun _ _ _ _ _ => S_or01) (Or.inl rfl))
theorem S_ab_iff {g : Nat → Int} {q p : Int} : 0 < S_ab g q p ↔ S_abE g q p ∨ S_abS g q p := by
  unfold S_ab S_abE S_abS
  rw [itS_iff (Q := S_abK g q p) (fun s k => ?_) _ _ 0, itS_iff (Q := fun e => S_eq g e = q ∧ p < S_ev g e) (fun s v => ?_) _ _ 0]
  · constructor
    · rintro ((w | w) | w)
      · omega
      · exact Or.inl w
      · exact Or.inr w
    · rintro (w | w)
      · exact Or.inl (Or.inr w)
      · exact Or.inr w
  · exact S_or_iff
  · unfold S_a2 S_abK
    rw [itS_iff (Q := fun m => p < S_mk g m q k - 1) (fun s v => ?_) 4 _ 0, S_or_iff, or_assoc]
    exact S_or_iff
theorem r_isAbove {μ : Mu} (h : WF (μ 249)) {q p : Int} (hq : 0 ≤ q ∧ q < 5) (hp : 1 ≤ p ∧ p ≤ 40) : f_X11_isAbove q p μ = some (μ, 0, S_ab (μ 249) q p) := by
  have ht := h.tot
  have hm := h.many hq
  have e144 : (144 : Int).toNat = 144 := rfl
  have l1 := loop_up (S := Int) (fun fu s v => f_X11_isAbove_5 q p (fun v3 μ => f_X11_isAbove_59 q p (fun v3 μ => retZ μ v3) FU v3 0 μ) fu s v μ) (fun s => f_X11_isAbove_59 q p (fun v3 μ => retZ μ v3) FU s 0 μ) (S_a1 (μ 249) q p) (μ 249 144) (fun s v => (s = 0 ∨ s = 1) ∧ 0 ≤ v ∧ v ≤ μ 249 144) ?_ (fun s v hi hlt => ⟨S_or01, by omega⟩) (μ 249 144).toNat FU 0 0 (by omega) (by omega) (by unfold FU; omega)
  · unfold f_X11_isAbove S_ab
    refine Eq.trans l1 ?_
    have h01 : itS (S_a1 (μ 249) q p) (μ 249 144).toNat 0 0 = 0 ∨ itS (S_a1 (μ 249) q p) (μ 249 144).toNat 0 0 = 1 := itS_inv (P := fun x => x = 0 ∨ x = 1) _ _ 0 (fun _ _ _ _ _ => S_or01) (Or.inl rfl)
    generalize itS (S_a1 (μ 249) q p) (μ 249 144).toNat 0 0 = s0 at h01 ⊢
    have l2 := loop_up (S := Int) (fun fu s v => f_X11_isAbove_59 q p (fun v3 μ => retZ μ v3) fu s v μ) (fun s => retZ μ s) (S_a2 (μ 249) q p) (μ 249 (14 + q).toNat) (fun s v => (s = 0 ∨ s = 1) ∧ 0 ≤ v ∧ v ≤ μ 249 (14 + q).toNat) ?_ (fun s v hi hlt => ⟨S_a2_01, by omega⟩) (μ 249 (14 + q).toNat).toNat FU s0 0 (by omega) (by omega) (by unfold FU; omega)
    · refine Eq.trans l2 ?_
      exact p_Z (itS_inv (P := fun x => x = 0 ∨ x = 1) _ _ 0 (fun _ _ _ _ _ => S_a2_01) h01)
    · intro fu s v hi
      show f_X11_isAbove_59 q p (fun v3 μ => retZ μ v3) (fu + 1) s v μ = _
      rw [f_X11_isAbove_59, p_rdI (by omega), p_lt (by omega)]
      by_cases hv : v < μ 249 (14 + q).toNat
      · have h1 := h.sd hq (k := v) (by omega)
        rw [if_pos hv, if_pos hv]
        have go : f_X11_isAbove_100 q p (f_X11_isAbove_59 q p (fun v3 μ => retZ μ v3) fu) v (S_or s (p < μ 249 (19 + 5 * q + v).toNat)) μ = f_X11_isAbove_59 q p (fun v3 μ => retZ μ v3) fu (S_a2 (μ 249) q p s v) (v + 1) μ := by
          unfold f_X11_isAbove_100 S_a2
          have hs := S_or01 (s := s) (Q := p < μ 249 (19 + 5 * q + v).toNat)
          generalize S_or s (p < μ 249 (19 + 5 * q + v).toNat) = s1 at hs ⊢
          refine loop_up (S := Int) (fun fu2 s m => f_X11_isAbove_104 q p (fun v3 v4 μ => f_X11_isAbove_59 q p (fun v3 μ => retZ μ v3) fu v3 (v4 + 1) μ) fu2 s v m μ) (fun s => f_X11_isAbove_59 q p (fun v3 μ => retZ μ v3) fu s (v + 1) μ) (S_a3 (μ 249) q p v) 4 (fun s m => (s = 0 ∨ s = 1) ∧ 0 ≤ m ∧ m ≤ 4) ?_ (fun s m hi hlt => ⟨S_or01, by omega⟩) 4 FU s1 0 (by omega) (by omega) (by unfold FU; omega)
          intro fu2 s2 m hi2
          show f_X11_isAbove_104 q p _ (fu2 + 1) s2 v m μ = _
          rw [f_X11_isAbove_104, p_lt (by omega)]
          by_cases hm4 : m < 4
          · have h2 := h.mk (m := m) (q := q) (k := v) (by omega) hq (by omega)
            rw [if_pos hm4, if_pos hm4, p_eq (by omega)]
            unfold f_X11_markedAt f_X11_isAbove_133 f_X11_isAbove_138 S_a3 S_or
            by_cases z : s2 = 0
            · rw [if_pos z, if_neg (by omega), p_rb, p_rdI (by omega), p_lt (by omega)]
              show (if p < S_mk (μ 249) m q v - 1 then _ else _) = _
              by_cases y : p < S_mk (μ 249) m q v - 1
              · rw [if_pos y, b2_t y]
              · rw [if_neg y, b2_f y]
            · rw [if_neg z, if_pos (by omega)]
          · rw [if_neg hm4, if_neg hm4]
        rw [p_eq (by omega), ← go]
        unfold f_X11_isAbove_95 S_or
        by_cases z : s = 0
        · rw [if_pos z, if_neg (by omega), p_rdI (by omega), p_lt (by omega)]
          by_cases y : p < μ 249 (19 + 5 * q + v).toNat
          · rw [if_pos y, b2_t y]
          · rw [if_neg y, b2_f y]
        · rw [if_neg z, if_pos (by omega)]
      · rw [if_neg hv, if_neg hv]
  · intro fu s v hi
    show f_X11_isAbove_5 q p _ (fu + 1) s v μ = _
    rw [f_X11_isAbove_5, p_rdI (by omega), e144, p_lt (by omega)]
    by_cases hv : v < μ 249 144
    · have hee := h.ee (e := v) (by omega)
      rw [if_pos hv, if_pos hv, p_eq (by omega)]
      unfold f_X11_isAbove_44 f_X11_isAbove_48 f_X11_isAbove_49 S_a1 S_or
      by_cases z : s = 0
      · rw [if_pos z, if_neg (by omega), r_p2 (by omega), p_rb, p_eq (by omega)]
        by_cases y : S_eq (μ 249) v = q
        · rw [if_pos y, r_p3 (by omega), p_rb, p_lt (by omega)]
          by_cases x : p < S_ev (μ 249) v
          · rw [if_pos x, b2_t ⟨y, x⟩]
          · rw [if_neg x, b2_f (fun w => x w.2)]
        · rw [if_neg y, b2_f (fun w => y w.1)]
      · rw [if_neg z, if_pos (by omega)]
    · rw [if_neg hv, if_neg hv]
theorem o_setMaximum {T : Int} {μ : Mu} (I : Inv T μ) {w1 w2 : Int} (h1 : iG w1) (h2 : iG w2) : OK T (lc_setMaximum w1 w2 μ) := by
  have hpb := I.wf.pub
  have e0 : (up2 μ 248 0 0) 249 = μ 249 := up2_oo (by omega)
  unfold lc_setMaximum
  by_cases p : 0 ≤ w1 ∧ w1 < 5
  · by_cases p2 : 1 ≤ w2 ∧ w2 ≤ 40
    · by_cases p3 : μ 249 652 = 0
      · have q1 : 0 ≤ S_g1 (μ 249) w1 ∧ S_g1 (μ 249) w1 ≤ 40 := itS_inv (P := fun x => 0 ≤ x ∧ x ≤ 40) 120 _ 0 (fun s j a b hs => mx_bd hs (S_ge_bd I.wf (by omega)).2) (by omega)
        have hm := I.wf.many p
        have q2 : 0 ≤ itS (S_g2 (μ 249) w1) (μ 249 (14 + w1).toNat).toNat 0 0 ∧ itS (S_g2 (μ 249) w1) (μ 249 (14 + w1).toNat).toNat 0 0 ≤ 40 := itS_inv (P := fun x => 0 ≤ x ∧ x ≤ 40) _ _ 0 (fun s j a b hs => S_g2_bd I.wf p (by omega) hs) (by omega)
        have i1 := g1_iff I.wf I.w3 (q := w1) (p := w2) (by omega)
        have i2 := g2_iff (g := μ 249) (q := w1) (p := w2) (by omega)
        have i3 := S_ab_iff (g := μ 249) (q := w1) (p := w2)
        have b01 := S_ab_01 (g := μ 249) (q := w1) (p := w2)
        have cgm := c_gm1 I.wf I.w3 I.R p
        have cgm2 := c_gm2 I.wf I.R p
        generalize S_g1 (μ 249) w1 = x1 at q1 i1 cgm
        generalize itS (S_g2 (μ 249) w1) (μ 249 (14 + w1).toNat).toNat 0 0 = x2 at q2 i2 cgm2
        have cls : f_X1_greatestMark 1 w1 μ = some (μ, 0, mx x1 x2) := by
          unfold f_X1_greatestMark
          rw [cgm, p_rb, cgm2, p_rb, p_max (by omega)]; rfl
        have i4 : w2 < mx x1 x2 ↔ 0 < S_ab (μ 249) w1 w2 := by rw [mx_iff, i1, i2, i3]
        have q3 := mx_bd q1 q2.2
        generalize mx x1 x2 = x at cls i4 q3
        by_cases p4 : 0 < S_ab (μ 249) w1 w2
        · refine op_ex I (e := 0) (i := 3) (x := 0) (b := 0) (μ2 := up2 (up2 μ 248 0 0) 248 0 4) ?_ rfl (by omega) ?_ (JT.th.up (by unfold jT; omega)) up2_s
          · unfold f_X10_setMaximum
            rw [c_reqQ h1, if_pos p, p_rb, c_reqR h2 (by unfold iG; omega) (by unfold iG; omega), if_pos p2, p_rb, c_reqU I.wf I.R, if_pos p3, p_rb, cls, p_rb, p_lt (by omega), if_pos (i4.mpr p4)]
          · unfold f_X11_setMaximum f_X11_fails
            rw [p_wrF, r_ques h1, p_rb, b2_t (by omega), p_eq (by omega), if_neg (by omega), r_in h2 (by unfold iG; omega) (by unfold iG; omega), p_rb, b2_t p2, p_eq (by omega), if_neg (by omega), r_pub (by rw [e0]; exact I.wf), p_rb, e0, p_eq (by omega), if_pos p3, r_isAbove (by rw [e0]; exact I.wf) p p2, p_rb, e0, p_eq (by omega), if_neg (by omega)]; rfl
        · obtain ⟨μ1, a1, C, a3⟩ := c_kept I
          have hx := I.wf.mx p
          have W : WS (gup (μ 249) w1.toNat w2) T := W_one I.1.2 (by omega) (fun _ => p2) ⟨fun e => by omega, fun e => by omega, fun e => by omega, fun e => by omega, fun e => by omega⟩ (fun x => by omega)
          have R1 : RB (up2 μ1 2 w1.toNat w2) 1 (gup (μ 249) w1.toNat w2) := R_one I.wf C.1 (by omega)
          have hi : iG (μ 249 w1.toNat) := by unfold iG; omega
          refine op_mut I (μ1 := up2 μ1 2 w1.toNat w2) (x := μ 249 w1.toNat) ?_ (W.up (by omega)) (C.wr (fun a h => up2_oo (by omega)) R1) (hg0 hi) (fun μ => cI_ok hi) (fun μ9 k9 => ?_)
          · have hra : μ (1 + 1) w1.toNat = μ 249 w1.toNat := I.R.mx p
            unfold f_X10_setMaximum
            rw [c_reqQ h1, if_pos p, p_rb, c_reqR h2 (by unfold iG; omega) (by unfold iG; omega), if_pos p2, p_rb, c_reqU I.wf I.R, if_pos p3, p_rb, cls, p_rb, p_lt (by omega), if_neg (fun w => p4 (i4.mp w)), p_rdI (by omega), hra, a1, p_rb, p_wrI (by omega)]
          · obtain ⟨μ2, b1, b2', b3⟩ := r_setcell I k9 (i := 0 + w1) (v := w2) (by omega)
            rw [Int.zero_add] at b1 b2'
            refine ⟨μ2, ?_, b2', b3⟩
            have e1 : (up2 μ9 248 0 0) 249 = μ 249 := (up2_oo (by omega)).trans (k9 249 (by omega) (by omega))
            unfold f_X11_setMaximum
            rw [p_wrF, r_ques h1, p_rb, b2_t (by omega), p_eq (by omega), if_neg (by omega), r_in h2 (by unfold iG; omega) (by unfold iG; omega), p_rb, b2_t p2, p_eq (by omega), if_neg (by omega), r_pub (by rw [e1]; exact I.wf), p_rb, e1, p_eq (by omega), if_pos p3, r_isAbove (by rw [e1]; exact I.wf) p p2, p_rb, e1, p_eq (by omega), if_pos (by omega), Int.zero_add, b1]
      · refine op_ex I (e := 4) (i := 2) (x := 0) (b := 0) (μ2 := up2 (up2 μ 248 0 0) 248 0 3) ?_ rfl (by omega) ?_ (JT.th.up (by unfold jT; omega)) up2_s
        · unfold f_X10_setMaximum
          rw [c_reqQ h1, if_pos p, p_rb, c_reqR h2 (by unfold iG; omega) (by unfold iG; omega), if_pos p2, p_rb, c_reqU I.wf I.R, if_neg p3]; rfl
        · unfold f_X11_setMaximum f_X11_fails
          rw [p_wrF, r_ques h1, p_rb, b2_t (by omega), p_eq (by omega), if_neg (by omega), r_in h2 (by unfold iG; omega) (by unfold iG; omega), p_rb, b2_t p2, p_eq (by omega), if_neg (by omega), r_pub (by rw [e0]; exact I.wf), p_rb, e0, p_eq (by omega), if_neg p3]; rfl
    · refine op_ex I (e := 1) (i := 1) (x := 0) (b := 0) (μ2 := up2 (up2 μ 248 0 0) 248 0 2) ?_ rfl (by omega) ?_ (JT.th.up (by unfold jT; omega)) up2_s
      · unfold f_X10_setMaximum
        rw [c_reqQ h1, if_pos p, p_rb, c_reqR h2 (by unfold iG; omega) (by unfold iG; omega), if_neg p2]; rfl
      · unfold f_X11_setMaximum f_X11_fails
        rw [p_wrF, r_ques h1, p_rb, b2_t (by omega), p_eq (by omega), if_neg (by omega), r_in h2 (by unfold iG; omega) (by unfold iG; omega), p_rb, b2_f p2, p_eq (by omega), if_pos rfl]; rfl
  · refine op_ex I (e := 2) (i := 0) (x := 0) (b := 0) (μ2 := up2 (up2 μ 248 0 0) 248 0 1) ?_ rfl (by omega) ?_ (JT.th.up (by unfold jT; omega)) up2_s
    · unfold f_X10_setMaximum
      rw [c_reqQ h1, if_neg p]; rfl
    · unfold f_X11_setMaximum f_X11_fails
      rw [p_wrF, r_ques h1, p_rb, b2_f (by omega), p_eq (by omega), if_pos rfl]; rfl

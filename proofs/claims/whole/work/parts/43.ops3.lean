/-! script, entry, curve -/
theorem r_entryOf_l {μ : Mu} (h : WF (μ 249)) {c q p3 : Int} (hc : iG c) (hq : iG q) {k35 : Int → Mu → Option Res} {k47 : Mu → Option Res} : ∀ (n fu : Nat) (left e : Int), 0 ≤ e → e + n = μ 249 144 → n < fu → 0 ≤ left → left < 2147483648 →
    (left.toNat < (S_es (μ 249) c q n e).length → f_X11_entryOf_6 c q p3 k35 k47 fu left e μ = k35 ((S_es (μ 249) c q n e).getD left.toNat 0) μ) ∧ (¬ left.toNat < (S_es (μ 249) c q n e).length → f_X11_entryOf_6 c q p3 k35 k47 fu left e μ = k47 μ)
  | 0, fu + 1, left, e, h0, hn, hf, hl, hl2 => by
    have ht := h.tot
    refine ⟨fun w => by simp [S_es] at w, fun _ => ?_⟩
    rw [f_X11_entryOf_6, p_rdI (by omega), show μ 249 (144 : Int).toNat = μ 249 144 from rfl, p_lt (by omega), if_neg (by omega)]
  | n + 1, fu + 1, left, e, h0, hn, hf, hl, hl2 => by
    have ht := h.tot
    have step : f_X11_entryOf_6 c q p3 k35 k47 (fu + 1) left e μ = if S_is (μ 249) c q e then (if left = 0 then k35 e μ else f_X11_entryOf_6 c q p3 k35 k47 fu (left + -1) (e + 1) μ) else f_X11_entryOf_6 c q p3 k35 k47 fu left (e + 1) μ := by
      rw [f_X11_entryOf_6, p_rdI (by omega), show μ 249 (144 : Int).toNat = μ 249 144 from rfl, p_lt (by omega), if_pos (by omega), r_isOf h (by omega) hc hq, p_rb]
      unfold f_X11_entryOf_41
      by_cases p : S_is (μ 249) c q e
      · rw [b2_t p, p_eq (by omega), if_neg (by omega), p_eq (by omega), if_pos p]
      · rw [b2_f p, p_eq (by omega), if_pos rfl, if_neg p]
    rw [step]
    by_cases p : S_is (μ 249) c q e
    · have hS : S_es (μ 249) c q (n + 1) e = e :: S_es (μ 249) c q n (e + 1) := by simp only [S_es]; rw [if_pos p]
      rw [hS, if_pos p]
      by_cases l0 : left = 0
      · subst l0
        refine ⟨fun _ => by rw [if_pos rfl]; rfl, fun w => absurd (by simp) w⟩
      · rw [if_neg l0]
        obtain ⟨r1, r2⟩ := r_entryOf_l h hc hq (k35 := k35) (k47 := k47) (p3 := p3) n fu (left + -1) (e + 1) (by omega) (by omega) (by omega) (by omega) (by omega)
        have e1 : left.toNat = (left + -1).toNat + 1 := by omega
        rw [e1]
        simp only [List.length_cons, List.getD_cons_succ, Nat.add_lt_add_iff_right]
        exact ⟨r1, r2⟩
    · have hS : S_es (μ 249) c q (n + 1) e = S_es (μ 249) c q n (e + 1) := by simp only [S_es]; rw [if_neg p]
      rw [hS, if_neg p]
      exact r_entryOf_l h hc hq n fu left (e + 1) (by omega) (by omega) (by omega) hl hl2
theorem r_entryOf {μ : Mu} (h : WF (μ 249)) {c q i : Int} (hc : iG c) (hq : iG q) (hi : 0 ≤ i ∧ i < 2147483648) : f_X11_entryOf c q i μ = if i.toNat < (S_ents (μ 249) c q).length then some (μ, 0, (S_ents (μ 249) c q).getD i.toNat 0) else some (μ, 0, -1) := by
  have ht := h.tot
  obtain ⟨r1, r2⟩ := r_entryOf_l h hc hq (p3 := i) (k35 := fun v5 μ => some (μ, 0, v5)) (k47 := fun μ => some (μ, 0, (-1))) (μ 249 144).toNat FU i 0 (by omega) (by omega) (by unfold FU; omega) hi.1 hi.2
  unfold f_X11_entryOf
  by_cases w : i.toNat < (S_ents (μ 249) c q).length
  · rw [if_pos w]; exact r1 w
  · rw [if_neg w]; exact r2 w
def S_ent (g : Nat → Int) (e w : Int) : Int := if w = 0 then S_em g e else if w = 1 then S_ev g e else if w = 2 then S_val g e else b2 (S_ok g e)
theorem o_entry {T : Int} {μ : Mu} (I : Inv T μ) {w1 w2 w3 w4 : Int} (h1 : iG w1) (h2 : iG w2) (h3 : iG w3) (h4 : iG w4) : OK T (lc_entry w1 w2 w3 w4 μ) := by
  unfold lc_entry
  have g3 := h3
  unfold iG at g3
  by_cases p : (0 ≤ w1 ∧ w1 < 8) ∧ (0 ≤ w2 ∧ w2 < 5)
  · have ht := I.wf.tot
    have hsz := I.R.sz p.1 p.2
    have hlen := ents_len (μ 249) w1 w2
    have hl3 := I.w3 w1 w2
    have h00 := cnt_0 (g := μ 249) (c := w1) (q := w2) (n := (μ 249 144).toNat)
    by_cases p2 : 0 ≤ w3 ∧ w3.toNat < (S_ents (μ 249) w1 w2).length
    · obtain ⟨b1, b2', b3⟩ := ents_at (g := μ 249) (c := w1) (q := w2) ht.1 p2.2
      rw [show ((w3.toNat : Nat) : Int) = w3 by omega] at b3
      generalize he : (S_ents (μ 249) w1 w2).getD w3.toNat 0 = e at b1 b2' b3
      have hee := I.wf.ee b1
      have hsb := sl_bd I.wf I.w3 b1
      have hen := I.R.en b1
      by_cases p3 : 0 ≤ w4 ∧ w4 ≤ 3
      · have hv := S_val_bd I.wf b1
        have ho := b2_01 (S_ok (μ 249) e)
        have hi : iG (S_ent (μ 249) e w4) := by
          unfold iG S_ent
          repeat' split
          all_goals omega
        refine op_ok I (μ1 := μ) (x := S_ent (μ 249) e w4) ?_ (KA.rf μ) (hg0 hi) (fun μ => cI_ok hi) (fun μ9 I9 k9 => ?_)
        · unfold f_X10_entry f_X10_entry_38 f_X10_entry_147 f_X10_scriptOf
          rw [c_reqS h1 h2, if_pos p, p_rb, p_rb, p_lt (by omega), if_neg (by omega), p_rdI (by omega), hsz, p_lt (by omega), if_pos (by omega), p_lt (by omega), if_pos (by omega), c_reqR h4 (by unfold iG; omega) (by unfold iG; omega), if_pos p3, p_rb, p_bnd, ← b3, p_sw (by omega)]
          unfold S_ent
          rcases (show w4 = 0 ∨ w4 = 1 ∨ w4 = 2 ∨ w4 = 3 by omega) with rfl | rfl | rfl | rfl
          · simp (disch := omega) only [Int.toNat_zero, List.getD_cons_zero, p_rdI, hen.2.1, ↓reduceIte]
          · simp (disch := omega) only [Int.toNat_one, List.getD_cons_zero, List.getD_cons_succ, p_rdI, hen.2.2, Int.reduceEq, ↓reduceIte]
          · simp only [Int.reduceToNat, List.getD_cons_zero, List.getD_cons_succ, Int.reduceEq, ↓reduceIte]
            rw [c_valueOf I.wf I.w3 I.R b1 rfl, p_rb]
          · simp only [Int.reduceToNat, List.getD_cons_succ, List.getD_nil, Int.reduceEq, ↓reduceIte]
            rw [c_isValid I.wf I.w3 I.R b1 rfl, p_rb]
            by_cases z : S_ok (μ 249) e
            · rw [b2_t z]; rfl
            · rw [b2_f z]; rfl
        · have e9 : (up2 μ9 248 0 0) 249 = μ 249 := by rw [up2_oo (by omega), k9.s]
          have W9 : WF ((up2 μ9 248 0 0) 249) := by rw [e9]; exact I.wf
          have b9 : 0 ≤ e ∧ e < (up2 μ9 248 0 0) 249 144 := by rw [e9]; exact b1
          refine ⟨up2 μ9 248 0 0, ?_, JT.th, up2_s⟩
          unfold f_X11_entry f_X11_entry_26 f_X11_entry_109
          rw [r_sref h1 h2, if_pos p, p_rb, p_lt (by omega), if_neg (by omega), p_lt (by omega), if_neg (by omega), r_entryOf W9 h1 h2 (by omega), e9, if_pos p2.2, he, p_rb, p_eq (by omega), if_neg (by omega), p_sw (by omega)]
          unfold S_ent
          rcases (show w4 = 0 ∨ w4 = 1 ∨ w4 = 2 ∨ w4 = 3 by omega) with rfl | rfl | rfl | rfl
          · simp only [Int.toNat_zero, List.getD_cons_zero, ↓reduceIte]
            rw [r_p0 (by omega), p_rb, e9]
          · simp only [Int.toNat_one, List.getD_cons_zero, List.getD_cons_succ, Int.reduceEq, ↓reduceIte]
            rw [r_p3 (by omega), p_rb, e9]
          · simp only [Int.reduceToNat, List.getD_cons_zero, List.getD_cons_succ, Int.reduceEq, ↓reduceIte]
            rw [r_value W9 b9, p_rb, e9]
          · simp only [Int.reduceToNat, List.getD_cons_zero, List.getD_cons_succ, Int.reduceEq, ↓reduceIte]
            rw [r_isValid W9 b9, p_rb, e9]
            by_cases z : S_ok (μ 249) e
            · rw [b2_t z]; rfl
            · rw [b2_f z]; rfl
      · refine op_ex I (e := 1) (i := 2) (x := 0) (b := 0) (μ2 := up2 (up2 μ 248 0 0) 248 0 3) ?_ rfl (by omega) ?_ (JT.th.up (by unfold jT; omega)) up2_s
        · unfold f_X10_entry f_X10_entry_38 f_X10_entry_147 f_X10_scriptOf
          rw [c_reqS h1 h2, if_pos p, p_rb, p_rb, p_lt (by omega), if_neg (by omega), p_rdI (by omega), hsz, p_lt (by omega), if_pos (by omega), p_lt (by omega), if_pos (by omega), c_reqR h4 (by unfold iG; omega) (by unfold iG; omega), if_neg p3]; rfl
        · have e9 : (up2 μ 248 0 0) 249 = μ 249 := up2_oo (by omega)
          have W9 : WF ((up2 μ 248 0 0) 249) := by rw [e9]; exact I.wf
          unfold f_X11_entry f_X11_entry_26 f_X11_entry_109
          rw [r_sref h1 h2, if_pos p, p_rb, p_lt (by omega), if_neg (by omega), p_lt (by omega), if_neg (by omega), r_entryOf W9 h1 h2 (by omega), e9, if_pos p2.2, he, p_rb, p_eq (by omega), if_neg (by omega), p_swD h4 (by simp only [List.length_cons, List.length_nil]; omega)]; rfl
    · refine op_ex I (e := 5) (i := 1) (x := 0) (b := 0) (μ2 := up2 (up2 μ 248 0 0) 248 0 2) ?_ rfl (by omega) ?_ (JT.th.up (by unfold jT; omega)) up2_s
      · unfold f_X10_entry f_X10_entry_38 f_X10_entry_147 f_X10_scriptOf
        rw [c_reqS h1 h2, if_pos p, p_rb, p_rb, p_lt (by omega)]
        by_cases z : w3 < 0
        · rw [if_pos z]
        · rw [if_neg z, p_rdI (by omega), hsz, p_lt (by omega), if_neg (by omega)]
      · have e9 : (up2 μ 248 0 0) 249 = μ 249 := up2_oo (by omega)
        have W9 : WF ((up2 μ 248 0 0) 249) := by rw [e9]; exact I.wf
        unfold f_X11_entry f_X11_entry_26
        rw [r_sref h1 h2, if_pos p, p_rb, p_lt (by omega), if_neg (by omega), p_lt (by omega)]
        by_cases z : w3 < 0
        · rw [if_pos z, p_eq (by omega), if_pos rfl]; rfl
        · rw [if_neg z, r_entryOf W9 h1 h2 (by omega), e9, if_neg (fun w => p2 ⟨by omega, w⟩), p_rb, p_eq (by omega), if_pos rfl]; rfl
  · refine op_ex I (e := 2) (i := 0) (x := 0) (b := 0) (μ2 := up2 μ 248 0 1) ?_ rfl (by omega) ?_ JT.th up2_s
    · unfold f_X10_entry
      rw [c_reqS h1 h2, if_neg p]; rfl
    · unfold f_X11_entry
      rw [r_sref h1 h2, if_neg p, p_rb, p_lt (by omega), if_pos (by omega)]
def S_scr (g : Nat → Int) (c q w : Int) : Int := if w = 0 then S_set g c q else if w = 1 then S_cnt g c q (g 144).toNat else if w = 2 then ((S_vals g c q).length : Int) else if w = 3 then S_state g c q else S_ap g c q 0
theorem S_state_bd {g : Nat → Int} {c q : Int} : 0 ≤ S_state g c q ∧ S_state g c q ≤ 2 := by
  unfold S_state
  split
  · omega
  · unfold S_stl
    split
    · omega
    · split <;> omega
    · omega
theorem o_script {T : Int} {μ : Mu} (I : Inv T μ) {w1 w2 w3 : Int} (h1 : iG w1) (h2 : iG w2) (h3 : iG w3) : OK T (lc_script w1 w2 w3 μ) := by
  unfold lc_script
  by_cases p : (0 ≤ w1 ∧ w1 < 8) ∧ (0 ≤ w2 ∧ w2 < 5)
  · have hsz := I.R.sz p.1 p.2
    have hap := I.R.ap p.1 p.2
    have ha0 := I.wf.ap0 p.1 p.2
    have hl3 := I.w3 w1 w2
    have h00 := cnt_0 (g := μ 249) (c := w1) (q := w2) (n := (μ 249 144).toNat)
    by_cases p3 : 0 ≤ w3 ∧ w3 ≤ 4
    · have hs := S_set_bd I.wf p.1 p.2
      have hst := S_state_bd (g := μ 249) (c := w1) (q := w2)
      have hvl := S_vals_len I.w3 (c := w1) (q := w2)
      have hi : iG (S_scr (μ 249) w1 w2 w3) := by
        unfold iG S_scr
        repeat' split
        all_goals omega
      obtain ⟨m0, s1, s2⟩ := c_settled I.wf I.w3 I.R p.1 p.2 rfl
      obtain ⟨m2, s3, s4, -⟩ := c_rvv I.wf I.w3 I.R p.1 p.2 rfl
      obtain ⟨m3, s5, s6⟩ := c_standing I.wf I.w3 I.R p.1 p.2 rfl
      refine op_ok I (μ1 := if w3 = 0 then m0 else if w3 = 2 then m2 else if w3 = 3 then m3 else μ) (x := S_scr (μ 249) w1 w2 w3) ?_ ?_ (hg0 hi) (fun μ => cI_ok hi) (fun μ9 I9 k9 => ?_)
      · unfold f_X10_script f_X10_scriptOf
        rw [c_reqS h1 h2, if_pos p, p_rb, c_reqR h3 (by unfold iG; omega) (by unfold iG; omega), if_pos p3, p_rb, p_rb, p_sw (by omega)]
        unfold S_scr
        rcases (show w3 = 0 ∨ w3 = 1 ∨ w3 = 2 ∨ w3 = 3 ∨ w3 = 4 by omega) with rfl | rfl | rfl | rfl | rfl
        · simp only [Int.toNat_zero, List.getD_cons_zero, ↓reduceIte]
          rw [s1, p_rb]
        · simp only [Int.toNat_one, List.getD_cons_zero, List.getD_cons_succ, Int.reduceEq, ↓reduceIte]
          rw [p_rdI (by omega), hsz]
        · simp only [Int.reduceToNat, List.getD_cons_zero, List.getD_cons_succ, Int.reduceEq, ↓reduceIte]
          rw [s3, p_rb]
        · simp only [Int.reduceToNat, List.getD_cons_zero, List.getD_cons_succ, Int.reduceEq, ↓reduceIte]
          rw [s5, p_rb]
        · simp only [Int.reduceToNat, List.getD_cons_zero, List.getD_cons_succ, List.getD_nil, Int.reduceEq, ↓reduceIte]
          rw [p_rdI (by omega), hap.1]
      · split
        · exact s2.ka
        · split
          · exact s4.ka
          · split
            · exact s6.ka
            · exact KA.rf μ
      · have e9 : (up2 μ9 248 0 0) 249 = μ 249 := by rw [up2_oo (by omega), k9.s]
        have W9 : WF ((up2 μ9 248 0 0) 249) := by rw [e9]; exact I.wf
        have W39 : WF3 ((up2 μ9 248 0 0) 249) := by rw [e9]; exact I.w3
        obtain ⟨n0, f1, f2, f3, -⟩ := r_finds W9 W39 h1 h2
        have en : n0 249 = μ 249 := by rw [f2.s, e9]
        have Wn : WF (n0 249) := by rw [en]; exact I.wf
        have W3n : WF3 (n0 249) := by rw [en]; exact I.w3
        obtain ⟨n1, t1, t2⟩ := r_settled Wn W3n p.1 p.2
        obtain ⟨n3, t3, t4⟩ := r_state Wn W3n p.1 p.2
        have j0 : JT μ9 n0 := JT.th.tr f2.r.jt
        have z0 : n0 248 0 = 0 := by rw [f2 248 0 (by unfold jF; omega), up2_s]
        refine ⟨if w3 = 0 then n1 else if w3 = 3 then n3 else n0, ?_, ?_, ?_⟩
        · unfold f_X11_script
          rw [r_sref h1 h2, if_pos p, p_rb, p_lt (by omega), if_neg (by omega), f1, p_rb, p_sw (by omega)]
          unfold S_scr
          rcases (show w3 = 0 ∨ w3 = 1 ∨ w3 = 2 ∨ w3 = 3 ∨ w3 = 4 by omega) with rfl | rfl | rfl | rfl | rfl
          · simp only [Int.toNat_zero, List.getD_cons_zero, ↓reduceIte]
            rw [t1, p_rb, en]
          · simp only [Int.toNat_one, List.getD_cons_zero, List.getD_cons_succ, Int.reduceEq, ↓reduceIte]
            rw [r_entries Wn h1 h2, p_rb, en]
          · simp only [Int.reduceToNat, List.getD_cons_zero, List.getD_cons_succ, Int.reduceEq, ↓reduceIte]
            rw [p_rdF, f3, e9]
          · simp only [Int.reduceToNat, List.getD_cons_zero, List.getD_cons_succ, Int.reduceEq, ↓reduceIte]
            rw [t3, p_rb, en]
          · simp only [Int.reduceToNat, List.getD_cons_zero, List.getD_cons_succ, Int.reduceEq, ↓reduceIte]
            rw [r_apP p.1 p.2 (by omega), p_rb, en]
        · split
          · exact j0.tr t2.r.jt
          · split
            · exact j0.tr t4.r.jt
            · exact j0
        · split
          · rw [t2 248 0 (by unfold jF; omega), z0]
          · split
            · rw [t4 248 0 (by unfold jF; omega), z0]
            · exact z0
    · have e9 : (up2 μ 248 0 0) 249 = μ 249 := up2_oo (by omega)
      obtain ⟨n0, f1, f2, f3, -⟩ := r_finds (μ := up2 μ 248 0 0) (by rw [e9]; exact I.wf) (by rw [e9]; exact I.w3) h1 h2
      refine op_ex I (e := 1) (i := 1) (x := 0) (b := 0) (μ2 := up2 n0 248 0 2) ?_ rfl (by omega) ?_ ((JT.th.tr f2.r.jt).up (by unfold jT; omega)) up2_s
      · unfold f_X10_script
        rw [c_reqS h1 h2, if_pos p, p_rb, c_reqR h3 (by unfold iG; omega) (by unfold iG; omega), if_neg p3]; rfl
      · unfold f_X11_script
        rw [r_sref h1 h2, if_pos p, p_rb, p_lt (by omega), if_neg (by omega), f1, p_rb, p_swD h3 (by simp only [List.length_cons, List.length_nil]; omega)]; rfl
  · refine op_ex I (e := 2) (i := 0) (x := 0) (b := 0) (μ2 := up2 μ 248 0 1) ?_ rfl (by omega) ?_ JT.th up2_s
    · unfold f_X10_script
      rw [c_reqS h1 h2, if_neg p]; rfl
    · unfold f_X11_script
      rw [r_sref h1 h2, if_neg p, p_rb, p_lt (by omega), if_pos (by omega)]
theorem o_curve {T : Int} {μ : Mu} (I : Inv T μ) {w1 : Int} (h1 : iG w1) : OK T (lc_curve w1 μ) := by
  have hf := S_full_bd I.wf
  unfold lc_curve
  by_cases p : 0 ≤ w1 ∧ w1 ≤ S_full (μ 249)
  · have hb := S_scl_bd I.wf (n := w1) (d := 1) p.1 (by omega) (by omega)
    have hi : iG (S_scl (μ 249) w1 1) := by unfold iG; omega
    refine op_ok I (μ1 := μ) (x := S_scl (μ 249) w1 1) ?_ (KA.rf μ) (hg0 hi) (fun μ => cI_ok hi) (fun μ9 I9 k9 => ?_)
    · unfold f_X10_curve
      rw [c_full I.R, p_rb, p_min (by omega)]
      rw [show (if S_full (μ 249) < 200 then S_full (μ 249) else 200) = S_full (μ 249) by split <;> omega, c_reqR h1 (by unfold iG; omega) (by unfold iG; omega), if_pos p, p_rb, p_2l (by omega), c_scale I.wf I.R (by omega) (by omega) rfl, p_rb]
    · have e9 : (up2 μ9 248 0 0) 249 = μ 249 := by rw [up2_oo (by omega), k9.s]
      have W9 : WF ((up2 μ9 248 0 0) 249) := by rw [e9]; exact I.wf
      refine ⟨up2 μ9 248 0 0, ?_, JT.th, up2_s⟩
      unfold f_X11_curve f_X11_curve_32
      rw [p_wrF, r_full W9, p_rb, e9, r_in h1 (by unfold iG; omega) (by unfold iG; omega), p_rb, b2_t p, p_eq (by omega), if_neg (by omega), p_2l (by omega), r_scaled W9 (by omega) (by omega), p_rb, e9]
  · refine op_ex I (e := 1) (i := 0) (x := 0) (b := 0) (μ2 := up2 (up2 μ 248 0 0) 248 0 1) ?_ rfl (by omega) ?_ (JT.th.up (by unfold jT; omega)) up2_s
    · unfold f_X10_curve
      rw [c_full I.R, p_rb, p_min (by omega)]
      rw [show (if S_full (μ 249) < 200 then S_full (μ 249) else 200) = S_full (μ 249) by split <;> omega, c_reqR h1 (by unfold iG; omega) (by unfold iG; omega), if_neg p]; rfl
    · have e9 : (up2 μ 248 0 0) 249 = μ 249 := up2_oo (by omega)
      have W9 : WF ((up2 μ 248 0 0) 249) := by rw [e9]; exact I.wf
      unfold f_X11_curve f_X11_curve_32
      rw [p_wrF, r_full W9, p_rb, e9, r_in h1 (by unfold iG; omega) (by unfold iG; omega), p_rb, b2_f p, p_eq (by omega), if_pos rfl]; rfl

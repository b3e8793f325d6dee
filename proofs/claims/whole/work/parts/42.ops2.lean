/-! results -/
theorem p_sw {α : Type} {x : Int} {L : List (Option α)} {D : Option α} (h : 0 ≤ x ∧ x < 2147483648) : i_sw x 0 L D = L.getD x.toNat D := by
  unfold i_sw
  rw [if_pos (by omega), if_neg (by omega), Int.sub_zero]
theorem p_swD {α : Type} {x : Int} {L : List (Option α)} {D : Option α} (h : iG x) (hx : x < 0 ∨ (L.length : Int) ≤ x) : i_sw x 0 L D = D := by
  unfold iG at h
  unfold i_sw
  rw [if_pos (by omega)]
  by_cases p : x < 0
  · rw [if_pos p]
  · rw [if_neg p, Int.sub_zero, List.getD_eq_getElem?_getD, List.getElem?_eq_none (by omega)]; rfl
theorem c_reqGr {T : Int} {μ : Mu} (I : Inv T μ) {c : Int} (hc : 0 ≤ c ∧ c < 8) : f_X10_requireGrade c μ = if S_hg (μ 249) c then some (μ, 0, 0) else some (μ, 6, 0) := by
  unfold f_X10_requireGrade
  rw [c_hasGrade I.wf I.w3 I.R hc, p_rb]
  by_cases p : S_hg (μ 249) c
  · rw [b2_t p, if_pos p]; rfl
  · rw [b2_f p, if_neg p]; rfl
theorem o_find {T : Int} {μ : Mu} (I : Inv T μ) {c : Int} (hc : 0 ≤ c ∧ c < 8) : ∃ μ', f_X5_find (232 + 2 * c.toNat) 1 c μ = some (μ', 0, 0) ∧ RF μ μ' 1 (232 + 2 * c.toNat) (μ 249) c (S_set (μ 249) c) ∧ KA μ μ' := by
  obtain ⟨μ', a1, a2⟩ := c_find (o := 232 + 2 * c.toNat) I.wf I.w3 I.wx I.R (by omega) hc
  exact ⟨μ', a1, a2, RF.ka hc a2⟩
theorem r_gradesOf {μ : Mu} (h : WF (μ 249)) (h3 : WF3 (μ 249)) (hx : WFx (μ 249)) {c : Int} (hc : 0 ≤ c ∧ c < 8) : ∃ μ1 μ2, f_X11_marksOf c μ = some (μ1, 0, 0) ∧ f_X11_grades c μ1 = some (μ2, 0, 0) ∧ JR μ μ2 ∧ μ2 248 15 = S_num (μ 249) c (S_set (μ 249) c) ∧ μ2 248 16 = S_den (μ 249) c (S_set (μ 249) c) ∧ μ2 248 17 = S_mkd (μ 249) c (S_set (μ 249) c) ∧ μ2 248 18 = S_plain (μ 249) c (S_set (μ 249) c) ∧ μ2 248 19 = S_grade (μ 249) c (S_set (μ 249) c) := by
  obtain ⟨μ1, a1, a2, a3⟩ := r_marksOf h h3 hc
  have e := a2.s
  obtain ⟨μ2, b1, b2'⟩ := r_grades (μ := μ1) (by rw [e]; exact h) (by rw [e]; exact hx) hc (M := S_set (μ 249) c) (S_set_ok h hc) a3
  unfold RG at b2'
  rw [e] at b2'
  exact ⟨μ1, μ2, a1, b1, a2.tr b2'.1, b2'.2.2⟩
def S_res (g : Nat → Int) (c w : Int) : Int := if w = 0 then S_num g c (S_set g c) else if w = 1 then S_den g c (S_set g c) else if w = 2 then S_mkd g c (S_set g c) else if w = 3 then S_plain g c (S_set g c) else if w = 4 then S_grade g c (S_set g c) else b2 (S_grade g c (S_set g c) < S_plain g c (S_set g c))
theorem S_res_bd {g : Nat → Int} (h : WF g) (hx : WFx g) {c w : Int} (hc : 0 ≤ c ∧ c < 8) : 0 ≤ S_res g c w ∧ S_res g c w ≤ 528000000 := by
  have n := S_num_bd h hx hc (S_set_ok h hc)
  have m := S_mkd_bd h hx hc (S_set_ok h hc)
  have p : 0 ≤ S_plain g c (S_set g c) ∧ S_plain g c (S_set g c) ≤ 4 := S_pl_bd
  have r := S_gr_bd (g := g) (c := c) (M := S_set g c)
  have b := b2_01 (S_grade g c (S_set g c) < S_plain g c (S_set g c))
  unfold S_res
  repeat' split
  all_goals omega
theorem r_res38 {T : Int} {μ : Mu} (I : Inv T μ) {c w : Int} (hc : 0 ≤ c ∧ c < 8) (hw : 0 ≤ w ∧ w ≤ 5) : ∃ μ', f_X11_result_38 c w 0 μ = some (μ', 0, S_res (μ 249) c w) ∧ JT μ μ' ∧ μ' 248 0 = 0 := by
  have e : (up2 μ 248 0 0) 249 = μ 249 := up2_oo (by omega)
  obtain ⟨μ1, μ2, a1, a2, a3, g1, g2, g3, g4, g5⟩ := r_gradesOf (μ := up2 μ 248 0 0) (by rw [e]; exact I.wf) (by rw [e]; exact I.w3) (by rw [e]; exact I.wx) hc
  rw [e] at g1 g2 g3 g4 g5
  have m := S_mkd_bd I.wf I.wx hc (S_set_ok I.wf hc)
  have p : 0 ≤ S_plain (μ 249) c (S_set (μ 249) c) ∧ S_plain (μ 249) c (S_set (μ 249) c) ≤ 4 := S_pl_bd
  have r := S_gr_bd (g := μ 249) (c := c) (M := S_set (μ 249) c)
  refine ⟨μ2, ?_, JT.th.tr a3.jt, ?_⟩
  · unfold f_X11_result_38 f_X11_result_140
    rw [p_wrF, p_rdF, up2_s, p_lt (by omega), if_neg (by omega), a1, p_rb, a2, p_rb, p_sw (by omega)]
    unfold S_res
    rcases (show w = 0 ∨ w = 1 ∨ w = 2 ∨ w = 3 ∨ w = 4 ∨ w = 5 by omega) with rfl | rfl | rfl | rfl | rfl | rfl
    · simp (disch := omega) only [Int.reduceToNat, Int.toNat_zero, Int.toNat_one, List.getD_cons_zero, List.getD_cons_succ, List.getD_nil, p_rdF, p_2l, g1, g2, g3, g4, g5, Int.reduceEq, ↓reduceIte]
    · simp (disch := omega) only [Int.reduceToNat, Int.toNat_zero, Int.toNat_one, List.getD_cons_zero, List.getD_cons_succ, List.getD_nil, p_rdF, p_2l, g1, g2, g3, g4, g5, Int.reduceEq, ↓reduceIte]
    · simp (disch := omega) only [Int.reduceToNat, Int.toNat_zero, Int.toNat_one, List.getD_cons_zero, List.getD_cons_succ, List.getD_nil, p_rdF, p_2l, g1, g2, g3, g4, g5, Int.reduceEq, ↓reduceIte]
    · simp (disch := omega) only [Int.reduceToNat, Int.toNat_zero, Int.toNat_one, List.getD_cons_zero, List.getD_cons_succ, List.getD_nil, p_rdF, p_2l, g1, g2, g3, g4, g5, Int.reduceEq, ↓reduceIte]
    · simp (disch := omega) only [Int.reduceToNat, Int.toNat_zero, Int.toNat_one, List.getD_cons_zero, List.getD_cons_succ, List.getD_nil, p_rdF, p_2l, g1, g2, g3, g4, g5, Int.reduceEq, ↓reduceIte]
    · simp (disch := omega) only [Int.reduceToNat, Int.toNat_zero, Int.toNat_one, List.getD_cons_zero, List.getD_cons_succ, List.getD_nil, p_rdF, p_2l, g1, g2, g3, g4, g5, Int.reduceEq, ↓reduceIte]
      rw [p_lt (by omega)]
      by_cases q : S_grade (μ 249) c (S_set (μ 249) c) < S_plain (μ 249) c (S_set (μ 249) c)
      · rw [if_pos q, b2_t q]
      · rw [if_neg q, b2_f q]
  · rw [a3 248 0 (by unfold jR; omega), up2_s]
theorem o_result {T : Int} {μ : Mu} (I : Inv T μ) {w1 w2 : Int} (h1 : iG w1) (h2 : iG w2) : OK T (lc_result w1 w2 μ) := by
  unfold lc_result
  have exc : ∀ (i : Nat) (s : Int), s = (i : Int) + 1 → i < 3 → f_X11_result_38 w1 w2 s μ = some (up2 μ 248 0 s, 0, 0) := by
    intro i s hs hi
    unfold f_X11_result_38
    rw [p_wrF, p_rdF, up2_s, p_lt (by omega), if_pos (by omega)]
  by_cases p : 0 ≤ w1 ∧ w1 < 8
  · by_cases p2 : 0 ≤ w2 ∧ w2 ≤ 5
    · by_cases p3 : S_hg (μ 249) w1
      · have hb := S_res_bd I.wf I.wx (w := w2) p
        obtain ⟨μ1, a1, a2, a3⟩ := o_find I p
        refine op_ok I (μ1 := μ1) (x := S_res (μ 249) w1 w2) ?_ a3 rfl (fun μ => cL_ok (by omega)) (fun μ9 I9 k9 => ?_)
        · obtain ⟨-, -, g1, g2, g3, g4, g5⟩ := a2
          have m := S_mkd_bd I.wf I.wx p (S_set_ok I.wf p)
          have q : 0 ≤ S_plain (μ 249) w1 (S_set (μ 249) w1) ∧ S_plain (μ 249) w1 (S_set (μ 249) w1) ≤ 4 := S_pl_bd
          have r := S_gr_bd (g := μ 249) (c := w1) (M := S_set (μ 249) w1)
          unfold f_X10_result f_X10_result_112
          rw [c_reqC h1, if_pos p, p_rb, c_reqR h2 (by unfold iG; omega) (by unfold iG; omega), if_pos p2, p_rb, c_reqGr I p, if_pos p3, p_rb, p_rdA (by omega), a1, p_rb, p_sw (by omega)]
          unfold S_res
          generalize 232 + 2 * w1.toNat = o at g1 g2 g3 g4 g5
          rcases (show w2 = 0 ∨ w2 = 1 ∨ w2 = 2 ∨ w2 = 3 ∨ w2 = 4 ∨ w2 = 5 by omega) with rfl | rfl | rfl | rfl | rfl | rfl
          · simp (disch := omega) only [Int.reduceToNat, Int.toNat_zero, Int.toNat_one, List.getD_cons_zero, List.getD_cons_succ, List.getD_nil, p_rdF, p_2l, g1, g2, g3, g4, g5, Int.reduceEq, ↓reduceIte]
          · simp (disch := omega) only [Int.reduceToNat, Int.toNat_zero, Int.toNat_one, List.getD_cons_zero, List.getD_cons_succ, List.getD_nil, p_rdF, p_2l, g1, g2, g3, g4, g5, Int.reduceEq, ↓reduceIte]
          · simp (disch := omega) only [Int.reduceToNat, Int.toNat_zero, Int.toNat_one, List.getD_cons_zero, List.getD_cons_succ, List.getD_nil, p_rdF, p_2l, g1, g2, g3, g4, g5, Int.reduceEq, ↓reduceIte]
          · simp (disch := omega) only [Int.reduceToNat, Int.toNat_zero, Int.toNat_one, List.getD_cons_zero, List.getD_cons_succ, List.getD_nil, p_rdF, p_2l, g1, g2, g3, g4, g5, Int.reduceEq, ↓reduceIte]
          · simp (disch := omega) only [Int.reduceToNat, Int.toNat_zero, Int.toNat_one, List.getD_cons_zero, List.getD_cons_succ, List.getD_nil, p_rdF, p_2l, g1, g2, g3, g4, g5, Int.reduceEq, ↓reduceIte]
          · simp (disch := omega) only [Int.reduceToNat, Int.toNat_zero, Int.toNat_one, List.getD_cons_zero, List.getD_cons_succ, List.getD_nil, p_rdF, p_2l, g1, g2, g3, g4, g5, Int.reduceEq, ↓reduceIte]
            rw [p_lt (by omega)]
            by_cases z : S_grade (μ 249) w1 (S_set (μ 249) w1) < S_plain (μ 249) w1 (S_set (μ 249) w1)
            · rw [if_pos z, b2_t z]
            · rw [if_neg z, b2_f z]
        · obtain ⟨μ2, b1, b2', b3⟩ := r_res38 I9 (w := w2) p p2
          refine ⟨μ2, ?_, b2', b3⟩
          unfold f_X11_result
          rw [r_cand h1, p_rb, b2_t (by omega), p_eq (by omega), if_neg (by omega), r_in h2 (by unfold iG; omega) (by unfold iG; omega), p_rb, b2_t p2, p_eq (by omega), if_neg (by omega), r_hasGrade I9.wf h1, p_rb, k9.s, b2_t p3, p_eq (by omega), if_neg (by omega), b1, k9.s]
      · refine op_ex I (e := 5) (i := 2) (x := 0) (b := 0) (μ2 := up2 μ 248 0 3) ?_ rfl (by omega) ?_ JT.th up2_s
        · unfold f_X10_result
          rw [c_reqC h1, if_pos p, p_rb, c_reqR h2 (by unfold iG; omega) (by unfold iG; omega), if_pos p2, p_rb, c_reqGr I p, if_neg p3]; rfl
        · unfold f_X11_result
          rw [r_cand h1, p_rb, b2_t (by omega), p_eq (by omega), if_neg (by omega), r_in h2 (by unfold iG; omega) (by unfold iG; omega), p_rb, b2_t p2, p_eq (by omega), if_neg (by omega), r_hasGrade I.wf h1, p_rb, b2_f p3, p_eq (by omega), if_pos rfl, exc 2 3 rfl (by omega)]
    · refine op_ex I (e := 1) (i := 1) (x := 0) (b := 0) (μ2 := up2 μ 248 0 2) ?_ rfl (by omega) ?_ JT.th up2_s
      · unfold f_X10_result
        rw [c_reqC h1, if_pos p, p_rb, c_reqR h2 (by unfold iG; omega) (by unfold iG; omega), if_neg p2]; rfl
      · unfold f_X11_result
        rw [r_cand h1, p_rb, b2_t (by omega), p_eq (by omega), if_neg (by omega), r_in h2 (by unfold iG; omega) (by unfold iG; omega), p_rb, b2_f p2, p_eq (by omega), if_pos rfl, exc 1 2 rfl (by omega)]
  · refine op_ex I (e := 2) (i := 0) (x := 0) (b := 0) (μ2 := up2 μ 248 0 1) ?_ rfl (by omega) ?_ JT.th up2_s
    · unfold f_X10_result
      rw [c_reqC h1, if_neg p]; rfl
    · unfold f_X11_result
      rw [r_cand h1, p_rb, b2_f (by omega), p_eq (by omega), if_pos rfl, exc 0 1 rfl (by omega)]
theorem r_gradeWith {μ : Mu} (h : WF (μ 249)) (h3 : WF3 (μ 249)) (hx : WFx (μ 249)) {c q v : Int} (hc : 0 ≤ c ∧ c < 8) (hq : 0 ≤ q ∧ q < 5) (hv : 0 ≤ v ∧ v ≤ 40) : ∃ μ', f_X11_gradeWith c q v μ = some (μ', 0, S_grade (μ 249) c (S_with (S_set (μ 249) c) q (v * 120))) ∧ JR μ μ' := by
  obtain ⟨μ1, a1, a2, a3⟩ := r_marksOf h h3 hc
  have e := a2.s
  have e2 : (up2 μ1 256 q.toNat (v * 120)) 249 = μ 249 := by rw [up2_oo (by omega), e]
  obtain ⟨μ2, b1, b2'⟩ := r_grades (μ := up2 μ1 256 q.toNat (v * 120)) (by rw [e2]; exact h) (by rw [e2]; exact hx) hc (M := S_with (S_set (μ 249) c) q (v * 120)) (fun j x y => by
    have := S_set_ok h hc j x y
    unfold S_with
    split <;> omega) (fun j x y => by
    unfold S_with
    by_cases w : j = q
    · subst w; rw [if_pos rfl]; exact up2_s
    · rw [if_neg w, up2_k (by omega)]; exact a3 j x y)
  unfold RG at b2'
  rw [e2] at b2'
  refine ⟨μ2, ?_, (a2.up (by unfold jR; omega)).tr b2'.1⟩
  unfold f_X11_gradeWith
  rw [a1, p_rb, p_wrI (by omega), b1, p_rb, p_rdF, b2'.2.2.2.2.2.2]
theorem o_gradeIf {T : Int} {μ : Mu} (I : Inv T μ) {w1 w2 w3 : Int} (h1 : iG w1) (h2 : iG w2) (h3 : iG w3) : OK T (lc_gradeIf w1 w2 w3 μ) := by
  unfold lc_gradeIf
  by_cases p : (0 ≤ w1 ∧ w1 < 8) ∧ (0 ≤ w2 ∧ w2 < 5)
  · have hmx := I.wf.mx p.2
    by_cases p2 : 0 ≤ w3 ∧ w3 ≤ μ 249 w2.toNat
    · by_cases p3 : S_hg (μ 249) w1
      · obtain ⟨μ1, a1, a2, a3⟩ := o_find I p.1
        have e1 : μ1 249 = μ 249 := a3.s
        obtain ⟨μ2, b1, b2'⟩ := c_suppose (μ := μ1) (b := 1) (o := 232 + 2 * w1.toNat) (g := μ 249) (M := S_set (μ 249) w1) I.wf I.wx (a3.RB I.R) (by omega) p.1 p.2 (v := w3) (by omega) (S_set_ok I.wf p.1) a2.2.1
        have r := S_gr_bd (g := μ 249) (c := w1) (M := S_with (S_set (μ 249) w1) w2 (w3 * 120))
        have hi : iG (S_grade (μ 249) w1 (S_with (S_set (μ 249) w1) w2 (w3 * 120))) := by unfold iG; omega
        refine op_ok I (μ1 := μ2) (x := S_grade (μ 249) w1 (S_with (S_set (μ 249) w1) w2 (w3 * 120))) ?_ (a3.tr (RF.ka p.1 b2')) (hg0 hi) (fun μ => cI_ok hi) (fun μ9 I9 k9 => ?_)
        · unfold f_X10_gradeIf
          rw [c_reqS h1 h2, if_pos p, p_rb, p_rdI (by omega), I.R.mx p.2, c_reqR h3 (by unfold iG; omega) (by unfold iG; omega), if_pos p2, p_rb, c_reqGr I p.1, if_pos p3, p_rb, p_rdA (by omega), a1, p_rb, b1, p_rb, p_rdF, b2'.2.2.2.2.2.2]
        · have e : (up2 μ9 248 0 0) 249 = μ 249 := by rw [up2_oo (by omega), k9.s]
          obtain ⟨μ3, d1, d2⟩ := r_gradeWith (μ := up2 μ9 248 0 0) (by rw [e]; exact I.wf) (by rw [e]; exact I.w3) (by rw [e]; exact I.wx) p.1 p.2 (v := w3) (by omega)
          refine ⟨μ3, ?_, JT.th.tr d2.jt, by rw [d2 248 0 (by unfold jR; omega), up2_s]⟩
          unfold f_X11_gradeIf f_X11_gradeIf_56
          rw [r_sref h1 h2, if_pos p, p_rb, p_lt (by omega), if_neg (by omega), p_rdI (by omega), Int.zero_add, e, r_in h3 (by unfold iG; omega) (by unfold iG; omega), p_rb, b2_t p2, p_eq (by omega), if_neg (by omega), r_hasGrade (by rw [e]; exact I.wf) h1, p_rb, e, b2_t p3, p_eq (by omega), if_neg (by omega), d1, p_rb, e]
      · refine op_ex I (e := 5) (i := 2) (x := 0) (b := 0) (μ2 := up2 (up2 μ 248 0 0) 248 0 3) ?_ rfl (by omega) ?_ (JT.th.up (by unfold jT; omega)) up2_s
        · unfold f_X10_gradeIf
          rw [c_reqS h1 h2, if_pos p, p_rb, p_rdI (by omega), I.R.mx p.2, c_reqR h3 (by unfold iG; omega) (by unfold iG; omega), if_pos p2, p_rb, c_reqGr I p.1, if_neg p3]; rfl
        · have e : (up2 μ 248 0 0) 249 = μ 249 := up2_oo (by omega)
          unfold f_X11_gradeIf f_X11_gradeIf_56
          rw [r_sref h1 h2, if_pos p, p_rb, p_lt (by omega), if_neg (by omega), p_rdI (by omega), Int.zero_add, e, r_in h3 (by unfold iG; omega) (by unfold iG; omega), p_rb, b2_t p2, p_eq (by omega), if_neg (by omega), r_hasGrade (by rw [e]; exact I.wf) h1, p_rb, e, b2_f p3, p_eq (by omega), if_pos rfl]; rfl
    · refine op_ex I (e := 1) (i := 1) (x := 0) (b := 0) (μ2 := up2 (up2 μ 248 0 0) 248 0 2) ?_ rfl (by omega) ?_ (JT.th.up (by unfold jT; omega)) up2_s
      · unfold f_X10_gradeIf
        rw [c_reqS h1 h2, if_pos p, p_rb, p_rdI (by omega), I.R.mx p.2, c_reqR h3 (by unfold iG; omega) (by unfold iG; omega), if_neg p2]; rfl
      · have e : (up2 μ 248 0 0) 249 = μ 249 := up2_oo (by omega)
        unfold f_X11_gradeIf f_X11_gradeIf_56
        rw [r_sref h1 h2, if_pos p, p_rb, p_lt (by omega), if_neg (by omega), p_rdI (by omega), Int.zero_add, e, r_in h3 (by unfold iG; omega) (by unfold iG; omega), p_rb, b2_f p2, p_eq (by omega), if_pos rfl]; rfl
  · refine op_ex I (e := 2) (i := 0) (x := 0) (b := 0) (μ2 := up2 μ 248 0 1) ?_ rfl (by omega) ?_ JT.th up2_s
    · unfold f_X10_gradeIf
      rw [c_reqS h1 h2, if_neg p]; rfl
    · unfold f_X11_gradeIf
      rw [r_sref h1 h2, if_neg p, p_rb, p_lt (by omega), if_pos (by omega)]

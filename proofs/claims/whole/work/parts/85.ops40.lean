/-! is the text a sheet? the reference -/
theorem tq_Fb {t : Int → Int} {L i : Int} (h : TY t L) (hi : 0 ≤ i ∧ i ≤ L) : i ≤ tq_F t i ∧ tq_F t i ≤ L := by
  unfold tq_F
  by_cases p : 48 ≤ t i ∧ t i ≤ 55
  · have l1 := h.lt (j := i) (by omega)
    rw [if_pos p]
    by_cases q : t (i + 1) = 61
    · have l2 := h.lt (j := i + 1) (by omega)
      rw [if_pos q]; omega
    · rw [if_neg q]; omega
  · rw [if_neg p]; omega
theorem tq_posb {t : Int → Int} {L : Int} (h : TY t L) : ∀ (n : Nat) (i : Int), 0 ≤ i → i ≤ L → i ≤ tq_pos t n i ∧ tq_pos t n i ≤ L
  | 0, i, h0, hi => ⟨Int.le_refl _, hi⟩
  | n + 1, i, h0, hi => by
    simp only [tq_pos]
    by_cases p : tq_E t i
    · have jb := tq_Jb h p
      rw [if_pos p]
      by_cases q : t (tq_J t i) = 44
      · have lt := h.lt (j := tq_J t i) (by omega)
        have := tq_posb h n (tq_J t i + 1) (by omega) (by omega)
        rw [if_pos q]; omega
      · rw [if_neg q]; omega
    · rw [if_neg p]; exact tq_Fb h ⟨h0, hi⟩
def tq_shok (t : Int → Int) (L : Int) : Int := if 48 ≤ t 0 ∧ t 0 ≤ 51 then (if t 1 = 47 then (if 48 ≤ t 2 ∧ t 2 ≤ 52 then (if t 3 = 58 then tq_ok t L 60 4 else 0) else 0) else 0) else 0
def tq_shpos (t : Int → Int) : Int := if 48 ≤ t 0 ∧ t 0 ≤ 51 then (if t 1 = 47 then (if 48 ≤ t 2 ∧ t 2 ≤ 52 then (if t 3 = 58 then tq_pos t 60 4 else 3) else 2) else 1) else 0
def tq_T4 (μ : Mu) : Option Res := rb (f_X11_readsEntry μ) fun μ _ => f_X11_isSheet_40 (fun μ => f_X11_isSheet_73 μ) FU μ
def tq_T3 (μ : Mu) : Option Res := rb (f_X11_must 58 μ) fun μ _ => tq_T4 μ
def tq_T2 (μ : Mu) : Option Res := rb (f_X11_digit 52 μ) fun μ _ => tq_T3 μ
def tq_T1 (μ : Mu) : Option Res := rb (f_X11_must 47 μ) fun μ _ => tq_T2 μ
theorem r_73 {m : Mu} {t : Int → Int} {L i r : Int} (h : TY t L) (R : TYr m t L) (S : SQ m i r) (hr : r = 0 ∨ r = 1) (hi : 0 ≤ i ∧ i ≤ L) : ∃ μ', f_X11_isSheet_73 m = some (μ', 0, b2 (r = 1 ∧ i = L)) ∧ JP m μ' ∧ μ' 248 21 = i ∧ μ' 248 22 = b2 (r = 1 ∧ i = L) := by
  have hL := h.1
  have t97 : ∀ x : Int, (x = 0 ∨ x = 1) → f_X11_isSheet_97 x m = some (up2 m 248 22 x, 0, x) := fun x hx => by
    unfold f_X11_isSheet_97
    rw [p_wrZ hx, p_rdF, up2_s, p_Z hx]
  unfold f_X11_isSheet_73 f_X11_isSheet_96
  rw [p_rdF, S.2, p_eq (by omega)]
  by_cases z : r = 0
  · rw [if_pos z, t97 0 (Or.inl rfl), b2_f (by omega)]
    exact ⟨_, rfl, (JP.rf m).up (by omega), (up2_k (by omega)).trans S.1, up2_s⟩
  · rw [if_neg z, p_rdF, S.1, p_rdF, R.1, p_eq (by omega)]
    by_cases y : i = L
    · rw [if_pos y, t97 1 (Or.inr rfl), b2_t (by omega)]
      exact ⟨_, rfl, (JP.rf m).up (by omega), (up2_k (by omega)).trans S.1, up2_s⟩
    · rw [if_neg y, t97 0 (Or.inl rfl), b2_f (by omega)]
      exact ⟨_, rfl, (JP.rf m).up (by omega), (up2_k (by omega)).trans S.1, up2_s⟩
theorem r_T4d {m : Mu} {t : Int → Int} {L i : Int} (h : TY t L) (R : TYr m t L) (S : SQ m i 0) (hi : 0 ≤ i ∧ i ≤ L) : ∃ μ', tq_T4 m = some (μ', 0, 0) ∧ JP m μ' ∧ μ' 248 21 = i := by
  obtain ⟨m1, a1, j1, s1⟩ := r_rEd h R S hi
  obtain ⟨m2, a2, j2, s2, -⟩ := r_73 h (R.jp j1) s1 (Or.inl rfl) hi
  rw [b2_f (by omega)] at a2
  refine ⟨m2, ?_, j1.tr j2, s2⟩
  have e : ∀ fu : Nat, f_X11_isSheet_40 (fun μ => f_X11_isSheet_73 μ) (fu + 1) m1 = f_X11_isSheet_73 m1 := fun fu => by
    rw [f_X11_isSheet_40, p_rdF, s1.2, p_eq (by omega), if_pos rfl]
  have f : FU = 99999 + 1 := rfl
  unfold tq_T4
  rw [a1, p_rb, f, e, a2]
theorem r_T3d {m : Mu} {t : Int → Int} {L i r : Int} (h : TY t L) (R : TYr m t L) (S : SQ m i r) (hi : 0 ≤ i ∧ i ≤ L) (e : r = 0 ∨ (r = 1 ∧ t i ≠ 58)) : ∃ μ', tq_T3 m = some (μ', 0, 0) ∧ JP m μ' ∧ μ' 248 21 = i := by
  obtain ⟨m1, a1, j1, s1⟩ := r_mf h R S hi (c := 58) (by omega) e
  obtain ⟨m2, a2, j2, s2⟩ := r_T4d h (R.jp j1.jp) s1 hi
  refine ⟨m2, ?_, j1.jp.tr j2, s2⟩
  unfold tq_T3
  rw [a1, p_rb, a2]
theorem r_T2d {m : Mu} {t : Int → Int} {L i r : Int} (h : TY t L) (R : TYr m t L) (S : SQ m i r) (hi : 0 ≤ i ∧ i ≤ L) (e : r = 0 ∨ (r = 1 ∧ ¬ (48 ≤ t i ∧ t i ≤ 52))) : ∃ μ', tq_T2 m = some (μ', 0, 0) ∧ JP m μ' ∧ μ' 248 21 = i := by
  obtain ⟨m1, a1, j1, s1⟩ := r_df h R S hi (c := 52) (by omega) e
  obtain ⟨m2, a2, j2, s2⟩ := r_T3d h (R.jp j1.jp) s1 hi (Or.inl rfl)
  refine ⟨m2, ?_, j1.jp.tr j2, s2⟩
  unfold tq_T2
  rw [a1, p_rb, a2]
theorem r_T1d {m : Mu} {t : Int → Int} {L i r : Int} (h : TY t L) (R : TYr m t L) (S : SQ m i r) (hi : 0 ≤ i ∧ i ≤ L) (e : r = 0 ∨ (r = 1 ∧ t i ≠ 47)) : ∃ μ', tq_T1 m = some (μ', 0, 0) ∧ JP m μ' ∧ μ' 248 21 = i := by
  obtain ⟨m1, a1, j1, s1⟩ := r_mf h R S hi (c := 47) (by omega) e
  obtain ⟨m2, a2, j2, s2⟩ := r_T2d h (R.jp j1.jp) s1 hi (Or.inl rfl)
  refine ⟨m2, ?_, j1.jp.tr j2, s2⟩
  unfold tq_T1
  rw [a1, p_rb, a2]
theorem r_isSheet {μ : Mu} {t : Int → Int} {L : Int} (h : TY t L) (R : TYr μ t L) : ∃ μ', f_X11_isSheet μ = some (μ', 0, tq_shok t L) ∧ JP μ μ' ∧ (tq_shok t L = 0 → μ' 248 21 = tq_shpos t) ∧ (tq_shok t L = 1 → μ' 248 22 = 1) := by
  have hL := h.1
  have j0 : JP μ (up2 (up2 μ 248 21 0) 248 22 1) := ((JP.rf μ).up (by omega)).up (by omega)
  have s0 : SQ (up2 (up2 μ 248 21 0) 248 22 1) 0 1 := ⟨(up2_k (by omega)).trans up2_s, up2_s⟩
  have e0 : f_X11_isSheet μ = rb (f_X11_digit 51 (up2 (up2 μ 248 21 0) 248 22 1)) fun μ _ => tq_T1 μ := by
    unfold f_X11_isSheet
    rw [p_wrF, p_wrZ (Or.inr rfl)]; rfl
  rw [e0]
  unfold tq_shok tq_shpos
  by_cases p1 : 48 ≤ t 0 ∧ t 0 ≤ 51
  · have l1 := h.lt (j := 0) (by omega)
    obtain ⟨m1, a1, j1, s1⟩ := r_dt h (R.jp j0) s0 (by omega) (c := 51) (by omega) p1
    have j1 := j0.tr j1.jp
    have s1 : SQ m1 1 1 := s1
    rw [a1, p_rb, if_pos p1, if_pos p1]
    by_cases p2 : t 1 = 47
    · have l2 := h.lt (j := 1) (by omega)
      obtain ⟨m2, a2, j2, s2⟩ := r_mt h (R.jp j1) s1 (by omega) (c := 47) (by omega) p2
      have j2 := j1.tr j2.jp
      have s2 : SQ m2 2 1 := s2
      unfold tq_T1
      rw [a2, p_rb, if_pos p2, if_pos p2]
      by_cases p3 : 48 ≤ t 2 ∧ t 2 ≤ 52
      · have l3 := h.lt (j := 2) (by omega)
        obtain ⟨m3, a3, j3, s3⟩ := r_dt h (R.jp j2) s2 (by omega) (c := 52) (by omega) p3
        have j3 := j2.tr j3.jp
        have s3 : SQ m3 3 1 := s3
        unfold tq_T2
        rw [a3, p_rb, if_pos p3, if_pos p3]
        by_cases p4 : t 3 = 58
        · have l4 := h.lt (j := 3) (by omega)
          obtain ⟨m4, a4, j4, s4⟩ := r_mt h (R.jp j3) s3 (by omega) (c := 58) (by omega) p4
          have j4 := j3.tr j4.jp
          have s4 : SQ m4 4 1 := s4
          obtain ⟨m5, r, a5, j5, s5, r5, o5⟩ := r_loop h (fun μ => f_X11_isSheet_73 μ) 60 FU 4 m4 (R.jp j4) s4 (by omega) (by omega) (by omega) (by unfold FU; omega)
          have a5 : (rb (f_X11_readsEntry m4) fun μ _ => f_X11_isSheet_40 (fun μ => f_X11_isSheet_73 μ) FU μ) = f_X11_isSheet_73 m5 := a5
          have j5 := j4.tr j5
          have pb := tq_posb h 60 4 (by omega) (by omega)
          obtain ⟨m6, a6, j6, s6, u6⟩ := r_73 h (R.jp j5) s5 r5 (by omega)
          unfold tq_T3
          rw [a4, p_rb, if_pos p4, if_pos p4]
          unfold tq_T4
          rw [a5, a6, o5]
          exact ⟨m6, rfl, j5.tr j6, fun _ => s6, fun w => by rw [u6, o5]; exact w⟩
        · obtain ⟨m4, a4, j4, s4⟩ := r_T3d h (R.jp j3) s3 (by omega) (Or.inr ⟨rfl, p4⟩)
          rw [a4, if_neg p4, if_neg p4]
          exact ⟨m4, rfl, j3.tr j4, fun _ => s4, fun w => by omega⟩
      · obtain ⟨m3, a3, j3, s3⟩ := r_T2d h (R.jp j2) s2 (by omega) (Or.inr ⟨rfl, p3⟩)
        rw [a3, if_neg p3, if_neg p3]
        exact ⟨m3, rfl, j2.tr j3, fun _ => s3, fun w => by omega⟩
    · obtain ⟨m2, a2, j2, s2⟩ := r_T1d h (R.jp j1) s1 (by omega) (Or.inr ⟨rfl, p2⟩)
      rw [a2, if_neg p2, if_neg p2]
      exact ⟨m2, rfl, j1.tr j2, fun _ => s2, fun w => by omega⟩
  · obtain ⟨m1, a1, j1, s1⟩ := r_df h (R.jp j0) s0 (by omega) (c := 51) (by omega) (Or.inr ⟨rfl, p1⟩)
    have j1 := j0.tr j1.jp
    obtain ⟨m2, a2, j2, s2⟩ := r_T1d h (R.jp j1) s1 (by omega) (Or.inl rfl)
    rw [a1, p_rb, a2, if_neg p1, if_neg p1]
    exact ⟨m2, rfl, j1.tr j2, fun _ => s2, fun w => by omega⟩

/-! validBits -/
def S_vn (g : Nat → Int) (m : Int) : Int := sm (fun e => b2 (S_em g e = m)) (g 144).toNat 0
abbrev S_mo (g : Nat → Int) (m e : Int) : Prop := S_em g e = m ∧ S_ok g e
def S_vv (g : Nat → Int) (m : Int) : Int := sm (fun e => b2 (S_mo g m e)) (g 144).toNat 0
theorem c_valid {μ : Mu} {g : Nat → Int} (h : WF g) (h3 : WF3 g) (R : RB μ 1 g) {m : Int} (hm : 0 ≤ m ∧ m < 4) (K : Int → Int → Mu → Option Res) : f_X10_validBits_11 m K FU 0 0 0 μ = K (S_vv g m) (S_vn g m) μ := by
  have key := loop_up (S := Int × Int) (fun fu s v => f_X10_validBits_11 m K fu s.1 s.2 v μ) (fun s => K s.1 s.2 μ) (fun s v => (s.1 + S_so g (fun e => b2 (S_mo g m e)) v, s.2 + S_so g (fun e => b2 (S_em g e = m)) v)) 120 (fun s v => 0 ≤ v ∧ v ≤ 120) ?_ (fun s v hi hlt => by omega) 120 FU (0, 0) 0 (by omega) (by omega) (by unfold FU; omega)
  · rw [itS_sm2, slots_sum h h3, slots_sum h h3, Int.zero_add, Int.zero_add] at key
    exact key
  · intro fu s v hi
    show f_X10_validBits_11 m K (fu + 1) s.1 s.2 v μ = _
    rw [f_X10_validBits_11, p_lt (by omega)]
    by_cases hv : v < 120
    · rw [if_pos hv, if_pos hv]
      have ht := h.tot
      have hsz := R.sz (c := v / 15) (q := v / 3 % 5) (by omega) (by omega)
      have hln := ents_len g (v / 15) (v / 3 % 5)
      have hl3 := h3 (v / 15) (v / 3 % 5)
      have hix : v / 15 * 5 + v / 3 % 5 = v / 3 := by omega
      rw [hix, ← hln] at hsz
      unfold f_X3_isBy f_X3_isBy_28 f_X3_isBy_29 f_X10_validBits_55 f_X10_validBits_57 S_so
      rw [p_rem (by omega), p_div (by omega), p_rdI (by omega), hsz, p_lt (by omega)]
      by_cases p : v % 3 < ((S_ents g (v / 15) (v / 3 % 5)).length : Int)
      · obtain ⟨a1, a2, a3⟩ := ents_at (g := g) (c := v / 15) (q := v / 3 % 5) ht.1 (i := (v % 3).toNat) (by omega)
        rw [if_pos p, if_pos p, if_pos p]
        generalize (S_ents g (v / 15) (v / 3 % 5)).getD (v % 3).toNat 0 = e at a1 a2 a3 ⊢
        have a4 : S_sl g e = v := by omega
        have hen := R.en a1
        have hee := h.ee a1
        rw [a4] at hen
        rw [p_rdI (by omega), hen.2.1, p_eq (by omega)]
        show _ = f_X10_validBits_11 m K fu (s.1 + b2 (S_mo g m e)) (s.2 + b2 (S_em g e = m)) (v + 1) μ
        by_cases p2 : S_em g e = m
        · rw [if_pos p2, p_Z1, p_rb, p_eq (by omega), if_neg (by omega), c_isValid h h3 R a1 a4.symm, p_rb, b2_t p2]
          by_cases p3 : S_ok g e
          · rw [b2_t p3, p_eq (by omega), if_neg (by omega), p_bnd, b2_t (show S_mo g m e from ⟨p2, p3⟩)]
          · rw [b2_f p3, p_eq (by omega), if_pos rfl, p_bnd, b2_f (show ¬ S_mo g m e from fun w => p3 w.2)]
        · rw [if_neg p2, p_Z0, p_rb, p_eq (by omega), if_pos rfl, b2_f p2, b2_f (show ¬ S_mo g m e from fun w => p2 w.1), Int.add_zero, Int.add_zero]
      · rw [if_neg p, if_neg p, if_neg p, p_Z0, p_rb, p_eq (by omega), if_pos rfl, Int.add_zero, Int.add_zero]
    · rw [if_neg hv, if_neg hv]
theorem r_valid {μ : Mu} (h : WF (μ 249)) {m : Int} (hm : 0 ≤ m ∧ m < 4) (K : Int → Int → Mu → Option Res) : f_X11_validBits_25 m K FU 0 0 0 μ = K (S_vn (μ 249) m) (S_vv (μ 249) m) μ := by
  have ht := h.tot
  have key := loop_up (S := Int × Int) (fun fu s v => f_X11_validBits_25 m K fu s.1 s.2 v μ) (fun s => K s.1 s.2 μ) (fun s v => (s.1 + b2 (S_em (μ 249) v = m), s.2 + b2 (S_mo (μ 249) m v))) (μ 249 144) (fun s v => 0 ≤ v ∧ v ≤ μ 249 144) ?_ (fun s v hi hlt => by omega) (μ 249 144).toNat FU (0, 0) 0 (by omega) (by omega) (by unfold FU; omega)
  · rw [itS_sm2, Int.zero_add, Int.zero_add] at key
    exact key
  · intro fu s v hi
    show f_X11_validBits_25 m K (fu + 1) s.1 s.2 v μ = _
    rw [f_X11_validBits_25, p_rdI (by omega)]
    have e144 : (144 : Int).toNat = 144 := rfl
    rw [e144, p_lt (by omega)]
    by_cases hv : v < μ 249 144
    · have hee := h.ee (e := v) (by omega)
      rw [if_pos hv, if_pos hv, r_p0 (by omega), p_rb, p_eq (by omega)]
      unfold f_X11_validBits_55 f_X11_validBits_82 f_X11_validBits_83
      by_cases p2 : S_em (μ 249) v = m
      · rw [if_pos p2, p_bnd, r_p0 (by omega), p_rb, p_eq (by omega), if_pos p2, r_isValid h (by omega), p_rb, b2_t p2]
        by_cases p3 : S_ok (μ 249) v
        · rw [b2_t p3, p_eq (by omega), if_neg (by omega), p_bnd, b2_t (show S_mo (μ 249) m v from ⟨p2, p3⟩)]
        · rw [b2_f p3, p_eq (by omega), if_pos rfl, p_bnd, b2_f (show ¬ S_mo (μ 249) m v from fun w => p3 w.2)]
      · rw [if_neg p2, p_bnd, r_p0 (by omega), p_rb, p_eq (by omega), if_neg p2, p_bnd, b2_f p2, b2_f (show ¬ S_mo (μ 249) m v from fun w => p2 w.1)]
    · rw [if_neg hv, if_neg hv]
theorem o_validBits {T : Int} {μ : Mu} (I : Inv T μ) {w1 : Int} (h1 : iG w1) : OK T (lc_validBits w1 μ) := by
  unfold lc_validBits
  by_cases p : 0 ≤ w1 ∧ w1 < 4
  · have ht := I.wf.tot
    have hn := sm_bd (G := fun e => b2 (S_em (μ 249) e = w1)) (a := 0) (b := 1) (μ 249 144).toNat 0 (fun j x y => by
      have := b2_01 (S_em (μ 249) j = w1)
      omega)
    have hv := sm_bd (G := fun e => b2 (S_mo (μ 249) w1 e)) (a := 0) (b := 1) (μ 249 144).toNat 0 (fun j x y => by
      have := b2_01 (S_mo (μ 249) w1 j)
      omega)
    have hle : S_vv (μ 249) w1 ≤ S_vn (μ 249) w1 := sm_le _ 0 (fun j x y => by
      show b2 (S_mo (μ 249) w1 j) ≤ b2 (S_em (μ 249) j = w1)
      by_cases w : S_em (μ 249) j = w1
      · have := b2_01 (S_mo (μ 249) w1 j)
        rw [b2_t w]; omega
      · rw [b2_f w, b2_f (show ¬ S_mo (μ 249) w1 j from fun z => w z.1)]; omega)
    have hvn : 0 ≤ S_vn (μ 249) w1 ∧ S_vn (μ 249) w1 ≤ 120 := by unfold S_vn; omega
    have hvv : 0 ≤ S_vv (μ 249) w1 := by unfold S_vv; omega
    have ref : ∀ μ9 : Mu, Inv T μ9 → μ9 249 = μ 249 → f_X11_validBits w1 μ9 = i_eq (S_vn (μ 249) w1) 0 (rb (f_X11_fails 2 (up2 μ9 248 0 0)) fun μ x4 => f_X11_validBits_111 w1 x4 μ) (f_ck (D_f (S_vv (μ 249) w1) (S_vn (μ 249) w1)) fun x2 => rb (f_Jxf58ca_floatToIntBits_5c35a x2 (up2 μ9 248 0 0)) fun μ x3 => f_X11_validBits_111 w1 x3 μ) := by
      intro μ9 I9 e9
      have e : (up2 μ9 248 0 0) 249 = μ9 249 := up2_oo (by omega)
      unfold f_X11_validBits
      rw [p_wrF, r_mark h1, p_rb, b2_t (by omega), p_eq (by omega), if_neg (by omega)]
      refine Eq.trans (r_valid (by rw [e]; exact I9.wf) p _) ?_
      rw [e, e9]; rfl
    by_cases p2 : S_vn (μ 249) w1 = 0
    · refine op_ex I (e := 3) (i := 1) (x := 0) (b := 0) (μ2 := up2 (up2 μ 248 0 0) 248 0 2) ?_ rfl (by omega) ?_ (JT.th.up (by unfold jT; omega)) up2_s
      · unfold f_X10_validBits
        rw [c_reqM h1, if_pos p, p_rb]
        refine Eq.trans (c_valid I.wf I.w3 I.R p _) ?_
        rw [p_eq (by omega), if_pos p2]
      · rw [ref μ I rfl, p_eq (by omega), if_pos p2]; rfl
    · obtain ⟨d1, d2⟩ := D_fok (V := S_vv (μ 249) w1) (A := S_vn (μ 249) w1) (by omega) (by omega)
      refine op_ok I (μ1 := μ) (x := ((D_f (S_vv (μ 249) w1) (S_vn (μ 249) w1)).toNat : Int)) ?_ (KA.rf μ) (hg0 (by unfold iG; omega)) (fun μ => cI_ok (by unfold iG; omega)) (fun μ9 I9 k9 => ?_)
      · unfold f_X10_validBits
        rw [c_reqM h1, if_pos p, p_rb]
        refine Eq.trans (c_valid I.wf I.w3 I.R p _) ?_
        rw [p_eq (by omega), if_neg p2]
        refine Eq.trans (f_ckn d1) ?_
        show rb (f_X10_floatBits (D_f _ _) μ) _ = _
        rw [(d2 μ).1, p_rb]
      · refine ⟨up2 μ9 248 0 0, ?_, JT.th, up2_s⟩
        rw [ref μ9 I9 k9.s, p_eq (by omega), if_neg p2]
        refine Eq.trans (f_ckn d1) ?_
        rw [(d2 _).2, p_rb]; rfl
  · refine op_ex I (e := 2) (i := 0) (x := 0) (b := 0) (μ2 := up2 (up2 μ 248 0 0) 248 0 1) ?_ rfl (by omega) ?_ (JT.th.up (by unfold jT; omega)) up2_s
    · unfold f_X10_validBits
      rw [c_reqM h1, if_neg p]; rfl
    · unfold f_X11_validBits f_X11_fails
      rw [p_wrF, r_mark h1, p_rb, b2_f (by omega), p_eq (by omega), if_pos rfl]; rfl

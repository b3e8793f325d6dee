/-! the mean's bits -/
theorem u_i2d {v : Int} (h : 1 ≤ v ∧ v < 2147483648) : ∃ E T, Dn (FP.i2d (iI v)).toNat E T ∧ 1023 ≤ E ∧ E ≤ 1053 := by
  have hv : (iI v).toInt = v := Int32.toInt_ofInt_of_le (by omega) (by omega)
  have h0 : v.natAbs ≠ 0 := by omega
  have k1 : 2 ^ v.natAbs.log2 ≤ v.natAbs := Nat.log2_self_le h0
  have k2 : v.natAbs < 2 ^ (v.natAbs.log2 + 1) := Nat.lt_log2_self
  have k3 : v.natAbs.log2 < 31 := (Nat.log2_lt h0).mpr (by omega)
  have hd : FP.Core.round FP.Core.b64 (FP.Core.ofInt (iI v).toInt) = FP.Core.roundRatio FP.Core.b64 false v.natAbs 1 0 := by
    rw [hv]
    unfold FP.Core.ofInt
    rw [decide_eq_false (by omega)]; rfl
  generalize v.natAbs.log2 = k at k1 k2 k3
  have d1 := d_mk (hd.trans (f_small (e := 0) k1 k2 (by omega) (by omega))) (f_shift k1 k2 (by omega)) (by omega)
  exact ⟨_, _, d1, by omega, by omega⟩
theorem u_zdiv {y : UInt64} {E T : Nat} (hy : Dn y.toNat E T) : FP.ddiv 0 y = 0 := by
  have h0 : FP.Core.decode FP.Core.b64 (0 : UInt64).toNat = .fin false 0 (-1074) := rfl
  show UInt64.ofNat (FP.Core.encode FP.Core.b64 (FP.Core.quotient FP.Core.b64 (FP.Core.decode FP.Core.b64 (0 : UInt64).toNat) (FP.Core.decode FP.Core.b64 y.toNat))) = 0
  rw [d_dec hy, h0]
  simp only [FP.Core.quotient]
  rw [if_neg (by omega)]
  unfold FP.Core.roundRatio
  rw [if_pos rfl]; rfl
def D_a (S : Int) : UInt64 := FP.ddiv (FP.i2d (iI S)) (4638144666238189568 : UInt64)
def D_m (S N : Int) : UInt64 := FP.ddiv (D_a S) (FP.i2d (iI N))
theorem D_ok {S N : Int} (hS : 0 ≤ S ∧ S < 2147483648) (hN : 1 ≤ N ∧ N < 2147483648) : (D_a S).toNat ≤ 9218868437227405312 ∧ (D_m S N).toNat ≤ 9218868437227405312 ∧ ∀ μ, f_X10_doubleBits (D_m S N) μ = some (μ, 0, ((D_m S N).toNat : Int)) ∧ f_Jxe99ae_doubleToLongBits_ccdee (D_m S N) μ = some (μ, 0, ((D_m S N).toNat : Int)) := by
  obtain ⟨E2, T2, n1, n2, n3⟩ := u_i2d hN
  obtain ⟨Tc, c1⟩ := u_120
  by_cases p : S = 0
  · subst p
    have a : D_a 0 = 0 := by
      unfold D_a
      rw [show FP.i2d (iI 0) = 0 by decide +kernel]
      exact u_zdiv c1
    have b : D_m 0 N = 0 := by unfold D_m; rw [a]; exact u_zdiv n1
    rw [a, b]
    exact ⟨by decide, by decide, fun μ => ⟨c_dbits0 μ, r_dbits0 μ⟩⟩
  · obtain ⟨E1, T1, m1, m2, m3⟩ := u_i2d (v := S) (by omega)
    obtain ⟨E3, T3, a1, a2, a3⟩ := u_div m1 c1 (by omega)
    obtain ⟨E4, T4, b1, b2', b3⟩ := u_div a1 n1 (by omega)
    have l1 := a1.lt
    have l2 := b1.lt
    refine ⟨by unfold D_a; omega, by unfold D_m D_a; omega, fun μ => ⟨c_dbits μ b1 (by omega), r_dbits μ b1⟩⟩
abbrev S_in (g : Nat → Int) (q c : Int) : Prop := S_hg g c ∧ ¬ S_exc g c q
def S_ms (g : Nat → Int) (q : Int) : Int := sm (fun c => if S_in g q c then S_set g c q else 0) 8 0
def S_mn (g : Nat → Int) (q : Int) : Int := sm (fun c => b2 (S_in g q c)) 8 0
theorem c_mean_l {g : Nat → Int} (h : WF g) (h3 : WF3 g) {q : Int} (hq : 0 ≤ q ∧ q < 5) (K : Int → Int → Mu → Option Res) : ∀ (n fu : Nat) (s k v : Int) (μ : Mu), RB μ 1 g → 0 ≤ v → v + n = 8 → n < fu → ∃ μ', f_X10_meanBits_11 q K fu s k v μ = K (s + sm (fun c => if S_in g q c then S_set g c q else 0) n v) (k + sm (fun c => b2 (S_in g q c)) n v) μ' ∧ JB 1 μ μ'
  | 0, fu + 1, s, k, v, μ, R, h0, hn, hf => by
    refine ⟨μ, ?_, JB.rf 1 μ⟩
    rw [f_X10_meanBits_11, p_lt (by omega), if_neg (by omega)]
    simp only [sm, Int.add_zero]
  | n + 1, fu + 1, s, k, v, μ, R, h0, hn, hf => by
    rw [f_X10_meanBits_11, p_lt (by omega), if_pos (by omega), c_hasGrade h h3 R (c := v) (by omega), p_rb]
    unfold f_X10_meanBits_62
    simp only [sm]
    have no : ¬ S_in g q v → ∃ μ', f_X10_meanBits_11 q K fu s k (v + 1) μ = K (s + ((if S_in g q v then S_set g v q else 0) + sm (fun c => if S_in g q c then S_set g c q else 0) n (v + 1))) (k + (b2 (S_in g q v) + sm (fun c => b2 (S_in g q c)) n (v + 1))) μ' ∧ JB 1 μ μ' := by
      intro w
      obtain ⟨μ', a1, a2⟩ := c_mean_l h h3 hq K n fu s k (v + 1) μ R (by omega) (by omega) (by omega)
      refine ⟨μ', ?_, a2⟩
      rw [a1, if_neg w, b2_f w, Int.zero_add, Int.zero_add]
    by_cases p : S_hg g v
    · rw [b2_t p, p_eq (by omega), if_neg (by omega), c_exc h R (c := v) (by omega) hq, p_rb]
      by_cases p2 : S_exc g v q
      · rw [b2_t p2, p_eq (by omega), if_neg (by omega)]
        exact no (fun w => w.2 p2)
      · obtain ⟨μ1, b1, b2'⟩ := c_settled h h3 R (c := v) (q := q) (s := v * 5 + q) (by omega) hq rfl
        have e1 : f_X10_scriptOf v q μ = some (μ, 0, v * 5 + q) := rfl
        obtain ⟨μ', a1, a2⟩ := c_mean_l h h3 hq K n fu (s + S_set g v q) (k + 1) (v + 1) μ1 (b2'.R R) (by omega) (by omega) (by omega)
        refine ⟨μ', ?_, b2'.tr a2⟩
        rw [b2_f p2, p_eq (by omega), if_pos rfl, e1, p_rb, b1, p_rb, p_bnd, a1, if_pos ⟨p, p2⟩, b2_t (show S_in g q v from ⟨p, p2⟩)]
        congr 1 <;> omega
    · rw [b2_f p, p_eq (by omega), if_pos rfl]
      exact no (fun w => p w.1)
theorem r_mean_l {μ0 : Mu} (h : WF (μ0 249)) (h3 : WF3 (μ0 249)) (hz : μ0 248 0 = 0) {q : Int} (hq : 0 ≤ q ∧ q < 5) (K : Int → Int → Mu → Option Res) : ∀ (n fu : Nat) (s k v : Int) (μ : Mu), JF μ0 μ → 0 ≤ v → v + n = 8 → n < fu → ∃ μ', f_X11_meanBits_23 q K fu s k v μ = K (s + sm (fun c => if S_in (μ0 249) q c then S_set (μ0 249) c q else 0) n v) (k + sm (fun c => b2 (S_in (μ0 249) q c)) n v) μ' ∧ JF μ0 μ'
  | 0, fu + 1, s, k, v, μ, j, h0, hn, hf => by
    refine ⟨μ, ?_, j⟩
    rw [f_X11_meanBits_23, p_lt (by omega), if_neg (by omega)]
    simp only [sm, Int.add_zero]
  | n + 1, fu + 1, s, k, v, μ, j, h0, hn, hf => by
    have e : μ 249 = μ0 249 := funext fun k => j 249 k (by unfold jF; omega)
    have ez : μ 248 0 = 0 := (j 248 0 (by unfold jF; omega)).trans hz
    rw [f_X11_meanBits_23, p_lt (by omega), if_pos (by omega), p_rdF, ez, p_eq (by omega), if_pos rfl, r_hasGrade (by rw [e]; exact h) (c := v) (by unfold iG; omega), p_rb, e]
    unfold f_X11_meanBits_69
    simp only [sm]
    have no : ¬ S_in (μ0 249) q v → ∃ μ', f_X11_meanBits_23 q K fu s k (v + 1) μ = K (s + ((if S_in (μ0 249) q v then S_set (μ0 249) v q else 0) + sm (fun c => if S_in (μ0 249) q c then S_set (μ0 249) c q else 0) n (v + 1))) (k + (b2 (S_in (μ0 249) q v) + sm (fun c => b2 (S_in (μ0 249) q c)) n (v + 1))) μ' ∧ JF μ0 μ' := by
      intro w
      obtain ⟨μ', a1, a2⟩ := r_mean_l h h3 hz hq K n fu s k (v + 1) μ j (by omega) (by omega) (by omega)
      refine ⟨μ', ?_, a2⟩
      rw [a1, if_neg w, b2_f w, Int.zero_add, Int.zero_add]
    by_cases p : S_hg (μ0 249) v
    · rw [b2_t p, p_eq (by omega), if_neg (by omega), r_exc (by rw [e]; exact h) (c := v) (by omega) hq, p_rb, e]
      by_cases p2 : S_exc (μ0 249) v q
      · rw [b2_t p2, p_eq (by omega), if_neg (by omega)]
        exact no (fun w => w.2 p2)
      · obtain ⟨μ1, b1, b2'⟩ := r_settled (μ := μ) (by rw [e]; exact h) (by rw [e]; exact h3) (c := v) (q := q) (by omega) hq
        rw [e] at b1
        obtain ⟨μ', a1, a2⟩ := r_mean_l h h3 hz hq K n fu (s + S_set (μ0 249) v q) (k + 1) (v + 1) μ1 (j.tr b2') (by omega) (by omega) (by omega)
        refine ⟨μ', ?_, a2⟩
        rw [b2_f p2, p_eq (by omega), if_pos rfl, b1, p_rb, p_bnd, a1, if_pos ⟨p, p2⟩, b2_t (show S_in (μ0 249) q v from ⟨p, p2⟩)]
        congr 1 <;> omega
    · rw [b2_f p, p_eq (by omega), if_pos rfl]
      exact no (fun w => p w.1)
theorem o_meanBits {T : Int} {μ : Mu} (I : Inv T μ) {w1 : Int} (h1 : iG w1) : OK T (lc_meanBits w1 μ) := by
  unfold lc_meanBits
  by_cases p : 0 ≤ w1 ∧ w1 < 5
  · have hb := sm_bd (G := fun c => if S_in (μ 249) w1 c then S_set (μ 249) c w1 else 0) (a := 0) (b := 4800) 8 0 (fun j x y => by
      have := S_set_bd I.wf (c := j) (q := w1) (by omega) p
      split <;> omega)
    have hk := sm_bd (G := fun c => b2 (S_in (μ 249) w1 c)) (a := 0) (b := 1) 8 0 (fun j x y => by
      have := b2_01 (S_in (μ 249) w1 j)
      omega)
    have hms : 0 ≤ S_ms (μ 249) w1 ∧ S_ms (μ 249) w1 ≤ 38400 := by unfold S_ms; omega
    have hmn : 0 ≤ S_mn (μ 249) w1 ∧ S_mn (μ 249) w1 ≤ 8 := by unfold S_mn; omega
    have cls : ∀ K : Int → Int → Mu → Option Res, ∃ μ1, f_X10_meanBits_11 w1 K FU 0 0 0 μ = K (S_ms (μ 249) w1) (S_mn (μ 249) w1) μ1 ∧ JB 1 μ μ1 := by
      intro K
      obtain ⟨μ1, a1, a2⟩ := c_mean_l I.wf I.w3 p K 8 FU 0 0 0 μ I.R (by omega) (by omega) (by unfold FU; omega)
      rw [Int.zero_add, Int.zero_add] at a1
      exact ⟨μ1, a1, a2⟩
    have ref : ∀ μ9 : Mu, Inv T μ9 → μ9 249 = μ 249 → ∃ μ2, f_X11_meanBits w1 μ9 = f_X11_meanBits_75 w1 (S_ms (μ 249) w1) (S_mn (μ 249) w1) μ2 ∧ JT μ9 μ2 ∧ μ2 248 0 = 0 := by
      intro μ9 I9 e9
      have e : (up2 μ9 248 0 0) 249 = μ9 249 := up2_oo (by omega)
      obtain ⟨μ2, b1, b2'⟩ := r_mean_l (μ0 := up2 μ9 248 0 0) (by rw [e]; exact I9.wf) (by rw [e]; exact I9.w3) up2_s p (fun v2 v3 μ => f_X11_meanBits_75 w1 v2 v3 μ) 8 FU 0 0 0 _ (JF.rf _) (by omega) (by omega) (by unfold FU; omega)
      rw [e, e9, Int.zero_add, Int.zero_add] at b1
      refine ⟨μ2, ?_, JT.th.tr b2'.r.jt, ?_⟩
      · unfold f_X11_meanBits f_X11_meanBits_13
        rw [r_ques h1, p_rb, b2_t (by omega), p_eq (by omega), if_neg (by omega), p_wrF]
        exact b1
      · rw [b2' 248 0 (by unfold jF; omega), up2_s]
    obtain ⟨μ1, a1, a2⟩ := cls (fun v2 v3 μ => i_eq v3 0 (some (μ, 4, 0)) (d_ck (FP.ddiv (FP.i2d (iI v2)) (4638144666238189568 : UInt64)) fun x1 => d_ck (FP.ddiv x1 (FP.i2d (iI v3))) fun x2 => rb (f_X10_doubleBits x2 μ) fun μ x3 => some (μ, 0, x3)))
    by_cases p2 : S_mn (μ 249) w1 = 0
    · obtain ⟨μ2, b1, b2', b3⟩ := ref μ1 (I.keep a2.ka) a2.ka.s
      refine ⟨up2 μ2 248 0 2, lc_ex (μ1 := μ1) (e := 3) (i := 1) (x := 0) (b := 0) ?_ rfl (by omega) ?_ up2_s, ((I.keep a2.ka).keep (b2'.up (v := 2) (show jT 248 0 by unfold jT; omega)).ka).up (by omega)⟩
      · unfold f_X10_meanBits
        rw [c_reqQ h1, if_pos p, p_rb]
        refine Eq.trans a1 ?_
        rw [p_eq (by omega), if_pos p2]
      · rw [b1]
        unfold f_X11_meanBits_75 f_X11_meanBits_91 f_X11_meanBits_114
        rw [p_rdF, b3, p_eq (by omega), if_pos rfl, p_eq (by omega), if_pos p2, p_wrF, p_rdF, up2_s, p_lt (by omega), if_pos (by omega)]
    · obtain ⟨d1, d2, d3⟩ := D_ok (S := S_ms (μ 249) w1) (N := S_mn (μ 249) w1) (by omega) (by omega)
      have hx : -9223372036854775808 ≤ ((D_m (S_ms (μ 249) w1) (S_mn (μ 249) w1)).toNat : Int) ∧ ((D_m (S_ms (μ 249) w1) (S_mn (μ 249) w1)).toNat : Int) < 9223372036854775808 := by omega
      refine op_ok I (μ1 := μ1) (x := ((D_m (S_ms (μ 249) w1) (S_mn (μ 249) w1)).toNat : Int)) ?_ a2.ka rfl (fun μ => cL_ok hx) (fun μ9 I9 k9 => ?_)
      · unfold f_X10_meanBits
        rw [c_reqQ h1, if_pos p, p_rb]
        refine Eq.trans a1 ?_
        rw [p_eq (by omega), if_neg p2]
        refine Eq.trans (d_ckn d1) ?_
        refine Eq.trans (d_ckn d2) ?_
        show rb (f_X10_doubleBits (D_m _ _) μ1) _ = _
        rw [(d3 μ1).1, p_rb]
      · obtain ⟨μ2, b1, b2', b3⟩ := ref μ9 I9 k9.s
        refine ⟨μ2, ?_, b2', b3⟩
        rw [b1]
        unfold f_X11_meanBits_75 f_X11_meanBits_91 f_X11_meanBits_114
        rw [p_rdF, b3, p_eq (by omega), if_pos rfl, p_eq (by omega), if_neg p2, p_rdF, b3, p_lt (by omega), if_neg (by omega)]
        refine Eq.trans (d_ckn d1) ?_
        refine Eq.trans (d_ckn d2) ?_
        show rb (f_Jxe99ae_doubleToLongBits_ccdee (D_m _ _) μ2) _ = _
        rw [(d3 μ2).2, p_rb]
  · refine op_ex I (e := 2) (i := 0) (x := 0) (b := 0) (μ2 := up2 μ 248 0 1) ?_ rfl (by omega) ?_ JT.th up2_s
    · unfold f_X10_meanBits
      rw [c_reqQ h1, if_neg p]; rfl
    · unfold f_X11_meanBits f_X11_meanBits_13
      rw [r_ques h1, p_rb, b2_f (by omega), p_eq (by omega), if_pos rfl, p_wrF]
      show f_X11_meanBits_23 w1 _ (FU - 1 + 1) 0 0 0 _ = _
      rw [f_X11_meanBits_23, p_lt (by omega), if_pos (by omega), p_rdF, up2_s, p_eq (by omega), if_neg (by omega)]
      unfold f_X11_meanBits_75 f_X11_meanBits_91 f_X11_meanBits_114
      rw [p_rdF, up2_s, p_eq (by omega), if_neg (by omega), p_rdF, up2_s, p_lt (by omega), if_pos (by omega)]

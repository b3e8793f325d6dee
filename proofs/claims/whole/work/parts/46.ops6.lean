/-! count, account -/
theorem sm_shift (G : Int → Int) (a : Int) : ∀ (n : Nat) (v : Int), sm G n (v + a) = sm (fun j => G (j + a)) n v
  | 0, _ => rfl
  | n + 1, v => by
    simp only [sm]
    rw [← sm_shift G a n (v + 1), show v + a + 1 = v + 1 + a by omega]
theorem sm_blk (G : Int → Int) : ∀ n : Nat, sm G (n * 5) 0 = sm (fun c => sm G 5 (5 * c)) n 0
  | 0 => by simp [sm]
  | n + 1 => by
    rw [show (n + 1) * 5 = n * 5 + 5 by omega, sm_add, sm_blk G n, sm_snoc (fun c => sm G 5 (5 * c)) n 0]
    rw [show (0 : Int) + ((n * 5 : Nat) : Int) = 5 * (0 + (n : Int)) by push_cast; omega]
/-- forty scripts are eight candidates' five -/
theorem sm_flat {G : Int → Int} {F : Int → Int → Int} (h : ∀ c q : Int, 0 ≤ c → c < 8 → 0 ≤ q → q < 5 → G (c * 5 + q) = F c q) : sm G 40 0 = sm (fun c => sm (fun q => F c q) 5 0) 8 0 := by
  rw [show (40 : Nat) = 8 * 5 from rfl, sm_blk]
  refine sm_congr 8 0 (fun c x y => ?_)
  rw [show (5 * c) = 0 + c * 5 by omega, sm_shift]
  refine sm_congr 5 0 (fun q a b => ?_)
  rw [Int.add_comm]
  exact h c q x (by omega) a (by omega)
def S_seeds (g : Nat → Int) : Int := sm (fun q => g (14 + q).toNat) 5 0
def S_smk (g : Nat → Int) : Int := sm (fun k => b2 (0 < g (44 + k).toNat)) 100 0
def S_dis (g : Nat → Int) : Int := sm (fun c => sm (fun q => b2 (¬ S_exc g c q ∧ S_state g c q = 2)) 5 0) 8 0
theorem r_seeds {μ : Mu} (h : WF (μ 249)) : f_X11_seeds μ = some (μ, 0, S_seeds (μ 249)) := by
  unfold f_X11_seeds
  have key := loop_up (S := Int) (fun fu s v => f_X11_seeds_4 (fun v1 μ => some (μ, 0, v1)) fu s v μ) (fun s => some (μ, 0, s)) (fun s v => s + μ 249 (14 + v).toNat) 5 (fun s v => 0 ≤ v ∧ v ≤ 5) ?_ (fun s v hi hlt => by omega) 5 FU 0 0 (by omega) (by omega) (by unfold FU; omega)
  · rw [key, itS_sm, Int.zero_add]; rfl
  · intro fu s v hi
    show f_X11_seeds_4 _ (fu + 1) s v μ = _
    rw [f_X11_seeds_4, p_lt (by omega)]
    by_cases hvN : v < 5
    · rw [if_pos hvN, if_pos hvN, p_rdI (by omega), p_bnd]
    · rw [if_neg hvN, if_neg hvN]
theorem WF.mk1 {g : Nat → Int} (h : WF g) {i : Int} (h1 : 0 ≤ i ∧ i < 100) : 0 ≤ g (44 + i).toNat ∧ g (44 + i).toNat ≤ 41 := h.2.2.2.2.2.1 i h1.1 h1.2
theorem r_smk {μ : Mu} (h : WF (μ 249)) : f_X11_seedMarks μ = some (μ, 0, S_smk (μ 249)) := by
  unfold f_X11_seedMarks
  have key := loop_up (S := Int) (fun fu s v => f_X11_seedMarks_5 (fun v1 μ => some (μ, 0, v1)) fu s v μ) (fun s => some (μ, 0, s)) (fun s v => s + b2 (0 < μ 249 v.toNat)) 144 (fun s v => 44 ≤ v ∧ v ≤ 144) ?_ (fun s v hi hlt => by omega) 100 FU 0 44 (by omega) (by omega) (by unfold FU; omega)
  · rw [key, itS_sm, Int.zero_add]
    have e : sm (fun v => b2 (0 < μ 249 v.toNat)) 100 44 = S_smk (μ 249) := by
      have e1 := sm_shift (fun v => b2 (0 < μ 249 v.toNat)) 44 100 0
      rw [Int.zero_add] at e1
      rw [e1]
      refine sm_congr 100 0 (fun k x y => ?_)
      rw [Int.add_comm]
    rw [e]
  · intro fu s v hi
    show f_X11_seedMarks_5 _ (fu + 1) s v μ = _
    rw [f_X11_seedMarks_5, p_lt (by omega)]
    unfold f_X11_seedMarks_27
    by_cases hvN : v < 144
    · have hm := h.mk1 (i := v - 44) (by omega)
      rw [show 44 + (v - 44) = v by omega] at hm
      rw [if_pos hvN, if_pos hvN, p_rdI (by omega), p_lt (by omega)]
      by_cases p : 0 < μ 249 v.toNat
      · rw [if_pos p, b2_t p, p_bnd]
      · rw [if_neg p, b2_f p, p_bnd]
    · rw [if_neg hvN, if_neg hvN]
theorem r_dis_q {g : Nat → Int} (h : WF g) (h3 : WF3 g) {c : Int} (hc : 0 ≤ c ∧ c < 8) {K : Int → Int → Mu → Option Res} : ∀ (n fu : Nat) (s v : Int) (μ1 : Mu), 0 ≤ v → v + n = 5 → n < fu → μ1 249 = g → ∃ μ2, f_X11_disputed_12 K fu s c v μ1 = K (s + sm (fun q => b2 (¬ S_exc g c q ∧ S_state g c q = 2)) n v) c μ2 ∧ JF μ1 μ2
  | 0, fu + 1, s, v, μ1, h0, hn, hf, hk => by
    refine ⟨μ1, ?_, JF.rf μ1⟩
    rw [f_X11_disputed_12, p_lt (by omega), if_neg (by omega)]
    simp [sm]
  | n + 1, fu + 1, s, v, μ1, h0, hn, hf, hk => by
    subst hk
    rw [f_X11_disputed_12, p_lt (by omega), if_pos (by omega), r_exc h hc (by omega), p_rb]
    unfold f_X11_disputed_41 f_X11_disputed_42
    simp only [sm]
    by_cases p : S_exc (μ1 249) c v
    · obtain ⟨μ2, a1, a2⟩ := r_dis_q (g := μ1 249) h h3 hc (K := K) n fu (s + 0) (v + 1) μ1 (by omega) (by omega) (by omega) rfl
      refine ⟨μ2, ?_, a2⟩
      rw [b2_t p, p_eq (by omega), if_neg (by omega), p_bnd, a1, b2_f (fun z => z.1 p), ← Int.add_assoc]
    · obtain ⟨μ3, d1, d2⟩ := r_state h h3 hc (q := v) (by omega)
      have sb := S_state_bd (g := μ1 249) (c := c) (q := v)
      rw [b2_f p, p_eq (by omega), if_pos rfl, d1, p_rb, p_eq (by omega)]
      by_cases z : S_state (μ1 249) c v = 2
      · obtain ⟨μ2, a1, a2⟩ := r_dis_q (g := μ1 249) h h3 hc (K := K) n fu (s + 1) (v + 1) μ3 (by omega) (by omega) (by omega) d2.s
        refine ⟨μ2, ?_, d2.tr a2⟩
        rw [if_pos z, p_bnd, a1, b2_t ⟨p, z⟩, ← Int.add_assoc]
      · obtain ⟨μ2, a1, a2⟩ := r_dis_q (g := μ1 249) h h3 hc (K := K) n fu (s + 0) (v + 1) μ3 (by omega) (by omega) (by omega) d2.s
        refine ⟨μ2, ?_, d2.tr a2⟩
        rw [if_neg z, p_bnd, a1, b2_f (fun y => z y.2), ← Int.add_assoc]
theorem r_dis {g : Nat → Int} (h : WF g) (h3 : WF3 g) : ∀ (n fu : Nat) (s v : Int) (μ1 : Mu), 0 ≤ v → v + n = 8 → n < fu → μ1 249 = g → ∃ μ2, f_X11_disputed_4 (fun v1 μ => some (μ, 0, v1)) fu s v μ1 = some (μ2, 0, s + sm (fun c => sm (fun q => b2 (¬ S_exc g c q ∧ S_state g c q = 2)) 5 0) n v) ∧ JF μ1 μ2
  | 0, fu + 1, s, v, μ1, h0, hn, hf, hk => by
    refine ⟨μ1, ?_, JF.rf μ1⟩
    rw [f_X11_disputed_4, p_lt (by omega), if_neg (by omega)]
    simp [sm]
  | n + 1, fu + 1, s, v, μ1, h0, hn, hf, hk => by
    obtain ⟨μ2, a1, a2⟩ := r_dis_q h h3 (c := v) (by omega) (K := fun v1 v2 μ => (f_X11_disputed_4 (fun v1 μ => some (μ, 0, v1)) fu) v1 (v2 + 1) μ) 5 FU s 0 μ1 (by omega) (by omega) (by unfold FU; omega) hk
    obtain ⟨μ3, b1, b2'⟩ := r_dis h h3 n fu (s + sm (fun q => b2 (¬ S_exc g v q ∧ S_state g v q = 2)) 5 0) (v + 1) μ2 (by omega) (by omega) (by omega) (a2.s.trans hk)
    refine ⟨μ3, ?_, a2.tr b2'⟩
    rw [f_X11_disputed_4, p_lt (by omega), if_pos (by omega), a1, b1]
    have e9 : sm (fun c => sm (fun q => b2 (¬ S_exc g c q ∧ S_state g c q = 2)) 5 0) (n + 1) v = sm (fun q => b2 (¬ S_exc g v q ∧ S_state g v q = 2)) 5 0 + sm (fun c => sm (fun q => b2 (¬ S_exc g c q ∧ S_state g c q = 2)) 5 0) n (v + 1) := rfl
    rw [e9, Int.add_assoc]
theorem c_smk {μ : Mu} {b : Nat} {g : Nat → Int} (h : WF g) (R : RB μ b g) : f_X7_markedSeeds (b + 7) μ = some (μ, 0, S_smk g) := by
  have hmk : ∀ v : Int, 0 ≤ v → v < 100 → μ (b + 7 + 3) v.toNat = g (44 + v).toNat - 1 := by
    intro v x y
    have := R.mk (m := v / 25) (q := v / 5 % 5) (k := v % 5) (by omega) (by omega) (by omega)
    rw [show (v / 25 * 5 + v / 5 % 5) * 5 + v % 5 = v by omega] at this
    unfold S_mk at this
    rw [show 44 + 25 * (v / 25) + 5 * (v / 5 % 5) + v % 5 = 44 + v by omega] at this
    exact this
  unfold f_X7_markedSeeds
  have key := loop_up (S := Int) (fun fu s v => f_X7_markedSeeds_4 (b + 7) (fun v1 μ => some (μ, 0, v1)) fu s v μ) (fun s => some (μ, 0, s)) (fun s v => s + b2 (0 < g (44 + v).toNat)) 100 (fun s v => 0 ≤ v ∧ v ≤ 100) ?_ (fun s v hi hlt => by omega) 100 FU 0 0 (by omega) (by omega) (by unfold FU; omega)
  · rw [key, itS_sm, Int.zero_add]; rfl
  · intro fu s v hi
    show f_X7_markedSeeds_4 (b + 7) _ (fu + 1) s v μ = _
    rw [f_X7_markedSeeds_4, p_lt (by omega)]
    unfold f_X7_markedSeeds_29
    by_cases hvN : v < 100
    · have hm := h.mk1 (i := v) (by omega)
      rw [if_pos (by omega), if_pos hvN, p_rdI (by omega), hmk v hi.1 hvN, p_eq (by omega)]
      by_cases p : 0 < g (44 + v).toNat
      · rw [if_neg (by omega), b2_t p, p_bnd]
      · rw [if_pos (by omega), b2_f p, p_bnd]
    · rw [if_neg (by omega), if_neg hvN]
theorem c_dis {g : Nat → Int} {b : Nat} (h : WF g) (h3 : WF3 g) : ∀ (n fu : Nat) (s v : Int) (μ1 : Mu), RB μ1 b g → 0 ≤ v → v + n = 40 → n < fu → ∃ μ2, f_X1_disputedScripts_4 b (fun v1 μ => some (μ, 0, v1)) fu s v μ1 = some (μ2, 0, s + sm (fun x => b2 (¬ S_exc g (x / 5) (x % 5) ∧ S_state g (x / 5) (x % 5) = 2)) n v) ∧ JB b μ1 μ2
  | 0, fu + 1, s, v, μ1, R, h0, hn, hf => by
    refine ⟨μ1, ?_, JB.rf b μ1⟩
    rw [f_X1_disputedScripts_4, p_lt (by omega), if_neg (by omega)]
    simp [sm]
  | n + 1, fu + 1, s, v, μ1, R, h0, hn, hf => by
    have sb := S_state_bd (g := g) (c := v / 5) (q := v % 5)
    obtain ⟨μ2, a1, a2⟩ := c_standing h h3 R (c := v / 5) (q := v % 5) (s := v) (by omega) (by omega) (by omega)
    have R2 := a2.R R
    rw [f_X1_disputedScripts_4, p_lt (by omega), if_pos (by omega), a1, p_rb, p_eq (by omega)]
    unfold f_X1_disputedScripts_35
    simp only [sm]
    by_cases z : S_state g (v / 5) (v % 5) = 2
    · rw [if_pos z, p_div (by omega), p_rem (by omega), c_exc h R2 (by omega) (by omega), p_rb]
      by_cases p : S_exc g (v / 5) (v % 5)
      · obtain ⟨μ3, b1, b2'⟩ := c_dis (g := g) (b := b) h h3 n fu s (v + 1) μ2 R2 (by omega) (by omega) (by omega)
        refine ⟨μ3, ?_, a2.tr b2'⟩
        rw [b2_t p, p_eq (by omega), if_neg (by omega), b1, b2_f (fun y => y.1 p), Int.zero_add]
      · obtain ⟨μ3, b1, b2'⟩ := c_dis (g := g) (b := b) h h3 n fu (s + 1) (v + 1) μ2 R2 (by omega) (by omega) (by omega)
        refine ⟨μ3, ?_, a2.tr b2'⟩
        rw [b2_f p, p_eq (by omega), if_pos rfl, b1, b2_t ⟨p, z⟩, ← Int.add_assoc]
    · obtain ⟨μ3, b1, b2'⟩ := c_dis (g := g) (b := b) h h3 n fu s (v + 1) μ2 R2 (by omega) (by omega) (by omega)
      refine ⟨μ3, ?_, a2.tr b2'⟩
      rw [if_neg z, b1, b2_f (fun y => z y.2), Int.zero_add]
theorem b2_bd {P : Prop} [Decidable P] : 0 ≤ b2 P ∧ b2 P ≤ 1 := by have := b2_01 P; omega
def S_count (μ : Mu) (w : Int) : Int := if w = 0 then μ 249 144 else if w = 1 then S_wg (μ 249) else if w = 2 then S_seeds (μ 249) else if w = 3 then S_smk (μ 249) else if w = 4 then μ 249 641 else if w = 5 then μ 249 652 else if w = 6 then S_full (μ 249) else if w = 7 then μ 219 2 else if w = 8 then μ 73 2 else S_dis (μ 249)
theorem S_count_bd {T : Int} {μ : Mu} (I : Inv T μ) {w : Int} : iG (S_count μ w) := by
  have h := I.wf
  have t := h.tot
  have pm := h.pm
  have pb := h.pub
  have fl := S_full_bd h
  have i1 := I.2.2.1
  have i2 := I.2.2.2.1
  have wg := sm_bd (G := fun c => b2 (S_hg (μ 249) c)) (a := 0) (b := 1) 8 0 (fun j _ _ => b2_bd)
  have sd := sm_bd (G := fun q => μ 249 (14 + q).toNat) (a := 0) (b := 5) 5 0 (fun j x y => h.many (by omega))
  have sk := sm_bd (G := fun k => b2 (0 < μ 249 (44 + k).toNat)) (a := 0) (b := 1) 100 0 (fun j _ _ => b2_bd)
  have ds := sm_bd (G := fun c => sm (fun q => b2 (¬ S_exc (μ 249) c q ∧ S_state (μ 249) c q = 2)) 5 0) (a := 0) (b := 5) 8 0 (fun j _ _ => by
    have := sm_bd (G := fun q => b2 (¬ S_exc (μ 249) j q ∧ S_state (μ 249) j q = 2)) (a := 0) (b := 1) 5 0 (fun i _ _ => b2_bd)
    omega)
  unfold S_count S_wg S_seeds S_smk S_dis iG
  repeat' split
  all_goals omega
theorem o_count {T : Int} {μ : Mu} (I : Inv T μ) {w1 : Int} (h1 : iG w1) : OK T (lc_count w1 μ) := by
  unfold lc_count
  by_cases p : 0 ≤ w1 ∧ w1 ≤ 9
  · have hi := S_count_bd I (w := w1)
    have pb := I.wf.pub
    obtain ⟨m9, d1, d2⟩ := c_dis I.wf I.w3 40 FU 0 0 μ I.R (by omega) (by omega) (by unfold FU; omega)
    have dd : sm (fun x => b2 (¬ S_exc (μ 249) (x / 5) (x % 5) ∧ S_state (μ 249) (x / 5) (x % 5) = 2)) 40 0 = S_dis (μ 249) := sm_flat (F := fun c q => b2 (¬ S_exc (μ 249) c q ∧ S_state (μ 249) c q = 2)) (fun c q a b x y => by
      have e1 : (c * 5 + q) / 5 = c := by omega
      have e2 : (c * 5 + q) % 5 = q := by omega
      simp only [e1, e2])
    rw [dd, Int.zero_add] at d1
    refine op_ok I (μ1 := if w1 = 9 then m9 else μ) (x := S_count μ w1) ?_ ?_ (hg0 hi) (fun μ => cI_ok hi) (fun μ9 I9 k9 => ?_)
    · unfold f_X10_count f_X10_count_130
      rw [c_reqR h1 (by unfold iG; omega) (by unfold iG; omega), if_pos p, p_rb, p_sw (by omega)]
      unfold S_count
      rcases (show w1 = 0 ∨ w1 = 1 ∨ w1 = 2 ∨ w1 = 3 ∨ w1 = 4 ∨ w1 = 5 ∨ w1 = 6 ∨ w1 = 7 ∨ w1 = 8 ∨ w1 = 9 by omega) with rfl | rfl | rfl | rfl | rfl | rfl | rfl | rfl | rfl | rfl <;> simp only [Int.toNat_zero, Int.toNat_one, Int.reduceToNat, List.getD_cons_zero, List.getD_cons_succ, List.getD_nil, Int.reduceEq, ↓reduceIte]
      · rw [p_rdF, I.R.tot]
      · rw [c_graded I.wf I.w3 I.R, p_rb]
      · rw [c_sumOf (by omega), p_rb]
        congr 3
        exact sm_congr 5 0 (fun j x y => I.R.many (by omega))
      · rw [c_smk I.wf I.R, p_rb]
      · rw [p_rdF, I.R.pm]
      · rw [p_rdF, I.R.pub, p_eq (by omega)]
        rcases pb with e | e <;> rw [e] <;> rfl
      · rw [c_full I.R, p_rb]
      · rw [p_rdF]
      · rw [p_rdF]
      · unfold f_X1_disputedScripts
        rw [d1, p_rb]
    · split
      · exact d2.ka
      · exact KA.rf μ
    · have e9 : (up2 μ9 248 0 0) 249 = μ 249 := by rw [up2_oo (by omega), k9.s]
      have W9 : WF ((up2 μ9 248 0 0) 249) := by rw [e9]; exact I.wf
      obtain ⟨m8, t1, t2⟩ := r_dis I.wf I.w3 8 FU 0 0 (up2 μ9 248 0 0) (by omega) (by omega) (by unfold FU; omega) e9
      rw [Int.zero_add] at t1
      have e8 : μ9 248 8 = μ 219 2 := (k9 248 8 (by unfold jk; omega)).trans I.2.2.2.1.1.2.2
      have e5 : μ9 248 5 = μ 73 2 := (k9 248 5 (by unfold jk; omega)).trans I.2.2.1.2.2.1
      refine ⟨if w1 = 9 then m8 else up2 μ9 248 0 0, ?_, ?_, ?_⟩
      · unfold f_X11_count
        rw [p_wrF, p_sw (by omega)]
        unfold S_count
        rcases (show w1 = 0 ∨ w1 = 1 ∨ w1 = 2 ∨ w1 = 3 ∨ w1 = 4 ∨ w1 = 5 ∨ w1 = 6 ∨ w1 = 7 ∨ w1 = 8 ∨ w1 = 9 by omega) with rfl | rfl | rfl | rfl | rfl | rfl | rfl | rfl | rfl | rfl <;> simp only [Int.toNat_zero, Int.toNat_one, Int.reduceToNat, List.getD_cons_zero, List.getD_cons_succ, List.getD_nil, Int.reduceEq, ↓reduceIte]
        · rw [p_rdI (by omega), e9]; rfl
        · rw [r_withGrades W9, p_rb, e9]
        · rw [r_seeds W9, p_rb, e9]
        · rw [r_smk W9, p_rb, e9]
        · rw [p_rdI (by omega), e9]; rfl
        · rw [p_rdI (by omega), e9]; rfl
        · rw [r_full W9, p_rb, e9]
        · rw [p_rdF, up2_k (by omega), e8]
        · rw [p_rdF, up2_k (by omega), e5]
        · unfold f_X11_disputed
          rw [t1, p_rb]; rfl
      · split
        · exact JT.th.tr t2.r.jt
        · exact JT.th
      · split
        · rw [t2 248 0 (by unfold jF; omega), up2_s]
        · exact up2_s
  · refine op_ex I (e := 1) (i := 0) (x := 0) (b := 0) (μ2 := up2 (up2 μ 248 0 0) 248 0 1) ?_ rfl (by omega) ?_ (JT.th.up (by unfold jT; omega)) up2_s
    · unfold f_X10_count
      rw [c_reqR h1 (by unfold iG; omega) (by unfold iG; omega), if_neg p]; rfl
    · unfold f_X11_count
      rw [p_wrF, p_swD h1 (by simp only [List.length_cons, List.length_nil]; omega)]; rfl

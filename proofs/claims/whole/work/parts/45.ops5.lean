/-! ranked -/
def K_m (g : Nat → Int) (c : Int) : Int := S_mkd g c (S_set g c)
def K_n (g : Nat → Int) (c : Int) : Int := S_num g c (S_set g c)
def K_d (g : Nat → Int) (c : Int) : Int := S_den g c (S_set g c)
abbrev S_ahead (g : Nat → Int) (a b : Int) : Prop := K_m g b < K_m g a ∨ (K_m g a = K_m g b ∧ (K_n g b * K_d g a < K_n g a * K_d g b ∨ (K_n g a * K_d g b = K_n g b * K_d g a ∧ a < b)))
def S_ra (g : Nat → Int) (c d : Int) : Int := b2 (d ≠ c ∧ S_hg g d ∧ S_ahead g d c)
def S_rk (g : Nat → Int) (c : Int) : Int := sm (S_ra g c) 8 0
theorem S_rk_bd {g : Nat → Int} {c : Int} : 0 ≤ S_rk g c ∧ S_rk g c ≤ 8 := by
  have := sm_bd (G := S_ra g c) (a := 0) (b := 1) 8 0 (fun j _ _ => by have := b2_01 (j ≠ c ∧ S_hg g j ∧ S_ahead g j c); unfold S_ra; omega)
  unfold S_rk
  omega
theorem K_bd {g : Nat → Int} (h : WF g) (hx : WFx g) {a b : Int} (ha : 0 ≤ a ∧ a < 8) (hb : 0 ≤ b ∧ b < 8) : (0 ≤ K_m g a ∧ K_m g a ≤ 100) ∧ (0 ≤ K_n g a ∧ K_n g a ≤ 528000000) ∧ (1 ≤ K_d g a ∧ K_d g a ≤ 20000) ∧ (-10560000000000 ≤ K_n g a * K_d g b ∧ K_n g a * K_d g b ≤ 10560000000000) := by
  have n := S_num_bd h hx ha (S_set_ok h ha)
  have m := S_num_bd h hx hb (S_set_ok h hb)
  have mb := mul_bd (a := K_n g a) (b := K_d g b) (A := 528000000) (B := 20000) (by have := n.1; unfold K_n; omega) (by have := m.2.1; unfold K_d; omega)
  exact ⟨S_mkd_bd h hx ha (S_set_ok h ha), n.1, n.2.1, by omega⟩
/-- all outcomes stand -/
def RA (μ : Mu) (g : Nat → Int) (N : Int) : Prop := ∀ c : Int, 0 ≤ c → c < N → μ (232 + 2 * c.toNat) 1 = K_n g c ∧ μ (232 + 2 * c.toNat) 2 = K_d g c ∧ μ (232 + 2 * c.toNat) 3 = K_m g c
theorem c_rk_all {T : Int} {μ : Mu} (I : Inv T μ) {w : Int} {K : Mu → Option Res} : ∀ (n fu : Nat) (v : Int) (μ1 : Mu), 0 ≤ v → v + n = 8 → n < fu → KA μ μ1 → RA μ1 (μ 249) v → ∃ μ2, f_X10_ranked_2 w K fu v μ1 = K μ2 ∧ KA μ μ2 ∧ RA μ2 (μ 249) 8
  | 0, fu + 1, v, μ1, h0, hn, hf, hk, ha => by
    refine ⟨μ1, ?_, hk, by rw [show (8 : Int) = v by omega]; exact ha⟩
    rw [f_X10_ranked_2, p_lt (by omega), if_neg (by omega)]
  | n + 1, fu + 1, v, μ1, h0, hn, hf, hk, ha => by
    have I1 := I.keep hk
    have e1 : μ1 249 = μ 249 := hk.s
    obtain ⟨μ2, a1, a2, a3⟩ := o_find I1 (c := v) (by omega)
    rw [e1] at a2
    rw [f_X10_ranked_2, p_lt (by omega), if_pos (by omega), p_rdA (by omega), a1, p_rb]
    refine c_rk_all I n fu (v + 1) μ2 (by omega) (by omega) (by omega) (hk.tr a3) (fun c x y => ?_)
    by_cases z : c = v
    · subst z
      exact ⟨a2.2.2.1, a2.2.2.2.1, a2.2.2.2.2.1⟩
    · have := ha c x (by omega)
      rw [a2.1 (232 + 2 * c.toNat) (by omega) (by omega) (by omega)]
      exact this
theorem c_cmp {μ : Mu} {g : Nat → Int} (h : WF g) (hx : WFx g) (A : RA μ g 8) {a b : Int} (ha : 0 ≤ a ∧ a < 8) (hb : 0 ≤ b ∧ b < 8) : f_X5_compareWith (232 + 2 * a.toNat) (232 + 2 * b.toNat) μ = some (μ, 0, if K_m g a = K_m g b then (if K_n g a * K_d g b < K_n g b * K_d g a then -1 else if K_n g a * K_d g b = K_n g b * K_d g a then 0 else 1) else if K_m g b < K_m g a then 1 else -1) := by
  have Aa := A a ha.1 ha.2
  have Ab := A b hb.1 hb.2
  have k1 := K_bd h hx ha hb
  have k2 := K_bd h hx hb ha
  unfold f_X5_compareWith f_X5_compareWith_27
  simp only [p_rdF, Aa.1, Aa.2.1, Aa.2.2, Ab.1, Ab.2.1, Ab.2.2]
  rw [p_eq (by omega)]
  by_cases p : K_m g a = K_m g b
  · rw [if_pos p, if_pos p]
    unfold f_J13_compare_74951 f_J13_compare_74951_21
    rw [p_llt (by omega)]
    by_cases q : K_n g a * K_d g b < K_n g b * K_d g a
    · rw [if_pos q, if_pos q]; rfl
    · rw [if_neg q, if_neg q, p_leq (by omega)]
      by_cases r : K_n g a * K_d g b = K_n g b * K_d g a
      · rw [if_pos r, if_pos r]; rfl
      · rw [if_neg r, if_neg r]; rfl
  · rw [if_neg p, if_neg p, p_lt (by omega)]
    by_cases q : K_m g b < K_m g a
    · rw [if_pos q, if_pos q]
    · rw [if_neg q, if_neg q]
theorem c_rankOf {T : Int} {μ : Mu} (I : Inv T μ) (A : RA μ (μ 249) 8) {c : Int} (hc : 0 ≤ c ∧ c < 8) : f_X10_rankOf c μ = some (μ, 0, S_rk (μ 249) c) := by
  unfold f_X10_rankOf
  have key := loop_up (S := Int) (fun fu s v => f_X10_rankOf_4 c (fun v2 μ => some (μ, 0, v2)) fu s v μ) (fun s => some (μ, 0, s)) (fun s v => s + S_ra (μ 249) c v) 8 (fun s v => 0 ≤ v ∧ v ≤ 8) ?_ (fun s v hi hlt => by omega) 8 FU 0 0 (by omega) (by omega) (by unfold FU; omega)
  · rw [key, itS_sm, Int.zero_add]; rfl
  · intro fu s v hi
    show f_X10_rankOf_4 c _ (fu + 1) s v μ = _
    rw [f_X10_rankOf_4, p_lt (by omega)]
    unfold f_X10_rankOf_58 f_X10_rankOf_61
    by_cases hvN : v < 8
    · have k1 := K_bd I.wf I.wx (a := v) (b := c) (by omega) hc
      have k2 := K_bd I.wf I.wx (a := c) (b := v) hc (by omega)
      rw [if_pos hvN, if_pos hvN, p_eq (by omega)]
      unfold S_ra
      by_cases p : v = c
      · rw [if_pos p, b2_f (fun z => z.1 p), Int.add_zero]
      · rw [if_neg p, c_hasGrade I.wf I.w3 I.R (by omega), p_rb]
        by_cases p2 : S_hg (μ 249) v
        · rw [b2_t p2, p_eq (by omega), if_neg (by omega), p_rdA (by omega), p_rdA (by omega), c_cmp I.wf I.wx A (by omega) hc, p_rb]
          by_cases q1 : K_m (μ 249) v = K_m (μ 249) c
          · rw [if_pos q1]
            by_cases q2 : K_n (μ 249) v * K_d (μ 249) c < K_n (μ 249) c * K_d (μ 249) v
            · rw [if_pos q2, p_lt (by omega), if_neg (by omega), p_eq (by omega), if_neg (by omega), b2_f (fun z => by rcases z.2.2 with z | ⟨-, z | ⟨z, -⟩⟩ <;> omega), Int.add_zero]
            · rw [if_neg q2]
              by_cases q3 : K_n (μ 249) v * K_d (μ 249) c = K_n (μ 249) c * K_d (μ 249) v
              · rw [if_pos q3, p_lt (by omega), if_neg (by omega), p_eq (by omega), if_pos rfl, p_lt (by omega)]
                by_cases q4 : v < c
                · rw [if_pos q4, b2_t ⟨p, p2, Or.inr ⟨q1, Or.inr ⟨q3, q4⟩⟩⟩]
                · rw [if_neg q4, b2_f (fun z => by rcases z.2.2 with z | ⟨-, z | ⟨-, z⟩⟩ <;> omega), Int.add_zero]
              · rw [if_neg q3, p_lt (by omega), if_pos (by omega), b2_t ⟨p, p2, Or.inr ⟨q1, Or.inl (by omega)⟩⟩]
          · rw [if_neg q1]
            by_cases q2 : K_m (μ 249) c < K_m (μ 249) v
            · rw [if_pos q2, p_lt (by omega), if_pos (by omega), b2_t ⟨p, p2, Or.inl q2⟩]
            · rw [if_neg q2, p_lt (by omega), if_neg (by omega), p_eq (by omega), if_neg (by omega), b2_f (fun z => by rcases z.2.2 with z | ⟨z, -⟩ <;> omega), Int.add_zero]
        · rw [b2_f p2, p_eq (by omega), if_pos rfl, b2_f (fun z => p2 z.2.1), Int.add_zero]
    · rw [if_neg hvN, if_neg hvN]
/-- the reference's keys -/
def RK (μ : Mu) (g : Nat → Int) (N : Int) : Prop := ∀ c : Int, 0 ≤ c → c < N → μ 257 c.toNat = K_m g c ∧ μ 258 c.toNat = K_n g c ∧ μ 259 c.toNat = K_d g c
theorem r_rk_all {g : Nat → Int} (h : WF g) (h3 : WF3 g) (hx : WFx g) {w : Int} {K : Mu → Option Res} : ∀ (n fu : Nat) (v : Int) (μ1 : Mu), 0 ≤ v → v + n = 8 → n < fu → μ1 249 = g → RK μ1 g v → ∃ μ2, f_X11_ranked_7 w K fu v μ1 = K μ2 ∧ JT μ1 μ2 ∧ μ2 248 0 = μ1 248 0 ∧ RK μ2 g 8
  | 0, fu + 1, v, μ1, h0, hn, hf, hk, ha => by
    refine ⟨μ1, ?_, JT.rf μ1, rfl, by rw [show (8 : Int) = v by omega]; exact ha⟩
    rw [f_X11_ranked_7, p_lt (by omega), if_neg (by omega)]
  | n + 1, fu + 1, v, μ1, h0, hn, hf, hk, ha => by
    subst hk
    obtain ⟨m1, m2, b1, b2', b3, g1, g2, g3, -, -⟩ := r_gradesOf h h3 hx (c := v) (by omega)
    rw [f_X11_ranked_7, p_lt (by omega), if_pos (by omega), b1, p_rb, b2', p_rb, p_rdF, g3, p_wrI (by omega), p_rdF, up2_o (by omega), g1, p_wrI (by omega), p_rdF, up2_o (by omega), up2_o (by omega), g2, p_wrI (by omega)]
    generalize hμ : up2 (up2 (up2 m2 257 v.toNat (S_mkd (μ1 249) v (S_set (μ1 249) v))) 258 v.toNat (S_num (μ1 249) v (S_set (μ1 249) v))) 259 v.toNat (S_den (μ1 249) v (S_set (μ1 249) v)) = m3
    have j3 : JT μ1 m3 := by
      rw [← hμ]
      exact ((b3.jt.up (by unfold jT; omega)).up (by unfold jT; omega)).up (by unfold jT; omega)
    have z3 : m3 248 0 = μ1 248 0 := by rw [← hμ, up2_o (by omega), up2_o (by omega), up2_o (by omega), b3 248 0 (by unfold jR; omega)]
    have r3 : RK m3 (μ1 249) (v + 1) := by
      intro c x y
      rw [← hμ]
      by_cases z : c = v
      · subst z
        refine ⟨?_, ?_, up2_s⟩
        · rw [up2_o (by omega), up2_o (by omega), up2_s]; rfl
        · rw [up2_o (by omega), up2_s]; rfl
      · have := ha c x (by omega)
        refine ⟨?_, ?_, ?_⟩
        · rw [up2_o (by omega), up2_o (by omega), up2_k (by omega), b3 257 _ (by unfold jR; omega)]; exact this.1
        · rw [up2_o (by omega), up2_k (by omega), up2_o (by omega), b3 258 _ (by unfold jR; omega)]; exact this.2.1
        · rw [up2_k (by omega), up2_o (by omega), up2_o (by omega), b3 259 _ (by unfold jR; omega)]; exact this.2.2
    obtain ⟨μ2, d1, d2, d3, d4⟩ := r_rk_all (g := μ1 249) h h3 hx (w := w) (K := K) n fu (v + 1) m3 (by omega) (by omega) (by omega) j3.s r3
    exact ⟨μ2, d1, j3.tr d2, d3.trans z3, d4⟩
theorem r_isAhead {μ : Mu} {g : Nat → Int} (h : WF g) (hx : WFx g) (A : RK μ g 8) {a b : Int} (ha : 0 ≤ a ∧ a < 8) (hb : 0 ≤ b ∧ b < 8) : f_X11_isAhead a b μ = some (μ, 0, b2 (S_ahead g a b)) := by
  have Aa := A a ha.1 ha.2
  have Ab := A b hb.1 hb.2
  have k1 := K_bd h hx ha hb
  have k2 := K_bd h hx hb ha
  unfold f_X11_isAhead f_X11_isAhead_35 f_X11_isAhead_97
  rw [p_rdI (by omega), Aa.1, p_rdI (by omega), Ab.1, p_eq (by omega)]
  by_cases p : K_m g a = K_m g b
  · rw [if_pos p, p_rdI (by omega), Aa.2.1, p_rdI (by omega), Ab.2.2, p_bnd, p_rdI (by omega), Ab.2.1, p_rdI (by omega), Aa.2.2, p_bnd, p_leq (by omega)]
    by_cases q : K_n g a * K_d g b = K_n g b * K_d g a
    · rw [if_pos q, p_lt (by omega)]
      by_cases r : a < b
      · rw [if_pos r, b2_t (Or.inr ⟨p, Or.inr ⟨q, r⟩⟩)]; rfl
      · rw [if_neg r, b2_f (fun z => by rcases z with z | ⟨-, z | ⟨-, z⟩⟩ <;> omega)]; rfl
    · rw [if_neg q, p_llt (by omega)]
      by_cases r : K_n g b * K_d g a < K_n g a * K_d g b
      · rw [if_pos r, b2_t (Or.inr ⟨p, Or.inl r⟩)]; rfl
      · rw [if_neg r, b2_f (fun z => by rcases z with z | ⟨-, z | ⟨z, -⟩⟩ <;> omega)]; rfl
  · rw [if_neg p, p_rdI (by omega), Aa.1, p_rdI (by omega), Ab.1, p_lt (by omega)]
    by_cases q : K_m g b < K_m g a
    · rw [if_pos q, b2_t (Or.inl q)]; rfl
    · rw [if_neg q, b2_f (fun z => by rcases z with z | ⟨z, -⟩ <;> omega)]; rfl
theorem r_rk_one {μ : Mu} (h : WF (μ 249)) (hx : WFx (μ 249)) (A : RK μ (μ 249) 8) {c w : Int} (hc : 0 ≤ c ∧ c < 8) {K : Int → Int → Mu → Option Res} : f_X11_ranked_72 w K FU c 0 0 μ = K c (S_rk (μ 249) c) μ := by
  have key := loop_up (S := Int) (fun fu s v => f_X11_ranked_72 w K fu c s v μ) (fun s => K c s μ) (fun s v => s + S_ra (μ 249) c v) 8 (fun s v => 0 ≤ v ∧ v ≤ 8) ?_ (fun s v hi hlt => by omega) 8 FU 0 0 (by omega) (by omega) (by unfold FU; omega)
  · rw [key, itS_sm, Int.zero_add]; rfl
  · intro fu s v hi
    show f_X11_ranked_72 w K (fu + 1) c s v μ = _
    rw [f_X11_ranked_72, p_lt (by omega)]
    unfold f_X11_ranked_109 f_X11_ranked_110
    by_cases hvN : v < 8
    · rw [if_pos hvN, if_pos hvN, p_eq (by omega)]
      unfold S_ra
      by_cases p : v = c
      · rw [if_pos p, b2_f (fun z => z.1 p), p_bnd]
      · rw [if_neg p, r_hasGrade h (by unfold iG; omega), p_rb]
        by_cases p2 : S_hg (μ 249) v
        · rw [b2_t p2, p_eq (by omega), if_neg (by omega), r_isAhead h hx A (by omega) hc, p_rb]
          by_cases p3 : S_ahead (μ 249) v c
          · rw [b2_t p3, p_eq (by omega), if_neg (by omega), b2_t ⟨p, p2, p3⟩, p_bnd]
          · rw [b2_f p3, p_eq (by omega), if_pos rfl, b2_f (fun z => p3 z.2.2), p_bnd]
        · rw [b2_f p2, p_eq (by omega), if_pos rfl, b2_f (fun z => p2 z.2.1), p_bnd]
    · rw [if_neg hvN, if_neg hvN]
theorem o_ranked {T : Int} {μ : Mu} (I : Inv T μ) {w1 : Int} (h1 : iG w1) : OK T (lc_ranked w1 μ) := by
  have g1 := h1
  unfold iG at g1
  unfold lc_ranked
  obtain ⟨μ1, a1, a2, a3⟩ := c_rk_all I (w := w1) (K := fun μ => f_X10_ranked_30 w1 (fun v2 μ => some (μ, 0, v2)) (fun μ => some (μ, 6, 0)) FU 0 μ) 8 FU 0 μ (by omega) (by omega) (by unfold FU; omega) (KA.rf μ) (fun c x y => by omega)
  have I1 := I.keep a2
  have e1 : μ1 249 = μ 249 := a2.s
  have A1 : RA μ1 (μ1 249) 8 := by rw [e1]; exact a3
  have key := loop_find (fun fu v => f_X10_ranked_30 w1 (fun v2 μ => some (μ, 0, v2)) (fun μ => some (μ, 6, 0)) fu v μ1) (fun v => some (μ1, 0, v)) (some (μ1, 6, 0)) (fun c => S_hg (μ 249) c ∧ S_rk (μ 249) c = w1) 8 (fun v => 0 ≤ v ∧ v ≤ 8) (by
    intro fu v hi
    have rb9 := S_rk_bd (g := μ 249) (c := v)
    show f_X10_ranked_30 w1 _ _ (fu + 1) v μ1 = _
    rw [f_X10_ranked_30, p_lt (by omega)]
    unfold f_X10_ranked_58
    by_cases hvN : v < 8
    · rw [if_pos hvN, if_pos hvN, c_hasGrade I1.wf I1.w3 I1.R (by omega), p_rb, e1]
      by_cases p : S_hg (μ 249) v
      · rw [b2_t p, p_eq (by omega), if_neg (by omega), c_rankOf I1 A1 (by omega), p_rb, e1, p_eq (by omega)]
        by_cases q : S_rk (μ 249) v = w1
        · rw [if_pos q, if_pos ⟨p, q⟩]
        · rw [if_neg q, if_neg (fun z => q z.2)]
      · rw [b2_f p, p_eq (by omega), if_pos rfl, if_neg (fun z => p z.1)]
    · rw [if_neg hvN, if_neg hvN]) (fun v hi hlt => by omega) 8 FU 0 (by omega) (by omega) (by unfold FU; omega)
  have rside : ∀ μ9 : Mu, μ9 249 = μ 249 → ∃ m2 : Mu, JT μ9 m2 ∧ m2 248 0 = 0 ∧ ((∃ j : Int, 0 ≤ j ∧ j < 8 ∧ (S_hg (μ 249) j ∧ S_rk (μ 249) j = w1) ∧ (∀ i : Int, 0 ≤ i → i < j → ¬ (S_hg (μ 249) i ∧ S_rk (μ 249) i = w1)) ∧ f_X11_ranked w1 μ9 = some (m2, 0, j)) ∨ ((∀ j : Int, 0 ≤ j → j < 8 → ¬ (S_hg (μ 249) j ∧ S_rk (μ 249) j = w1)) ∧ f_X11_ranked w1 μ9 = some (up2 m2 248 0 1, 0, 0))) := by
    intro μ9 e9'
    have e9 : (up2 μ9 248 0 0) 249 = μ 249 := by rw [up2_oo (by omega), e9']
    obtain ⟨m2, b1, b2', b3, b4⟩ := r_rk_all I.wf I.w3 I.wx (w := w1) (K := fun μ => f_X11_ranked_61 w1 (fun v2 μ => some (μ, 0, v2)) (fun μ => rb (f_X11_fails 1 μ) fun μ x1 => some (μ, 0, x1)) FU 0 μ) 8 FU 0 (up2 μ9 248 0 0) (by omega) (by omega) (by unfold FU; omega) e9 (fun c x y => by omega)
    have e2 : m2 249 = μ 249 := b2'.s.trans e9
    have W2 : WF (m2 249) := by rw [e2]; exact I.wf
    have Wx2 : WFx (m2 249) := by rw [e2]; exact I.wx
    have A2 : RK m2 (m2 249) 8 := by rw [e2]; exact b4
    have key2 := loop_find (fun fu v => f_X11_ranked_61 w1 (fun v2 μ => some (μ, 0, v2)) (fun μ => rb (f_X11_fails 1 μ) fun μ x1 => some (μ, 0, x1)) fu v m2) (fun v => some (m2, 0, v)) (some (up2 m2 248 0 1, 0, (0 : Int))) (fun c => S_hg (μ 249) c ∧ S_rk (μ 249) c = w1) 8 (fun v => 0 ≤ v ∧ v ≤ 8) (by
      intro fu v hi
      have rb9 := S_rk_bd (g := μ 249) (c := v)
      show f_X11_ranked_61 w1 _ _ (fu + 1) v m2 = _
      rw [f_X11_ranked_61, p_lt (by omega)]
      unfold f_X11_ranked_133
      by_cases hvN : v < 8
      · rw [if_pos hvN, if_pos hvN, r_rk_one W2 Wx2 A2 (by omega), r_hasGrade W2 (by unfold iG; omega), p_rb, e2]
        by_cases p : S_hg (μ 249) v
        · rw [b2_t p, p_eq (by omega), if_neg (by omega), p_eq (by omega)]
          by_cases q : S_rk (μ 249) v = w1
          · rw [if_pos q, if_pos ⟨p, q⟩]
          · rw [if_neg q, if_neg (fun z => q z.2)]
        · rw [b2_f p, p_eq (by omega), if_pos rfl, if_neg (fun z => p z.1)]
      · rw [if_neg hvN, if_neg hvN]; rfl) (fun v hi hlt => by omega) 8 FU 0 (by omega) (by omega) (by unfold FU; omega)
    have fe : f_X11_ranked w1 μ9 = f_X11_ranked_61 w1 (fun v2 μ => some (μ, 0, v2)) (fun μ => rb (f_X11_fails 1 μ) fun μ x1 => some (μ, 0, x1)) FU 0 m2 := by
      unfold f_X11_ranked
      rw [p_wrF]; exact b1
    refine ⟨m2, JT.th.tr b2', by rw [b3, up2_s], ?_⟩
    rw [fe]
    rcases key2 with ⟨j, z1, z2, z3, z4, z5⟩ | ⟨z1, z2⟩
    · exact Or.inl ⟨j, z1, z2, z3, z4, z5⟩
    · exact Or.inr ⟨z1, z2⟩
  rcases key with ⟨j, z1, z2, z3, z4, z5⟩ | ⟨z1, z2⟩
  · have hi : iG j := by unfold iG; omega
    refine op_ok I (μ1 := μ1) (x := j) (by unfold f_X10_ranked; exact a1.trans z5) a2 (hg0 hi) (fun μ => cI_ok hi) (fun μ9 I9 k9 => ?_)
    obtain ⟨m2, y1, y2, y3⟩ := rside μ9 k9.s
    rcases y3 with ⟨j2, x1, x2, x3, x4, x5⟩ | ⟨x1, -⟩
    · have : j2 = j := by
        rcases Int.lt_trichotomy j2 j with w | w | w
        · exact absurd x3 (z4 j2 x1 w)
        · exact w
        · exact absurd z3 (x4 j z1 w)
      subst this
      exact ⟨m2, x5, y1, y2⟩
    · exact absurd z3 (x1 j z1 z2)
  · obtain ⟨m2, y1, y2, y3⟩ := rside μ1 e1
    rcases y3 with ⟨j2, x1, x2, x3, -, -⟩ | ⟨-, x2⟩
    · exact absurd x3 (z1 j2 x1 x2)
    · exact ⟨up2 m2 248 0 1, lc_ex (e := 5) (i := 0) (by unfold f_X10_ranked; exact a1.trans z2) rfl (by omega) x2 up2_s, (I1.keep (y1.up (by unfold jT; omega)).ka).up (by omega)⟩

/-! the class's outcomes -/
theorem c_plain {μ : Mu} {b : Nat} {g : Nat → Int} (h : WF g) (R : RB μ b g) {m : Int} (hm : 0 ≤ m ∧ m ≤ 100) : f_X1_plainGradeOf b m μ = some (μ, 0, S_pl g m) := by
  have hb := h.bo
  have step : ∀ (fu : Nat) (p : Int), 0 ≤ p → p < 4 → iG (g (10 + p).toNat) → f_X1_plainGradeOf_2 b m (fun v2 μ => some (μ, 0, v2)) (fun μ => some (μ, 0, 4)) (fu + 1) p μ = if m < g (10 + p).toNat then f_X1_plainGradeOf_2 b m (fun v2 μ => some (μ, 0, v2)) (fun μ => some (μ, 0, 4)) fu (p + 1) μ else some (μ, 0, p) := by
    intro fu p h0 h1 hi
    unfold iG at hi
    rw [f_X1_plainGradeOf_2, p_lt (by omega), if_pos h1, p_rdI (by omega), R.bo (by omega), p_lt (by omega)]
  have b0 : g (10 + 0 : Int).toNat = g 10 := rfl
  have b1 : g (10 + 1 : Int).toNat = g 11 := rfl
  have b2' : g (10 + 2 : Int).toNat = g 12 := rfl
  have b3 : g (10 + 3 : Int).toNat = g 13 := rfl
  unfold f_X1_plainGradeOf S_pl
  rw [show FU = 99995 + 4 + 1 from rfl, step (99995 + 4) 0 (by omega) (by omega) (by rw [b0]; unfold iG; omega), b0]
  by_cases c0 : g 10 ≤ m
  · rw [if_neg (by omega), if_pos c0]
  · rw [if_pos (by omega), if_neg c0, show (0 : Int) + 1 = 1 from rfl, step (99995 + 3) 1 (by omega) (by omega) (by rw [b1]; unfold iG; omega), b1]
    by_cases c1 : g 11 ≤ m
    · rw [if_neg (by omega), if_pos c1]
    · rw [if_pos (by omega), if_neg c1, show (1 : Int) + 1 = 2 from rfl, step (99995 + 2) 2 (by omega) (by omega) (by rw [b2']; unfold iG; omega), b2']
      by_cases c2 : g 12 ≤ m
      · rw [if_neg (by omega), if_pos c2]
      · rw [if_pos (by omega), if_neg c2, show (2 : Int) + 1 = 3 from rfl, step (99995 + 1) 3 (by omega) (by omega) (by rw [b3]; unfold iG; omega), b3]
        by_cases c3 : g 13 ≤ m
        · rw [if_neg (by omega), if_pos c3]
        · rw [if_pos (by omega), if_neg c3, show (3 : Int) + 1 = 4 from rfl, show (99995 + 1 : Nat) = 99995 + 1 from rfl, f_X1_plainGradeOf_2, p_lt (by omega), if_neg (by omega)]
theorem c_raw {μ : Mu} {b o : Nat} {g : Nat → Int} (h : WF g) (hx : WFx g) (R : RB μ b g) {c f : Int} (hc : 0 ≤ c ∧ c < 8) (hf9 : f = S_full g) {M : Int → Int} (hM : ∀ q : Int, 0 ≤ q → q < 5 → 0 ≤ M q ∧ M q ≤ 4800) (hMm : ∀ q : Int, 0 ≤ q → q < 5 → μ (o + 1) q.toNat = M q) :
    f_X5_findRawResult o b c f μ = some (up2 (up2 μ o 1 (S_num g c M)) o 2 (S_den g c M), 0, 0) := by
  have hst := h.st
  have hf := S_full_bd h
  have hr := (h.ex hc).2
  obtain ⟨b1, b2', b3⟩ := S_nd_bd h hx hc hM
  have b4 := S_num_bd h hx hc hM
  have hg := S_gcd_pos (x := S_n1 g c M) (y := S_d1 g c M) b1.1 (by omega)
  have hrs := S_rs_bd (g := g) (c := c) hM
  have hrm := S_rm_bd h hx hc
  have hn0 := S_n0_bd h hc hM
  subst hf9
  unfold f_X5_findRawResult
  generalize hk : (fun (v4 v6 : Int) (μ : Mu) => i_2l (S_full g) (rdI μ (b + 5) 8 c fun x1 => i_2l (100 + x1) (bnd ((v4 * S_full g) * (100 + x1)) fun x2 => bnd (v6 * 100) fun x3 => i_2l (S_full g) (l_lt ((S_full g * 120) * x3) x2 (i_2l (S_full g) (bnd (S_full g * 120) fun x4 => f_X5_findRawResult_109 o b c (S_full g) x4 1 μ)) (f_X5_findRawResult_109 o b c (S_full g) x2 x3 μ))))) = k
  have key := loop_up (S := Int × Int) (fun fu s v => f_X5_findRawResult_9 o b c (S_full g) k fu s.1 s.2 v μ) (fun s => k s.1 s.2 μ) (fun s v => (s.1 + (if S_exc g c v then 0 else M v), s.2 + (if S_exc g c v then 0 else g v.toNat))) 5 (fun s v => 0 ≤ v ∧ v ≤ 5) ?_ (fun s v hi hlt => by omega) 5 FU (0, 0) 0 (by omega) (by omega) (by unfold FU; omega)
  · rw [show f_X5_findRawResult_9 o b c (S_full g) k FU 0 0 0 μ = _ from key, itS_sm2]
    dsimp only
    rw [Int.zero_add, Int.zero_add]
    show k (S_rs g c M) (S_rm g c) μ = _
    rw [← hk]
    dsimp only
    rw [p_2l (by omega), p_rdI (by omega), R.ra hc, p_2l (by omega), p_bnd, p_bnd, p_2l (by omega)]
    have e1 : S_rs g c M * S_full g * (100 + g (633 + c).toNat) = S_n0 g c M := rfl
    have e2 : S_rm g c * 100 = S_d0 g c := rfl
    have m1 := mul_bd (a := S_full g * 120) (b := S_d0 g c) (A := 24000) (B := 20000) (by omega) (by omega)
    rw [e1, e2, p_llt (by omega)]
    have fin : ∀ x y : Int, x = S_n1 g c M → y = S_d1 g c M → f_X5_findRawResult_109 o b c (S_full g) x y μ = some (up2 (up2 μ o 1 (S_num g c M)) o 2 (S_den g c M), 0, 0) := by
      rintro x y rfl rfl
      unfold f_X5_findRawResult_109 f_X5_findRawResult_143
      rw [c_gcd (by omega) (by omega), p_rb, p_llt (by omega), if_pos (by omega), p_ldiv (by omega), p_wrF, p_ldiv (by omega), p_wrF]; rfl
    by_cases p : S_cap g c M
    · rw [if_pos p, p_2l (by omega), p_bnd]
      exact fin _ _ (by unfold S_n1; rw [if_pos p]) (by unfold S_d1; rw [if_pos p])
    · rw [if_neg p]
      exact fin _ _ (by unfold S_n1; rw [if_neg p]) (by unfold S_d1; rw [if_neg p])
  · intro fu s v hi
    show f_X5_findRawResult_9 o b c (S_full g) k (fu + 1) s.1 s.2 v μ = _
    rw [f_X5_findRawResult_9, p_lt (by omega)]
    by_cases hvN : v < 5
    · have hm := hMm v hi.1 hvN
      have hm2 := hM v hi.1 hvN
      have hx2 := h.mx (q := v) (by omega)
      rw [if_pos hvN, if_pos hvN, c_exc h R hc (by omega), p_rb]
      unfold f_X5_findRawResult_51
      by_cases p : S_exc g c v
      · rw [b2_t p, if_pos p, if_pos p, p_eq (by omega), if_neg (by omega), Int.add_zero, Int.add_zero]
      · rw [b2_f p, if_neg p, if_neg p, p_eq (by omega), if_pos rfl, p_rdI (by omega), hm, p_2l (by omega), p_bnd, p_rdI (by omega), R.mx (by omega), p_2l (by omega), p_bnd]
    · rw [if_neg hvN, if_neg hvN]
theorem c_isLiftedB {μ : Mu} {b o : Nat} {g : Nat → Int} (h : WF g) (R : RB μ b g) {c : Int} (hc : 0 ≤ c ∧ c < 8) {M : Int → Int} (hM : ∀ q : Int, 0 ≤ q → q < 5 → 0 ≤ M q ∧ M q ≤ 4800) (hMm : ∀ q : Int, 0 ≤ q → q < 5 → μ (o + 1) q.toNat = M q) {m p : Int} (hm : 0 ≤ m ∧ m ≤ 100) (hp : 0 < p ∧ p ≤ 4) (h17 : μ o 3 = m) (h18 : μ o 4 = p) {B : Int} (hB : g (10 + p - 1).toNat = B) (hb : 1 ≤ B ∧ B ≤ 100) :
    f_X5_isLifted o b c μ = some (μ, 0, b2 (B - m ≤ g 8 ∧ S_all g c ≤ 2 * S_good g c B M)) := by
  have hst := h.st
  have ha := S_all_bd (g := g) (c := c)
  have hgd := S_good_bd (g := g) (c := c) (b := B) (M := M)
  have h5 : μ (b + 2) (3 : Int).toNat = g 8 := R.st (w := 3) (by omega)
  have h6 := R.bo (k := p - 1) (by omega)
  rw [show (10 + (p - 1)) = 10 + p - 1 by omega, hB] at h6
  unfold f_X5_isLifted
  rw [p_rdF, h18, p_lt (by omega), if_pos hp.1, p_rdF, h18, p_lt (by omega), if_pos (by omega), p_rdF, h18, p_rdI (by omega), h6]
  generalize hk : (fun (v3 v4 v5 : Int) (μ : Mu) => rdF μ o 3 fun x5 => rdI μ (b + 2) 5 3 fun x6 => i_lt x6 (v3 - x5) (f_X5_isLifted_126 o b c μ) (i_lt (2 * v5) v4 (f_X5_isLifted_126 o b c μ) (f_X5_isLifted_127 o b c 1 μ))) = k
  have key := loop_up (S := Int × Int) (fun fu s v => f_X5_isLifted_38 o b c k fu B s.1 s.2 v μ) (fun s => k B s.1 s.2 μ) (fun s v => (s.1 + (if S_exc g c v then 0 else 1), s.2 + (if S_exc g c v then 0 else b2 (B * g v.toNat * 120 ≤ M v * 100)))) 5 (fun s v => 0 ≤ v ∧ v ≤ 5) ?_ (fun s v hi hlt => by omega) 5 FU (0, 0) 0 (by omega) (by omega) (by unfold FU; omega)
  · rw [show f_X5_isLifted_38 o b c k FU B 0 0 0 μ = _ from key, itS_sm2]
    dsimp only
    rw [Int.zero_add, Int.zero_add]
    show k B (S_all g c) (S_good g c B M) μ = _
    rw [← hk]
    dsimp only
    unfold f_X5_isLifted_126 f_X5_isLifted_127
    rw [p_rdF, h17, p_rdI (by omega), h5, p_lt (by omega)]
    by_cases c1 : B - m ≤ g 8
    · rw [if_neg (by omega), p_lt (by omega)]
      by_cases c2 : S_all g c ≤ 2 * S_good g c B M
      · rw [if_neg (by omega), b2_t ⟨c1, c2⟩]; rfl
      · rw [if_pos (by omega), b2_f (fun w => c2 w.2)]; rfl
    · rw [if_pos (by omega), b2_f (fun w => c1 w.1)]; rfl
  · intro fu s v hi
    show f_X5_isLifted_38 o b c k (fu + 1) B s.1 s.2 v μ = _
    rw [f_X5_isLifted_38, p_lt (by omega)]
    by_cases hvN : v < 5
    · have hm1 := hMm v hi.1 hvN
      have hm2 := hM v hi.1 hvN
      have hx2 := h.mx (q := v) (by omega)
      have mb := mul_bd (a := B) (b := g v.toNat) (A := 100) (B := 40) (by omega) (by omega)
      rw [if_pos hvN, if_pos hvN, c_exc h R hc (by omega), p_rb]
      unfold f_X5_isLifted_89 f_X5_isLifted_92
      by_cases p : S_exc g c v
      · rw [b2_t p, if_pos p, if_pos p, p_eq (by omega), if_neg (by omega), Int.add_zero, Int.add_zero]
      · rw [b2_f p, if_neg p, if_neg p, p_eq (by omega), if_pos rfl, p_rdI (by omega), hm1, p_rdI (by omega), R.mx (by omega), p_lt (by omega)]
        by_cases p3 : B * g v.toNat * 120 ≤ M v * 100
        · rw [if_neg (by omega), b2_t p3, p_bnd]
        · rw [if_pos (by omega), b2_f p3, p_bnd]
    · rw [if_neg hvN, if_neg hvN]
theorem c_isLifted {μ : Mu} {b o : Nat} {g : Nat → Int} (h : WF g) (R : RB μ b g) {c : Int} (hc : 0 ≤ c ∧ c < 8) {M : Int → Int} (hM : ∀ q : Int, 0 ≤ q → q < 5 → 0 ≤ M q ∧ M q ≤ 4800) (hMm : ∀ q : Int, 0 ≤ q → q < 5 → μ (o + 1) q.toNat = M q) {m p : Int} (hm : 0 ≤ m ∧ m ≤ 100) (hp : 0 < p ∧ p ≤ 4) (h17 : μ o 3 = m) (h18 : μ o 4 = p) :
    f_X5_isLifted o b c μ = some (μ, 0, b2 (S_lift g c M m p)) := c_isLiftedB h R hc hM hMm hm hp h17 h18 rfl (bound_at h hp)
/-- what assess leaves -/
def RO (μ μ' : Mu) (o : Nat) (g : Nat → Int) (c : Int) (M : Int → Int) : Prop := (∀ a : Nat, a ≠ o → μ' a = μ a) ∧ μ' o 1 = S_num g c M ∧ μ' o 2 = S_den g c M ∧ μ' o 3 = S_mkd g c M ∧ μ' o 4 = S_plain g c M ∧ μ' o 5 = S_grade g c M
theorem S_mkd_bd {g : Nat → Int} (h : WF g) (hx : WFx g) {c : Int} (hc : 0 ≤ c ∧ c < 8) {M : Int → Int} (hM : ∀ q : Int, 0 ≤ q → q < 5 → 0 ≤ M q ∧ M q ≤ 4800) : 0 ≤ S_mkd g c M ∧ S_mkd g c M ≤ 100 := by
  obtain ⟨n1, n2, n3⟩ := S_num_bd h hx hc hM
  have hf := S_full_bd h
  exact S_scl_bd h (n := S_num g c M) (d := S_den g c M * 120) n1.1 (by omega) (by
    rw [show S_full g * (S_den g c M * 120) = S_full g * 120 * S_den g c M by rw [Int.mul_comm (S_den g c M) 120, Int.mul_assoc]]
    exact n3)
theorem c_assess {μ : Mu} {b o : Nat} {g : Nat → Int} (h : WF g) (hx : WFx g) (R : RB μ b g) (ho : b + 23 ≤ o) {c : Int} (hc : 0 ≤ c ∧ c < 8) {M : Int → Int} (hM : ∀ q : Int, 0 ≤ q → q < 5 → 0 ≤ M q ∧ M q ≤ 4800) (hMm : ∀ q : Int, 0 ≤ q → q < 5 → μ (o + 1) q.toNat = M q) :
    ∃ μ', f_X5_assess o b c μ = some (μ', 0, 0) ∧ RO μ μ' o g c M := by
  obtain ⟨n1, n2, n3⟩ := S_num_bd h hx hc hM
  have hf := S_full_bd h
  have sb := S_mkd_bd h hx hc hM
  have hpl := S_pl_bd (g := g) (m := S_mkd g c M)
  unfold f_X5_assess
  rw [c_full R, p_rb, c_raw h hx R hc rfl hM hMm, p_rb, p_rdF, p_rdF, up2_s, up2_k (by omega), up2_s]
  generalize hμ1 : up2 (up2 μ o 1 (S_num g c M)) o 2 (S_den g c M) = μ1
  have e1 : ∀ a : Nat, a ≠ o → μ1 a = μ a := fun a ha => by rw [← hμ1, up2_oo ha, up2_oo ha]
  have R1 : RB μ1 b g := R.keep (fun a x y => e1 a (by omega))
  have k1 : μ1 o 1 = S_num g c M := by rw [← hμ1, up2_k (by omega), up2_s]
  have k2 : μ1 o 2 = S_den g c M := by rw [← hμ1, up2_s]
  rw [c_scale h R1 (by omega) (by omega) rfl, p_rb, show S_scl g (S_num g c M) (S_den g c M * 120) = S_mkd g c M from rfl, p_wrF]
  generalize hμ2 : up2 μ1 o 3 (S_mkd g c M) = μ2
  have e2 : ∀ a : Nat, a ≠ o → μ2 a = μ a := fun a ha => by rw [← hμ2, up2_oo ha, e1 a ha]
  have R2 : RB μ2 b g := R.keep (fun a x y => e2 a (by omega))
  have l3 : μ2 o 3 = S_mkd g c M := by rw [← hμ2, up2_s]
  have l1 : μ2 o 1 = S_num g c M := by rw [← hμ2, up2_k (by omega), k1]
  have l2 : μ2 o 2 = S_den g c M := by rw [← hμ2, up2_k (by omega), k2]
  rw [p_rdF, l3, c_plain h R2 sb, p_rb, show S_pl g (S_mkd g c M) = S_plain g c M from rfl, p_wrF]
  generalize hμ3 : up2 μ2 o 4 (S_plain g c M) = μ3
  have e3 : ∀ a : Nat, a ≠ o → μ3 a = μ a := fun a ha => by rw [← hμ3, up2_oo ha, e2 a ha]
  have R3 : RB μ3 b g := R.keep (fun a x y => e3 a (by omega))
  have m4 : μ3 o 4 = S_plain g c M := by rw [← hμ3, up2_s]
  have m3 : μ3 o 3 = S_mkd g c M := by rw [← hμ3, up2_k (by omega), l3]
  have m2 : μ3 o 2 = S_den g c M := by rw [← hμ3, up2_k (by omega), l2]
  have m1 : μ3 o 1 = S_num g c M := by rw [← hμ3, up2_k (by omega), l1]
  have hp9 : 0 ≤ S_plain g c M ∧ S_plain g c M ≤ 4 := hpl
  have fin : ∀ x : Int, x = S_grade g c M → ∃ μ', some (up2 μ3 o 5 x, 0, (0 : Int)) = some (μ', 0, 0) ∧ RO μ μ' o g c M := by
    rintro x rfl
    refine ⟨_, rfl, fun a ha => ?_, ?_, ?_, ?_, ?_, up2_s⟩
    · rw [up2_oo ha, e3 a ha]
    · rw [up2_k (by omega), m1]
    · rw [up2_k (by omega), m2]
    · rw [up2_k (by omega), m3]
    · rw [up2_k (by omega), m4]
  have hMm3 : ∀ q : Int, 0 ≤ q → q < 5 → μ3 (o + 1) q.toNat = M q := fun q x y => by rw [e3 (o + 1) (by omega)]; exact hMm q x y
  unfold f_X5_assess_71
  by_cases p0 : 0 < S_plain g c M
  · rw [c_isLifted h R3 hc hM hMm3 (m := S_mkd g c M) (p := S_plain g c M) sb ⟨p0, hp9.2⟩ m3 m4, p_rb]
    by_cases p1 : S_lift g c M (S_mkd g c M) (S_plain g c M)
    · rw [b2_t p1, p_eq (by omega), if_neg (by omega), p_rdF, m4, p_wrF]
      exact fin _ (by unfold S_grade S_gr; rw [if_pos ⟨p0, p1⟩])
    · rw [b2_f p1, p_eq (by omega), if_pos rfl, p_rdF, m4, p_wrF]
      exact fin _ (by unfold S_grade S_gr; rw [if_neg (fun w => p1 w.2)])
  · have hl : f_X5_isLifted o b c μ3 = some (μ3, 0, 0) := by
      unfold f_X5_isLifted f_X5_isLifted_15
      rw [p_rdF, m4, p_lt (by omega), if_neg p0]; rfl
    rw [hl, p_rb, p_eq (by omega), if_pos rfl, p_rdF, m4, p_wrF]
    exact fin _ (by unfold S_grade S_gr; rw [if_neg (fun w => p0 w.1)])
theorem S_set_ok {g : Nat → Int} (h : WF g) {c : Int} (hc : 0 ≤ c ∧ c < 8) : ∀ q : Int, 0 ≤ q → q < 5 → 0 ≤ S_set g c q ∧ S_set g c q ≤ 4800 := fun q a b => S_set_bd h hc ⟨a, b⟩
/-- a candidate's outcome, found anew: only it and the values' row change -/
def RF (μ μ' : Mu) (b o : Nat) (g : Nat → Int) (c : Int) (M : Int → Int) : Prop := (∀ a : Nat, a ≠ o → a ≠ o + 1 → a ≠ b + 23 → μ' a = μ a) ∧ (∀ q : Int, 0 ≤ q → q < 5 → μ' (o + 1) q.toNat = M q) ∧ μ' o 1 = S_num g c M ∧ μ' o 2 = S_den g c M ∧ μ' o 3 = S_mkd g c M ∧ μ' o 4 = S_plain g c M ∧ μ' o 5 = S_grade g c M
theorem c_find {μ : Mu} {b o : Nat} {g : Nat → Int} (h : WF g) (h3 : WF3 g) (hx : WFx g) (R : RB μ b g) (ho : b + 24 ≤ o) {c : Int} (hc : 0 ≤ c ∧ c < 8) :
    ∃ μ', f_X5_find o b c μ = some (μ', 0, 0) ∧ RF μ μ' b o g c (S_set g c) := by
  unfold f_X5_find
  have key : ∀ (n fu : Nat) (v : Int) (μ1 : Mu), 0 ≤ v → v + n = 5 → n < fu → (∀ a : Nat, a ≠ o + 1 → a ≠ b + 23 → μ1 a = μ a) → (∀ q : Int, 0 ≤ q → q < v → μ1 (o + 1) q.toNat = S_set g c q) →
      ∃ μ', f_X5_find_2 o b c (fun μ => rb (f_X5_assess o b c μ) fun μ _ => some (μ, 0, 0)) fu v μ1 = some (μ', 0, 0) ∧ RF μ μ' b o g c (S_set g c) := by
    intro n
    induction n with
    | zero =>
      intro fu v μ1 h0 hn hf hj hm
      obtain ⟨fu, rfl⟩ : ∃ f, fu = f + 1 := ⟨fu - 1, by omega⟩
      have R1 : RB μ1 b g := R.keep (fun a x y => hj a (by omega) (by omega))
      obtain ⟨μ2, a1, a2, a3⟩ := c_assess h hx R1 (show b + 23 ≤ o by omega) hc (S_set_ok h hc) (fun q x y => hm q x (by omega))
      rw [f_X5_find_2, p_lt (by omega), if_neg (by omega), a1, p_rb]
      refine ⟨μ2, rfl, fun a x y z => ?_, fun q x y => ?_, a3⟩
      · rw [a2 a x, hj a y z]
      · rw [a2 _ (by omega)]; exact hm q x (by omega)
    | succ n ih =>
      intro fu v μ1 h0 hn hf hj hm
      obtain ⟨fu, rfl⟩ : ∃ f, fu = f + 1 := ⟨fu - 1, by omega⟩
      have R1 : RB μ1 b g := R.keep (fun a x y => hj a (by omega) (by omega))
      obtain ⟨μ2, a1, a2⟩ := c_settled h h3 R1 hc (q := v) (by omega) rfl
      unfold f_X10_scriptOf at *
      rw [f_X5_find_2, p_lt (by omega), if_pos (by omega)]
      unfold f_X10_scriptOf
      rw [p_rb, a1, p_rb, p_wrI (by omega)]
      refine ih fu (v + 1) _ (by omega) (by omega) (by omega) (fun a x y => ?_) (fun q x y => ?_)
      · rw [up2_oo x, a2 a y, hj a x y]
      · by_cases w : q = v
        · subst w; exact up2_s
        · rw [up2_k (by omega), a2 _ (by omega)]; exact hm q x (by omega)
  exact key 5 FU 0 μ (by omega) (by omega) (by unfold FU; omega) (fun _ _ _ => rfl) (fun q a b => by omega)
/-- one settled mark replaced -/
def S_with (M : Int → Int) (q v : Int) : Int → Int := fun j => if j = q then v else M j
theorem c_suppose {μ : Mu} {b o : Nat} {g : Nat → Int} (h : WF g) (hx : WFx g) (R : RB μ b g) (ho : b + 24 ≤ o) {c q v : Int} (hc : 0 ≤ c ∧ c < 8) (hq : 0 ≤ q ∧ q < 5) (hv : 0 ≤ v ∧ v ≤ 40) {M : Int → Int} (hM : ∀ q : Int, 0 ≤ q → q < 5 → 0 ≤ M q ∧ M q ≤ 4800) (hMm : ∀ q : Int, 0 ≤ q → q < 5 → μ (o + 1) q.toNat = M q) :
    ∃ μ', f_X5_suppose o b c q v μ = some (μ', 0, 0) ∧ RF μ μ' b o g c (S_with M q (v * 120)) := by
  have hW : ∀ j : Int, 0 ≤ j → j < 5 → 0 ≤ S_with M q (v * 120) j ∧ S_with M q (v * 120) j ≤ 4800 := fun j x y => by
    have := hM j x y
    unfold S_with
    split <;> omega
  have hWm : ∀ j : Int, 0 ≤ j → j < 5 → up2 μ (o + 1) q.toNat (v * 120) (o + 1) j.toNat = S_with M q (v * 120) j := fun j x y => by
    unfold S_with
    by_cases w : j = q
    · subst w; rw [if_pos rfl]; exact up2_s
    · rw [if_neg w, up2_k (by omega)]; exact hMm j x y
  have R1 : RB (up2 μ (o + 1) q.toNat (v * 120)) b g := R.keep (fun a x y => up2_oo (by omega))
  obtain ⟨μ2, a1, a2, a3⟩ := c_assess h hx R1 (show b + 23 ≤ o by omega) hc hW hWm
  unfold f_X5_suppose
  rw [p_wrI (by omega), a1, p_rb]
  refine ⟨μ2, rfl, fun a x y z => ?_, fun j x y => ?_, a3⟩
  · rw [a2 a x, up2_oo y]
  · rw [a2 _ (by omega)]; exact hWm j x y

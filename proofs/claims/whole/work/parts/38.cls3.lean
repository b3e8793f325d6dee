/-! the class's results: raw, scaled, graded -/
theorem c_exc {μ : Mu} {b : Nat} {g : Nat → Int} (h : WF g) (R : RB μ b g) {c q : Int} (hc : 0 ≤ c ∧ c < 8) (hq : 0 ≤ q ∧ q < 5) : f_X1_isExcused b c q μ = some (μ, 0, b2 (S_exc g c q)) := by
  have h1 := (h.ex hc).1
  have h2 := exc_01 h1 hq
  unfold f_X1_isExcused f_X1_isExcused_18
  rw [p_rdI (by omega), R.ex hc, p_eq (by omega)]
  by_cases p : S_exc g c q
  · rw [if_neg (by unfold S_exc at p; omega), b2_t p]; rfl
  · rw [if_pos (by unfold S_exc at p; omega), b2_f p]; rfl
theorem c_sumOf {μ : Mu} {a n : Nat} (hn : n ≤ 1000) : f_X10_sumOf a n μ = some (μ, 0, sm (fun j => μ a j.toNat) n 0) := by
  unfold f_X10_sumOf
  have key := loop_up (S := Int) (fun fu s v => f_X10_sumOf_4 a n (fun v1 μ => some (μ, 0, v1)) fu s v μ) (fun s => some (μ, 0, s)) (fun s v => s + μ a v.toNat) n (fun s v => 0 ≤ v ∧ v ≤ n) ?_ (fun s v hi hlt => by omega) n FU 0 0 (by omega) (by omega) (by unfold FU; omega)
  · rw [key, itS_sm, Int.zero_add]
  · intro fu s v hi
    show f_X10_sumOf_4 a n _ (fu + 1) s v μ = _
    rw [f_X10_sumOf_4, p_lt (by omega)]
    by_cases hvN : v < (n : Int)
    · rw [if_pos hvN, if_pos hvN, p_rdI (by omega), p_bnd]
    · rw [if_neg hvN, if_neg hvN]
theorem c_full {μ : Mu} {b : Nat} {g : Nat → Int} (R : RB μ b g) : f_X1_fullMaximum b μ = some (μ, 0, S_full g) := by
  unfold f_X1_fullMaximum
  rw [c_sumOf (by omega), p_rb]
  congr 3
  exact sm_congr 5 0 (fun j h1 h2 => R.mx (by omega))
theorem hg_ex {g : Nat → Int} (h : WF g) {c : Int} : S_hg g c ↔ ∃ q : Int, 0 ≤ q ∧ q < 5 ∧ 0 < S_cnt g c q (g 144).toNat := by
  have ht := h.tot
  have s1 := sm_pos (fun e => S_ec g e = c) (g 144).toNat 0
  constructor
  · intro w
    obtain ⟨e, h1, h2, h3⟩ := s1.mp w
    have he := h.ee (e := e) (by omega)
    refine ⟨S_eq g e, he.2.2.1.1, he.2.2.1.2, ?_⟩
    exact (sm_pos (fun x => S_is g c (S_eq g e) x) (g 144).toNat 0).mpr ⟨e, h1, h2, h3, rfl⟩
  · rintro ⟨q, -, -, w⟩
    obtain ⟨e, h1, h2, h3⟩ := (sm_pos (fun x => S_is g c q x) (g 144).toNat 0).mp w
    exact s1.mpr ⟨e, h1, h2, h3.1⟩
theorem c_hasGrade {μ : Mu} {b : Nat} {g : Nat → Int} (h : WF g) (h3 : WF3 g) (R : RB μ b g) {c : Int} (hc : 0 ≤ c ∧ c < 8) : f_X1_hasGrade b c μ = some (μ, 0, b2 (S_hg g c)) := by
  unfold f_X1_hasGrade
  have key := loop_find (fun fu v => f_X1_hasGrade_2 b c (fun μ => retZ μ 1) (fun μ => retZ μ 0) fu v μ) (fun _ => retZ μ 1) (retZ μ 0) (fun q => 0 < S_cnt g c q (g 144).toNat) 5 (fun v => 0 ≤ v ∧ v ≤ 5) ?_ (fun v hi hlt => by omega) 5 FU 0 (by omega) (by omega) (by unfold FU; omega)
  · rcases key with ⟨j, h1, h2, h3, -, h4⟩ | ⟨h1, h2⟩
    · rw [h4, b2_t ((hg_ex h).mpr ⟨j, h1, h2, h3⟩)]; rfl
    · rw [h2, b2_f (fun w => by obtain ⟨k, a1, a2, a3⟩ := (hg_ex h).mp w; exact h1 k a1 a2 a3)]; rfl
  · intro fu v hi
    show f_X1_hasGrade_2 b c _ _ (fu + 1) v μ = _
    rw [f_X1_hasGrade_2, p_lt (by omega)]
    by_cases hvN : v < 5
    · have h5 := cnt_0 (g := g) (c := c) (q := v) (n := (g 144).toNat)
      have h6 := h3 c v
      unfold f_X10_scriptOf
      rw [if_pos hvN, if_pos hvN, p_rb, p_rdI (by omega), R.sz hc (by omega), p_lt (by omega)]
    · rw [if_neg hvN, if_neg hvN]
theorem c_graded {μ : Mu} {b : Nat} {g : Nat → Int} (h : WF g) (h3 : WF3 g) (R : RB μ b g) : f_X1_gradedCandidates b μ = some (μ, 0, S_wg g) := by
  unfold f_X1_gradedCandidates
  have key := loop_up (S := Int) (fun fu s v => f_X1_gradedCandidates_4 b (fun v3 μ => some (μ, 0, v3)) fu s v μ) (fun s => some (μ, 0, s)) (fun s v => s + b2 (S_hg g v)) 8 (fun s v => 0 ≤ v ∧ v ≤ 8) ?_ (fun s v hi hlt => by omega) 8 FU 0 0 (by omega) (by omega) (by unfold FU; omega)
  · rw [key, itS_sm, Int.zero_add]; rfl
  · intro fu s v hi
    show f_X1_gradedCandidates_4 b _ (fu + 1) s v μ = _
    rw [f_X1_gradedCandidates_4, p_lt (by omega)]
    by_cases hvN : v < 8
    · rw [if_pos hvN, if_pos hvN, c_hasGrade h h3 R (by omega), p_rb]
      unfold f_X1_gradedCandidates_24
      by_cases p : S_hg g v
      · rw [b2_t p, p_eq (by omega), if_neg (by omega), p_bnd]
      · rw [b2_f p, p_eq (by omega), if_pos rfl, p_bnd]
    · rw [if_neg hvN, if_neg hvN]
theorem xorL_nn {x y : Int} (hx : 0 ≤ x ∧ x < 9223372036854775808) (hy : 0 ≤ y ∧ y < 9223372036854775808) : 0 ≤ xorL x y ∧ xorL x y < 9223372036854775808 := by
  have e : xorL x y = ((iL x).toBitVec ^^^ (iL y).toBitVec).toInt := rfl
  have m : ∀ z : Int, 0 ≤ z ∧ z < 9223372036854775808 → (iL z).toBitVec.msb = false := by
    intro z hz
    rw [BitVec.msb_eq_toInt]
    have : (iL z).toBitVec.toInt = z := iL_toInt (by unfold gL; omega)
    rw [this]
    simpa using hz.1
  have h1 : ((iL x).toBitVec ^^^ (iL y).toBitVec).msb = false := by rw [BitVec.msb_xor, m x hx, m y hy]; rfl
  rw [BitVec.msb_eq_toInt] at h1
  rw [e]
  have h2 : ¬ ((iL x).toBitVec ^^^ (iL y).toBitVec).toInt < 0 := of_decide_eq_false h1
  have h3 := BitVec.toInt_lt (x := (iL x).toBitVec ^^^ (iL y).toBitVec)
  refine ⟨by omega, ?_⟩
  have : (2 : Int) ^ (64 - 1) = 9223372036854775808 := by decide
  omega
theorem c_floor {μ : Mu} {x y : Int} (hx : 0 ≤ x ∧ x < 9223372036854775808) (hy : 0 < y ∧ y < 9223372036854775808) : f_J9_floorDiv_f86c9 x y μ = some (μ, 0, x / y) := by
  have h1 := xorL_nn hx ⟨by omega, hy.2⟩
  unfold f_J9_floorDiv_f86c9 f_J9_floorDiv_f86c9_27
  rw [p_ldiv (by omega), p_llt (by omega), if_neg (by omega)]
theorem c_round {μ : Mu} {n d : Int} (hn : 0 ≤ n ∧ n ≤ 1000000000000) (hd : 0 < d ∧ d ≤ 1000000000000) : f_X2_round n d μ = some (μ, 0, S_rnd n d) := by
  unfold f_X2_round f_X2_round_26
  rw [p_llt (by omega), if_pos (by omega), c_floor (by omega) (by omega), p_rb]; rfl
def pw : Nat → Int
  | 0 => 1
  | n + 1 => 2 * pw n
theorem gstep {a b : Int} (ha : 0 ≤ a) (hb : 0 < b) : S_gcd b (a % b) = S_gcd a b := by
  unfold S_gcd
  rw [Nat.gcd_comm a.toNat b.toNat, Nat.gcd_rec b.toNat a.toNat, Nat.gcd_comm, show (a % b).toNat = a.toNat % b.toNat by rw [Int.toNat_emod ha (by omega)]]
theorem g0 {a : Int} (ha : 0 ≤ a) : S_gcd a 0 = a := by
  unfold S_gcd
  simp only [Int.toNat_zero, Nat.gcd_zero_right]; omega
theorem c_gcd_l {μ : Mu} {K : Int → Mu → Option Res} {p0 p2 : Int} : ∀ (k fu : Nat) (x y v : Int), 0 ≤ x → x < 9223372036854775808 → 0 ≤ y → y < pw k → y ≤ 20000 → 0 ≤ v → v + 2 * (k : Int) < 200 → 2 * k + 1 < fu → f_X10_greatestCommonDivisor_9 p0 p2 K fu x y v μ = K (S_gcd x y) μ := by
  intro k
  induction k with
  | zero =>
    intro fu x y v hx hx2 hy hy2 hy3 hv hv2 hf
    obtain ⟨fu, rfl⟩ : ∃ f, fu = f + 1 := ⟨fu - 1, by omega⟩
    have h1 : pw 0 = 1 := rfl
    have h0 : y = 0 := by omega
    rw [f_X10_greatestCommonDivisor_9, p_lt (by omega), if_pos (by omega), p_leq (by omega), if_pos h0, h0, g0 hx]
  | succ k ih =>
    intro fu x y v hx hx2 hy hy2 hy3 hv hv2 hf
    obtain ⟨fu, rfl⟩ : ∃ f, fu = f + 1 + 1 := ⟨fu - 2, by omega⟩
    have hp : pw (k + 1) = 2 * pw k := rfl
    rw [f_X10_greatestCommonDivisor_9, p_lt (by omega), if_pos (by omega), p_leq (by omega)]
    by_cases hy0 : y = 0
    · rw [if_pos hy0, hy0, g0 hx]
    · have h1 := Int.emod_nonneg x hy0
      have h2 := Int.emod_lt_of_pos x (show 0 < y by omega)
      rw [if_neg hy0, p_lrem (by omega), f_X10_greatestCommonDivisor_9, p_lt (by omega), if_pos (by omega), p_leq (by omega)]
      by_cases hr : x % y = 0
      · rw [if_pos hr, ← gstep hx (show 0 < y by omega), hr, g0 hy]
      · have h3 := Int.emod_nonneg y hr
        have h4 := Int.emod_lt_of_pos y (show 0 < x % y by omega)
        have h5 : y % (x % y) ≤ y - x % y := by
          have hd : 1 ≤ y / (x % y) := Int.le_ediv_of_mul_le (by omega) (by omega)
          have hm : x % y * 1 ≤ x % y * (y / (x % y)) := Int.mul_le_mul_of_nonneg_left hd (by omega)
          rw [Int.emod_def y (x % y)]; omega
        rw [if_neg hr, p_lrem (by omega), ih fu (x % y) (y % (x % y)) (v + 1 + 1) (by omega) (by omega) h3 (by omega) (by omega) (by omega) (by push_cast at hv2; omega) (by omega), gstep hy (show 0 < x % y by omega), gstep hx (show 0 < y by omega)]
theorem c_gcd {μ : Mu} {x y : Int} (hx : 0 ≤ x ∧ x < 9223372036854775808) (hy : 0 ≤ y ∧ y ≤ 20000) : f_X10_greatestCommonDivisor x y μ = some (μ, 0, S_gcd x y) := by
  unfold f_X10_greatestCommonDivisor
  have h15 : pw 15 = 32768 := rfl
  rw [c_gcd_l 15 FU x y 0 hx.1 hx.2 hy.1 (by omega) hy.2 (by omega) (by omega) (by unfold FU; omega)]
  rfl
theorem c_scale_l {μ : Mu} {b : Nat} {g : Nat → Int} (h : WF g) (R : RB μ b g) {n d f : Int} (hn : 0 ≤ n ∧ n ≤ 1000000000) (hd : 0 < d ∧ d ≤ 3000000) {K : Int → Mu → Option Res} {E : Mu → Option Res} : ∀ (m fu : Nat) (k : Int), 0 ≤ k → k + 1 < g 641 → g 641 ≤ k + 1 + m → n < S_px g (g 641 - 1) * d → m < fu →
    f_X2_scale_54 (b + 16) n d f K E fu (k + 1) μ = K (S_seek g n d m k + 1) μ
  | 0, fu, k, h0, h1, h2, h4, hf => by omega
  | m + 1, fu + 1, k, h0, h1, h2, h4, hf => by
    have hpm := h.pm
    have hp := S_pt h (k := k + 1) (by omega)
    have e := (R.pt (k := k + 1) (by omega)).1
    have m1 := mul_bd (a := S_px g (k + 1)) (b := d) (A := 200) (B := 3000000) (by omega) (by omega)
    rw [f_X2_scale_54, p_rdF, R.pm, p_lt (by omega), if_pos (by omega), p_rdI (by omega), e, p_2l (by omega), p_llt (by omega)]
    simp only [S_seek]
    by_cases p : n < S_px g (k + 1) * d
    · rw [if_pos p, if_pos p]
    · rw [if_neg p, if_neg p]
      have h5 : k + 1 + 1 < g 641 := by
        by_cases w : k + 1 + 1 = g 641
        · rw [show g 641 - 1 = k + 1 by omega] at h4; omega
        · omega
      exact c_scale_l h R hn hd m fu (k + 1) (by omega) h5 (by omega) h4 (by omega)
theorem c_scale_e {μ : Mu} {b : Nat} {g : Nat → Int} (h : WF g) (R : RB μ b g) {n d f : Int} (hn : 0 ≤ n ∧ n ≤ 1000000000) (hd : 0 < d ∧ d ≤ 3000000) {K : Int → Mu → Option Res} {E : Mu → Option Res} : ∀ (m fu : Nat) (k : Int), 0 ≤ k → k + 1 ≤ g 641 → g 641 ≤ k + 1 + m → S_px g (g 641 - 1) * d ≤ n → m < fu →
    f_X2_scale_54 (b + 16) n d f K E fu (k + 1) μ = E μ
  | 0, fu + 1, k, h0, h1, h2, h4, hf => by
    have hpm := h.pm
    rw [f_X2_scale_54, p_rdF, R.pm, p_lt (by omega), if_neg (by omega)]
  | m + 1, fu + 1, k, h0, h1, h2, h4, hf => by
    have hpm := h.pm
    rw [f_X2_scale_54, p_rdF, R.pm, p_lt (by omega)]
    by_cases w : k + 1 < g 641
    · have hp := S_pt h (k := k + 1) (by omega)
      have e := (R.pt (k := k + 1) (by omega)).1
      have m1 := mul_bd (a := S_px g (k + 1)) (b := d) (A := 200) (B := 3000000) (by omega) (by omega)
      have hle : S_px g (k + 1) * d ≤ n := by
        have mono : ∀ (j : Nat) (i : Int), 0 ≤ i → i + j < g 641 → S_px g i ≤ S_px g (i + j) := by
          intro j
          induction j with
          | zero => intro i _ _; simp
          | succ j ih =>
            intro i hi hj
            have a1 := ih i hi (by push_cast at hj; omega)
            have a2 := S_lt h (k := i + j) (by push_cast at hj; omega)
            rw [show i + ((j + 1 : Nat) : Int) = i + j + 1 by push_cast; omega]
            omega
        have a3 := mono (g 641 - 1 - (k + 1)).toNat (k + 1) (by omega) (by omega)
        rw [show k + 1 + ((g 641 - 1 - (k + 1)).toNat : Int) = g 641 - 1 by omega] at a3
        have a4 : S_px g (k + 1) * d ≤ S_px g (g 641 - 1) * d := Int.mul_le_mul_of_nonneg_right a3 (by omega)
        omega
      rw [if_pos w, p_rdI (by omega), e, p_2l (by omega), p_llt (by omega), if_neg (by omega)]
      exact c_scale_e h R hn hd m fu (k + 1) (by omega) (by omega) (by omega) h4 (by omega)
    · rw [if_neg w]
theorem c_scale {μ : Mu} {b : Nat} {g : Nat → Int} (h : WF g) (R : RB μ b g) {n d f : Int} (hn : 0 ≤ n ∧ n ≤ 1000000000) (hd : 0 < d ∧ d ≤ 3000000) (hf : f = S_full g) : f_X2_scale (b + 16) n d f μ = some (μ, 0, S_scl g n d) := by
  have hfb := S_full_bd h
  have hpm := h.pm
  subst hf
  unfold f_X2_scale S_scl
  rw [p_rdF, R.pm, p_lt (by omega)]
  by_cases c1 : g 641 < 2
  · have m1 := mul_bd (a := d) (b := S_full g) (A := 3000000) (B := 200) (by omega) (by omega)
    have p1 : 0 < d * S_full g := Int.mul_pos hd.1 (by omega)
    unfold f_X2_scale_16
    rw [if_pos c1, if_pos c1, p_2l (by omega), c_round (by omega) (by omega), p_rb]
  · have p0 := S_pt h (k := 0) (by omega)
    have pl := S_pt h (k := g 641 - 1) (by omega)
    have m0 := mul_bd (a := S_px g 0) (b := d) (A := 200) (B := 3000000) (by omega) (by omega)
    have r0 := R.pt (k := 0) (by omega)
    have rl := R.pt (k := g 641 - 1) (by omega)
    rw [if_neg c1, if_neg c1, p_rdF, R.pm, p_lt (by omega), if_neg (by omega), p_rdI (by omega), r0.1, p_2l (by omega), p_llt (by omega)]
    by_cases c2 : n ≤ S_px g 0 * d
    · rw [if_neg (by omega), if_pos c2, p_rdI (by omega), r0.2]
    · rw [if_pos (by omega), if_neg c2]
      by_cases c3 : S_px g (g 641 - 1) * d ≤ n
      · rw [if_pos c3]
        rw [show f_X2_scale_54 (b + 16) n d (S_full g) _ _ FU 1 μ = _ from c_scale_e h R hn hd (f := S_full g) 5 FU 0 (by omega) (by omega) (by omega) c3 (by unfold FU; omega)]
        rw [p_rdF, R.pm, p_rdI (by omega), rl.2]
      · rw [if_neg c3]
        rw [show f_X2_scale_54 (b + 16) n d (S_full g) _ _ FU 1 μ = _ from c_scale_l h R hn hd (f := S_full g) 4 FU 0 (by omega) (by omega) (by omega) (by omega) (by unfold FU; omega)]
        obtain ⟨a1, a2, a3, a4⟩ := S_seek_at h hd.1 4 0 (by omega) (by omega) (by omega) (show S_px g 0 * d ≤ n by omega) (by omega)
        generalize S_seek g n d 4 0 = k at a1 a2 a3 a4
        have p1 := S_pt h (k := k) (by omega)
        have p2 := S_pt h (k := k + 1) (by omega)
        have p3 := S_lt h (k := k) (by omega)
        have e : (S_px g (k + 1) - S_px g k) * d = S_px g (k + 1) * d - S_px g k * d := Int.sub_mul _ _ _
        have bb := mid_bd (y := S_py g k) (v := S_py g (k + 1)) (w := S_px g (k + 1) - S_px g k) (t := n - S_px g k * d) (d := d) p1.2 p2.2 (by omega)
        have m3 := mul_bd (a := S_px g (k + 1) - S_px g k) (b := d) (A := 200) (B := 3000000) (by omega) (by omega)
        have q1 := R.pt (k := k) (by omega)
        have q2 := R.pt (k := k + 1) (by omega)
        have ek : k + 1 - 1 = k := by omega
        rw [p_rdI (by omega), q2.1, ek, p_rdI (by omega), q1.1, p_2l (by omega), p_bnd, p_rdI (by omega), q1.2, p_2l (by omega), p_bnd, p_rdI (by omega), q1.1, p_2l (by omega), p_bnd, p_rdI (by omega), q2.2, p_rdI (by omega), q1.2, p_2l (by omega)]
        rw [c_round (by omega) ⟨Int.mul_pos (by omega) hd.1, by omega⟩, p_rb]
        rfl

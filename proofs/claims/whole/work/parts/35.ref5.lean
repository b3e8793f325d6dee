/-! the reference: the scaling curve and grades -/
def S_rnd (n d : Int) : Int := (2 * n + d) / (2 * d)
def S_px (g : Nat → Int) (k : Int) : Int := g (642 + 2 * k).toNat
def S_py (g : Nat → Int) (k : Int) : Int := g (642 + 2 * k + 1).toNat
/-- between the points k and k + 1 -/
def S_mid (g : Nat → Int) (n d k : Int) : Int := S_rnd (S_py g k * (S_px g (k + 1) - S_px g k) * d + (S_py g (k + 1) - S_py g k) * (n - S_px g k * d)) ((S_px g (k + 1) - S_px g k) * d)
/-- the first of the m places from k + 1 on that lies beyond n / d -/
def S_seek (g : Nat → Int) (n d : Int) : Nat → Int → Int
  | 0, k => k
  | m + 1, k => if n < S_px g (k + 1) * d then k else S_seek g n d m (k + 1)
def S_scl (g : Nat → Int) (n d : Int) : Int :=
  if g 641 < 2 then S_rnd (100 * n) (d * S_full g)
  else if n ≤ S_px g 0 * d then S_py g 0
  else if S_px g (g 641 - 1) * d ≤ n then S_py g (g 641 - 1)
  else S_mid g n d (S_seek g n d 4 0)
theorem r_rnd {μ : Mu} {n d : Int} (hn : 0 ≤ n ∧ n ≤ 1000000000000) (hd : 0 < d ∧ d ≤ 1000000000000) : f_X11_rounded n d μ = some (μ, 0, S_rnd n d) := by
  unfold f_X11_rounded
  rw [p_ldiv (by omega)]; rfl
theorem S_rnd_bd {n d B : Int} (hn : 0 ≤ n) (hd : 0 < d) (hB : 0 ≤ B) (h : n ≤ B * d) : 0 ≤ S_rnd n d ∧ S_rnd n d ≤ B := by
  unfold S_rnd
  refine ⟨Int.ediv_nonneg (by omega) (by omega), ?_⟩
  have h1 : 2 * n + d < (B + 1) * (2 * d) := by
    rw [Int.add_mul, Int.one_mul, show B * (2 * d) = 2 * (B * d) by rw [← Int.mul_assoc, Int.mul_comm B 2, Int.mul_assoc]]
    omega
  have := Int.ediv_lt_of_lt_mul (show 0 < 2 * d by omega) h1
  omega
theorem S_pt {g : Nat → Int} (h : WF g) {k : Int} (hk : 0 ≤ k ∧ k < g 641) : (0 ≤ S_px g k ∧ S_px g k ≤ 200) ∧ (0 ≤ S_py g k ∧ S_py g k ≤ 100) := h.pt hk
theorem S_lt {g : Nat → Int} (h : WF g) {k : Int} (hk : 0 ≤ k ∧ k + 1 < g 641) : S_px g k < S_px g (k + 1) := by
  have := h.pl hk
  unfold S_px
  rw [show 642 + 2 * (k + 1) = 642 + 2 * k + 2 by omega]; exact this
/-- the sum between two points -/
theorem mid_bd {y v w t d : Int} (hy : 0 ≤ y ∧ y ≤ 100) (hv : 0 ≤ v ∧ v ≤ 100) (ht : 0 ≤ t ∧ t ≤ w * d) : 0 ≤ y * w * d + (v - y) * t ∧ y * w * d + (v - y) * t ≤ 100 * (w * d) := by
  have e : y * w * d + (v - y) * t = y * (w * d - t) + v * t := by
    rw [Int.sub_mul, Int.mul_sub, Int.mul_assoc]; omega
  rw [e]
  have a1 : 0 ≤ y * (w * d - t) := Int.mul_nonneg hy.1 (by omega)
  have a2 : 0 ≤ v * t := Int.mul_nonneg hv.1 ht.1
  have a3 : y * (w * d - t) ≤ 100 * (w * d - t) := Int.mul_le_mul_of_nonneg_right hy.2 (by omega)
  have a4 : v * t ≤ 100 * t := Int.mul_le_mul_of_nonneg_right hv.2 ht.1
  omega
/-- where it is found -/
theorem S_seek_at {g : Nat → Int} (h : WF g) {n d : Int} (hd : 0 < d) : ∀ (m : Nat) (k : Int), 0 ≤ k → k + 1 < g 641 → g 641 ≤ k + 1 + m → S_px g k * d ≤ n → n < S_px g (g 641 - 1) * d →
    k ≤ S_seek g n d m k ∧ S_seek g n d m k + 1 < g 641 ∧ S_px g (S_seek g n d m k) * d ≤ n ∧ n < S_px g (S_seek g n d m k + 1) * d
  | 0, k, h0, h1, h2, h3, h4 => by omega
  | m + 1, k, h0, h1, h2, h3, h4 => by
    simp only [S_seek]
    by_cases p : n < S_px g (k + 1) * d
    · rw [if_pos p]; exact ⟨by omega, h1, h3, p⟩
    · rw [if_neg p]
      have h5 : k + 1 + 1 < g 641 := by
        by_cases w : k + 1 + 1 = g 641
        · rw [show g 641 - 1 = k + 1 by omega] at h4; omega
        · omega
      obtain ⟨a1, a2, a3, a4⟩ := S_seek_at h hd m (k + 1) (by omega) h5 (by omega) (by omega) h4
      exact ⟨by omega, a2, a3, a4⟩
theorem r_seek {μ : Mu} (h : WF (μ 249)) {n d : Int} (hn : 0 ≤ n ∧ n ≤ 1000000000) (hd : 0 < d ∧ d ≤ 3000000) {K : Int → Mu → Option Res} : ∀ (m fu : Nat) (k : Int), 0 ≤ k → k + 1 < μ 249 641 → μ 249 641 ≤ k + 1 + m → n < S_px (μ 249) (μ 249 641 - 1) * d → m < fu →
    f_X11_scaled_99 n d K fu k μ = K (S_seek (μ 249) n d m k) μ
  | 0, fu, k, h0, h1, h2, h4, hf => by omega
  | m + 1, fu + 1, k, h0, h1, h2, h4, hf => by
    have hpm := h.pm
    have hp := S_pt h (k := k + 1) (by omega)
    have e : μ 249 (642 + 2 * k + 2).toNat = S_px (μ 249) (k + 1) := by
      unfold S_px
      rw [show 642 + 2 * (k + 1) = 642 + 2 * k + 2 by omega]
    have m1 := mul_bd (a := S_px (μ 249) (k + 1)) (b := d) (A := 200) (B := 3000000) (by omega) (by omega)
    rw [f_X11_scaled_99, p_rdI (by omega), e, p_2l (by omega), p_llt (by omega)]
    simp only [S_seek]
    by_cases p : n < S_px (μ 249) (k + 1) * d
    · rw [if_pos p, if_pos p]
    · rw [if_neg p, if_neg p]
      have h5 : k + 1 + 1 < μ 249 641 := by
        by_cases w : k + 1 + 1 = μ 249 641
        · rw [show μ 249 641 - 1 = k + 1 by omega] at h4; omega
        · omega
      exact r_seek h hn hd m fu (k + 1) (by omega) h5 (by omega) h4 (by omega)
theorem S_scl_bd {g : Nat → Int} (h : WF g) {n d : Int} (hn : 0 ≤ n) (hd : 0 < d) (hnd : n ≤ S_full g * d) : 0 ≤ S_scl g n d ∧ S_scl g n d ≤ 100 := by
  have hf := S_full_bd h
  have hpm := h.pm
  unfold S_scl
  by_cases c1 : g 641 < 2
  · rw [if_pos c1]
    refine S_rnd_bd (by omega) (Int.mul_pos hd (by omega)) (by omega) ?_
    rw [Int.mul_comm d]; omega
  · rw [if_neg c1]
    by_cases c2 : n ≤ S_px g 0 * d
    · rw [if_pos c2]; exact (S_pt h (k := 0) (by omega)).2
    · rw [if_neg c2]
      by_cases c3 : S_px g (g 641 - 1) * d ≤ n
      · rw [if_pos c3]; exact (S_pt h (k := g 641 - 1) (by omega)).2
      · rw [if_neg c3]
        obtain ⟨a1, a2, a3, a4⟩ := S_seek_at h hd 4 0 (by omega) (by omega) (by omega) (show S_px g 0 * d ≤ n by omega) (by omega)
        generalize S_seek g n d 4 0 = k at a1 a2 a3 a4
        have p1 := S_pt h (k := k) (by omega)
        have p2 := S_pt h (k := k + 1) (by omega)
        have p3 := S_lt h (k := k) (by omega)
        have e : (S_px g (k + 1) - S_px g k) * d = S_px g (k + 1) * d - S_px g k * d := Int.sub_mul _ _ _
        have b := mid_bd (y := S_py g k) (v := S_py g (k + 1)) (w := S_px g (k + 1) - S_px g k) (t := n - S_px g k * d) (d := d) p1.2 p2.2 (by omega)
        unfold S_mid
        exact S_rnd_bd b.1 (Int.mul_pos (by omega) hd) (by omega) b.2
theorem r_scaled {μ : Mu} (h : WF (μ 249)) {n d : Int} (hn : 0 ≤ n ∧ n ≤ 1000000000) (hd : 0 < d ∧ d ≤ 3000000) : f_X11_scaled n d μ = some (μ, 0, S_scl (μ 249) n d) := by
  have hf := S_full_bd h
  have hpm := h.pm
  unfold f_X11_scaled S_scl
  rw [p_rdI (by omega), show μ 249 (641 : Int).toNat = μ 249 641 from rfl, p_lt (by omega)]
  by_cases c1 : μ 249 641 < 2
  · have m1 := mul_bd (a := d) (b := S_full (μ 249)) (A := 3000000) (B := 200) (by omega) (by omega)
    have p1 : 0 < d * S_full (μ 249) := Int.mul_pos hd.1 (by omega)
    rw [if_pos c1, if_pos c1, r_full h, p_rb, p_2l (by omega), r_rnd (by omega) (by omega), p_rb]
  · have p0 := S_pt h (k := 0) (by omega)
    have pl := S_pt h (k := μ 249 641 - 1) (by omega)
    have m0 := mul_bd (a := S_px (μ 249) 0) (b := d) (A := 200) (B := 3000000) (by omega) (by omega)
    have ml := mul_bd (a := S_px (μ 249) (μ 249 641 - 1)) (b := d) (A := 200) (B := 3000000) (by omega) (by omega)
    have e0 : μ 249 (642 : Int).toNat = S_px (μ 249) 0 := rfl
    have e1 : μ 249 (643 : Int).toNat = S_py (μ 249) 0 := rfl
    have el : μ 249 (642 + 2 * μ 249 641 - 2).toNat = S_px (μ 249) (μ 249 641 - 1) := by
      unfold S_px
      rw [show 642 + 2 * (μ 249 641 - 1) = 642 + 2 * μ 249 641 - 2 by omega]
    have el1 : μ 249 (642 + 2 * μ 249 641 - 1).toNat = S_py (μ 249) (μ 249 641 - 1) := by
      unfold S_py
      rw [show 642 + 2 * (μ 249 641 - 1) + 1 = 642 + 2 * μ 249 641 - 1 by omega]
    rw [if_neg c1, if_neg c1, p_rdI (by omega), e0, p_2l (by omega), p_llt (by omega)]
    by_cases c2 : n ≤ S_px (μ 249) 0 * d
    · rw [if_neg (by omega), if_pos c2, p_rdI (by omega), e1]
    · rw [if_pos (by omega), if_neg c2, p_rdI (by omega), el, p_2l (by omega), p_llt (by omega)]
      by_cases c3 : S_px (μ 249) (μ 249 641 - 1) * d ≤ n
      · rw [if_neg (by omega), if_pos c3, p_rdI (by omega), el1]
      · rw [if_pos (by omega), if_neg c3, r_seek h hn hd 4 FU 0 (by omega) (by omega) (by omega) (by omega) (by unfold FU; omega)]
        obtain ⟨a1, a2, a3, a4⟩ := S_seek_at h hd.1 4 0 (by omega) (by omega) (by omega) (show S_px (μ 249) 0 * d ≤ n by omega) (by omega)
        generalize S_seek (μ 249) n d 4 0 = k at a1 a2 a3 a4
        have p1 := S_pt h (k := k) (by omega)
        have p2 := S_pt h (k := k + 1) (by omega)
        have p3 := S_lt h (k := k) (by omega)
        have e : (S_px (μ 249) (k + 1) - S_px (μ 249) k) * d = S_px (μ 249) (k + 1) * d - S_px (μ 249) k * d := Int.sub_mul _ _ _
        have b := mid_bd (y := S_py (μ 249) k) (v := S_py (μ 249) (k + 1)) (w := S_px (μ 249) (k + 1) - S_px (μ 249) k) (t := n - S_px (μ 249) k * d) (d := d) p1.2 p2.2 (by omega)
        have m3 := mul_bd (a := S_px (μ 249) (k + 1) - S_px (μ 249) k) (b := d) (A := 200) (B := 3000000) (by omega) (by omega)
        have q1 : μ 249 (642 + 2 * k).toNat = S_px (μ 249) k := rfl
        have q2 : μ 249 (642 + 2 * k + 1).toNat = S_py (μ 249) k := rfl
        have q3 : μ 249 (642 + 2 * k + 2).toNat = S_px (μ 249) (k + 1) := by
          unfold S_px
          rw [show 642 + 2 * (k + 1) = 642 + 2 * k + 2 by omega]
        have q4 : μ 249 (642 + 2 * k + 3).toNat = S_py (μ 249) (k + 1) := by
          unfold S_py
          rw [show 642 + 2 * (k + 1) + 1 = 642 + 2 * k + 3 by omega]
        rw [p_rdI (by omega), q1, p_2l (by omega), p_rdI (by omega), q2, p_2l (by omega), p_rdI (by omega), q3, p_2l (by omega), p_rdI (by omega), q4, p_2l (by omega)]
        rw [r_rnd (by omega) ⟨Int.mul_pos (by omega) hd.1, by omega⟩, p_rb]
        rfl
/-- the grade without lifting -/
def S_pl (g : Nat → Int) (m : Int) : Int := if g 10 ≤ m then 0 else if g 11 ≤ m then 1 else if g 12 ≤ m then 2 else if g 13 ≤ m then 3 else 4
def S_mkd (g : Nat → Int) (c : Int) (M : Int → Int) : Int := S_scl g (S_num g c M) (S_den g c M * 120)
def S_all (g : Nat → Int) (c : Int) : Int := sm (fun q => if S_exc g c q then 0 else 1) 5 0
def S_good (g : Nat → Int) (c b : Int) (M : Int → Int) : Int := sm (fun q => if S_exc g c q then 0 else b2 (b * g q.toNat * 120 ≤ M q * 100)) 5 0
abbrev S_lift (g : Nat → Int) (c : Int) (M : Int → Int) (m p : Int) : Prop := g (10 + p - 1).toNat - m ≤ g 8 ∧ S_all g c ≤ 2 * S_good g c (g (10 + p - 1).toNat) M
def S_gr (g : Nat → Int) (c : Int) (M : Int → Int) (m p : Int) : Int := if 0 < p ∧ S_lift g c M m p then p - 1 else p
def S_plain (g : Nat → Int) (c : Int) (M : Int → Int) : Int := S_pl g (S_mkd g c M)
def S_grade (g : Nat → Int) (c : Int) (M : Int → Int) : Int := S_gr g c M (S_mkd g c M) (S_plain g c M)
theorem S_pl_bd {g : Nat → Int} {m : Int} : 0 ≤ S_pl g m ∧ S_pl g m ≤ 4 := by
  unfold S_pl
  split
  · omega
  · split
    · omega
    · split
      · omega
      · split <;> omega
theorem S_gr_bd {g : Nat → Int} {c : Int} {M : Int → Int} : 0 ≤ S_grade g c M ∧ S_grade g c M ≤ 4 := by
  have := S_pl_bd (g := g) (m := S_mkd g c M)
  unfold S_grade S_gr S_plain
  split <;> omega
theorem S_all_bd {g : Nat → Int} {c : Int} : 0 ≤ S_all g c ∧ S_all g c ≤ 5 := by
  have := sm_bd (G := fun q => if S_exc g c q then (0 : Int) else 1) (a := 0) (b := 1) 5 0 (fun j _ _ => by split <;> omega)
  unfold S_all
  omega
theorem S_good_bd {g : Nat → Int} {c b : Int} {M : Int → Int} : 0 ≤ S_good g c b M ∧ S_good g c b M ≤ 5 := by
  have := sm_bd (G := fun q => if S_exc g c q then (0 : Int) else b2 (b * g q.toNat * 120 ≤ M q * 100)) (a := 0) (b := 1) 5 0 (fun j _ _ => by
    have := b2_01 (b * g j.toNat * 120 ≤ M j * 100)
    split <;> omega)
  unfold S_good
  omega
theorem bound_at {g : Nat → Int} (h : WF g) {p : Int} (hp : 0 < p ∧ p ≤ 4) : 1 ≤ g (10 + p - 1).toNat ∧ g (10 + p - 1).toNat ≤ 100 := by
  have hb := h.bo
  rcases (show p = 1 ∨ p = 2 ∨ p = 3 ∨ p = 4 by omega) with rfl | rfl | rfl | rfl
  · show 1 ≤ g 10 ∧ g 10 ≤ 100; omega
  · show 1 ≤ g 11 ∧ g 11 ≤ 100; omega
  · show 1 ≤ g 12 ∧ g 12 ≤ 100; omega
  · show 1 ≤ g 13 ∧ g 13 ≤ 100; omega
theorem r_isLiftedB {μ : Mu} (h : WF (μ 249)) {c : Int} (hc : 0 ≤ c ∧ c < 8) {M : Int → Int} (hM : ∀ q : Int, 0 ≤ q → q < 5 → 0 ≤ M q ∧ M q ≤ 4800) (hMm : ∀ q : Int, 0 ≤ q → q < 5 → μ 256 q.toNat = M q) {m p : Int} (hm : 0 ≤ m ∧ m ≤ 100) (hp : 0 < p ∧ p ≤ 4) (h17 : μ 248 17 = m) (h18 : μ 248 18 = p) {B : Int} (hB : μ 249 (10 + p - 1).toNat = B) (hb : 1 ≤ B ∧ B ≤ 100) :
    f_X11_isLifted c μ = some (μ, 0, b2 (B - m ≤ μ 249 8 ∧ S_all (μ 249) c ≤ 2 * S_good (μ 249) c B M)) := by
  have hst := h.st
  have ha := S_all_bd (g := μ 249) (c := c)
  have hgd := S_good_bd (g := μ 249) (c := c) (b := B) (M := M)
  unfold f_X11_isLifted
  rw [p_rdF, h18, p_rdI (by omega), hB]
  generalize hk : (fun (v2 v3 v4 : Int) (μ : Mu) => rdF μ 248 17 fun x3 => rb (f_X11_setting 3 μ) fun μ x4 => i_lt x4 (v2 - x3) (f_X11_isLifted_126 c μ) (i_lt (2 * v4) v3 (f_X11_isLifted_126 c μ) (f_X11_isLifted_127 c 1 μ))) = k
  have key := loop_up (S := Int × Int) (fun fu s v => f_X11_isLifted_23 c k fu B s.1 s.2 v μ) (fun s => k B s.1 s.2 μ) (fun s v => (s.1 + (if S_exc (μ 249) c v then 0 else 1), s.2 + (if S_exc (μ 249) c v then 0 else b2 (B * μ 249 v.toNat * 120 ≤ M v * 100)))) 5 (fun s v => 0 ≤ v ∧ v ≤ 5) ?_ (fun s v hi hlt => by omega) 5 FU (0, 0) 0 (by omega) (by omega) (by unfold FU; omega)
  · rw [show f_X11_isLifted_23 c k FU B 0 0 0 μ = _ from key, itS_sm2]
    dsimp only
    rw [Int.zero_add, Int.zero_add]
    show k B (S_all (μ 249) c) (S_good (μ 249) c B M) μ = _
    rw [← hk]
    dsimp only
    unfold f_X11_isLifted_126 f_X11_isLifted_127
    rw [p_rdF, h17, r_set (by omega), p_rb, show μ 249 (5 + 3 : Int).toNat = μ 249 8 from rfl, p_lt (by omega)]
    by_cases c1 : B - m ≤ μ 249 8
    · rw [if_neg (by omega), p_lt (by omega)]
      by_cases c2 : S_all (μ 249) c ≤ 2 * S_good (μ 249) c B M
      · rw [if_neg (by omega), b2_t ⟨c1, c2⟩]; rfl
      · rw [if_pos (by omega), b2_f (fun w => c2 w.2)]; rfl
    · rw [if_pos (by omega), b2_f (fun w => c1 w.1)]; rfl
  · intro fu s v hi
    show f_X11_isLifted_23 c k (fu + 1) B s.1 s.2 v μ = _
    rw [f_X11_isLifted_23, p_lt (by omega)]
    by_cases hvN : v < 5
    · have hm1 := hMm v hi.1 hvN
      have hm2 := hM v hi.1 hvN
      have hx2 := h.mx (q := v) (by omega)
      have mb := mul_bd (a := B) (b := μ 249 v.toNat) (A := 100) (B := 40) (by omega) (by omega)
      rw [if_pos hvN, if_pos hvN, r_exc h hc (by omega), p_rb]
      unfold f_X11_isLifted_45 f_X11_isLifted_90 f_X11_isLifted_91
      by_cases p : S_exc (μ 249) c v
      · rw [b2_t p, if_pos p, if_pos p, p_eq (by omega), if_neg (by omega), p_bnd, r_exc h hc (by omega), p_rb, b2_t p, p_eq (by omega), if_neg (by omega), p_bnd]
      · rw [b2_f p, if_neg p, if_neg p, p_eq (by omega), if_pos rfl, p_bnd, r_exc h hc (by omega), p_rb, b2_f p, p_eq (by omega), if_pos rfl, p_rdI (by omega), hm1, p_rdI (by omega), Int.zero_add, p_lt (by omega)]
        by_cases p3 : B * μ 249 v.toNat * 120 ≤ M v * 100
        · rw [if_neg (by omega), b2_t p3, p_bnd]
        · rw [if_pos (by omega), b2_f p3, p_bnd]
    · rw [if_neg hvN, if_neg hvN]
theorem r_isLifted {μ : Mu} (h : WF (μ 249)) {c : Int} (hc : 0 ≤ c ∧ c < 8) {M : Int → Int} (hM : ∀ q : Int, 0 ≤ q → q < 5 → 0 ≤ M q ∧ M q ≤ 4800) (hMm : ∀ q : Int, 0 ≤ q → q < 5 → μ 256 q.toNat = M q) {m p : Int} (hm : 0 ≤ m ∧ m ≤ 100) (hp : 0 < p ∧ p ≤ 4) (h17 : μ 248 17 = m) (h18 : μ 248 18 = p) :
    f_X11_isLifted c μ = some (μ, 0, b2 (S_lift (μ 249) c M m p)) := r_isLiftedB h hc hM hMm hm hp h17 h18 rfl (bound_at h hp)
/-- the search for the plain grade -/
theorem r_plain {μ : Mu} (h : WF (μ 249)) {m : Int} (hm : 0 ≤ m ∧ m ≤ 100) (h17 : μ 248 17 = m) {c : Int} {K : Mu → Option Res} {fu : Nat} (hf : 5 < fu) : f_X11_grades_30 c K fu (up2 μ 248 18 0) = K (up2 μ 248 18 (S_pl (μ 249) m)) := by
  have hb := h.bo
  have step : ∀ (fu : Nat) (p : Int), 0 ≤ p → p < 4 → iG (μ 249 (10 + p).toNat) → f_X11_grades_30 c K (fu + 1) (up2 μ 248 18 p) = if m < μ 249 (10 + p).toNat then f_X11_grades_30 c K fu (up2 μ 248 18 (p + 1)) else K (up2 μ 248 18 p) := by
    intro fu p h0 h1 hi
    unfold iG at hi
    have e1 : up2 μ 248 18 p 249 = μ 249 := up2_oo (by omega)
    have e2 : up2 μ 248 18 p 248 17 = m := by rw [up2_k (by omega)]; exact h17
    rw [f_X11_grades_30, p_rdF, up2_s, p_lt (by omega), if_pos h1, p_rdF, up2_s, p_rdI (by omega), e1, p_rdF, e2, p_lt (by omega), p_rdF, up2_s, p_wrF]
    have e3 : up2 (up2 μ 248 18 p) 248 18 (p + 1) = up2 μ 248 18 (p + 1) := by
      funext a k
      rw [up2_eq, up2_eq, up2_eq]
      by_cases w : a = 248 ∧ k = 18
      · rw [if_pos w, if_pos w]
      · rw [if_neg w, if_neg w, if_neg w]
    rw [e3]
  have last : ∀ fu : Nat, f_X11_grades_30 c K (fu + 1) (up2 μ 248 18 4) = K (up2 μ 248 18 4) := by
    intro fu
    rw [f_X11_grades_30, p_rdF, up2_s, p_lt (by omega), if_neg (by omega)]
  obtain ⟨f, rfl⟩ : ∃ f, fu = f + 5 := ⟨fu - 5, by omega⟩
  have b0 : μ 249 (10 + 0 : Int).toNat = μ 249 10 := rfl
  have b1 : μ 249 (10 + 1 : Int).toNat = μ 249 11 := rfl
  have b2' : μ 249 (10 + 2 : Int).toNat = μ 249 12 := rfl
  have b3 : μ 249 (10 + 3 : Int).toNat = μ 249 13 := rfl
  unfold S_pl
  rw [step (f + 4) 0 (by omega) (by omega) (by rw [b0]; unfold iG; omega), b0]
  by_cases c0 : μ 249 10 ≤ m
  · rw [if_neg (by omega), if_pos c0]
  · rw [if_pos (by omega), if_neg c0, show (0 : Int) + 1 = 1 from rfl, step (f + 3) 1 (by omega) (by omega) (by rw [b1]; unfold iG; omega), b1]
    by_cases c1 : μ 249 11 ≤ m
    · rw [if_neg (by omega), if_pos c1]
    · rw [if_pos (by omega), if_neg c1, show (1 : Int) + 1 = 2 from rfl, step (f + 2) 2 (by omega) (by omega) (by rw [b2']; unfold iG; omega), b2']
      by_cases c2 : μ 249 12 ≤ m
      · rw [if_neg (by omega), if_pos c2]
      · rw [if_pos (by omega), if_neg c2, show (2 : Int) + 1 = 3 from rfl, step (f + 1) 3 (by omega) (by omega) (by rw [b3]; unfold iG; omega), b3]
        by_cases c3 : μ 249 13 ≤ m
        · rw [if_neg (by omega), if_pos c3]
        · rw [if_pos (by omega), if_neg c3, show (3 : Int) + 1 = 4 from rfl, last f]
/-- what grades leaves -/
def RG (μ μ' : Mu) (c : Int) (M : Int → Int) : Prop := JR μ μ' ∧ (∀ k : Nat, μ' 256 k = μ 256 k) ∧ μ' 248 15 = S_num (μ 249) c M ∧ μ' 248 16 = S_den (μ 249) c M ∧ μ' 248 17 = S_mkd (μ 249) c M ∧ μ' 248 18 = S_plain (μ 249) c M ∧ μ' 248 19 = S_grade (μ 249) c M
theorem r_grades {μ : Mu} (h : WF (μ 249)) (hx : WFx (μ 249)) {c : Int} (hc : 0 ≤ c ∧ c < 8) {M : Int → Int} (hM : ∀ q : Int, 0 ≤ q → q < 5 → 0 ≤ M q ∧ M q ≤ 4800) (hMm : ∀ q : Int, 0 ≤ q → q < 5 → μ 256 q.toNat = M q) :
    ∃ μ', f_X11_grades c μ = some (μ', 0, 0) ∧ RG μ μ' c M := by
  obtain ⟨n1, n2, n3⟩ := S_num_bd h hx hc hM
  have hf := S_full_bd h
  have sb := S_scl_bd h (n := S_num (μ 249) c M) (d := S_den (μ 249) c M * 120) n1.1 (by omega) (by
    rw [show S_full (μ 249) * (S_den (μ 249) c M * 120) = S_full (μ 249) * 120 * S_den (μ 249) c M by rw [Int.mul_comm (S_den (μ 249) c M) 120, Int.mul_assoc]]
    exact n3)
  have hpl := S_pl_bd (g := μ 249) (m := S_mkd (μ 249) c M)
  unfold f_X11_grades
  rw [r_raws h hx hc hM hMm, p_rb, p_rdF, p_rdF, up2_s, up2_k (by omega), up2_s]
  generalize hμ1 : up2 (up2 μ 248 15 (S_num (μ 249) c M)) 248 16 (S_den (μ 249) c M) = μ1
  have e1 : μ1 249 = μ 249 := by rw [← hμ1, up2_oo (by omega), up2_oo (by omega)]
  have j1 : JR μ μ1 := by rw [← hμ1]; exact ((JR.rf μ).up (by unfold jR; omega)).up (by unfold jR; omega)
  have k15 : μ1 248 15 = S_num (μ 249) c M := by rw [← hμ1, up2_k (by omega), up2_s]
  have k16 : μ1 248 16 = S_den (μ 249) c M := by rw [← hμ1, up2_s]
  have k256 : ∀ k : Nat, μ1 256 k = μ 256 k := fun k => by rw [← hμ1, up2_o (by omega), up2_o (by omega)]
  rw [r_scaled (by rw [e1]; exact h) (by omega) (by omega), p_rb, p_wrF, p_wrF, e1]
  show ∃ μ', f_X11_grades_30 c _ FU (up2 (up2 μ1 248 17 (S_mkd (μ 249) c M)) 248 18 0) = some (μ', 0, 0) ∧ _
  generalize hμ2 : up2 μ1 248 17 (S_mkd (μ 249) c M) = μ2
  have e2 : μ2 249 = μ 249 := by rw [← hμ2, up2_oo (by omega), e1]
  rw [r_plain (by rw [e2]; exact h) sb (by rw [← hμ2, up2_s]; rfl) (by unfold FU; omega), e2]
  show ∃ μ', f_X11_grades_70 c (up2 μ2 248 18 (S_plain (μ 249) c M)) = some (μ', 0, 0) ∧ _
  generalize hμ3 : up2 μ2 248 18 (S_plain (μ 249) c M) = μ3
  have e3 : μ3 249 = μ 249 := by rw [← hμ3, up2_oo (by omega), e2]
  have j3 : JR μ μ3 := by rw [← hμ3, ← hμ2]; exact (j1.up (by unfold jR; omega)).up (by unfold jR; omega)
  have l18 : μ3 248 18 = S_plain (μ 249) c M := by rw [← hμ3, up2_s]
  have l17 : μ3 248 17 = S_mkd (μ 249) c M := by rw [← hμ3, up2_k (by omega), ← hμ2, up2_s]
  have l16 : μ3 248 16 = S_den (μ 249) c M := by rw [← hμ3, up2_k (by omega), ← hμ2, up2_k (by omega), k16]
  have l15 : μ3 248 15 = S_num (μ 249) c M := by rw [← hμ3, up2_k (by omega), ← hμ2, up2_k (by omega), k15]
  have l256 : ∀ k : Nat, μ3 256 k = μ 256 k := fun k => by rw [← hμ3, up2_o (by omega), ← hμ2, up2_o (by omega), k256]
  have hp9 : 0 ≤ S_plain (μ 249) c M ∧ S_plain (μ 249) c M ≤ 4 := hpl
  have fin : ∀ x : Int, x = S_grade (μ 249) c M → ∃ μ', some (up2 μ3 248 19 x, 0, (0 : Int)) = some (μ', 0, 0) ∧ RG μ μ' c M := by
    rintro x rfl
    refine ⟨_, rfl, j3.up (by unfold jR; omega), fun k => ?_, ?_, ?_, ?_, ?_, up2_s⟩
    · rw [up2_o (by omega), l256]
    · rw [up2_k (by omega), l15]
    · rw [up2_k (by omega), l16]
    · rw [up2_k (by omega), l17]
    · rw [up2_k (by omega), l18]
  unfold f_X11_grades_70 f_X11_grades_95 f_X11_grades_99
  rw [p_rdF, l18, p_lt (by omega)]
  by_cases p0 : 0 < S_plain (μ 249) c M
  · rw [if_pos p0, r_isLifted (by rw [e3]; exact h) hc hM (fun q a b => (l256 _).trans (hMm q a b)) (m := S_mkd (μ 249) c M) (p := S_plain (μ 249) c M) sb ⟨p0, hp9.2⟩ l17 l18, p_rb, e3]
    by_cases p1 : S_lift (μ 249) c M (S_mkd (μ 249) c M) (S_plain (μ 249) c M)
    · rw [b2_t p1, p_eq (by omega), if_neg (by omega), p_rdF, l18, p_wrF]
      exact fin _ (by unfold S_grade S_gr; rw [if_pos ⟨p0, p1⟩])
    · rw [b2_f p1, p_eq (by omega), if_pos rfl, p_rdF, l18, p_wrF]
      exact fin _ (by unfold S_grade S_gr; rw [if_neg (fun w => p1 w.2)])
  · rw [if_neg p0, p_rdF, l18, p_wrF]
    exact fin _ (by unfold S_grade S_gr; rw [if_neg (fun w => p0 w.1)])

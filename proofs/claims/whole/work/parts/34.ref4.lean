/-! the reference: raw results, scaled marks, grades -/
def jR (a k : Nat) : Prop := (255 ≤ a ∧ a ≤ 256) ∨ (a = 248 ∧ 13 ≤ k)
def JR (μ μ' : Mu) : Prop := ∀ a k : Nat, ¬ jR a k → μ' a k = μ a k
theorem JR.rf (μ : Mu) : JR μ μ := fun _ _ _ => rfl
theorem JR.tr {μ μ1 μ2 : Mu} (h1 : JR μ μ1) (h2 : JR μ1 μ2) : JR μ μ2 := fun a k h => (h2 a k h).trans (h1 a k h)
theorem JR.at {μ μ' : Mu} (h : JR μ μ') {a : Nat} (ha : a ≠ 248 ∧ ¬ (255 ≤ a ∧ a ≤ 259)) : μ' a = μ a := funext fun k => h a k (by unfold jR; omega)
theorem JR.s {μ μ' : Mu} (h : JR μ μ') : μ' 249 = μ 249 := h.at (by omega)
theorem JR.up {μ μ1 : Mu} (h : JR μ μ1) {a k : Nat} {v : Int} (hj : jR a k) : JR μ (up2 μ1 a k v) := fun a' k' hn => by
  rw [up2_eq, if_neg]
  · exact h a' k' hn
  · rintro ⟨rfl, rfl⟩; exact hn hj
theorem JF.r {μ μ' : Mu} (h : JF μ μ') : JR μ μ' := fun a k hn => h a k (fun w => hn (by unfold jF at w; unfold jR; omega))
abbrev S_exc (g : Nat → Int) (c q : Int) : Prop := andI (shrI (g (625 + c).toNat) q) 1 = 1
theorem exc_01k : ∀ x : Fin 32, ∀ q : Fin 5, andI (shrI (x.val : Int) (q.val : Int)) 1 = 0 ∨ andI (shrI (x.val : Int) (q.val : Int)) 1 = 1 := by decide +kernel
theorem exc_01 {x q : Int} (hx : 0 ≤ x ∧ x < 32) (hq : 0 ≤ q ∧ q < 5) : andI (shrI x q) 1 = 0 ∨ andI (shrI x q) 1 = 1 := by
  have := exc_01k ⟨x.toNat, by omega⟩ ⟨q.toNat, by omega⟩
  dsimp only at this
  rw [show ((x.toNat : Nat) : Int) = x by omega, show ((q.toNat : Nat) : Int) = q by omega] at this
  exact this
theorem r_exc {μ : Mu} (h : WF (μ 249)) {c q : Int} (hc : 0 ≤ c ∧ c < 8) (hq : 0 ≤ q ∧ q < 5) : f_X11_isExcused c q μ = some (μ, 0, b2 (S_exc (μ 249) c q)) := by
  have h1 := (h.ex hc).1
  have h2 := exc_01 h1 hq
  unfold f_X11_isExcused f_X11_isExcused_23
  rw [p_rdI (by omega), p_eq (by omega)]
  by_cases p : S_exc (μ 249) c q
  · rw [if_pos p, b2_t p]; rfl
  · rw [if_neg p, b2_f p]; rfl
def S_full (g : Nat → Int) : Int := sm (fun q => g q.toNat) 5 0
theorem S_full_bd {g : Nat → Int} (h : WF g) : 5 ≤ S_full g ∧ S_full g ≤ 200 := by
  have := sm_bd (G := fun q => g q.toNat) (a := 1) (b := 40) 5 0 (fun j h1 h2 => h.mx (by omega))
  unfold S_full
  omega
theorem r_full {μ : Mu} (h : WF (μ 249)) : f_X11_full μ = some (μ, 0, S_full (μ 249)) := by
  unfold f_X11_full
  have key := loop_up (S := Int) (fun fu s v => f_X11_full_4 (fun v1 μ => some (μ, 0, v1)) fu s v μ) (fun s => some (μ, 0, s)) (fun s v => s + μ 249 v.toNat) 5 (fun s v => 0 ≤ v ∧ v ≤ 5) ?_ (fun s v hi hlt => by omega) 5 FU 0 0 (by omega) (by omega) (by unfold FU; omega)
  · rw [key, itS_sm, Int.zero_add]; rfl
  · intro fu s v hi
    show f_X11_full_4 _ (fu + 1) s v μ = _
    rw [f_X11_full_4, p_lt (by omega)]
    by_cases hvN : v < 5
    · rw [if_pos hvN, if_pos hvN, p_rdI (by omega), p_bnd, Int.zero_add]
    · rw [if_neg hvN, if_neg hvN]
theorem r_marksOf {μ : Mu} (h : WF (μ 249)) (h3 : WF3 (μ 249)) {c : Int} (hc : 0 ≤ c ∧ c < 8) : ∃ μ', f_X11_marksOf c μ = some (μ', 0, 0) ∧ JR μ μ' ∧ ∀ q : Int, 0 ≤ q → q < 5 → μ' 256 q.toNat = S_set (μ 249) c q := by
  unfold f_X11_marksOf
  have key : ∀ (n fu : Nat) (v : Int) (μ1 : Mu), 0 ≤ v → v + n = 5 → n < fu → JR μ μ1 → (∀ q : Int, 0 ≤ q → q < v → μ1 256 q.toNat = S_set (μ 249) c q) → ∃ μ', f_X11_marksOf_2 c (fun μ => some (μ, 0, 0)) fu v μ1 = some (μ', 0, 0) ∧ JR μ μ' ∧ ∀ q : Int, 0 ≤ q → q < 5 → μ' 256 q.toNat = S_set (μ 249) c q := by
    intro n
    induction n with
    | zero =>
      intro fu v μ1 h0 hn hf hj hm
      obtain ⟨fu, rfl⟩ : ∃ f, fu = f + 1 := ⟨fu - 1, by omega⟩
      rw [f_X11_marksOf_2, p_lt (by omega), if_neg (by omega)]
      exact ⟨μ1, rfl, hj, fun q a b => hm q a (by omega)⟩
    | succ n ih =>
      intro fu v μ1 h0 hn hf hj hm
      obtain ⟨fu, rfl⟩ : ∃ f, fu = f + 1 := ⟨fu - 1, by omega⟩
      have e : μ1 249 = μ 249 := hj.s
      obtain ⟨μ2, a1, a2⟩ := r_settled (μ := μ1) (by rw [e]; exact h) (by rw [e]; exact h3) hc (q := v) (by omega)
      rw [f_X11_marksOf_2, p_lt (by omega), if_pos (by omega), a1, p_rb, p_wrI (by omega), e]
      refine ih fu (v + 1) _ (by omega) (by omega) (by omega) ((hj.tr a2.r).up (by unfold jR; omega)) (fun q x y => ?_)
      by_cases w : q = v
      · subst w; exact up2_s
      · rw [up2_k (by omega), a2.at (by omega)]; exact hm q x (by omega)
  exact key 5 FU 0 μ (by omega) (by omega) (by unfold FU; omega) (JR.rf μ) (fun q a b => by omega)
/-- Euclid's -/
theorem r_divisor {μ : Mu} {k31 : Int → Mu → Option Res} {p0 p2 : Int} : ∀ (m fu : Nat) (x y : Int), 0 ≤ x → x < 9223372036854775808 → 0 ≤ y → y ≤ m → m < 9223372036854775807 → m + 1 < fu → f_X11_divisor_6 p0 p2 k31 fu x y μ = k31 (Nat.gcd x.toNat y.toNat : Int) μ := by
  intro m
  induction m with
  | zero =>
    intro fu x y hx hx2 hy hm hm2 hf
    obtain ⟨fu, rfl⟩ : ∃ f, fu = f + 1 := ⟨fu - 1, by omega⟩
    have : y = 0 := by omega
    subst this
    rw [f_X11_divisor_6, p_leq (by omega), if_pos rfl]
    simp only [Int.toNat_zero, Nat.gcd_zero_right]; rw [show ((x.toNat : Nat) : Int) = x by omega]
  | succ m ih =>
    intro fu x y hx hx2 hy hm hm2 hf
    obtain ⟨fu, rfl⟩ : ∃ f, fu = f + 1 := ⟨fu - 1, by omega⟩
    rw [f_X11_divisor_6, p_leq (by omega)]
    by_cases hy0 : y = 0
    · subst hy0
      rw [if_pos rfl]
      simp only [Int.toNat_zero, Nat.gcd_zero_right]; rw [show ((x.toNat : Nat) : Int) = x by omega]
    · rw [if_neg hy0, p_lrem (by omega)]
      have h1 := Int.emod_nonneg x hy0
      have h2 := Int.emod_lt_of_pos x (show 0 < y by omega)
      rw [ih fu y (x % y) (by omega) (by omega) h1 (by omega) (by omega) (by omega)]
      congr 2
      rw [Nat.gcd_comm x.toNat y.toNat, Nat.gcd_rec y.toNat x.toNat, Nat.gcd_comm, show (x % y).toNat = x.toNat % y.toNat by
        rw [Int.toNat_emod hx (by omega)]]
def S_gcd (x y : Int) : Int := (Nat.gcd x.toNat y.toNat : Int)
theorem r_div {μ : Mu} {x y : Int} (hx : 0 ≤ x ∧ x < 9223372036854775808) (hy : 0 ≤ y ∧ y ≤ 50000) : f_X11_divisor x y μ = some (μ, 0, S_gcd x y) := by
  unfold f_X11_divisor S_gcd
  exact r_divisor 50000 FU x y hx.1 hx.2 hy.1 (by omega) (by omega) (by unfold FU; omega)
theorem S_gcd_pos {x y : Int} (hx : 0 ≤ x) (hy : 0 < y) : 1 ≤ S_gcd x y ∧ S_gcd x y ≤ y := by
  unfold S_gcd
  have h1 := Nat.gcd_pos_of_pos_right x.toNat (show 0 < y.toNat by omega)
  have h2 := Nat.gcd_le_right x.toNat (show 0 < y.toNat by omega)
  omega
/-- how many appeals a candidate has -/
def S_nap (g : Nat → Int) (c : Int) : Int := sm (fun q => b2 (1 ≤ S_ap g c q 0 ∧ S_ap g c q 0 ≤ 3)) 5 0
theorem nap_cg {g g1 : Nat → Int} {c : Int} (h : ∀ q : Int, 0 ≤ q → q < 5 → S_ap g1 c q 0 = S_ap g c q 0) : S_nap g1 c = S_nap g c := by
  unfold S_nap
  refine sm_congr 5 0 (fun q x y => ?_)
  rw [h q x (by omega)]
/-- at most two questions are excused, and at most three appeals made -/
def WFx (g : Nat → Int) : Prop := ∀ c : Int, 0 ≤ c → c < 8 → sm (fun q => b2 (S_exc g c q)) 5 0 ≤ 2 ∧ S_nap g c ≤ 3
def S_rs (g : Nat → Int) (c : Int) (M : Int → Int) : Int := sm (fun q => if S_exc g c q then 0 else M q) 5 0
def S_rm (g : Nat → Int) (c : Int) : Int := sm (fun q => if S_exc g c q then 0 else g q.toNat) 5 0
theorem sm_le {G G' : Int → Int} : ∀ (n : Nat) (v : Int), (∀ j : Int, v ≤ j → j < v + n → G j ≤ G' j) → sm G n v ≤ sm G' n v
  | 0, _, _ => Int.le_refl _
  | n + 1, v, h => by
    simp only [sm]
    have h0 := h v (by omega) (by omega)
    have h1 := sm_le (G := G) (G' := G') n (v + 1) (fun j h1 h2 => h j (by omega) (by omega))
    omega
theorem sm_sub {G G' : Int → Int} : ∀ (n : Nat) (v : Int), sm (fun j => G j - G' j) n v = sm G n v - sm G' n v
  | 0, _ => by simp [sm]
  | n + 1, v => by
    simp only [sm]
    rw [sm_sub n (v + 1)]; omega
theorem S_rm_bd {g : Nat → Int} (h : WF g) (hx : WFx g) {c : Int} (hc : 0 ≤ c ∧ c < 8) : 3 ≤ S_rm g c ∧ S_rm g c ≤ 200 := by
  have h1 := (hx c hc.1 hc.2).1
  have h2 := sm_le (G := fun q => 1 - b2 (S_exc g c q)) (G' := fun q => if S_exc g c q then 0 else g q.toNat) 5 0 (fun j a b => by
    have := h.mx (q := j) (by omega)
    by_cases p : S_exc g c j
    · rw [if_pos p, b2_t p]; omega
    · rw [if_neg p, b2_f p]; omega)
  have h4 := sm_bd (G := fun q => if S_exc g c q then 0 else g q.toNat) (a := 0) (b := 40) 5 0 (fun j a b => by
    have := h.mx (q := j) (by omega)
    split <;> omega)
  rw [sm_sub (G := fun _ => 1) (G' := fun q => b2 (S_exc g c q))] at h2
  have h3 : sm (fun _ : Int => (1 : Int)) 5 0 = 5 := by decide
  unfold S_rm
  omega
theorem S_rs_bd {g : Nat → Int} {c : Int} {M : Int → Int} (hM : ∀ q : Int, 0 ≤ q → q < 5 → 0 ≤ M q ∧ M q ≤ 4800) : 0 ≤ S_rs g c M ∧ S_rs g c M ≤ 24000 := by
  have h4 := sm_bd (G := fun q => if S_exc g c q then 0 else M q) (a := 0) (b := 4800) 5 0 (fun j a b => by
    have := hM j (by omega) (by omega)
    split <;> omega)
  unfold S_rs
  omega
def S_n0 (g : Nat → Int) (c : Int) (M : Int → Int) : Int := S_rs g c M * S_full g * (100 + g (633 + c).toNat)
def S_d0 (g : Nat → Int) (c : Int) : Int := S_rm g c * 100
abbrev S_cap (g : Nat → Int) (c : Int) (M : Int → Int) : Prop := S_full g * 120 * S_d0 g c < S_n0 g c M
def S_n1 (g : Nat → Int) (c : Int) (M : Int → Int) : Int := if S_cap g c M then S_full g * 120 else S_n0 g c M
def S_d1 (g : Nat → Int) (c : Int) (M : Int → Int) : Int := if S_cap g c M then 1 else S_d0 g c
def S_num (g : Nat → Int) (c : Int) (M : Int → Int) : Int := S_n1 g c M / S_gcd (S_n1 g c M) (S_d1 g c M)
def S_den (g : Nat → Int) (c : Int) (M : Int → Int) : Int := S_d1 g c M / S_gcd (S_n1 g c M) (S_d1 g c M)
theorem S_n0_bd {g : Nat → Int} (h : WF g) {c : Int} (hc : 0 ≤ c ∧ c < 8) {M : Int → Int} (hM : ∀ q : Int, 0 ≤ q → q < 5 → 0 ≤ M q ∧ M q ≤ 4800) : 0 ≤ S_n0 g c M ∧ S_n0 g c M ≤ 528000000 := by
  have h1 := S_rs_bd (g := g) (c := c) hM
  have h2 := S_full_bd h
  have h3 := (h.ex hc).2
  unfold S_n0
  have m1 := mul_bd (a := S_rs g c M) (b := S_full g) (A := 24000) (B := 200) (by omega) (by omega)
  have p1 : 0 ≤ S_rs g c M * S_full g := Int.mul_nonneg h1.1 (by omega)
  have m2 := mul_bd (a := S_rs g c M * S_full g) (b := 100 + g (633 + c).toNat) (A := 4800000) (B := 110) (by omega) (by omega)
  have p2 : 0 ≤ S_rs g c M * S_full g * (100 + g (633 + c).toNat) := Int.mul_nonneg p1 (by omega)
  omega
theorem S_nd_bd {g : Nat → Int} (h : WF g) (hx : WFx g) {c : Int} (hc : 0 ≤ c ∧ c < 8) {M : Int → Int} (hM : ∀ q : Int, 0 ≤ q → q < 5 → 0 ≤ M q ∧ M q ≤ 4800) : (0 ≤ S_n1 g c M ∧ S_n1 g c M ≤ 528000000) ∧ (1 ≤ S_d1 g c M ∧ S_d1 g c M ≤ 20000) ∧ S_n1 g c M ≤ S_full g * 120 * S_d1 g c M := by
  have h1 := S_n0_bd h hc hM
  have h2 := S_rm_bd h hx hc
  have h3 := S_full_bd h
  unfold S_n1 S_d1
  by_cases p : S_cap g c M
  · rw [if_pos p, if_pos p]; omega
  · rw [if_neg p, if_neg p]
    unfold S_cap at p
    have : S_d0 g c = S_rm g c * 100 := rfl
    omega
theorem S_num_bd {g : Nat → Int} (h : WF g) (hx : WFx g) {c : Int} (hc : 0 ≤ c ∧ c < 8) {M : Int → Int} (hM : ∀ q : Int, 0 ≤ q → q < 5 → 0 ≤ M q ∧ M q ≤ 4800) : (0 ≤ S_num g c M ∧ S_num g c M ≤ 528000000) ∧ (1 ≤ S_den g c M ∧ S_den g c M ≤ 20000) ∧ S_num g c M ≤ S_full g * 120 * S_den g c M := by
  obtain ⟨h1, h2, h3⟩ := S_nd_bd h hx hc hM
  have hg := S_gcd_pos (x := S_n1 g c M) (y := S_d1 g c M) h1.1 (by omega)
  have hd : S_gcd (S_n1 g c M) (S_d1 g c M) ∣ S_d1 g c M := by
    have := Nat.gcd_dvd_right (S_n1 g c M).toNat (S_d1 g c M).toNat
    unfold S_gcd
    rw [show S_d1 g c M = ((S_d1 g c M).toNat : Int) by omega]
    exact Int.ofNat_dvd.mpr this
  have hn : S_gcd (S_n1 g c M) (S_d1 g c M) ∣ S_n1 g c M := by
    have := Nat.gcd_dvd_left (S_n1 g c M).toNat (S_d1 g c M).toNat
    unfold S_gcd
    conv => rhs; rw [show S_n1 g c M = ((S_n1 g c M).toNat : Int) by omega]
    exact Int.ofNat_dvd.mpr this
  unfold S_num S_den
  generalize S_gcd (S_n1 g c M) (S_d1 g c M) = G at hg hd hn
  obtain ⟨a, ha⟩ := hd
  obtain ⟨b, hb⟩ := hn
  have ea : S_d1 g c M / G = a := by rw [ha]; exact Int.mul_ediv_cancel_left _ (by omega)
  have eb : S_n1 g c M / G = b := by rw [hb]; exact Int.mul_ediv_cancel_left _ (by omega)
  rw [ea, eb]
  have a1 : 1 ≤ a := by
    rcases Int.lt_or_le 0 a with w | w
    · omega
    · have := Int.mul_nonpos_of_nonneg_of_nonpos (show 0 ≤ G by omega) w
      omega
  have b0 : 0 ≤ b := by
    rcases Int.lt_or_le b 0 with w | w
    · have := Int.mul_neg_of_pos_of_neg (show 0 < G by omega) w
      omega
    · exact w
  have a2 : a ≤ S_d1 g c M := by
    rw [ha]
    have := Int.mul_le_mul_of_nonneg_right (show (1 : Int) ≤ G by omega) (show 0 ≤ a by omega)
    omega
  have b2' : b ≤ S_n1 g c M := by
    rw [hb]
    have := Int.mul_le_mul_of_nonneg_right (show (1 : Int) ≤ G by omega) b0
    omega
  refine ⟨by omega, by omega, ?_⟩
  rw [ha, hb] at h3
  rw [show S_full g * 120 * (G * a) = G * (S_full g * 120 * a) by rw [← Int.mul_assoc, Int.mul_comm (S_full g * 120) G, Int.mul_assoc]] at h3
  exact Int.le_of_mul_le_mul_left h3 (by omega)
theorem r_raws {μ : Mu} (h : WF (μ 249)) (hx : WFx (μ 249)) {c : Int} (hc : 0 ≤ c ∧ c < 8) {M : Int → Int} (hM : ∀ q : Int, 0 ≤ q → q < 5 → 0 ≤ M q ∧ M q ≤ 4800) (hMm : ∀ q : Int, 0 ≤ q → q < 5 → μ 256 q.toNat = M q) :
    f_X11_raws c μ = some (up2 (up2 μ 248 15 (S_num (μ 249) c M)) 248 16 (S_den (μ 249) c M), 0, 0) := by
  have hst := h.st
  have hf := S_full_bd h
  have hr := (h.ex hc).2
  obtain ⟨b1, b2, b3⟩ := S_nd_bd h hx hc hM
  have b4 := S_num_bd h hx hc hM
  have hg := S_gcd_pos (x := S_n1 (μ 249) c M) (y := S_d1 (μ 249) c M) b1.1 (by omega)
  have hrs := S_rs_bd (g := μ 249) (c := c) hM
  have hrm := S_rm_bd h hx hc
  have hn0 := S_n0_bd h hc hM
  unfold f_X11_raws
  generalize hk : (fun (v2 v4 : Int) (μ : Mu) => rb (f_X11_full μ) fun μ x1 => i_2l x1 (rdI μ 249 779 (633 + c) fun x2 => i_2l x2 (bnd ((v2 * x1) * (100 + x2)) fun x3 => bnd (v4 * 100) fun x4 => rb (f_X11_full μ) fun μ x5 => i_2l x5 (bnd (x5 * 120) fun x6 => l_lt (x6 * x4) x3 (f_X11_raws_136 c x6 1 μ) (f_X11_raws_136 c x3 x4 μ))))) = k
  have key := loop_up (S := Int × Int) (fun fu s v => f_X11_raws_8 c k fu s.1 s.2 v μ) (fun s => k s.1 s.2 μ) (fun s v => (s.1 + (if S_exc (μ 249) c v then 0 else M v), s.2 + (if S_exc (μ 249) c v then 0 else μ 249 v.toNat))) 5 (fun s v => 0 ≤ v ∧ v ≤ 5) ?_ (fun s v hi hlt => by omega) 5 FU (0, 0) 0 (by omega) (by omega) (by unfold FU; omega)
  · rw [show f_X11_raws_8 c k FU 0 0 0 μ = _ from key, itS_sm2]
    dsimp only
    rw [Int.zero_add, Int.zero_add]
    show k (S_rs (μ 249) c M) (S_rm (μ 249) c) μ = _
    rw [← hk]
    dsimp only
    rw [r_full h, p_rb, p_2l (by omega), p_rdI (by omega), p_2l (by omega), p_bnd, p_bnd, r_full h, p_rb, p_2l (by omega), p_bnd]
    have e1 : S_rs (μ 249) c M * S_full (μ 249) * (100 + μ 249 (633 + c).toNat) = S_n0 (μ 249) c M := rfl
    have e2 : S_rm (μ 249) c * 100 = S_d0 (μ 249) c := rfl
    have m1 := mul_bd (a := S_full (μ 249) * 120) (b := S_d0 (μ 249) c) (A := 24000) (B := 20000) (by omega) (by omega)
    rw [e1, e2, p_llt (by omega)]
    have fin : ∀ x y : Int, x = S_n1 (μ 249) c M → y = S_d1 (μ 249) c M → f_X11_raws_136 c x y μ = some (up2 (up2 μ 248 15 (S_num (μ 249) c M)) 248 16 (S_den (μ 249) c M), 0, 0) := by
      rintro x y rfl rfl
      unfold f_X11_raws_136
      rw [r_div (by omega) (by omega), p_rb, p_ldiv (by omega), p_wrF, p_ldiv (by omega), p_wrF]; rfl
    by_cases p : S_cap (μ 249) c M
    · rw [if_pos p]
      exact fin _ _ (by unfold S_n1; rw [if_pos p]) (by unfold S_d1; rw [if_pos p])
    · rw [if_neg p]
      exact fin _ _ (by unfold S_n1; rw [if_neg p]) (by unfold S_d1; rw [if_neg p])
  · intro fu s v hi
    show f_X11_raws_8 c k (fu + 1) s.1 s.2 v μ = _
    rw [f_X11_raws_8, p_lt (by omega)]
    by_cases hvN : v < 5
    · have hm := hMm v hi.1 hvN
      have hm2 := hM v hi.1 hvN
      have hx2 := h.mx (q := v) (by omega)
      rw [if_pos hvN, if_pos hvN, r_exc h hc (by omega), p_rb]
      unfold f_X11_raws_37 f_X11_raws_65
      by_cases p : S_exc (μ 249) c v
      · rw [b2_t p, if_pos p, if_pos p, p_eq (by omega), if_neg (by omega), p_bnd, r_exc h hc (by omega), p_rb, b2_t p, p_eq (by omega), if_neg (by omega), p_bnd]
      · rw [b2_f p, if_neg p, if_neg p, p_eq (by omega), if_pos rfl, p_rdI (by omega), hm, p_2l (by omega), p_bnd, r_exc h hc (by omega), p_rb, b2_f p, p_eq (by omega), if_pos rfl, p_rdI (by omega), Int.zero_add, p_2l (by omega), p_bnd]
    · rw [if_neg hvN, if_neg hvN]

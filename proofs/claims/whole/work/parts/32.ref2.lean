/-! the reference: corrections, values, what a script settles to -/
theorem r_hasM {μ : Mu} (h : WF (μ 249)) {m q v : Int} (hm : 0 ≤ m ∧ m < 4) (hq : 0 ≤ q ∧ q < 5) (hv : 0 ≤ v ∧ v < 5) : f_X11_hasMarked m q v μ = some (μ, 0, b2 (0 < S_mk (μ 249) m q v)) := by
  have h1 := h.mk hm hq hv
  unfold f_X11_hasMarked f_X11_hasMarked_19 f_X11_markedAt
  rw [p_rb, p_rdI (by omega), p_lt (by omega)]
  show (if 0 < S_mk (μ 249) m q v then _ else _) = _
  by_cases p : 0 < S_mk (μ 249) m q v
  · rw [if_pos p, b2_t p]; rfl
  · rw [if_neg p, b2_f p]; rfl
theorem r_dev {μ : Mu} {m q v : Int} (hm : 0 ≤ m ∧ m < 4) (hq : 0 ≤ q ∧ q < 5) (hv : 0 ≤ v ∧ v < 5) : f_X11_deviation m q v μ = some (μ, 0, S_dv (μ 249) m q v) := by
  unfold f_X11_deviation f_X11_markedAt
  rw [p_rb, p_rdI (by omega), p_rdI (by omega)]; rfl
theorem r_set {μ : Mu} {w : Int} (hw : 0 ≤ w ∧ w < 5) : f_X11_setting w μ = some (μ, 0, μ 249 (5 + w).toNat) := by
  unfold f_X11_setting
  rw [p_rdI (by omega)]
theorem S_dv_bd {g : Nat → Int} (h : WF g) {m q v : Int} (hm : 0 ≤ m ∧ m < 4) (hq : 0 ≤ q ∧ q < 5) (hv : 0 ≤ v ∧ v < 5) : -41 ≤ S_dv g m q v ∧ S_dv g m q v ≤ 41 := by
  have h1 := h.mk hm hq hv
  have h2 := h.sd hq hv
  unfold S_dv S_mk
  omega
def S_cn (g : Nat → Int) (m q : Int) : Int := sm (fun k => b2 (0 < S_mk g m q k)) 5 0
def S_cs (g : Nat → Int) (m q : Int) : Int := sm (fun k => if 0 < S_mk g m q k then S_dv g m q k else 0) 5 0
def S_cor (g : Nat → Int) (m q : Int) : Int := if S_cn g m q = 0 ∨ absI (S_cs g m q) ≤ S_cn g m q * g 5 then 0 else -(S_cs g m q) * (120 / S_cn g m q)
theorem itS_sm2 (G G' : Int → Int) : ∀ (n : Nat) (s : Int × Int) (v : Int), itS (fun (s : Int × Int) v => (s.1 + G v, s.2 + G' v)) n s v = (s.1 + sm G n v, s.2 + sm G' n v)
  | 0, s, v => by simp [itS, sm]
  | n + 1, s, v => by
    simp only [itS, sm]
    rw [itS_sm2 G G' n]
    simp only [Int.add_assoc]
theorem sm_add (G : Int → Int) : ∀ (a b : Nat) (v : Int), sm G (a + b) v = sm G a v + sm G b (v + a)
  | 0, b, v => by simp [sm]
  | a + 1, b, v => by
    rw [show a + 1 + b = (a + b) + 1 by omega]
    simp only [sm]
    rw [sm_add G a b (v + 1), show v + 1 + (a : Int) = v + ((a + 1 : Nat) : Int) by push_cast; omega]
    omega
theorem sm_zero {G : Int → Int} : ∀ (n : Nat) (v : Int), (∀ j : Int, v ≤ j → j < v + n → G j = 0) → sm G n v = 0
  | 0, _, _ => rfl
  | n + 1, v, h => by
    simp only [sm]
    rw [h v (by omega) (by omega), sm_zero n (v + 1) (fun j h1 h2 => h j (by omega) (by omega))]; rfl
/-- what lies behind the end adds nothing -/
theorem sm_tail {G : Int → Int} {n N : Nat} (hn : n ≤ N) (h : ∀ j : Int, (n : Int) ≤ j → j < N → G j = 0) : sm G N 0 = sm G n 0 := by
  obtain ⟨d, rfl⟩ := Nat.le.dest hn
  rw [sm_add, sm_zero d _ (fun j h1 h2 => h j (by omega) (by push_cast; omega))]; omega
theorem mul_bd {a b A B : Int} (ha : -A ≤ a ∧ a ≤ A) (hb : 0 ≤ b ∧ b ≤ B) : -(A * B) ≤ a * b ∧ a * b ≤ A * B := by
  have hA : 0 ≤ A := by omega
  have h1 : a * b ≤ A * b := Int.mul_le_mul_of_nonneg_right ha.2 hb.1
  have h2 : A * b ≤ A * B := Int.mul_le_mul_of_nonneg_left hb.2 hA
  have h3 : -A * b ≤ a * b := Int.mul_le_mul_of_nonneg_right ha.1 hb.1
  rw [Int.neg_mul] at h3
  omega
theorem S_cn_bd {g : Nat → Int} {m q : Int} : 0 ≤ S_cn g m q ∧ S_cn g m q ≤ 5 := by
  have := sm_bd (G := fun k => b2 (0 < S_mk g m q k)) (a := 0) (b := 1) 5 0 (fun j _ _ => by have := b2_01 (0 < S_mk g m q j); omega)
  unfold S_cn
  omega
theorem S_cs_bd {g : Nat → Int} (h : WF g) {m q : Int} (hm : 0 ≤ m ∧ m < 4) (hq : 0 ≤ q ∧ q < 5) : -205 ≤ S_cs g m q ∧ S_cs g m q ≤ 205 := by
  have := sm_bd (G := fun k => if 0 < S_mk g m q k then S_dv g m q k else 0) (a := -41) (b := 41) 5 0 (fun j h1 h2 => by
    have := S_dv_bd h hm hq (v := j) (by omega)
    split <;> omega)
  unfold S_cs
  omega
theorem S_cor_bd {g : Nat → Int} (h : WF g) {m q : Int} (hm : 0 ≤ m ∧ m < 4) (hq : 0 ≤ q ∧ q < 5) : -24600 ≤ S_cor g m q ∧ S_cor g m q ≤ 24600 := by
  have h1 := S_cs_bd h hm hq
  have h2 := S_cn_bd (g := g) (m := m) (q := q)
  unfold S_cor
  split
  · omega
  · rename_i hc
    have h3 : 0 ≤ 120 / S_cn g m q ∧ 120 / S_cn g m q ≤ 120 := by
      refine ⟨Int.ediv_nonneg (by omega) h2.1, Int.ediv_le_self _ (by omega)⟩
    have := mul_bd (a := -(S_cs g m q)) (b := 120 / S_cn g m q) (A := 205) (B := 120) (by omega) h3
    omega
theorem r_cor {μ : Mu} (h : WF (μ 249)) {m q : Int} (hm : 0 ≤ m ∧ m < 4) (hq : 0 ≤ q ∧ q < 5) : f_X11_corrects m q μ = some (μ, 0, S_cor (μ 249) m q) := by
  have hN := h.many hq
  have hst := h.st
  have hcn := S_cn_bd (g := μ 249) (m := m) (q := q)
  have hcs := S_cs_bd h hm hq
  unfold f_X11_corrects
  generalize hk : (fun (v3 v4 : Int) (μ : Mu) => i_eq v3 0 (f_X11_corrects_94 m q μ) (rb (f_X11_amount v4 μ) fun μ x1 => rb (f_X11_setting 0 μ) fun μ x2 => i_lt (v3 * x2) x1 (i_div 120 v3 fun x3 => f_X11_corrects_106 m q ((-v4) * x3) μ) (f_X11_corrects_94 m q μ))) = k
  have key := loop_up (S := Int × Int) (fun fu s v => f_X11_corrects_8 m q k fu s.1 s.2 v μ) (fun s => k s.1 s.2 μ) (fun s v => (s.1 + b2 (0 < S_mk (μ 249) m q v), s.2 + (if 0 < S_mk (μ 249) m q v then S_dv (μ 249) m q v else 0))) (μ 249 (14 + q).toNat) (fun s v => 0 ≤ v ∧ v ≤ μ 249 (14 + q).toNat) ?_ (fun s v hi hlt => by omega) (μ 249 (14 + q).toNat).toNat FU (0, 0) 0 (by omega) (by omega) (by unfold FU; omega)
  · rw [show f_X11_corrects_8 m q k FU 0 0 0 μ = _ from key, itS_sm2]
    have t1 : sm (fun k => b2 (0 < S_mk (μ 249) m q k)) (μ 249 (14 + q).toNat).toNat 0 = S_cn (μ 249) m q := by
      unfold S_cn
      refine (sm_tail (by omega) (fun j h1 h2 => b2_f ?_)).symm
      have := h.un hm hq (k := j) (by omega)
      unfold S_mk
      omega
    have t2 : sm (fun k => if 0 < S_mk (μ 249) m q k then S_dv (μ 249) m q k else 0) (μ 249 (14 + q).toNat).toNat 0 = S_cs (μ 249) m q := by
      unfold S_cs
      refine (sm_tail (by omega) (fun j h1 h2 => if_neg ?_)).symm
      have := h.un hm hq (k := j) (by omega)
      unfold S_mk
      omega
    rw [t1, t2, Int.zero_add, Int.zero_add, ← hk]
    dsimp only
    unfold f_X11_corrects_94 f_X11_corrects_106 S_cor
    rw [p_eq (by omega)]
    by_cases c0 : S_cn (μ 249) m q = 0
    · rw [if_pos c0, if_pos (Or.inl c0)]
    · rw [if_neg c0, r_amount (by unfold iG; omega), p_rb, r_set (by omega), p_rb]
      have ha := absI_bd (x := S_cs (μ 249) m q) (A := 205) (by omega)
      have hb : (μ 249 (5 + 0 : Int).toNat) = μ 249 5 := rfl
      rw [hb]
      have hm5 := mul_bd (a := S_cn (μ 249) m q) (b := μ 249 5) (A := 5) (B := 5) (by omega) (by omega)
      rw [p_lt (by omega)]
      by_cases c1 : absI (S_cs (μ 249) m q) ≤ S_cn (μ 249) m q * μ 249 5
      · rw [if_neg (by omega), if_pos (Or.inr c1)]
      · rw [if_pos (by omega), if_neg (by omega), p_div (by omega)]
  · intro fu s v hi
    show f_X11_corrects_8 m q k (fu + 1) s.1 s.2 v μ = _
    rw [f_X11_corrects_8, p_rdI (by omega), p_lt (by omega)]
    by_cases hvN : v < μ 249 (14 + q).toNat
    · rw [if_pos hvN, if_pos hvN, r_hasM h hm hq (by omega), p_rb]
      unfold f_X11_corrects_39 f_X11_corrects_66
      by_cases p : 0 < S_mk (μ 249) m q v
      · rw [b2_t p, if_pos p, p_eq (by omega), if_neg (by omega), p_bnd, r_hasM h hm hq (by omega), p_rb, b2_t p, p_eq (by omega), if_neg (by omega), r_dev hm hq (by omega), p_rb, p_bnd]
      · rw [b2_f p, if_neg p, p_eq (by omega), if_pos rfl, p_bnd, r_hasM h hm hq (by omega), p_rb, b2_f p, p_eq (by omega), if_pos rfl, p_bnd]
    · rw [if_neg hvN, if_neg hvN]
/-! entries -/
def S_em (g : Nat → Int) (e : Int) : Int := g (145 + 4 * e).toNat
def S_ec (g : Nat → Int) (e : Int) : Int := g (145 + 4 * e + 1).toNat
def S_eq (g : Nat → Int) (e : Int) : Int := g (145 + 4 * e + 2).toNat
def S_ev (g : Nat → Int) (e : Int) : Int := g (145 + 4 * e + 3).toNat
theorem WF.ee {g : Nat → Int} (h : WF g) {e : Int} (h1 : 0 ≤ e ∧ e < g 144) : (0 ≤ S_em g e ∧ S_em g e < 4) ∧ (0 ≤ S_ec g e ∧ S_ec g e < 8) ∧ (0 ≤ S_eq g e ∧ S_eq g e < 5) ∧ (0 ≤ S_ev g e ∧ S_ev g e ≤ 40) := h.en h1
theorem r_p0 {μ : Mu} {e : Int} (h : 0 ≤ e ∧ e < 120) : f_X11_part e 0 μ = some (μ, 0, S_em (μ 249) e) := by
  unfold f_X11_part
  rw [p_rdI (by omega), Int.add_zero]; rfl
theorem r_p1 {μ : Mu} {e : Int} (h : 0 ≤ e ∧ e < 120) : f_X11_part e 1 μ = some (μ, 0, S_ec (μ 249) e) := by
  unfold f_X11_part
  rw [p_rdI (by omega)]; rfl
theorem r_p2 {μ : Mu} {e : Int} (h : 0 ≤ e ∧ e < 120) : f_X11_part e 2 μ = some (μ, 0, S_eq (μ 249) e) := by
  unfold f_X11_part
  rw [p_rdI (by omega)]; rfl
theorem r_p3 {μ : Mu} {e : Int} (h : 0 ≤ e ∧ e < 120) : f_X11_part e 3 μ = some (μ, 0, S_ev (μ 249) e) := by
  unfold f_X11_part
  rw [p_rdI (by omega)]; rfl
abbrev S_is (g : Nat → Int) (c q e : Int) : Prop := S_ec g e = c ∧ S_eq g e = q
theorem r_isOf {μ : Mu} (h : WF (μ 249)) {c q e : Int} (he : 0 ≤ e ∧ e < μ 249 144) (hc : iG c) (hq : iG q) : f_X11_isOf e c q μ = some (μ, 0, b2 (S_is (μ 249) c q e)) := by
  have h1 := h.ee he
  have h2 := h.tot
  unfold iG at hc hq
  unfold f_X11_isOf f_X11_isOf_25 f_X11_isOf_24 f_X11_isOf_25
  rw [r_p1 (by omega), p_rb, p_eq (by omega)]
  by_cases p : S_ec (μ 249) e = c
  · rw [if_pos p, r_p2 (by omega), p_rb, p_eq (by omega)]
    by_cases p2 : S_eq (μ 249) e = q
    · rw [if_pos p2, b2_t ⟨p, p2⟩]; rfl
    · rw [if_neg p2, b2_f (fun w => p2 w.2)]; rfl
  · rw [if_neg p, b2_f (fun w => p w.1)]; rfl
abbrev S_ok (g : Nat → Int) (e : Int) : Prop := ¬ S_susp g (S_em g e) (S_eq g e)
theorem r_isValid {μ : Mu} (h : WF (μ 249)) {e : Int} (he : 0 ≤ e ∧ e < μ 249 144) : f_X11_isValid e μ = some (μ, 0, b2 (S_ok (μ 249) e)) := by
  have h1 := h.ee he
  have h2 := h.tot
  unfold f_X11_isValid f_X11_isValid_24
  rw [r_p0 (by omega), p_rb, r_p2 (by omega), p_rb, r_susp h h1.1 h1.2.2.1, p_rb]
  by_cases p : S_susp (μ 249) (S_em (μ 249) e) (S_eq (μ 249) e)
  · rw [b2_t p, b2_f (fun w => w p)]; rfl
  · rw [b2_f p, b2_t p]; rfl
def S_raw (g : Nat → Int) (e : Int) : Int := S_ev g e * 120 + S_cor g (S_em g e) (S_eq g e)
def S_val (g : Nat → Int) (e : Int) : Int := if S_raw g e < 0 then 0 else if g (S_eq g e).toNat * 120 < S_raw g e then g (S_eq g e).toNat * 120 else S_raw g e
theorem S_raw_bd {g : Nat → Int} (h : WF g) {e : Int} (he : 0 ≤ e ∧ e < g 144) : -24600 ≤ S_raw g e ∧ S_raw g e ≤ 29400 := by
  have h1 := h.ee he
  have h2 := S_cor_bd h h1.1 h1.2.2.1
  unfold S_raw
  omega
theorem S_val_bd {g : Nat → Int} (h : WF g) {e : Int} (he : 0 ≤ e ∧ e < g 144) : 0 ≤ S_val g e ∧ S_val g e ≤ 4800 := by
  have h1 := h.ee he
  have h2 := h.mx h1.2.2.1
  have h3 := S_raw_bd h he
  unfold S_val
  split
  · omega
  · split <;> omega
theorem r_value {μ : Mu} (h : WF (μ 249)) {e : Int} (he : 0 ≤ e ∧ e < μ 249 144) : f_X11_value e μ = some (μ, 0, S_val (μ 249) e) := by
  have h1 := h.ee he
  have h2 := h.tot
  have h3 := h.mx h1.2.2.1
  have h4 := S_raw_bd h he
  unfold f_X11_value f_X11_value_67
  rw [r_p2 (by omega), p_rb, r_p3 (by omega), p_rb, r_p0 (by omega), p_rb, r_cor h h1.1 h1.2.2.1, p_rb, p_bnd]
  rw [show S_ev (μ 249) e * 120 + S_cor (μ 249) (S_em (μ 249) e) (S_eq (μ 249) e) = S_raw (μ 249) e from rfl, p_lt (by omega)]
  unfold S_val
  by_cases p : S_raw (μ 249) e < 0
  · rw [if_pos p, if_pos p]
  · rw [if_neg p, if_neg p, p_rdI (by omega), Int.zero_add, p_lt (by omega)]
    by_cases p2 : μ 249 (S_eq (μ 249) e).toNat * 120 < S_raw (μ 249) e
    · rw [if_pos p2, if_pos p2, p_rdI (by omega)]
    · rw [if_neg p2, if_neg p2]
abbrev S_agr (g : Nat → Int) (v w : Int) : Prop := absI (v - w) ≤ g 7 * 120
theorem r_agree {μ : Mu} (h : WF (μ 249)) {v w : Int} (hv : 0 ≤ v ∧ v ≤ 100000) (hw : 0 ≤ w ∧ w ≤ 100000) : f_X11_agree v w μ = some (μ, 0, b2 (S_agr (μ 249) v w)) := by
  have hst := h.st
  have ha := absI_bd (x := v - w) (A := 100000) (by omega)
  unfold f_X11_agree f_X11_agree_22
  rw [r_amount (by unfold iG; omega), p_rb, r_set (by omega), p_rb]
  have hb : (μ 249 (5 + 2 : Int).toNat) = μ 249 7 := rfl
  rw [hb, p_lt (by omega)]
  by_cases p : μ 249 7 * 120 < absI (v - w)
  · rw [if_pos p, b2_f (by omega)]; rfl
  · rw [if_neg p, b2_t (by omega)]; rfl
def S_cnt (g : Nat → Int) (c q : Int) (n : Nat) : Int := sm (fun e => b2 (S_is g c q e)) n 0
theorem r_entries {μ : Mu} (h : WF (μ 249)) {c q : Int} (hc : iG c) (hq : iG q) : f_X11_entries c q μ = some (μ, 0, S_cnt (μ 249) c q (μ 249 144).toNat) := by
  have hN := h.tot
  unfold f_X11_entries
  have key := loop_up (S := Int) (fun fu s v => f_X11_entries_5 c q (fun v3 μ => some (μ, 0, v3)) fu s v μ) (fun s => some (μ, 0, s)) (fun s v => s + b2 (S_is (μ 249) c q v)) (μ 249 144) (fun s v => 0 ≤ v ∧ v ≤ μ 249 144) ?_ (fun s v hi hlt => by omega) (μ 249 144).toNat FU 0 0 (by omega) (by omega) (by unfold FU; omega)
  · rw [key, itS_sm, Int.zero_add]; rfl
  · intro fu s v hi
    show f_X11_entries_5 c q _ (fu + 1) s v μ = _
    rw [f_X11_entries_5, p_rdI (by omega)]
    show i_lt v (μ 249 144) _ _ = _
    rw [p_lt (by omega)]
    by_cases hvN : v < μ 249 144
    · rw [if_pos hvN, if_pos hvN, r_isOf h (by omega) hc hq, p_rb]
      unfold f_X11_entries_35
      by_cases p : S_is (μ 249) c q v
      · rw [b2_t p]; rfl
      · rw [b2_f p]; rfl
    · rw [if_neg hvN, if_neg hvN]

/-! the entries of a sheet are made one by one -/
def tq_rw (m q : Int) : List (Int × Int) → (Nat → Int) → Int
  | [], _ => 0
  | x :: l, g => if S_why g m x.1 q x.2 = 0 then tq_rw m q l (S_enG g m x.1 q x.2) else S_why g m x.1 q x.2
def tq_rg (m q : Int) : List (Int × Int) → (Nat → Int) → Nat → Int
  | [], g => g
  | x :: l, g => if S_why g m x.1 q x.2 = 0 then tq_rg m q l (S_enG g m x.1 q x.2) else g
def tq_ri (m q : Int) : List (Int × Int) → (Nat → Int) → Int
  | [], _ => 0
  | x :: l, g => if S_why g m x.1 q x.2 = 0 then 1 + tq_ri m q l (S_enG g m x.1 q x.2) else 0
theorem run_t {m q : Int} {g : Nat → Int} {x : Int × Int} {l : List (Int × Int)} (h : S_why g m x.1 q x.2 = 0) : tq_rw m q (x :: l) g = tq_rw m q l (S_enG g m x.1 q x.2) ∧ tq_rg m q (x :: l) g = tq_rg m q l (S_enG g m x.1 q x.2) ∧ tq_ri m q (x :: l) g = 1 + tq_ri m q l (S_enG g m x.1 q x.2) := by
  simp only [tq_rw, tq_rg, tq_ri]
  rw [if_pos h, if_pos h, if_pos h]
  exact ⟨rfl, rfl, rfl⟩
theorem run_f {m q : Int} {g : Nat → Int} {x : Int × Int} {l : List (Int × Int)} (h : S_why g m x.1 q x.2 ≠ 0) : tq_rw m q (x :: l) g = S_why g m x.1 q x.2 ∧ tq_rg m q (x :: l) g = g ∧ tq_ri m q (x :: l) g = 0 := by
  simp only [tq_rw, tq_rg, tq_ri]
  rw [if_neg h, if_neg h, if_neg h]
  exact ⟨rfl, rfl, rfl⟩
def EV (l : List (Int × Int)) : Prop := ∀ x ∈ l, (0 ≤ x.1 ∧ x.1 < 8) ∧ 0 ≤ x.2 ∧ x.2 ≤ 99
theorem rw_bd {m q : Int} : ∀ (l : List (Int × Int)) (g : Nat → Int), 0 ≤ tq_rw m q l g ∧ tq_rw m q l g ≤ 15
  | [], g => by show (0 : Int) ≤ 0 ∧ (0 : Int) ≤ 15; omega
  | x :: l, g => by
    by_cases p : S_why g m x.1 q x.2 = 0
    · rw [(run_t p).1]; exact rw_bd l _
    · rw [(run_f p).1]; exact why_bd
theorem ri_bd {m q : Int} : ∀ (l : List (Int × Int)) (g : Nat → Int), 0 ≤ tq_ri m q l g ∧ tq_ri m q l g ≤ (l.length : Int)
  | [], g => by show (0 : Int) ≤ 0 ∧ (0 : Int) ≤ ((0 : Nat) : Int); omega
  | x :: l, g => by
    rw [List.length_cons]
    by_cases p : S_why g m x.1 q x.2 = 0
    · have := ri_bd (m := m) (q := q) l (S_enG g m x.1 q x.2)
      rw [(run_t p).2.2]; omega
    · rw [(run_f p).2.2]; omega
theorem ri_all {m q : Int} : ∀ (l : List (Int × Int)) (g : Nat → Int), tq_rw m q l g = 0 → tq_ri m q l g = (l.length : Int)
  | [], g, _ => rfl
  | x :: l, g, h => by
    rw [List.length_cons]
    by_cases p : S_why g m x.1 q x.2 = 0
    · rw [(run_t p).1] at h
      have := ri_all l _ h
      rw [(run_t p).2.2]; omega
    · rw [(run_f p).1] at h
      exact absurd h p
theorem c_shl {m q : Int} (hm : 0 ≤ m ∧ m < 4) (hq : 0 ≤ q ∧ q < 5) (kx kk : Mu → Option Res) : ∀ (l : List (Int × Int)) (fu : Nat) (n T : Int) (g : Nat → Int) (μ : Mu), RB μ 25 g → WS g T → 0 ≤ n → μ 219 6 = n + (l.length : Int) → n + (l.length : Int) ≤ 20 → μ 219 4 = m → μ 219 5 = q →
    (∀ j : Nat, j < l.length → μ 221 (n.toNat + j) = (l.getD j (0, 0)).1 ∧ μ 222 (n.toNat + j) = (l.getD j (0, 0)).2) → EV l → l.length < fu →
    ∃ μ', (tq_rw m q l g = 0 → f_X10_sheet_40 kx kk fu n μ = kk μ' ∧ RB μ' 25 (tq_rg m q l g)) ∧ (tq_rw m q l g ≠ 0 → f_X10_sheet_40 kx kk fu n μ = kx (TLc μ' 1 (n + tq_ri m q l g) (tq_rw m q l g) (S_wd (tq_rg m q l g) m q (tq_rw m q l g)))) ∧ (∀ a : Nat, (a < 25 ∨ 49 ≤ a) → μ' a = μ a) ∧ WS (tq_rg m q l g) (T + 50 * (l.length : Int))
  | [], fu + 1, n, T, g, μ, R, W, n0, h6, h20, h4, h5, hr, hv, hf => by
    have h6 : μ 219 6 = n := h6.trans (Int.add_zero n)
    have h20 : n ≤ 20 := by
      have : n + ((0 : Nat) : Int) ≤ 20 := h20
      omega
    refine ⟨μ, fun _ => ⟨?_, R⟩, fun w => absurd rfl w, fun a _ => rfl, W.up (by omega)⟩
    rw [f_X10_sheet_40, p_rdF, h6, p_lt (by omega), if_neg (by omega)]
  | x :: l, fu + 1, n, T, g, μ, R, W, n0, h6, h20, h4, h5, hr, hv, hf => by
    rw [List.length_cons] at h6 h20 hf
    obtain ⟨r1, r2⟩ := hr 0 (by rw [List.length_cons]; omega)
    have r1 : μ 221 n.toNat = x.1 := r1
    have r2 : μ 222 n.toNat = x.2 := r2
    obtain ⟨v1, v2⟩ := hv x List.mem_cons_self
    have hvl : EV l := fun y w => hv y (List.mem_cons_of_mem x w)
    have sO : f_X10_scriptOf x.1 q μ = some (μ, 0, x.1 * 5 + q) := rfl
    have hmx := W.1.mx hq
    obtain ⟨μ1, a1, j1⟩ := c_refE (i := n) (s := x.1 * 5 + q) (v := x.2) W.1 W.2.1 R hm v1 hq rfl (by unfold iG; omega)
    have o1 : ∀ a : Nat, a ≠ 48 → μ1 a = μ a := fun a w => j1 a (by omega)
    have st : f_X10_sheet_40 kx kk (fu + 1) n μ = rb (f_X10_refusesEntry 25 n m (x.1 * 5 + q) x.2 μ) fun μ x7 => i_eq x7 0 (rdF μ 219 4 fun x8 => rdI μ 222 20 n fun x9 => rb (f_X1_makeEntry 25 x8 (x.1 * 5 + q) x9 μ) fun μ x10 => (f_X10_sheet_40 kx kk fu) (n + 1) μ) (kx μ) := by
      rw [f_X10_sheet_40, p_rdF, h6, p_lt (by omega), if_pos (by omega), p_lt (by omega), if_pos (by omega), p_rdI (by omega), r1, p_rdF, h5, sO, p_rb, p_rdF, h4, p_rdI (by omega), r2]
    rw [st]
    by_cases p : S_why g m x.1 q x.2 = 0
    · obtain ⟨z1, z2, z3, z4⟩ := why_0 W.2.1 p
      obtain ⟨e1, e2, e3⟩ := run_t (l := l) p
      obtain ⟨μ2, b1, R2, o2⟩ := c_makeE (s := x.1 * 5 + q) (v := x.2) W.1 W.2.1 (j1.R R) hm v1 hq rfl z4
      have W2 := enG_W W (tot_lt W.1 W.2.1 v1 hq z4) hm v1 hq (v := x.2) (by omega) z4
      have o3 : ∀ a : Nat, (a < 25 ∨ 49 ≤ a) → μ2 a = μ a := fun a w => (o2 a (by omega)).trans (o1 a (by omega))
      obtain ⟨μ', c1, c2, c3, c4⟩ := c_shl hm hq kx kk l fu (n + 1) (T + 50) (S_enG g m x.1 q x.2) μ2 R2 W2 (by omega) (by rw [o3 219 (by omega), h6]; omega) (by omega) (by rw [o3 219 (by omega)]; exact h4) (by rw [o3 219 (by omega)]; exact h5) (fun j hj => by
        have := hr (j + 1) (by rw [List.length_cons]; omega)
        rw [o3 221 (by omega), o3 222 (by omega), show (n + 1).toNat + j = n.toNat + (j + 1) by omega]
        exact this) hvl (by omega)
      rw [e1, e2, e3]
      have go : (rb (f_X10_refusesEntry 25 n m (x.1 * 5 + q) x.2 μ) fun μ x7 => i_eq x7 0 (rdF μ 219 4 fun x8 => rdI μ 222 20 n fun x9 => rb (f_X1_makeEntry 25 x8 (x.1 * 5 + q) x9 μ) fun μ x10 => (f_X10_sheet_40 kx kk fu) (n + 1) μ) (kx μ)) = f_X10_sheet_40 kx kk fu (n + 1) μ2 := by
        rw [a1, if_pos p, p_rb, p_eq (by omega), if_pos rfl, p_rdF, o1 219 (by omega), h4, p_rdI (by omega), o1 222 (by omega), r2, b1, p_rb]
      rw [go]
      refine ⟨μ', c1, fun w => ?_, fun a w => (c3 a w).trans (o3 a w), c4.up (by rw [List.length_cons]; omega)⟩
      rw [c2 w, show n + (1 + tq_ri m q l (S_enG g m x.1 q x.2)) = n + 1 + tq_ri m q l (S_enG g m x.1 q x.2) by omega]
    · obtain ⟨e1, e2, e3⟩ := run_f (l := l) p
      rw [e1, e2, e3]
      refine ⟨μ1, fun w => absurd w p, fun _ => ?_, fun a w => o1 a (by omega), W.up (by omega)⟩
      rw [a1, if_neg p, p_rb, p_eq (by omega), if_neg (by omega), Int.add_zero]
/-- what the reference's walk through a sheet may change -/
def JX (μ μ' : Mu) : Prop := ∀ a k : Nat, a ≠ 249 → ¬ jR a k → μ' a k = μ a k
theorem JX.tr {μ μ1 μ2 : Mu} (h1 : JX μ μ1) (h2 : JX μ1 μ2) : JX μ μ2 := fun a k x y => (h2 a k x y).trans (h1 a k x y)
theorem JR.jx {μ μ' : Mu} (h : JR μ μ') : JX μ μ' := fun a k _ y => h a k y
theorem r_shl {t : Int → Int} {L : Int} (h : TY t L) {m q : Int} (hm : 0 ≤ m ∧ m < 4) (hq : 0 ≤ q ∧ q < 5) (k : Int → Int → Mu → Option Res) : ∀ (n fu : Nat) (i cnt T : Int) (g : Nat → Int) (μ : Mu), μ 249 = g → WS g T → TYr μ t L → SQ μ (i - 1) 1 → 1 ≤ i → i ≤ L → tq_ok t L n i = 1 → n + 1 < fu →
    ∃ μ', f_X11_sheet_91 k fu m q cnt 0 μ = k (cnt + tq_ri m q (tq_es t n i) g) (tq_rw m q (tq_es t n i) g) μ' ∧ μ' 249 = tq_rg m q (tq_es t n i) g ∧ (tq_rw m q (tq_es t n i) g ≠ 0 → μ' 248 20 = S_wd (tq_rg m q (tq_es t n i) g) m q (tq_rw m q (tq_es t n i) g)) ∧ JX μ μ'
  | 0, fu, i, cnt, T, g, μ, hg, W, R, S, h0, hi, ho, hf => by
    have : tq_ok t L 0 i = 0 := rfl
    omega
  | n + 1, fu + 1, i, cnt, T, g, μ, hg, W, R, S, h0, hi, ho, hf => by
    have hL := h.1
    have hE : tq_E t i := by
      by_cases p : tq_E t i
      · exact p
      · simp only [tq_ok] at ho
        rw [if_neg p] at ho; omega
    have jb := tq_Jb h hE
    have l0 := h.lt (j := i) (by have := hE.1; omega)
    have j0 : JP μ (up2 μ 248 21 (i - 1 + 1)) := (JP.rf μ).up (by omega)
    have s0 : SQ (up2 μ 248 21 (i - 1 + 1)) i 1 := ⟨up2_s.trans (by omega), (up2_k (by omega)).trans S.2⟩
    obtain ⟨m1, a1, j1, b1, -⟩ := r_rE h (R.jp j0) s0 (by omega)
    obtain ⟨s1, c23, c24⟩ := b1 hE
    have j1 := j0.tr j1
    have f1 : m1 249 = g := (funext fun k => j1 249 k (by omega)).trans hg
    have hC : 0 ≤ tq_C t i ∧ tq_C t i < 8 := by
      have := hE.1
      unfold tq_C
      omega
    have hV : 0 ≤ tq_V t i ∧ tq_V t i ≤ 99 := by
      have := hE.2.2
      unfold tq_V
      by_cases z : tq_2 t i
      · have := z.2
        rw [if_pos z]; omega
      · rw [if_neg z]; omega
    obtain ⟨m2, d1, d2, j2⟩ := r_refusal (μ := m1) (v := tq_V t i) (by rw [f1]; exact W.1) (by rw [f1]; exact W.2.1) hm hC hq (by unfold iG; omega)
    rw [f1] at d1 d2
    have f2 : m2 249 = g := (funext fun k => j2 249 k (by omega)).trans f1
    have hw := why_bd (g := g) (m := m) (c := tq_C t i) (q := q) (v := tq_V t i)
    have jx2 : JX μ m2 := (j1.jr.jx).tr j2.jr.jx
    have st : f_X11_sheet_91 k (fu + 1) m q cnt 0 μ = i_eq (S_why g m (tq_C t i) q (tq_V t i)) 0 (rdF m2 248 23 fun x7 => rdF m2 248 24 fun x8 => rb (f_X11_enters m x7 q x8 m2) fun μ _ => f_X11_sheet_158 (f_X11_sheet_91 k fu) m q cnt (S_why g m (tq_C t i) q (tq_V t i)) μ) (f_X11_sheet_158 (f_X11_sheet_91 k fu) m q cnt (S_why g m (tq_C t i) q (tq_V t i)) m2) := by
      rw [f_X11_sheet_91, p_eq (by omega), if_pos rfl, p_rdF, S.1, p_rdF, R.1, p_lt (by omega), if_pos (by omega), p_rdF, S.1, p_wrF, a1, p_rb, p_rdF, c23, p_rdF, c24, d1, p_rb]
    have t158 : ∀ (w : Int) (m9 : Mu), iG w → f_X11_sheet_158 (f_X11_sheet_91 k fu) m q cnt w m9 = if w = 0 then f_X11_sheet_91 k fu m q (cnt + 1) w m9 else f_X11_sheet_91 k fu m q (cnt + 0) w m9 := fun w m9 hw => by
      unfold iG at hw
      unfold f_X11_sheet_158 f_X11_sheet_170
      rw [p_eq (by omega), p_bnd, p_bnd]
    have eS : tq_es t (n + 1) i = (tq_C t i, tq_V t i) :: (if t (tq_J t i) = 44 then tq_es t n (tq_J t i + 1) else []) := by
      simp only [tq_es]
      rw [if_pos hE]
    have oJ : tq_ok t L (n + 1) i = if t (tq_J t i) = 44 then tq_ok t L n (tq_J t i + 1) else b2 (tq_J t i = L) := by
      simp only [tq_ok]
      rw [if_pos hE]
    obtain ⟨f9, rfl⟩ : ∃ f9, fu = f9 + 1 := ⟨fu - 1, by omega⟩
    rw [st, eS, p_eq (by omega)]
    by_cases p : S_why g m (tq_C t i) q (tq_V t i) = 0
    · obtain ⟨z1, z2, z3, z4⟩ := why_0 W.2.1 p
      obtain ⟨e1, e2, e3⟩ := run_t (x := (tq_C t i, tq_V t i)) (l := if t (tq_J t i) = 44 then tq_es t n (tq_J t i + 1) else []) p
      have ht := W.1.tot
      have ht2 := tot_lt W.1 W.2.1 hC hq z4
      have hmx := W.1.mx hq
      have W2 := enG_W W ht2 hm hC hq (v := tq_V t i) (by omega) z4
      obtain ⟨m3, g1, g2, g3⟩ := r_enters (μ := m2) (c := tq_C t i) (v := tq_V t i) hm hC hq (by rw [f2]; omega)
      rw [f2] at g2
      have jx3 : JX μ m3 := jx2.tr (fun a k x _ => by rw [g3 a x])
      have R3 : TYr m3 t L := ⟨by rw [g3 248 (by omega), j2 248 8 (by omega), j1 248 8 (by omega)]; exact R.1, fun j x y => by rw [g3 253 (by omega), j2 253 _ (by omega), j1 253 _ (by omega)]; exact R.2 j x y⟩
      have s3 : SQ m3 (tq_J t i) 1 := ⟨by rw [g3 248 (by omega), j2 248 21 (by omega)]; exact s1.1, by rw [g3 248 (by omega), j2 248 22 (by omega)]; exact s1.2⟩
      rw [if_pos p, p_rdF, j2 248 23 (by omega), c23, p_rdF, j2 248 24 (by omega), c24, g1, p_rb, p, t158 0 m3 (by unfold iG; omega), if_pos rfl, e1, e2, e3]
      by_cases y : t (tq_J t i) = 44
      · have lt := h.lt (j := tq_J t i) (by omega)
        rw [if_pos y] at oJ ⊢
        rw [oJ] at ho
        obtain ⟨m4, k1, k2, k3, k4⟩ := r_shl h hm hq k n (f9 + 1) (tq_J t i + 1) (cnt + 1) (T + 50) (S_enG g m (tq_C t i) q (tq_V t i)) m3 g2 W2 R3 (by rw [show tq_J t i + 1 - 1 = tq_J t i by omega]; exact s3) (by omega) (by omega) ho (by omega)
        refine ⟨m4, ?_, k2, k3, jx3.tr k4⟩
        rw [k1, Int.add_assoc]
      · rw [if_neg y] at oJ ⊢
        have eJ : tq_J t i = L := by
          by_cases z : tq_J t i = L
          · exact z
          · rw [oJ, b2_f z] at ho; omega
        refine ⟨m3, ?_, g2, fun w => absurd rfl w, jx3⟩
        rw [f_X11_sheet_91, p_eq (by omega), if_pos rfl, p_rdF, s3.1, p_rdF, R3.1, p_lt (by omega), if_neg (by omega)]
        rfl
    · obtain ⟨e1, e2, e3⟩ := run_f (x := (tq_C t i, tq_V t i)) (l := if t (tq_J t i) = 44 then tq_es t n (tq_J t i + 1) else []) p
      rw [if_neg p, t158 _ m2 (by unfold iG; omega), if_neg p, e1, e2, e3]
      refine ⟨m2, ?_, f2, fun w => d2 p, jx2⟩
      rw [f_X11_sheet_91, p_eq (by omega), if_neg p]
theorem es_ok {t : Int → Int} : ∀ (n : Nat) (i : Int), EV (tq_es t n i)
  | 0, _ => fun x w => absurd w List.not_mem_nil
  | n + 1, i => by
    intro x w
    simp only [tq_es] at w
    by_cases p : tq_E t i
    · rw [if_pos p] at w
      rcases List.mem_cons.mp w with rfl | w
      · obtain ⟨p1, p2, p3⟩ := p
        unfold tq_C tq_V
        refine ⟨⟨by show 0 ≤ t i - 48; omega, by show t i - 48 < 8; omega⟩, ?_⟩
        show 0 ≤ (if tq_2 t i then 10 * (t (i + 2) - 48) + (t (i + 3) - 48) else t (i + 2) - 48) ∧ (if tq_2 t i then 10 * (t (i + 2) - 48) + (t (i + 3) - 48) else t (i + 2) - 48) ≤ 99
        by_cases z : tq_2 t i
        · have := z.2
          rw [if_pos z]; omega
        · rw [if_neg z]; omega
      · by_cases y : t (tq_J t i) = 44
        · rw [if_pos y] at w
          exact es_ok n _ x w
        · rw [if_neg y] at w
          exact absurd w List.not_mem_nil
    · rw [if_neg p] at w
      exact absurd w List.not_mem_nil
theorem es_len14 {t : Int → Int} {L : Int} (h : TY t L) : ∀ (n : Nat) (i : Int), 0 ≤ i → i ≤ L → i + 4 * ((tq_es t n i).length : Int) ≤ L + 1
  | 0, i, h0, hi => by show i + 4 * ((0 : Nat) : Int) ≤ L + 1; omega
  | n + 1, i, h0, hi => by
    simp only [tq_es]
    by_cases p : tq_E t i
    · have jb := tq_Jb h p
      rw [if_pos p, List.length_cons]
      by_cases y : t (tq_J t i) = 44
      · have lt := h.lt (j := tq_J t i) (by omega)
        have := es_len14 h n (tq_J t i + 1) (by omega) (by omega)
        rw [if_pos y]; omega
      · rw [if_neg y, List.length_nil]; omega
    · rw [if_neg p, List.length_nil]; omega
theorem rg_hi {m q : Int} (hm : 0 ≤ m ∧ m < 4) (hq : 0 ≤ q ∧ q < 5) : ∀ (l : List (Int × Int)) (g : Nat → Int) (T : Int), WS g T → EV l → ∀ i : Nat, 779 ≤ i → tq_rg m q l g i = g i
  | [], g, T, W, hv, i, hi => rfl
  | x :: l, g, T, W, hv, i, hi => by
    obtain ⟨v1, v2⟩ := hv x List.mem_cons_self
    have hvl : EV l := fun y w => hv y (List.mem_cons_of_mem x w)
    by_cases p : S_why g m x.1 q x.2 = 0
    · obtain ⟨z1, z2, z3, z4⟩ := why_0 W.2.1 p
      have hmx := W.1.mx hq
      have ht := W.1.tot
      have W2 := enG_W W (tot_lt W.1 W.2.1 v1 hq z4) hm v1 hq (v := x.2) (by omega) z4
      rw [(run_t p).2.1, rg_hi hm hq l _ _ W2 hvl i hi]
      exact enG_o ht.1 (by omega) (by omega) (by omega)
    · rw [(run_f p).2.1]

/-! recount -/
theorem c_fill_l {p0 n0 : Nat} {p1 : Int} (hn0 : n0 < 1000) (k : Mu → Option Res) : ∀ (n fu : Nat) (v : Int) (μ : Mu), 0 ≤ v → v + n = n0 → n < fu → ∃ μ', f_J7_fill_53178_5 p0 n0 p1 k fu v (n0 : Int) μ = k μ' ∧ (∀ a : Nat, a ≠ p0 → μ' a = μ a) ∧ (∀ i : Int, v ≤ i → i < n0 → μ' p0 i.toNat = p1) ∧ (∀ i : Nat, (i : Int) < v → μ' p0 i = μ p0 i)
  | 0, fu + 1, v, μ, h0, hn, hf => by
    refine ⟨μ, ?_, fun _ _ => rfl, fun i a b => by omega, fun _ _ => rfl⟩
    rw [f_J7_fill_53178_5, p_lt (by omega), if_neg (by omega)]
  | n + 1, fu + 1, v, μ, h0, hn, hf => by
    obtain ⟨μ', a1, a2, a3, a4⟩ := c_fill_l hn0 k n fu (v + 1) (up2 μ p0 v.toNat p1) (by omega) (by omega) (by omega)
    refine ⟨μ', ?_, fun a ha => (a2 a ha).trans (up2_oo ha), fun i x y => ?_, fun i x => ?_⟩
    · rw [f_J7_fill_53178_5, p_lt (by omega), if_pos (by omega), p_wrI (by omega), a1]
    · by_cases e : i = v
      · subst e
        rw [a4 _ (by omega)]; exact up2_s
      · exact a3 i (by omega) y
    · rw [a4 i (by omega), up2_k (by omega)]
theorem c_fill {p0 n0 : Nat} {p1 : Int} (hn0 : n0 < 1000) (μ : Mu) : ∃ μ', f_J7_fill_53178 p0 n0 p1 μ = some (μ', 0, 0) ∧ (∀ a : Nat, a ≠ p0 → μ' a = μ a) ∧ (∀ i : Int, 0 ≤ i → i < n0 → μ' p0 i.toNat = p1) := by
  obtain ⟨μ', a1, a2, a3, a4⟩ := c_fill_l (p0 := p0) (p1 := p1) hn0 (fun μ => some (μ, 0, 0)) n0 FU 0 μ (by omega) (by omega) (by unfold FU; omega)
  refine ⟨μ', ?_, a2, a3⟩
  unfold f_J7_fill_53178
  rw [p_bnd]; exact a1
def TQ (μ : Mu) (g : Nat → Int) (q : Int) (L : List Int) : Prop := μ 228 q.toNat = (L.length : Int) ∧ μ 231 q.toNat = S_setl g L ∧ (1 ≤ L.length → μ 229 q.toNat = L.getD 0 0) ∧ (2 ≤ L.length → μ 230 q.toNat = L.getD 1 0)
theorem c_correct {μ : Mu} {g : Nat → Int} {q v : Int} (h : WF g) (R : RB μ 1 g) (hq : 0 ≤ q ∧ q < 5) (hv : 0 ≤ v ∧ v ≤ 4800) : ∀ (L : List Int), (∀ x ∈ L, 0 ≤ x ∧ x ≤ 4800) → L.length ≤ 2 → TQ μ g q L →
    ∃ μ', f_X9_correct 1 q v μ = some (μ', 0, S_setl g (L ++ [v]) - S_setl g L) ∧ (∀ a k : Nat, (a < 228 ∨ 231 < a ∨ k ≠ q.toNat) → μ' a k = μ a k) ∧ TQ μ' g q (L ++ [v])
  | [], hL, hl, ⟨t1, t2, t3, t4⟩ => by
    have e1 : μ 228 q.toNat = 0 := t1
    have e2 : μ 231 q.toNat = 0 := t2
    refine ⟨up2 (up2 (up2 μ 229 q.toNat v) 231 q.toNat v) 228 q.toNat 1, ?_, fun a k ha => ?_, ?_, ?_, ?_, ?_⟩
    · unfold f_X9_correct f_X9_correct_142
      simp (disch := omega) only [p_rdI, p_wrI, p_eq, e1, e2, up2_o, up2_s, ↓reduceIte, Int.zero_add]
      rfl
    · rw [up2_eq, if_neg (by omega), up2_eq, if_neg (by omega), up2_eq, if_neg (by omega)]
    · exact up2_s
    · rw [up2_o (by omega), up2_s]; rfl
    · intro _
      rw [up2_o (by omega), up2_o (by omega), up2_s]; rfl
    · intro w
      simp at w
  | [a], hL, hl, ⟨t1, t2, t3, t4⟩ => by
    have e1 : μ 228 q.toNat = 1 := t1
    have e2 : μ 231 q.toNat = a := t2
    have e3 : μ 229 q.toNat = a := t3 (Nat.le_refl 1)
    have ha := hL a (by simp)
    have fin : ∀ s : Int, s = S_setl g [a, v] → ∃ μ', f_X9_correct_97 1 q v a q s (up2 μ 230 q.toNat v) = some (μ', 0, S_setl g [a, v] - a) ∧ (∀ a k : Nat, (a < 228 ∨ 231 < a ∨ k ≠ q.toNat) → μ' a k = μ a k) ∧ TQ μ' g q [a, v] := by
      rintro s rfl
      refine ⟨up2 (up2 (up2 μ 230 q.toNat v) 231 q.toNat (S_setl g [a, v])) 228 q.toNat 2, ?_, fun a k ha => ?_, ?_, ?_, ?_, ?_⟩
      · unfold f_X9_correct_97 f_X9_correct_142
        simp (disch := omega) only [p_rdI, p_wrI, p_eq, e1, e2, up2_o, up2_s]
        rfl
      · rw [up2_eq, if_neg (by omega), up2_eq, if_neg (by omega), up2_eq, if_neg (by omega)]
      · exact up2_s
      · rw [up2_o (by omega), up2_s]
      · intro _
        rw [up2_o (by omega), up2_o (by omega), up2_o (by omega), e3]; rfl
      · intro _
        rw [up2_o (by omega), up2_o (by omega), up2_s]; rfl
    have hR : RB (up2 μ 230 q.toNat v) 1 g := R.keep (fun a x y => up2_oo (by omega))
    have hag := c_agree h hR (v := a) (w := v) (by omega) (by omega)
    show ∃ μ', f_X9_correct 1 q v μ = some (μ', 0, S_setl g [a, v] - a) ∧ _ ∧ TQ μ' g q [a, v]
    unfold f_X9_correct
    by_cases p : S_agr g a v
    · rw [b2_t p] at hag
      obtain ⟨μ', b1, b2', b3⟩ := fin ((a + v) / 2) (by show _ = (if S_agr g a v then _ else _); rw [if_pos p])
      refine ⟨μ', ?_, b2', b3⟩
      simp (disch := omega) only [p_rdI, p_wrI, p_eq, e1, e2, e3, up2_o, up2_s, Int.reduceEq, ↓reduceIte, hag, p_rb, p_div, b1]
    · rw [b2_f p] at hag
      obtain ⟨μ', b1, b2', b3⟩ := fin (if v < a then v else a) (by
        show _ = (if S_agr g a v then _ else _); rw [if_neg p]
        by_cases w : v < a
        · rw [if_pos w, if_neg (by omega)]
        · rw [if_neg w]
          split <;> omega)
      refine ⟨μ', ?_, b2', b3⟩
      simp (disch := omega) only [p_rdI, p_wrI, p_eq, e1, e2, e3, up2_o, up2_s, Int.reduceEq, ↓reduceIte, hag, p_rb, p_min, b1]
  | [a, b], hL, hl, ⟨t1, t2, t3, t4⟩ => by
    have e1 : μ 228 q.toNat = 2 := t1
    have e3 : μ 229 q.toNat = a := t3 (show 1 ≤ 2 by decide)
    have e4 : μ 230 q.toNat = b := t4 (show 2 ≤ 2 by decide)
    have ha := hL a (by simp)
    have hb := hL b (by simp)
    have hag := c_agree h R (v := a) (w := b) (by omega) (by omega)
    show ∃ μ', f_X9_correct 1 q v μ = some (μ', 0, S_setl g [a, b, v] - S_setl g [a, b]) ∧ _ ∧ TQ μ' g q [a, b, v]
    unfold f_X9_correct f_X9_correct_142
    by_cases p : S_agr g a b
    · rw [b2_t p] at hag
      have e5 : S_setl g [a, b, v] = S_setl g [a, b] := by
        show (if S_agr g a b then _ else _) = (if S_agr g a b then _ else _)
        rw [if_pos p, if_pos p]
      refine ⟨up2 μ 228 q.toNat 3, ?_, fun a k ha => ?_, ?_, ?_, ?_, ?_⟩
      · simp (disch := omega) only [p_rdI, p_wrI, p_eq, e1, t2, e3, e4, e5, up2_o, up2_s, Int.reduceEq, ↓reduceIte, hag, p_rb]
        rfl
      · rw [up2_eq, if_neg (by omega)]
      · exact up2_s
      · rw [up2_o (by omega), t2, e5]
      · intro _; rw [up2_o (by omega), e3]; rfl
      · intro _; rw [up2_o (by omega), e4]; rfl
    · rw [b2_f p] at hag
      have e5 : S_setl g [a, b, v] = S_half a b v := by
        show (if S_agr g a b then _ else _) = _
        rw [if_neg p]
      have hh := c_half (μ := μ) (a := a) (b := b) (c := v) ha hb hv
      refine ⟨up2 (up2 μ 231 q.toNat (S_half a b v)) 228 q.toNat 3, ?_, fun a k ha => ?_, ?_, ?_, ?_, ?_⟩
      · simp (disch := omega) only [p_rdI, p_wrI, p_eq, e1, t2, e3, e4, e5, up2_o, up2_s, Int.reduceEq, ↓reduceIte, hag, hh, p_rb]
        rfl
      · rw [up2_eq, if_neg (by omega), up2_eq, if_neg (by omega)]
      · exact up2_s
      · rw [up2_o (by omega), up2_s, e5]
      · intro _; rw [up2_o (by omega), up2_o (by omega), e3]; rfl
      · intro _; rw [up2_o (by omega), up2_o (by omega), e4]; rfl
  | a :: b :: c :: L, hL, hl, _ => by simp at hl
theorem vl_snoc (g : Nat → Int) (c q : Int) : ∀ (n : Nat) (e : Int), S_vl g c q (n + 1) e = S_vl g c q n e ++ (if S_is g c q (e + n) ∧ S_ok g (e + n) then [S_val g (e + n)] else [])
  | 0, e => by
    simp only [S_vl, List.nil_append, Int.natCast_zero, Int.add_zero]
  | n + 1, e => by
    have ih := vl_snoc g c q n (e + 1)
    rw [show e + 1 + (n : Int) = e + ((n + 1 : Nat) : Int) by push_cast; omega] at ih
    rw [S_vl, ih]
    conv => rhs; rw [S_vl]
    by_cases p : S_is g c q e ∧ S_ok g e
    · rw [if_pos p, if_pos p]; rfl
    · rw [if_neg p, if_neg p]
def S_lq (g : Nat → Int) (c : Int) (n : Nat) (q : Int) : List Int := if S_exc g c q then [] else S_vl g c q n 0
theorem lq_same {g : Nat → Int} {c q : Int} {n : Nat} (h : ¬ (¬ S_exc g c q ∧ S_is g c q n ∧ S_ok g n)) : S_lq g c (n + 1) q = S_lq g c n q := by
  unfold S_lq
  by_cases p : S_exc g c q
  · rw [if_pos p, if_pos p]
  · rw [if_neg p, if_neg p, vl_snoc, if_neg (fun w => h (by rw [Int.zero_add] at w; exact ⟨p, w⟩)), List.append_nil]
theorem lq_more {g : Nat → Int} {c q : Int} {n : Nat} (h : ¬ S_exc g c q ∧ S_is g c q n ∧ S_ok g n) : S_lq g c (n + 1) q = S_lq g c n q ++ [S_val g n] := by
  unfold S_lq
  rw [if_neg h.1, if_neg h.1, vl_snoc, Int.zero_add, if_pos h.2]
theorem sm_chg {G G' : Int → Int} {q : Int} : ∀ (n : Nat) (v : Int), v ≤ q → q < v + n → (∀ j : Int, v ≤ j → j < v + n → j ≠ q → G' j = G j) → sm G' n v = sm G n v + (G' q - G q)
  | 0, v, h1, h2, _ => by omega
  | n + 1, v, h1, h2, h => by
    simp only [sm]
    by_cases e : v = q
    · subst e
      rw [sm_congr n (v + 1) (fun j x y => h j (by omega) (by omega) (by omega))]; omega
    · rw [sm_chg n (v + 1) (by omega) (by omega) (fun j x y z => h j (by omega) (by omega) z), h v (by omega) (by omega) e]; omega
def S_ty (g : Nat → Int) (c : Int) (n : Nat) : Int := sm (fun q => S_setl g (S_lq g c n q)) 5 0
theorem lq_len {g : Nat → Int} (h3 : WF3 g) {c q : Int} {n : Nat} (hn : (n : Int) ≤ g 144) : (S_lq g c n q).length ≤ 3 := by
  unfold S_lq
  split
  · simp
  · have h1 := S_vl_len (g := g) (c := c) (q := q) n 0
    have h2 : S_cnt g c q n ≤ S_cnt g c q (g 144).toNat := cnt_mono (by omega)
    have h9 := h3 c q
    unfold S_cnt at h2 h9
    omega
theorem lq_bd {g : Nat → Int} (h : WF g) {c q : Int} {n : Nat} (hn : (n : Int) ≤ g 144) : ∀ v ∈ S_lq g c n q, 0 ≤ v ∧ v ≤ 4800 := by
  intro v hv
  unfold S_lq at hv
  split at hv
  · simp at hv
  · exact S_vl_mem h n 0 (by omega) (by omega) v hv
theorem c_scan {g : Nat → Int} (h : WF g) (h3 : WF3 g) {c : Int} (hc : 0 ≤ c ∧ c < 8) (K : Int → Mu → Option Res) : ∀ (d fu n : Nat) (μ : Mu), RB μ 1 g → (∀ q : Int, 0 ≤ q → q < 5 → TQ μ g q (S_lq g c n q)) → (n : Int) + d = g 144 → d < fu →
    ∃ μ', f_X9_sumOf_21 1 c K fu (S_ty g c n) n μ = K (S_ty g c (g 144).toNat) μ' ∧ (∀ a : Nat, (a < 228 ∨ 231 < a) → μ' a = μ a) ∧ (∀ q : Int, 0 ≤ q → q < 5 → TQ μ' g q (S_lq g c (g 144).toNat q))
  | 0, fu + 1, n, μ, R, t, hn, hf => by
    have ht := h.tot
    have htt : μ (1 + 11) 4 = g 144 := R.tot
    have e : (g 144).toNat = n := by omega
    refine ⟨μ, ?_, fun _ _ => rfl, ?_⟩
    · rw [f_X9_sumOf_21, p_rdF, htt, p_lt (by omega), if_neg (by omega), e]
    · rw [e]; exact t
  | d + 1, fu + 1, n, μ, R, t, hn, hf => by
    have ht := h.tot
    have htt : μ (1 + 11) 4 = g 144 := R.tot
    have hen := R.en (e := (n : Int)) (by omega)
    have hsl := sl_bd h h3 (e := (n : Int)) (by omega)
    have hee := h.ee (e := (n : Int)) (by omega)
    have hsc : S_sl g n / 3 / 5 = S_ec g n := by unfold S_sl at *; omega
    rw [f_X9_sumOf_21, p_rdF, htt, p_lt (by omega), if_pos (by omega), p_lt (by omega), if_pos (by omega), p_rdI (by omega), hen.1, p_lt (by omega), if_neg (by omega), p_div (by omega), p_div (by omega), hsc, p_eq (by omega)]
    have go : ∀ μ1 : Mu, (∀ a : Nat, (a < 228 ∨ 231 < a) → μ1 a = μ a) → (∀ q : Int, 0 ≤ q → q < 5 → TQ μ1 g q (S_lq g c (n + 1) q)) → ∃ μ', f_X9_sumOf_120 1 c (f_X9_sumOf_21 1 c K fu) (S_ty g c (n + 1)) n μ1 = K (S_ty g c (g 144).toNat) μ' ∧ (∀ a : Nat, (a < 228 ∨ 231 < a) → μ' a = μ a) ∧ (∀ q : Int, 0 ≤ q → q < 5 → TQ μ' g q (S_lq g c (g 144).toNat q)) := by
      intro μ1 k1 t1
      obtain ⟨μ', a1, a2, a3⟩ := c_scan h h3 hc K d fu (n + 1) μ1 (R.keep (fun a x y => k1 a (by omega))) t1 (by push_cast; omega) (by omega)
      exact ⟨μ', a1, fun a ha => (a2 a ha).trans (k1 a ha), a3⟩
    have same : (∀ q : Int, ¬ (¬ S_exc g c q ∧ S_is g c q n ∧ S_ok g n)) → ∃ μ', f_X9_sumOf_120 1 c (f_X9_sumOf_21 1 c K fu) (S_ty g c n) n μ = K (S_ty g c (g 144).toNat) μ' ∧ (∀ a : Nat, (a < 228 ∨ 231 < a) → μ' a = μ a) ∧ (∀ q : Int, 0 ≤ q → q < 5 → TQ μ' g q (S_lq g c (g 144).toNat q)) := by
      intro hs
      have e : S_ty g c (n + 1) = S_ty g c n := sm_congr 5 0 (fun j _ _ => by rw [lq_same (hs j)])
      have := go μ (fun _ _ => rfl) (fun q x y => by rw [lq_same (hs q)]; exact t q x y)
      rw [e] at this
      exact this
    by_cases p : S_ec g n = c
    · rw [if_pos p]
      unfold f_X9_sumOf_72
      rw [p_eq (by omega), if_neg (by omega), c_quesOf (by omega), p_rb, sl_q h h3 (by omega), c_exc h R hc hee.2.2.1, p_rb]
      by_cases p2 : S_exc g c (S_eq g n)
      · rw [b2_t p2, p_eq (by omega), if_neg (by omega)]
        exact same (fun q w => by have e := w.2.1.2; subst e; exact w.1 p2)
      · rw [b2_f p2, p_eq (by omega), if_pos rfl, c_isValid h h3 R (e := (n : Int)) (by omega) rfl, p_rb]
        by_cases p3 : S_ok g n
        · have hval := S_val_bd h (e := (n : Int)) (by omega)
          have hmo := lq_more (g := g) (c := c) (q := S_eq g n) (n := n) ⟨p2, ⟨p, rfl⟩, p3⟩
          have hl3 := lq_len h3 (c := c) (q := S_eq g n) (n := n + 1) (by push_cast; omega)
          rw [hmo, List.length_append, List.length_singleton] at hl3
          obtain ⟨μ1, a1, a2, a3⟩ := c_correct h R hee.2.2.1 hval (S_lq g c n (S_eq g n)) (lq_bd h (by omega)) (by omega) (t _ hee.2.2.1.1 hee.2.2.1.2)
          rw [b2_t p3, p_eq (by omega), if_neg (by omega), c_quesOf (by omega), p_rb, sl_q h h3 (by omega), c_valueOf h h3 R (e := (n : Int)) (by omega) rfl, p_rb, a1, p_rb, p_bnd]
          have e : S_ty g c (n + 1) = S_ty g c n + (S_setl g (S_lq g c n (S_eq g n) ++ [S_val g n]) - S_setl g (S_lq g c n (S_eq g n))) := by
            unfold S_ty
            rw [sm_chg (G := fun q => S_setl g (S_lq g c n q)) (q := S_eq g n) 5 0 (by omega) (by omega) (fun j x y z => by rw [lq_same (fun w => z w.2.1.2.symm)]), hmo]
          rw [← e]
          refine go μ1 (fun a ha => funext fun k => a2 a k (by omega)) (fun q x y => ?_)
          by_cases z : q = S_eq g n
          · subst z; rw [hmo]; exact a3
          · rw [lq_same (fun w => z w.2.1.2.symm)]
            obtain ⟨t1, t2, t3, t4⟩ := t q x y
            have kk : ∀ a : Nat, μ1 a q.toNat = μ a q.toNat := fun a => a2 a q.toNat (by omega)
            unfold TQ
            rw [kk, kk, kk, kk]
            exact ⟨t1, t2, t3, t4⟩
        · rw [b2_f p3, p_eq (by omega), if_pos rfl]
          exact same (fun q w => p3 w.2.2)
    · rw [if_neg p]
      unfold f_X9_sumOf_71 f_X9_sumOf_72
      rw [p_eq (by omega), if_pos rfl]
      exact same (fun q w => p w.2.1.1)
theorem sm_plus (G H : Int → Int) : ∀ (n : Nat) (v : Int), sm G n v + sm H n v = sm (fun j => G j + H j) n v
  | 0, _ => by simp [sm]
  | n + 1, v => by
    simp only [sm]
    have := sm_plus G H n (v + 1)
    omega
theorem c_tally {μ : Mu} {g : Nat → Int} (h : WF g) (h3 : WF3 g) (R : RB μ 1 g) {c : Int} (hc : 0 ≤ c ∧ c < 8) : ∃ μ', f_X9_sumOf 1 c μ = some (μ', 0, S_rs g c (S_set g c)) ∧ (∀ a : Nat, (a < 228 ∨ 231 < a) → μ' a = μ a) := by
  obtain ⟨μ1, a1, a2, a3⟩ := c_fill (p0 := 228) (n0 := 5) (p1 := 0) (by omega) μ
  obtain ⟨μ2, b1, b2', b3⟩ := c_fill (p0 := 231) (n0 := 5) (p1 := 0) (by omega) μ1
  have k2 : ∀ a : Nat, (a < 228 ∨ 231 < a) → μ2 a = μ a := fun a ha => (b2' a (by omega)).trans (a2 a (by omega))
  have hl0 : ∀ q : Int, S_lq g c 0 q = [] := fun q => by unfold S_lq S_vl; exact ite_self _
  have ht := h.tot
  obtain ⟨μ3, d1, d2, d3⟩ := c_scan h h3 hc (fun v3 μ => f_X9_sumOf_126 1 c v3 μ) (g 144).toNat FU 0 μ2 (R.keep (fun a x y => k2 a (by omega))) (fun q x y => by
    rw [hl0]
    refine ⟨?_, b3 q x (by omega), fun w => absurd w (by decide), fun w => absurd w (by decide)⟩
    rw [b2' 228 (by omega)]; exact a3 q x (by omega)) (by omega) (by unfold FU; omega)
  have k3 : ∀ a : Nat, (a < 228 ∨ 231 < a) → μ3 a = μ a := fun a ha => (d2 a ha).trans (k2 a ha)
  have R3 : RB μ3 1 g := R.keep (fun a x y => k3 a (by omega))
  have h0 : S_ty g c 0 = 0 := by
    unfold S_ty
    simp only [hl0]; rfl
  rw [h0] at d1
  refine ⟨μ3, ?_, k3⟩
  unfold f_X9_sumOf
  rw [a1, p_rb, b1, p_rb]
  refine Eq.trans d1 ?_
  unfold f_X9_sumOf_126
  have key := loop_up (S := Int) (fun fu s v => f_X9_sumOf_129 1 c (fun v3 μ => some (μ, 0, v3)) fu s v μ3) (fun s => some (μ3, 0, s)) (fun s v => s + (if S_ap g c v 0 = 3 ∧ ¬ S_exc g c v then S_ap g c v 2 * 120 - S_setl g (S_lq g c (g 144).toNat v) else 0)) 5 (fun s v => 0 ≤ v ∧ v ≤ 5) ?_ (fun s v hi hlt => by omega) 5 FU (S_ty g c (g 144).toNat) 0 (by omega) (by omega) (by unfold FU; omega)
  · refine Eq.trans key ?_
    rw [itS_sm]
    unfold S_ty
    rw [sm_plus]
    congr 2
    congr 1
    unfold S_rs
    refine sm_congr 5 0 (fun j x y => ?_)
    unfold S_lq S_set S_vals
    by_cases p : S_exc g c j
    · rw [if_pos p, if_pos p, if_neg (fun w => w.2 p)]; rfl
    · rw [if_neg p, if_neg p]
      by_cases p2 : S_ap g c j 0 = 3
      · rw [if_pos ⟨p2, p⟩, if_pos p2]; omega
      · rw [if_neg (fun w => p2 w.1), if_neg p2]; omega
  · intro fu s v hi
    show f_X9_sumOf_129 1 c _ (fu + 1) s v μ3 = _
    rw [f_X9_sumOf_129, p_lt (by omega)]
    by_cases hv : v < 5
    · rw [if_pos hv, if_pos hv]
      have hap := R3.ap hc (q := v) (by omega)
      have hap0 := h.ap0 hc (q := v) (by omega)
      have e1 : f_X10_scriptOf c v μ3 = some (μ3, 0, c * 5 + v) := rfl
      rw [e1, p_rb, p_rdI (by omega), hap.1, p_eq (by omega)]
      unfold f_X9_sumOf_191
      by_cases p : S_ap g c v 0 = 3
      · rw [if_pos p, c_exc h R3 hc (q := v) (by omega), p_rb]
        by_cases p2 : S_exc g c v
        · rw [b2_t p2, p_eq (by omega), if_neg (by omega), if_neg (fun w => w.2 p2), Int.add_zero]
        · rw [b2_f p2, p_eq (by omega), if_pos rfl, p_rdI (by omega), hap.2.2, p_rdI (by omega), (d3 v (by omega) (by omega)).2.1, p_bnd, if_pos ⟨p, p2⟩]
      · rw [if_neg p, if_neg (fun w => p w.1), Int.add_zero]
    · rw [if_neg hv, if_neg hv]
theorem r_recount_l {μ0 : Mu} (h : WF (μ0 249)) (h3 : WF3 (μ0 249)) {c : Int} (hc : 0 ≤ c ∧ c < 8) : ∀ (n fu : Nat) (s v : Int) (μ : Mu), JF μ0 μ → 0 ≤ v → v + n = 5 → n < fu → ∃ μ', f_X11_recount_22 c (fun v2 μ => some (μ, 0, v2)) fu s v μ = some (μ', 0, s + sm (fun q => if S_exc (μ0 249) c q then 0 else S_set (μ0 249) c q) n v) ∧ JF μ0 μ'
  | 0, fu + 1, s, v, μ, j, h0, hn, hf => by
    refine ⟨μ, ?_, j⟩
    rw [f_X11_recount_22, p_lt (by omega), if_neg (by omega)]
    simp [sm]
  | n + 1, fu + 1, s, v, μ, j, h0, hn, hf => by
    have e : μ 249 = μ0 249 := funext fun k => j 249 k (by unfold jF; omega)
    rw [f_X11_recount_22, p_lt (by omega), if_pos (by omega), r_exc (by rw [e]; exact h) hc (q := v) (by omega), p_rb, e]
    unfold f_X11_recount_47
    simp only [sm]
    by_cases p : S_exc (μ0 249) c v
    · obtain ⟨μ', a1, a2⟩ := r_recount_l h h3 hc n fu (s + 0) (v + 1) μ j (by omega) (by omega) (by omega)
      refine ⟨μ', ?_, a2⟩
      rw [b2_t p, p_eq (by omega), if_neg (by omega), p_bnd, a1, if_pos p]
      congr 3; omega
    · obtain ⟨μ1, b1, b2'⟩ := r_settled (μ := μ) (by rw [e]; exact h) (by rw [e]; exact h3) hc (q := v) (by omega)
      rw [e] at b1
      obtain ⟨μ', a1, a2⟩ := r_recount_l h h3 hc n fu (s + S_set (μ0 249) c v) (v + 1) μ1 (j.tr b2') (by omega) (by omega) (by omega)
      refine ⟨μ', ?_, a2⟩
      rw [b2_f p, p_eq (by omega), if_pos rfl, b1, p_rb, p_bnd, a1, if_neg p]
      congr 3; omega
theorem S_rsum_bd {g : Nat → Int} (h : WF g) {c : Int} (hc : 0 ≤ c ∧ c < 8) : 0 ≤ S_rs g c (S_set g c) ∧ S_rs g c (S_set g c) ≤ 24000 := by
  have := sm_bd (G := fun q => if S_exc g c q then 0 else S_set g c q) (a := 0) (b := 4800) 5 0 (fun j x y => by
    have := S_set_bd h hc (q := j) (by omega)
    split <;> omega)
  unfold S_rs
  omega
theorem o_recount {T : Int} {μ : Mu} (I : Inv T μ) {w1 : Int} (h1 : iG w1) : OK T (lc_recount w1 μ) := by
  unfold lc_recount
  by_cases p : 0 ≤ w1 ∧ w1 < 8
  · obtain ⟨μ1, a1, a2⟩ := c_tally I.wf I.w3 I.R p
    have hb := S_rsum_bd I.wf p
    refine op_ok I (μ1 := μ1) (x := S_rs (μ 249) w1 (S_set (μ 249) w1)) ?_ (fun a k hn => by rw [a2 a (by unfold jk at hn; omega)]) (hg0 (by unfold iG; omega)) (fun μ => cI_ok (by unfold iG; omega)) (fun μ9 I9 k9 => ?_)
    · unfold f_X10_recount
      rw [c_reqC h1, if_pos p, p_rb, a1, p_rb]
    · have e : (up2 μ9 248 0 0) 249 = μ9 249 := up2_oo (by omega)
      obtain ⟨μ2, b1, b2'⟩ := r_recount_l (μ0 := up2 μ9 248 0 0) (by rw [e]; exact I9.wf) (by rw [e]; exact I9.w3) p 5 FU 0 0 _ (JF.rf _) (by omega) (by omega) (by unfold FU; omega)
      refine ⟨μ2, ?_, JT.th.tr b2'.r.jt, ?_⟩
      · unfold f_X11_recount
        rw [p_wrF, r_cand h1, p_rb, b2_t (by omega), p_eq (by omega), if_neg (by omega)]
        refine Eq.trans b1 ?_
        rw [e, k9.s, Int.zero_add]; rfl
      · rw [b2' 248 0 (by unfold jF; omega), up2_s]
  · refine op_ex I (e := 2) (i := 0) (x := 0) (b := 0) (μ2 := up2 (up2 μ 248 0 0) 248 0 1) ?_ rfl (by omega) ?_ (JT.th.up (by unfold jT; omega)) up2_s
    · unfold f_X10_recount
      rw [c_reqC h1, if_neg p]; rfl
    · unfold f_X11_recount f_X11_fails
      rw [p_wrF, r_cand h1, p_rb, b2_f (by omega), p_eq (by omega), if_pos rfl]; rfl

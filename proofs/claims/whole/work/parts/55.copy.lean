/-! a book copied -/
def cQ (μ0 : Mu) (s d : Nat) (S : Nat → Nat → Prop) (μ : Mu) : Prop := (∀ r k, r < 23 → S r k → μ (d + r) k = μ0 (s + r) k) ∧ (∀ a k, (∀ r, r < 23 → a = d + r → ¬ S r k) → μ a k = μ0 a k)
theorem cQ.nil (μ : Mu) (s d : Nat) : cQ μ s d (fun _ _ => False) μ := ⟨fun _ _ _ h => h.elim, fun _ _ _ => rfl⟩
theorem cQ.row {μ0 μ : Mu} {s d : Nat} {S : Nat → Nat → Prop} (h : cQ μ0 s d S μ) (hd : s + 23 ≤ d ∨ d + 23 ≤ s) {a1 a2 r0 n : Nat} (h1 : a1 = s + r0) (h2 : a2 = d + r0) (hr : r0 < 23) (hn : n < 1000) : ∃ μ', f_X10_copyRow a1 n a2 n μ = some (μ', 0, 0) ∧ cQ μ0 s d (fun r k => S r k ∨ (r = r0 ∧ k < n)) μ' := by
  subst h1; subst h2
  have src : ∀ k, μ (s + r0) k = μ0 (s + r0) k := fun k => h.2 _ k (fun r hr' e => by omega)
  refine ⟨cpM μ (s + r0) 0 (d + r0) 0 n, ?_, fun r k hr' hS => ?_, fun a k ha => ?_⟩
  · unfold f_X10_copyRow
    rw [p_min (by omega), if_neg (by omega), p_cpy (by omega)]
    rfl
  · by_cases e : r = r0 ∧ k < n
    · obtain ⟨rfl, e2⟩ := e
      rw [cpM_s (by omega), src]
      congr 1; omega
    · have hS' : S r k := hS.resolve_right e
      show (if d + r = d + r0 ∧ 0 ≤ k ∧ k < 0 + n then _ else μ (d + r) k) = _
      rw [if_neg (by omega)]
      exact h.1 r k hr' hS'
  · show (if a = d + r0 ∧ 0 ≤ k ∧ k < 0 + n then _ else μ a k) = _
    rw [if_neg (fun w => ha r0 hr w.1 (Or.inr ⟨rfl, by omega⟩))]
    exact h.2 a k (fun r x y z => ha r x y (Or.inl z))
theorem cQ.fld {μ0 μ : Mu} {s d : Nat} {S : Nat → Nat → Prop} (h : cQ μ0 s d S μ) (hd : s + 23 ≤ d ∨ d + 23 ≤ s) {a1 a2 r0 i : Nat} (h1 : a1 = s + r0) (h2 : a2 = d + r0) (hr : r0 < 23) : cQ μ0 s d (fun r k => S r k ∨ (r = r0 ∧ k = i)) (up2 μ a2 i (μ a1 i)) := by
  subst h1; subst h2
  have src : ∀ k, μ (s + r0) k = μ0 (s + r0) k := fun k => h.2 _ k (fun r hr' e => by omega)
  refine ⟨fun r k hr' hS => ?_, fun a k ha => ?_⟩
  · by_cases e : r = r0 ∧ k = i
    · obtain ⟨rfl, rfl⟩ := e
      rw [up2_s, src]
    · rw [up2_eq, if_neg (by omega)]
      exact h.1 r k hr' (hS.resolve_right e)
  · rw [up2_eq, if_neg (fun w => ha r0 hr w.1 (Or.inr ⟨rfl, w.2⟩))]
    exact h.2 a k (fun r x y z => ha r x y (Or.inl z))
/-- what a book holds -/
def CP (μ μ' : Mu) (s d : Nat) : Prop := (∀ k, k < 5 → μ' (d + 1) k = μ (s + 1) k) ∧ (∀ k, k < 5 → μ' (d + 2) k = μ (s + 2) k) ∧ (∀ k, k < 4 → μ' (d + 3) k = μ (s + 3) k) ∧ (∀ k, k < 8 → μ' (d + 4) k = μ (s + 4) k) ∧ (∀ k, k < 8 → μ' (d + 5) k = μ (s + 5) k) ∧ (∀ k, k < 4 → μ' (d + 6) k = μ (s + 6) k) ∧ (∀ k, k < 5 → μ' (d + 7 + 1) k = μ (s + 7 + 1) k) ∧ (∀ k, k < 25 → μ' (d + 7 + 2) k = μ (s + 7 + 2) k) ∧ (∀ k, k < 100 → μ' (d + 7 + 3) k = μ (s + 7 + 3) k) ∧ (∀ k, k < 40 → μ' (d + 11 + 1) k = μ (s + 11 + 1) k) ∧ (∀ k, k < 120 → μ' (d + 11 + 2) k = μ (s + 11 + 2) k) ∧ (∀ k, k < 120 → μ' (d + 11 + 3) k = μ (s + 11 + 3) k) ∧ (∀ k, k < 120 → μ' (d + 11 + 4) k = μ (s + 11 + 4) k) ∧ (∀ k, k < 5 → μ' (d + 16 + 1) k = μ (s + 16 + 1) k) ∧ (∀ k, k < 5 → μ' (d + 16 + 2) k = μ (s + 16 + 2) k) ∧ (∀ k, k < 40 → μ' (d + 19 + 1) k = μ (s + 19 + 1) k) ∧ (∀ k, k < 40 → μ' (d + 19 + 2) k = μ (s + 19 + 2) k) ∧ (∀ k, k < 40 → μ' (d + 19 + 3) k = μ (s + 19 + 3) k) ∧ μ' (d + 11) 4 = μ (s + 11) 4 ∧ μ' (d + 16) 2 = μ (s + 16) 2 ∧ μ' (d + 19) 3 = μ (s + 19) 3 ∧ μ' d 10 = μ s 10
theorem c_copyFrom {μ : Mu} {s d : Nat} (hd : s + 23 ≤ d ∨ d + 23 ≤ s) (hp : μ s 10 = 0 ∨ μ s 10 = 1) : ∃ μ', f_X1_copyFrom d s μ = some (μ', 0, 0) ∧ CP μ μ' s d ∧ (∀ a, (a < d ∨ d + 23 ≤ a) → μ' a = μ a) := by
  have q0 := cQ.nil μ s d
  obtain ⟨m1, a1, q1⟩ := q0.row hd (a1 := s + 1) (a2 := d + 1) (r0 := 1) (n := 5) rfl rfl (by omega) (by omega)
  obtain ⟨m2, a2, q2⟩ := q1.row hd (a1 := s + 2) (a2 := d + 2) (r0 := 2) (n := 5) rfl rfl (by omega) (by omega)
  obtain ⟨m3, a3, q3⟩ := q2.row hd (a1 := s + 3) (a2 := d + 3) (r0 := 3) (n := 4) rfl rfl (by omega) (by omega)
  obtain ⟨m4, a4, q4⟩ := q3.row hd (a1 := s + 4) (a2 := d + 4) (r0 := 4) (n := 8) rfl rfl (by omega) (by omega)
  obtain ⟨m5, a5, q5⟩ := q4.row hd (a1 := s + 5) (a2 := d + 5) (r0 := 5) (n := 8) rfl rfl (by omega) (by omega)
  obtain ⟨m6, a6, q6⟩ := q5.row hd (a1 := s + 6) (a2 := d + 6) (r0 := 6) (n := 4) rfl rfl (by omega) (by omega)
  obtain ⟨m7, a7, q7⟩ := q6.row hd (a1 := s + 7 + 1) (a2 := d + 7 + 1) (r0 := 8) (n := 5) rfl rfl (by omega) (by omega)
  obtain ⟨m8, a8, q8⟩ := q7.row hd (a1 := s + 7 + 2) (a2 := d + 7 + 2) (r0 := 9) (n := 25) rfl rfl (by omega) (by omega)
  obtain ⟨m9, a9, q9⟩ := q8.row hd (a1 := s + 7 + 3) (a2 := d + 7 + 3) (r0 := 10) (n := 100) rfl rfl (by omega) (by omega)
  obtain ⟨n1, b1, p1⟩ := q9.row hd (a1 := s + 11 + 1) (a2 := d + 11 + 1) (r0 := 12) (n := 40) rfl rfl (by omega) (by omega)
  obtain ⟨n2, b2', p2⟩ := p1.row hd (a1 := s + 11 + 2) (a2 := d + 11 + 2) (r0 := 13) (n := 120) rfl rfl (by omega) (by omega)
  obtain ⟨n3, b3, p3⟩ := p2.row hd (a1 := s + 11 + 3) (a2 := d + 11 + 3) (r0 := 14) (n := 120) rfl rfl (by omega) (by omega)
  obtain ⟨n4, b4, p4⟩ := p3.row hd (a1 := s + 11 + 4) (a2 := d + 11 + 4) (r0 := 15) (n := 120) rfl rfl (by omega) (by omega)
  have p5 := p4.fld hd (a1 := s + 11) (a2 := d + 11) (r0 := 11) (i := 4) rfl rfl (by omega)
  obtain ⟨n6, b6, p6⟩ := p5.row hd (a1 := s + 16 + 1) (a2 := d + 16 + 1) (r0 := 17) (n := 5) rfl rfl (by omega) (by omega)
  obtain ⟨n7, b7, p7⟩ := p6.row hd (a1 := s + 16 + 2) (a2 := d + 16 + 2) (r0 := 18) (n := 5) rfl rfl (by omega) (by omega)
  have p8 := p7.fld hd (a1 := s + 16) (a2 := d + 16) (r0 := 16) (i := 2) rfl rfl (by omega)
  obtain ⟨l1, c1, o1⟩ := p8.row hd (a1 := s + 19 + 1) (a2 := d + 19 + 1) (r0 := 20) (n := 40) rfl rfl (by omega) (by omega)
  obtain ⟨l2, c2, o2⟩ := o1.row hd (a1 := s + 19 + 2) (a2 := d + 19 + 2) (r0 := 21) (n := 40) rfl rfl (by omega) (by omega)
  obtain ⟨l3, c3, o3⟩ := o2.row hd (a1 := s + 19 + 3) (a2 := d + 19 + 3) (r0 := 22) (n := 40) rfl rfl (by omega) (by omega)
  have o4 := o3.fld hd (a1 := s + 19) (a2 := d + 19) (r0 := 19) (i := 3) rfl rfl (by omega)
  have o5 := o4.fld hd (a1 := s) (a2 := d) (r0 := 0) (i := 10) rfl rfl (by omega)
  have hs : (up2 l3 (d + 19) 3 (l3 (s + 19) 3)) s 10 = μ s 10 := o4.2 s 10 (fun r hr e => by omega)
  refine ⟨_, ?_, ⟨fun k h => o5.1 1 k (by omega) (by simp [h]), fun k h => o5.1 2 k (by omega) (by simp [h]), fun k h => o5.1 3 k (by omega) (by simp [h]), fun k h => o5.1 4 k (by omega) (by simp [h]), fun k h => o5.1 5 k (by omega) (by simp [h]), fun k h => o5.1 6 k (by omega) (by simp [h]), fun k h => o5.1 8 k (by omega) (by simp [h]), fun k h => o5.1 9 k (by omega) (by simp [h]), fun k h => o5.1 10 k (by omega) (by simp [h]), fun k h => o5.1 12 k (by omega) (by simp [h]), fun k h => o5.1 13 k (by omega) (by simp [h]), fun k h => o5.1 14 k (by omega) (by simp [h]), fun k h => o5.1 15 k (by omega) (by simp [h]), fun k h => o5.1 17 k (by omega) (by simp [h]), fun k h => o5.1 18 k (by omega) (by simp [h]), fun k h => o5.1 20 k (by omega) (by simp [h]), fun k h => o5.1 21 k (by omega) (by simp [h]), fun k h => o5.1 22 k (by omega) (by simp [h]), o5.1 11 4 (by omega) (by simp), o5.1 16 2 (by omega) (by simp), o5.1 19 3 (by omega) (by simp), o5.1 0 10 (by omega) (by simp)⟩, fun a ha => funext fun k => o5.2 a k (fun r hr e => by omega)⟩
  · unfold f_X1_copyFrom f_X7_copyFrom f_X3_copyFrom f_X2_copyFrom f_X0_copyFrom
    rw [a1, p_rb, a2, p_rb, a3, p_rb, a4, p_rb, a5, p_rb, a6, p_rb, a7, p_rb, a8, p_rb, a9, p_rb, p_rb, b1, p_rb, b2', p_rb, b3, p_rb, b4, p_rb, p_rdF, p_wrF, p_rb, b6, p_rb, b7, p_rb, p_rdF, p_wrF, p_rb, c1, p_rb, c2, p_rb, c3, p_rb, p_rdF, p_wrF, p_rb, p_rdF, p_wrZ (by rw [hs]; exact hp)]
/-- a book's copy stands for the same numbers -/
theorem RB.copy {μ μ' : Mu} {s d : Nat} {g : Nat → Int} (h : WF g) (h3 : WF3 g) (R : RB μ s g) (e : CP μ μ' s d) : RB μ' d g := by
  obtain ⟨e1, e2, e3, e4, e5, e6, e8, e9, e10, e12, e13, e14, e15, e17, e18, e20, e21, e22, e11, e16, e19, e0⟩ := e
  have ht := h.tot
  have hpm := h.pm
  refine ⟨fun q x y => ?_, fun w x y => ?_, fun k x y => ?_, fun c x y => ⟨?_, ?_⟩, fun m x y => ?_, fun q x y => ?_, fun q k x y z w => ?_, fun m q k x y z w u v => ?_, ?_, fun i x y => ?_, fun c q x y z w => ?_, ?_, fun k x y => ⟨?_, ?_⟩, fun c q x y z w => ⟨?_, ?_, ?_⟩, ?_, ?_⟩
  · rw [e1 _ (by omega)]; exact R.mx ⟨x, y⟩
  · rw [e2 _ (by omega)]; exact R.st ⟨x, y⟩
  · rw [e3 _ (by omega)]; exact R.bo ⟨x, y⟩
  · rw [e4 _ (by omega)]; exact R.ex ⟨x, y⟩
  · rw [e5 _ (by omega)]; exact R.ra ⟨x, y⟩
  · rw [e6 _ (by omega)]; exact R.pay ⟨x, y⟩
  · exact (e8 _ (by omega)).trans (R.many ⟨x, y⟩)
  · exact (e9 _ (by omega)).trans (R.sd ⟨x, y⟩ ⟨z, w⟩)
  · exact (e10 _ (by omega)).trans (R.mk ⟨x, y⟩ ⟨z, w⟩ ⟨u, v⟩)
  · rw [e11]; exact R.tot
  · have hs := sl_bd h h3 ⟨x, y⟩
    obtain ⟨r1, r2, r3⟩ := R.en ⟨x, y⟩
    exact ⟨(e15 _ (by omega)).trans r1, (e13 _ (by omega)).trans r2, (e14 _ (by omega)).trans r3⟩
  · exact (e12 _ (by omega)).trans (R.sz ⟨x, y⟩ ⟨z, w⟩)
  · rw [e16]; exact R.pm
  · exact (e17 _ (by omega)).trans (R.pt ⟨x, y⟩).1
  · exact (e18 _ (by omega)).trans (R.pt ⟨x, y⟩).2
  · exact (e20 _ (by omega)).trans (R.ap ⟨x, y⟩ ⟨z, w⟩).1
  · exact (e21 _ (by omega)).trans (R.ap ⟨x, y⟩ ⟨z, w⟩).2.1
  · exact (e22 _ (by omega)).trans (R.ap ⟨x, y⟩ ⟨z, w⟩).2.2
  · rw [e19]; exact R.rf
  · exact e0.trans R.pub
theorem c_copyBook {μ : Mu} {s d : Nat} {g : Nat → Int} (hd : s + 23 ≤ d ∨ d + 23 ≤ s) (h : WF g) (h3 : WF3 g) (R : RB μ s g) : ∃ μ', f_X1_copyFrom d s μ = some (μ', 0, 0) ∧ RB μ' d g ∧ (∀ a, (a < d ∨ d + 23 ≤ a) → μ' a = μ a) := by
  obtain ⟨μ', a1, a2, a3⟩ := c_copyFrom (μ := μ) hd (by rw [R.pub]; exact h.pub)
  exact ⟨μ', a1, RB.copy h h3 R a2, a3⟩
/-! only the first 779 numbers matter -/
abbrev EqG (g g' : Nat → Int) : Prop := ∀ k : Nat, k < 779 → g' k = g k
theorem EqG.i {g g' : Nat → Int} (e : EqG g g') {x : Int} (h : x < 779) : g' x.toNat = g x.toNat := e _ (by omega)
theorem cnt_cg {g g' : Nat → Int} (e : EqG g g') {c q : Int} {n : Nat} (hn : n ≤ 120) : S_cnt g' c q n = S_cnt g c q n := by
  unfold S_cnt
  refine sm_congr n 0 (fun j x y => ?_)
  have e1 : S_ec g' j = S_ec g j := e.i (by omega)
  have e2 : S_eq g' j = S_eq g j := e.i (by omega)
  unfold S_is
  rw [e1, e2]
theorem WS.cg {g g' : Nat → Int} {T : Int} (e : EqG g g') (h : WS g T) : WS g' T := by
  obtain ⟨h1, h2, h3, h4, h5, h6⟩ := h
  have ht := h1.tot
  have hpm := h1.pm
  have e144 : g' 144 = g 144 := e 144 (by omega)
  have e641 : g' 641 = g 641 := e 641 (by omega)
  refine ⟨⟨fun q x y => ?_, ?_, ?_, fun q x y => ?_, fun i x y => ?_, fun i x y => ?_, fun m q k x y z w u v => ?_, ?_, fun i x y => ?_, fun c x y => ?_, ⟨?_, fun k x y => ?_, fun k x y => ?_⟩, ?_, fun c q x y z w => ?_⟩, fun c q => ?_, fun c x y => ?_, fun m x y => ?_, ?_, ?_⟩
  · rw [e.i (by omega)]; exact h1.mx ⟨x, y⟩
  · rw [e 5 (by omega), e 6 (by omega), e 7 (by omega), e 8 (by omega), e 9 (by omega)]; exact h1.st
  · rw [e 10 (by omega), e 11 (by omega), e 12 (by omega), e 13 (by omega)]; exact h1.bo
  · rw [e.i (by omega)]; exact h1.many ⟨x, y⟩
  · rw [e.i (by omega)]; exact h1.2.2.2.2.1 i x y
  · rw [e.i (by omega)]; exact h1.2.2.2.2.2.1 i x y
  · rw [e.i (by omega)] at u ⊢; exact h1.2.2.2.2.2.2.1 m q k x y z w u v
  · rw [e144]; exact ht
  · rw [e144] at y
    rw [e.i (by omega), e.i (by omega), e.i (by omega), e.i (by omega)]; exact h1.en ⟨x, y⟩
  · rw [e.i (by omega), e.i (by omega)]; exact h1.ex ⟨x, y⟩
  · rw [e641]; exact hpm
  · rw [e641] at y
    rw [e.i (by omega), e.i (by omega)]; exact h1.pt ⟨x, y⟩
  · rw [e641] at y
    rw [e.i (by omega), e.i (by omega)]; exact h1.pl ⟨x, y⟩
  · rw [e 652 (by omega)]; exact h1.pub
  · rw [e.i (by omega), e.i (by omega), e.i (by omega)]; exact h1.ap ⟨x, y⟩ ⟨z, w⟩
  · rw [e144, cnt_cg e (by omega)]; exact h2 c q
  · have e1 : g' (625 + c).toNat = g (625 + c).toNat := e.i (by omega)
    refine ⟨?_, by rw [nap_cg (g := g) (fun q z w => e.i (by omega))]; exact (h3 c x y).2⟩
    have := (h3 c x y).1
    unfold S_exc at this ⊢
    rw [e1]; exact this
  · rw [e.i (by omega)]; exact h4 m x y
  · rw [e 774 (by omega)]; exact h5
  · rw [e 773 (by omega), h6]
    refine sm_congr 8 0 (fun c x y => sm_congr 5 0 (fun q z w => ?_))
    exact (e.i (by omega)).symm
theorem RB.cg {μ : Mu} {b : Nat} {g g' : Nat → Int} (e : EqG g g') (h : WF g) (R : RB μ b g) : RB μ b g' := by
  have ht := h.tot
  have hpm := h.pm
  have e144 : g' 144 = g 144 := e 144 (by omega)
  have e641 : g' 641 = g 641 := e 641 (by omega)
  refine ⟨fun q x y => ?_, fun w x y => ?_, fun k x y => ?_, fun c x y => ⟨?_, ?_⟩, fun m x y => ?_, fun q x y => ?_, fun q k x y z w => ?_, fun m q k x y z w u v => ?_, ?_, fun i x y => ?_, fun c q x y z w => ?_, ?_, fun k x y => ⟨?_, ?_⟩, fun c q x y z w => ⟨?_, ?_, ?_⟩, ?_, ?_⟩
  · rw [e.i (by omega)]; exact R.mx ⟨x, y⟩
  · rw [e.i (by omega)]; exact R.st ⟨x, y⟩
  · rw [e.i (by omega)]; exact R.bo ⟨x, y⟩
  · rw [e.i (by omega)]; exact R.ex ⟨x, y⟩
  · rw [e.i (by omega)]; exact R.ra ⟨x, y⟩
  · rw [e.i (by omega)]; exact R.pay ⟨x, y⟩
  · rw [e.i (by omega)]; exact R.many ⟨x, y⟩
  · rw [e.i (by omega)]; exact R.sd ⟨x, y⟩ ⟨z, w⟩
  · rw [R.mk ⟨x, y⟩ ⟨z, w⟩ ⟨u, v⟩]
    have : S_mk g' m q k = S_mk g m q k := e.i (by omega)
    rw [this]
  · rw [e144]; exact R.tot
  · rw [e144] at y
    have e1 : S_ec g' i = S_ec g i := e.i (by omega)
    have e2 : S_eq g' i = S_eq g i := e.i (by omega)
    have e3 : S_em g' i = S_em g i := e.i (by omega)
    have e4 : S_ev g' i = S_ev g i := e.i (by omega)
    have e5 : S_sl g' i = S_sl g i := by unfold S_sl; rw [e1, e2, cnt_cg e (by omega)]
    rw [e5, e3, e4]; exact R.en ⟨x, y⟩
  · rw [e144, cnt_cg e (by omega)]; exact R.sz ⟨x, y⟩ ⟨z, w⟩
  · rw [e641]; exact R.pm
  · rw [e641] at y
    rw [(R.pt ⟨x, y⟩).1]; exact (e.i (by omega)).symm
  · rw [e641] at y
    rw [(R.pt ⟨x, y⟩).2]; exact (e.i (by omega)).symm
  · rw [(R.ap ⟨x, y⟩ ⟨z, w⟩).1]; exact (e.i (by omega)).symm
  · rw [(R.ap ⟨x, y⟩ ⟨z, w⟩).2.1]; exact (e.i (by omega)).symm
  · rw [(R.ap ⟨x, y⟩ ⟨z, w⟩).2.2]; exact (e.i (by omega)).symm
  · rw [e 774 (by omega)]; exact R.rf
  · rw [e 652 (by omega)]; exact R.pub

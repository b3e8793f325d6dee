/-! setPoint: the numbers with the new point -/
def S_ins (g : Nat → Int) (w y : Int) (P : Nat) : Nat → Int := fun k => if k = 641 then g 641 + 1 else if k = 642 + 2 * P then w else if k = 642 + 2 * P + 1 then y else if 642 + 2 * P + 2 ≤ k ∧ (k : Int) < 642 + 2 * (g 641 + 1) then g (k - 2) else g k
theorem ins_pt {g : Nat → Int} {w y : Int} {P : Nat} {k : Int} (hk : 0 ≤ k ∧ k < g 641 + 1) : S_px (S_ins g w y P) k = (if k < (P : Int) then S_px g k else if k = P then w else S_px g (k - 1)) ∧ S_py (S_ins g w y P) k = (if k < (P : Int) then S_py g k else if k = P then y else S_py g (k - 1)) := by
  unfold S_px S_py S_ins
  by_cases q : k < (P : Int)
  · rw [if_pos q, if_pos q, if_neg (by omega), if_neg (by omega), if_neg (by omega), if_neg (by omega), if_neg (by omega), if_neg (by omega), if_neg (by omega), if_neg (by omega)]
    exact ⟨rfl, rfl⟩
  · rw [if_neg q, if_neg q]
    by_cases q2 : k = (P : Int)
    · rw [if_pos q2, if_pos q2, if_neg (by omega), if_pos (by omega), if_neg (by omega), if_neg (by omega), if_pos (by omega)]
      exact ⟨rfl, rfl⟩
    · rw [if_neg q2, if_neg q2, if_neg (by omega), if_neg (by omega), if_neg (by omega), if_pos (by omega), if_neg (by omega), if_neg (by omega), if_neg (by omega), if_pos (by omega)]
      exact ⟨by rw [show (642 + 2 * k).toNat - 2 = (642 + 2 * (k - 1)).toNat by omega], by rw [show (642 + 2 * k + 1).toNat - 2 = (642 + 2 * (k - 1) + 1).toNat by omega]⟩
theorem fq_no {P : Int → Prop} [DecidablePred P] : ∀ (n : Nat) (v : Int), S_fq P n v = none → ∀ j : Int, v ≤ j → j < v + n → ¬ P j
  | 0, v, h, j, a, b => by omega
  | n + 1, v, h, j, a, b => by
    simp only [S_fq] at h
    by_cases p : P v
    · rw [if_pos p] at h; cases h
    · rw [if_neg p] at h
      by_cases e : j = v
      · subst e; exact p
      · exact fq_no n (v + 1) h j (by omega) (by omega)
theorem ix_no {g : Nat → Int} {w : Int} (hn : 0 ≤ g 641) (h : S_ix g w = -1) {k : Int} (hk : 0 ≤ k ∧ k < g 641) : S_px g k ≠ w := by
  unfold S_ix at h
  cases e : S_fq (fun k => S_px g k = w) (g 641).toNat 0 with
  | none => exact fq_no _ 0 e k (by omega) (by omega)
  | some q =>
    have := fq_some _ 0 q e
    rw [e] at h
    have h : q = -1 := h
    omega
theorem W_ins {g : Nat → Int} {T w y : Int} {P : Nat} (W : WS g T) (hn : g 641 ≤ 4) (hw : 0 ≤ w ∧ w ≤ 200) (hy : 0 ≤ y ∧ y ≤ 100) (hP : P = S_pos g w (g 641).toNat) (hix : S_ix g w = -1) : WS (S_ins g w y P) T := by
  have h := W.1
  have hpm := h.pm
  have hPn : P ≤ (g 641).toNat := by rw [hP]; exact pos_le _
  have e : ∀ k : Nat, ¬ (641 ≤ k ∧ k ≤ 651) → S_ins g w y P k = g k := fun k x => by
    unfold S_ins
    rw [if_neg (by omega), if_neg (by omega), if_neg (by omega), if_neg (by omega)]
  have e641 : S_ins g w y P 641 = g 641 + 1 := if_pos rfl
  refine WS.head W (fun k x y z => e k (by omega)) (fun q x y => ?_) ?_ ?_ (fun c x y => ?_) ⟨?_, fun k x z => ?_, fun k x z => ?_⟩ ?_
  · rw [e _ (by omega)]; exact h.mx ⟨x, y⟩
  · rw [e _ (by omega), e _ (by omega), e _ (by omega), e _ (by omega), e _ (by omega)]; exact h.st
  · rw [e _ (by omega), e _ (by omega), e _ (by omega), e _ (by omega)]; exact h.bo
  · rw [e _ (by omega)]; exact (h.ex ⟨x, y⟩).2
  · rw [e641]; omega
  · rw [e641] at z
    obtain ⟨a, b⟩ := ins_pt (g := g) (w := w) (y := y) (P := P) (k := k) ⟨x, z⟩
    show (0 ≤ S_px (S_ins g w y P) k ∧ S_px (S_ins g w y P) k ≤ 200) ∧ (0 ≤ S_py (S_ins g w y P) k ∧ S_py (S_ins g w y P) k ≤ 100)
    rw [a, b]
    by_cases q : k < (P : Int)
    · rw [if_pos q, if_pos q]; exact h.pt (k := k) (by omega)
    · rw [if_neg q, if_neg q]
      by_cases q2 : k = (P : Int)
      · rw [if_pos q2, if_pos q2]; exact ⟨hw, hy⟩
      · rw [if_neg q2, if_neg q2]; exact h.pt (k := k - 1) (by omega)
  · rw [e641] at z
    have a := (ins_pt (g := g) (w := w) (y := y) (P := P) (k := k) (by omega)).1
    have b := (ins_pt (g := g) (w := w) (y := y) (P := P) (k := k + 1) (by omega)).1
    have l1 : ∀ j : Int, 0 ≤ j → j + 1 < g 641 → S_px g j < S_px g (j + 1) := fun j s t => by
      have := h.pl ⟨s, t⟩
      unfold S_px
      rw [show 642 + 2 * (j + 1) = 642 + 2 * j + 2 by omega]; exact this
    have goal : S_px (S_ins g w y P) k < S_px (S_ins g w y P) (k + 1) := by
      rw [a, b]
      by_cases q : k + 1 < (P : Int)
      · rw [if_pos (by omega), if_pos q]; exact l1 k x (by omega)
      · by_cases q1 : k + 1 = (P : Int)
        · have lo := pos_lo (g := g) (w := w) (g 641).toNat (by omega)
          rw [← hP, show ((P : Int) - 1) = k by omega] at lo
          have ne := ix_no hpm.1 hix (k := k) (by omega)
          rw [if_pos (by omega), if_neg q, if_pos q1]; omega
        · by_cases q2 : k = (P : Int)
          · have hi := pos_hi (g := g) (w := w) (g 641).toNat P (by omega) (by omega)
            rw [if_neg (by omega), if_pos q2, if_neg q, if_neg q1, show k + 1 - 1 = (P : Int) by omega]; exact hi
          · have := l1 (k - 1) (by omega) (by omega)
            rw [show k - 1 + 1 = k by omega] at this
            rw [if_neg (by omega), if_neg q2, if_neg q, if_neg q1, show k + 1 - 1 = k by omega]; exact this
    unfold S_px at goal
    rw [show 642 + 2 * (k + 1) = 642 + 2 * k + 2 by omega] at goal
    exact goal
  · rw [e _ (by omega)]; exact h.pub
/-- the class's curve changed alone -/
theorem R_curve {μ1 μ2 : Mu} {g g1 : Nat → Int} (h : WF g) (R : RB μ1 1 g) (e : ∀ k : Nat, ¬ (641 ≤ k ∧ k ≤ 651) → g1 k = g k) (ke : ∀ a : Nat, a ≠ 17 → a ≠ 18 → a ≠ 19 → μ2 a = μ1 a) (pm : μ2 17 2 = g1 641) (pt : ∀ k : Int, 0 ≤ k → k < g1 641 → μ2 18 k.toNat = S_px g1 k ∧ μ2 19 k.toNat = S_py g1 k) : RB μ2 1 g1 := by
  refine RB.head h R (fun k x y z => e k (by omega)) (fun a ha => ke a (by omega) (by omega) (by omega)) (fun q x y => ?_) (fun q x y => ?_) (fun q x y => ?_) (fun c x y => ?_) pm pt ?_
  · rw [ke 2 (by omega) (by omega) (by omega), e _ (by omega)]; exact R.mx ⟨x, y⟩
  · rw [ke 3 (by omega) (by omega) (by omega), e _ (by omega)]; exact R.st ⟨x, y⟩
  · rw [ke 4 (by omega) (by omega) (by omega), e _ (by omega)]; exact R.bo ⟨x, y⟩
  · rw [ke 6 (by omega) (by omega) (by omega), e _ (by omega)]; exact R.ra ⟨x, y⟩
  · rw [ke 1 (by omega) (by omega) (by omega), e _ (by omega)]; exact R.pub
/-- a new point in the class -/
theorem c_put_new {μ1 : Mu} {g : Nat → Int} (h : WF g) (R : RB μ1 1 g) {w y : Int} (hn : g 641 ≤ 4) (hw : iG w) (hix : S_ix g w = -1) : ∃ μ', f_X2_put (1 + 16) w y μ1 = some (μ', 0, g 641 + 1) ∧ RB μ' 1 (S_ins g w y (S_pos g w (g 641).toNat)) ∧ ∀ a : Nat, a ≠ 17 → a ≠ 18 → a ≠ 19 → μ' a = μ1 a := by
  have hpm := h.pm
  have rpm : μ1 (1 + 16) 2 = g 641 := R.pm
  have hPn := pos_le (g := g) (w := w) (g 641).toNat
  obtain ⟨μ', a1, a2, a3, a4⟩ := c_put_l (g := g) (w := w) (y := y) (n := g 641) (μ1 := μ1) hn hw (fun k a b => by
    have := (h.pt (k := k) ⟨a, b⟩).1
    unfold iG S_px; omega) (fun v3 μ => f_X2_put_73 (1 + 16) w y v3 μ) (g 641).toNat FU μ1 (by omega) (by unfold FU; omega) (fun _ _ _ => rfl) (fun k a b => R.pt (k := k) ⟨a, by omega⟩) (fun k a b => by omega)
  generalize S_pos g w (g 641).toNat = P at a1 a3 a4 hPn
  have e17 : μ' (1 + 16) 2 = g 641 := by rw [a2 (1 + 16) (by omega) (by omega)]; exact rpm
  refine ⟨up2 (up2 (up2 μ' 17 2 (g 641 + 1)) 18 P w) 19 P y, ?_, ?_, fun a x z t => (up2_oo t).trans ((up2_oo z).trans ((up2_oo x).trans (a2 a z t)))⟩
  · unfold f_X2_put
    rw [c_index h R hw, p_rb, hix, p_lt (by omega), if_pos (by omega), p_rdF, rpm, p_lt (by omega), if_pos (by omega), p_rdF, rpm]
    rw [show (((g 641).toNat : Nat) : Int) = g 641 by omega] at a1
    refine Eq.trans a1 ?_
    unfold f_X2_put_73 f_X2_put_83 f_X2_put_101
    rw [p_rdF, e17, p_wrF, p_lt (by omega), if_neg (by omega), p_wrI (by omega), p_wrI (by omega), p_rdF, Int.toNat_natCast, up2_o (by omega), up2_o (by omega), up2_s]
  · have e641 : S_ins g w y P 641 = g 641 + 1 := if_pos rfl
    refine R_curve h R (fun k x => by
      unfold S_ins
      rw [if_neg (by omega), if_neg (by omega), if_neg (by omega), if_neg (by omega)]) (fun a x z t => (up2_oo t).trans ((up2_oo z).trans ((up2_oo x).trans (a2 a z t)))) ?_ (fun k x z => ?_)
    · rw [up2_o (by omega), up2_o (by omega), up2_s, e641]
    · rw [e641] at z
      obtain ⟨p1, p2⟩ := ins_pt (g := g) (w := w) (y := y) (P := P) (k := k) ⟨x, z⟩
      rw [p1, p2]
      by_cases q : k < (P : Int)
      · rw [if_pos q, if_pos q, up2_o (by omega), up2_k (by omega), up2_o (by omega), up2_k (by omega), up2_o (by omega), up2_o (by omega)]; exact a3 k x q
      · rw [if_neg q, if_neg q]
        by_cases q2 : k = (P : Int)
        · rw [if_pos q2, if_pos q2, q2, Int.toNat_natCast, up2_o (by omega), up2_s, up2_s]; exact ⟨rfl, rfl⟩
        · rw [if_neg q2, if_neg q2, up2_o (by omega), up2_k (by omega), up2_o (by omega), up2_k (by omega), up2_o (by omega), up2_o (by omega)]; exact a4 k (by omega) (by omega)

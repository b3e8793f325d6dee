/-! the curve's points, where they lie -/
def S_ix (g : Nat → Int) (w : Int) : Int := (S_fq (fun k => S_px g k = w) (g 641).toNat 0).getD (-1)
theorem ix_bd {g : Nat → Int} {w : Int} (hn : 0 ≤ g 641) : S_ix g w = -1 ∨ ((0 ≤ S_ix g w ∧ S_ix g w < g 641) ∧ S_px g (S_ix g w) = w) := by
  unfold S_ix
  cases e : S_fq (fun k => S_px g k = w) (g 641).toNat 0 with
  | none => exact Or.inl rfl
  | some q =>
    have := fq_some _ 0 q e
    exact Or.inr ⟨by show 0 ≤ q ∧ q < g 641; omega, this.2⟩
theorem c_index {μ : Mu} {g : Nat → Int} (h : WF g) (R : RB μ 1 g) {w : Int} (hw : iG w) : f_X2_indexOf (1 + 16) w μ = some (μ, 0, S_ix g w) := by
  unfold iG at hw
  have hpm := h.pm
  have rpm : μ (1 + 16) 2 = g 641 := R.pm
  have key : ∀ (n fu : Nat) (v : Int), 0 ≤ v → v + n = g 641 → n < fu → f_X2_indexOf_2 (1 + 16) w (fun v2 μ => some (μ, 0, v2)) (fun μ => f_X2_indexOf_33 (1 + 16) w μ) fu v μ = some (μ, 0, (S_fq (fun k => S_px g k = w) n v).getD (-1)) := by
    intro n
    induction n with
    | zero =>
      intro fu v h0 hn hf
      obtain ⟨f, rfl⟩ : ∃ f, fu = f + 1 := ⟨fu - 1, by omega⟩
      rw [f_X2_indexOf_2, p_rdF, rpm, p_lt (by omega), if_neg (by omega)]; rfl
    | succ n ih =>
      intro fu v h0 hn hf
      obtain ⟨f, rfl⟩ : ∃ f, fu = f + 1 := ⟨fu - 1, by omega⟩
      have rp := (R.pt (k := v) (by omega)).1
      have hb := (h.pt (k := v) (by omega)).1
      have hb' : 0 ≤ S_px g v ∧ S_px g v ≤ 200 := hb
      rw [f_X2_indexOf_2, p_rdF, rpm, p_lt (by omega), if_pos (by omega), p_lt (by omega), if_pos (by omega), p_rdI (by omega), rp, p_eq (by omega)]
      simp only [S_fq]
      by_cases q : S_px g v = w
      · rw [if_pos q, if_pos q]; rfl
      · rw [if_neg q, if_neg q, ih f (v + 1) (by omega) (by omega) (by omega)]
  unfold f_X2_indexOf S_ix
  exact key _ FU 0 (by omega) (by omega) (by unfold FU; omega)
theorem r_index {μ : Mu} (h : WF (μ 249)) {w : Int} (hw : iG w) : f_X11_pointAt w μ = some (μ, 0, S_ix (μ 249) w) := by
  unfold iG at hw
  have hpm := h.pm
  have e641 : (641 : Int).toNat = 641 := rfl
  have key : ∀ (n fu : Nat) (v : Int), 0 ≤ v → v + n = μ 249 641 → n < fu → f_X11_pointAt_2 w (fun v2 μ => some (μ, 0, v2)) (fun μ => some (μ, 0, (-1))) fu v μ = some (μ, 0, (S_fq (fun k => S_px (μ 249) k = w) n v).getD (-1)) := by
    intro n
    induction n with
    | zero =>
      intro fu v h0 hn hf
      obtain ⟨f, rfl⟩ : ∃ f, fu = f + 1 := ⟨fu - 1, by omega⟩
      rw [f_X11_pointAt_2, p_rdI (by omega), e641, p_lt (by omega), if_neg (by omega)]; rfl
    | succ n ih =>
      intro fu v h0 hn hf
      obtain ⟨f, rfl⟩ : ∃ f, fu = f + 1 := ⟨fu - 1, by omega⟩
      have hb : 0 ≤ μ 249 (642 + 2 * v).toNat ∧ μ 249 (642 + 2 * v).toNat ≤ 200 := (h.pt (k := v) (by omega)).1
      rw [f_X11_pointAt_2, p_rdI (by omega), e641, p_lt (by omega), if_pos (by omega), p_rdI (by omega), p_eq (by omega)]
      simp only [S_fq]
      show (if S_px (μ 249) v = w then _ else _) = _
      by_cases q : S_px (μ 249) v = w
      · rw [if_pos q, if_pos q]; rfl
      · rw [if_neg q, if_neg q, ih f (v + 1) (by omega) (by omega) (by omega)]
  unfold f_X11_pointAt S_ix
  exact key _ FU 0 (by omega) (by omega) (by unfold FU; omega)
/-- the numbers without the point i -/
def S_rem (g : Nat → Int) (i : Int) : Nat → Int := fun k => if k = 641 then g 641 - 1 else if 642 + 2 * i ≤ (k : Int) ∧ (k : Int) < 642 + 2 * (g 641 - 1) then g (k + 2) else g k
theorem rem_pt {g : Nat → Int} {i : Int} (hi : 0 ≤ i ∧ i < g 641) {k : Int} (hk : 0 ≤ k ∧ k < g 641 - 1) : S_rem g i (642 + 2 * k).toNat = g (642 + 2 * (if k < i then k else k + 1)).toNat ∧ S_rem g i (642 + 2 * k + 1).toNat = g (642 + 2 * (if k < i then k else k + 1) + 1).toNat := by
  unfold S_rem
  by_cases q : k < i
  · rw [if_pos q, if_neg (by omega), if_neg (by omega), if_neg (by omega), if_neg (by omega)]
    exact ⟨rfl, rfl⟩
  · rw [if_neg q, if_neg (by omega), if_pos (by omega), if_neg (by omega), if_pos (by omega)]
    exact ⟨by rw [show (642 + 2 * k).toNat + 2 = (642 + 2 * (k + 1)).toNat by omega], by rw [show (642 + 2 * k + 1).toNat + 2 = (642 + 2 * (k + 1) + 1).toNat by omega]⟩
theorem W_rem {g : Nat → Int} {T i : Int} (W : WS g T) (hi : 0 ≤ i ∧ i < g 641) : WS (S_rem g i) T := by
  have h := W.1
  have hpm := h.pm
  have e : ∀ k : Nat, ¬ (641 ≤ k ∧ k ≤ 651) → S_rem g i k = g k := fun k x => by
    unfold S_rem
    rw [if_neg (by omega), if_neg (by omega)]
  have e641 : S_rem g i 641 = g 641 - 1 := if_pos rfl
  refine WS.head W (fun k x y z => e k (by omega)) (fun q x y => ?_) ?_ ?_ (fun c x y => ?_) ⟨?_, fun k x y => ?_, fun k x y => ?_⟩ ?_
  · rw [e _ (by omega)]; exact h.mx ⟨x, y⟩
  · rw [e _ (by omega), e _ (by omega), e _ (by omega), e _ (by omega), e _ (by omega)]; exact h.st
  · rw [e _ (by omega), e _ (by omega), e _ (by omega), e _ (by omega)]; exact h.bo
  · rw [e _ (by omega)]; exact (h.ex ⟨x, y⟩).2
  · rw [e641]; omega
  · rw [e641] at y
    obtain ⟨a, b⟩ := rem_pt hi (k := k) ⟨x, y⟩
    rw [a, b]
    exact h.pt (by split <;> omega)
  · rw [e641] at y
    have a := (rem_pt hi (k := k) (by omega)).1
    have b := (rem_pt hi (k := k + 1) (by omega)).1
    rw [show 642 + 2 * (k + 1) = 642 + 2 * k + 2 by omega] at b
    rw [a, b]
    have l1 : ∀ j : Int, 0 ≤ j → j + 1 < g 641 → g (642 + 2 * j).toNat < g (642 + 2 * (j + 1)).toNat := fun j s t => by
      have := h.pl ⟨s, t⟩
      rw [show 642 + 2 * (j + 1) = 642 + 2 * j + 2 by omega]; exact this
    by_cases q : k + 1 < i
    · rw [if_pos (by omega), if_pos q]; exact l1 k x (by omega)
    · by_cases q2 : k < i
      · rw [if_pos q2, if_neg q]
        have := l1 k x (by omega)
        have := l1 (k + 1) (by omega) (by omega)
        omega
      · rw [if_neg q2, if_neg q]
        exact l1 (k + 1) (by omega) (by omega)
  · rw [e _ (by omega)]; exact h.pub

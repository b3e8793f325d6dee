/-! the history -/
def JW (μ0 : Mu) (A off : Nat) (val : Nat → Int) (v : Nat) (μ : Mu) : Prop := (∀ a : Nat, a ≠ A → μ a = μ0 a) ∧ (∀ i : Nat, (i < off ∨ off + v ≤ i) → μ A i = μ0 A i) ∧ (∀ i : Nat, i < v → μ A (off + i) = val i)
theorem JW.nil (μ : Mu) (A off : Nat) (val : Nat → Int) : JW μ A off val 0 μ := ⟨fun _ _ => rfl, fun _ _ => rfl, fun i h => by omega⟩
theorem JW.next {μ0 μ : Mu} {A off v : Nat} {val : Nat → Int} (h : JW μ0 A off val v μ) : JW μ0 A off val (v + 1) (up2 μ A (off + v) (val v)) := by
  refine ⟨fun a ha => (up2_oo ha).trans (h.1 a ha), fun i hi => ?_, fun i hi => ?_⟩
  · rw [up2_k (by omega)]; exact h.2.1 i (by omega)
  · by_cases e : i = v
    · subst e; exact up2_s
    · rw [up2_k (by omega)]; exact h.2.2 i (by omega)
theorem loop_wr {F : Nat → Int → Mu → Option Res} {k : Mu → Option Res} {A off N : Nat} {val : Nat → Int} {μ0 : Mu} (h : ∀ (fu v : Nat) (μ : Mu), v ≤ N → JW μ0 A off val v μ → F (fu + 1) (v : Int) μ = if v < N then F fu ((v : Int) + 1) (up2 μ A (off + v) (val v)) else k μ) : ∀ (n fu v : Nat) (μ : Mu), v + n = N → n < fu → JW μ0 A off val v μ → ∃ μ', F fu (v : Int) μ = k μ' ∧ JW μ0 A off val N μ'
  | 0, fu + 1, v, μ, hn, hf, j => by
    have e : v = N := by omega
    subst e
    exact ⟨μ, by rw [h fu v μ (Nat.le_refl _) j, if_neg (by omega)], j⟩
  | n + 1, fu + 1, v, μ, hn, hf, j => by
    obtain ⟨μ', a1, a2⟩ := loop_wr h n fu (v + 1) (up2 μ A (off + v) (val v)) (by omega) (by omega) j.next
    refine ⟨μ', ?_, a2⟩
    rw [h fu v μ (by omega) j, if_pos (by omega)]
    exact a1
theorem r_frames (μ : Mu) : ∃ μ', f_X11_frames μ = some (μ', 0, 0) ∧ (∀ a : Nat, a ≠ 251 → μ' a = μ a) ∧ ∀ i : Nat, i < 779 → μ' 251 i = μ 249 i := by
  obtain ⟨μ', a1, a2, a3, a4⟩ := loop_wr (F := f_X11_frames_2 (fun μ => some (μ, 0, 0))) (k := fun μ => some (μ, 0, 0)) (A := 251) (off := 0) (N := 779) (val := fun i => μ 249 i) (μ0 := μ) (fun fu v μ1 hv j => by
    rw [f_X11_frames_2, p_lt (by omega)]
    by_cases p : v < 779
    · rw [if_pos (by omega), if_pos p, p_rdI (by omega), p_wrI (by omega), j.1 249 (by omega), Int.toNat_natCast, Nat.zero_add]
    · rw [if_neg (by omega), if_neg p]) 779 FU 0 μ (by omega) (by unfold FU; omega) (JW.nil _ _ _ _)
  exact ⟨μ', a1, a2, fun i hi => by have := a4 i hi; rw [Nat.zero_add] at this; exact this⟩
theorem r_keeps53 {μ : Mu} {n : Nat} (hn : 1 ≤ n ∧ n ≤ 6) (h5 : μ 248 5 = (n : Int)) : ∃ μ', f_X11_keeps_53 μ = some (μ', 0, 0) ∧ (∀ a : Nat, a ≠ 252 → μ' a = μ a) ∧ (∀ i : Nat, (i < 779 * (n - 1) ∨ 779 * n ≤ i) → μ' 252 i = μ 252 i) ∧ ∀ i : Nat, i < 779 → μ' 252 (779 * (n - 1) + i) = μ 251 i := by
  obtain ⟨μ', a1, a2, a3, a4⟩ := loop_wr (F := f_X11_keeps_55 (fun μ => some (μ, 0, 0))) (k := fun μ => some (μ, 0, 0)) (A := 252) (off := 779 * (n - 1)) (N := 779) (val := fun i => μ 251 i) (μ0 := μ) (fun fu v μ1 hv j => by
    have e5 : μ1 248 5 = (n : Int) := by rw [j.1 248 (by omega)]; exact h5
    rw [f_X11_keeps_55, p_lt (by omega)]
    by_cases p : v < 779
    · rw [if_pos (by omega), if_pos p, p_rdF, e5, p_rdI (by omega), p_wrI (by omega), j.1 251 (by omega), Int.toNat_natCast, show (779 * ((n : Int) - 1) + (v : Int)).toNat = 779 * (n - 1) + v by omega]
    · rw [if_neg (by omega), if_neg p]) 779 FU 0 μ (by omega) (by unfold FU; omega) (JW.nil _ _ _ _)
  exact ⟨μ', a1, a2, fun i hi => a3 i (by omega), a4⟩
/-- the history after the numbers of now are put in -/
def S_hist (n : Int) (μ : Mu) (j : Int) : Nat → Int := if n < 6 then (if j < n then slice μ j else μ 249) else (if j < 5 then slice μ (j + 1) else μ 249)
def S_hn (n : Int) : Int := if n < 6 then n + 1 else 6
theorem S_hist_e {n : Int} {μ μ' : Mu} (h1 : μ' 249 = μ 249) (h2 : μ' 252 = μ 252) (j : Int) : S_hist n μ' j = S_hist n μ j := by
  unfold S_hist slice
  rw [h1, h2]
theorem r_changes {μ : Mu} (n : Nat) (hn : n ≤ 6) (h5 : μ 248 5 = (n : Int)) : ∃ μ', f_X11_changes μ = some (μ', 0, 0) ∧ (∀ a k : Nat, a ≠ 251 → a ≠ 252 → ¬ (a = 248 ∧ k = 5) → μ' a k = μ a k) ∧ μ' 248 5 = S_hn n ∧ ∀ j : Int, 0 ≤ j → j < S_hn n → EqG (S_hist n μ j) (slice μ' j) := by
  obtain ⟨μ1, a1, a2, a3⟩ := r_frames μ
  have e5 : μ1 248 5 = (n : Int) := by rw [a2 248 (by omega)]; exact h5
  unfold f_X11_changes f_X11_keeps S_hn S_hist slice
  rw [a1, p_rb, p_rdF, e5, p_eq (by omega)]
  by_cases p : n = 6
  · subst p
    obtain ⟨μ2, b1, b2', b3, b4⟩ := loop_wr (F := f_X11_keeps_11 (fun μ => f_X11_keeps_53 μ)) (k := fun μ => f_X11_keeps_53 μ) (A := 252) (off := 0) (N := 3895) (val := fun i => μ1 252 (i + 779)) (μ0 := μ1) (fun fu v μ3 hv j => by
      rw [f_X11_keeps_11, p_lt (by omega)]
      by_cases p : v < 3895
      · rw [if_pos (by omega), if_pos p, p_rdI (by omega), p_wrI (by omega), Int.toNat_natCast, Nat.zero_add, show ((v : Int) + 779).toNat = v + 779 by omega, j.2.1 _ (by omega)]
      · rw [if_neg (by omega), if_neg p]) 3895 FU 0 μ1 (by omega) (by unfold FU; omega) (JW.nil _ _ _ _)
    have f5 : μ2 248 5 = ((6 : Nat) : Int) := by rw [b2' 248 (by omega)]; exact e5
    obtain ⟨μ3, c1, c2, c3, c4⟩ := r_keeps53 (μ := μ2) (n := 6) (by omega) f5
    refine ⟨μ3, ?_, fun a k h1 h2 h3 => by rw [c2 a h2, b2' a h2, a2 a h1], ?_, fun j x y => ?_⟩
    · rw [if_pos (by omega)]
      rw [show f_X11_keeps_11 (fun μ => f_X11_keeps_53 μ) FU 0 μ1 = f_X11_keeps_53 μ2 from b1, c1]; rfl
    · rw [c2 248 (by omega), f5]; rfl
    · rw [if_neg (by omega)] at y ⊢
      intro k hk
      by_cases q : j < 5
      · rw [if_pos q]
        have := b4 (779 * j.toNat + k) (by omega)
        rw [Nat.zero_add] at this
        have this : μ2 252 (779 * j.toNat + k) = μ1 252 (779 * j.toNat + k + 779) := this
        show μ3 252 (779 * j.toNat + k) = μ 252 (779 * (j + 1).toNat + k)
        rw [c3 _ (by omega), this, a2 252 (by omega), show 779 * j.toNat + k + 779 = 779 * (j + 1).toNat + k by omega]
      · rw [if_neg q]
        have := c4 k hk
        show μ3 252 (779 * j.toNat + k) = μ 249 k
        rw [show 779 * j.toNat + k = 779 * (6 - 1) + k by omega, this, b2' 251 (by omega), a3 k hk]
  · have f5 : (up2 μ1 248 5 ((n : Int) + 1)) 248 5 = ((n + 1 : Nat) : Int) := by rw [up2_s]; omega
    obtain ⟨μ3, c1, c2, c3, c4⟩ := r_keeps53 (μ := up2 μ1 248 5 ((n : Int) + 1)) (n := n + 1) (by omega) f5
    refine ⟨μ3, ?_, fun a k h1 h2 h3 => by rw [c2 a h2, up2_eq, if_neg h3, a2 a h1], ?_, fun j x y => ?_⟩
    · rw [if_neg (by omega), p_rdF, e5, p_wrF, c1]; rfl
    · rw [c2 248 (by omega), f5, if_pos (by omega)]; omega
    · rw [if_pos (by omega)] at y ⊢
      intro k hk
      by_cases q : j < (n : Int)
      · rw [if_pos q]
        show μ3 252 (779 * j.toNat + k) = μ 252 (779 * j.toNat + k)
        rw [c3 _ (by omega), up2_oo (by omega), a2 252 (by omega)]
      · rw [if_neg q]
        have := c4 k hk
        show μ3 252 (779 * j.toNat + k) = μ 249 k
        rw [show 779 * j.toNat + k = 779 * (n + 1 - 1) + k by omega, this, up2_oo (by omega), a3 k hk]
theorem c_keep0 {T : Int} {μ : Mu} (I1 : RB μ 1 (μ 249) ∧ WS (μ 249) T) (I3 : (0 ≤ μ 73 1 ∧ μ 73 1 < 6) ∧ (0 ≤ μ 73 2 ∧ μ 73 2 ≤ 6) ∧ ∀ j : Int, 0 ≤ j → j < μ 73 2 → RB μ (ring μ j) (slice μ j)) : ∃ μ', f_X4_keep 1 μ = some (μ', 0, 0) ∧ (∀ a : Nat, a ≠ 73 → (a < 75 ∨ 219 ≤ a) → μ' a = μ a) ∧ (0 ≤ μ' 73 1 ∧ μ' 73 1 < 6) ∧ μ' 73 2 = S_hn (μ 73 2) ∧ ∀ j : Int, 0 ≤ j → j < S_hn (μ 73 2) → RB μ' (ring μ' j) (S_hist (μ 73 2) μ j) := by
  obtain ⟨h1, h2, h4⟩ := I3
  have hp : 0 ≤ (μ 73 1 + μ 73 2) % 6 ∧ (μ 73 1 + μ 73 2) % 6 < 6 := by omega
  obtain ⟨μ1, a1, a2, a3⟩ := c_copyBook (μ := μ) (s := 1) (d := 75 + 24 * ((μ 73 1 + μ 73 2) % 6).toNat) (by omega) I1.2.1 I1.2.2.1 I1.1
  have e73 : μ1 73 = μ 73 := a3 73 (by omega)
  unfold f_X4_keep f_X4_keep_56 S_hn S_hist
  rw [p_rdF, p_rdF, p_rem (by omega), p_rdA (by omega), a1, p_rb, p_rdF, e73, p_lt (by omega)]
  by_cases p : μ 73 2 < 6
  · rw [if_pos p, p_rdF, e73, p_wrF]
    refine ⟨_, rfl, fun a x y => (up2_oo x).trans (a3 a (by omega)), ?_, ?_, fun j x y => ?_⟩
    · rw [up2_k (by omega), e73]; exact h1
    · rw [up2_s, if_pos p]
    · rw [if_pos p] at y ⊢
      have er : ring (up2 μ1 73 2 (μ 73 2 + 1)) j = ring μ j := by
        unfold ring
        rw [up2_k (by omega), e73]
      rw [er]
      have rb : 75 ≤ ring μ j ∧ ring μ j + 24 ≤ 219 := by unfold ring; omega
      by_cases q : j < μ 73 2
      · rw [if_pos q]
        refine (h4 j x q).keep (fun a u v => (up2_oo (by omega)).trans (a3 a ?_))
        unfold ring at u v rb
        omega
      · rw [if_neg q, show j = μ 73 2 by omega]
        exact a2.keep (fun a u v => up2_oo (by omega))
  · rw [if_neg p, p_rdF, e73, p_rem (by omega), p_wrF]
    refine ⟨_, rfl, fun a x y => (up2_oo x).trans (a3 a (by omega)), ?_, ?_, fun j x y => ?_⟩
    · rw [up2_s]; omega
    · rw [up2_k (by omega), e73, if_neg p]; omega
    · rw [if_neg p] at y ⊢
      by_cases q : j < 5
      · rw [if_pos q]
        have er : ring (up2 μ1 73 1 ((μ 73 1 + 1) % 6)) j = ring μ (j + 1) := by
          unfold ring
          rw [up2_s]; omega
        rw [er]
        refine (h4 (j + 1) (by omega) (by omega)).keep (fun a u v => (up2_oo (by unfold ring at u; omega)).trans (a3 a ?_))
        unfold ring at u v
        omega
      · rw [if_neg q]
        have er : ring (up2 μ1 73 1 ((μ 73 1 + 1) % 6)) j = 75 + 24 * ((μ 73 1 + μ 73 2) % 6).toNat := by
          unfold ring
          rw [up2_s]; omega
        rw [er]
        exact a2.keep (fun a u v => up2_oo (by omega))
theorem c_keep {T : Int} {μ : Mu} (I : Inv T μ) : ∃ μ', f_X4_keep 1 μ = some (μ', 0, 0) ∧ (∀ a : Nat, a ≠ 73 → (a < 75 ∨ 219 ≤ a) → μ' a = μ a) ∧ (0 ≤ μ' 73 1 ∧ μ' 73 1 < 6) ∧ μ' 73 2 = S_hn (μ 73 2) ∧ ∀ j : Int, 0 ≤ j → j < S_hn (μ 73 2) → RB μ' (ring μ' j) (S_hist (μ 73 2) μ j) := by
  obtain ⟨h1, h2, h3, h4⟩ := I.2.2.1
  exact c_keep0 I.1 ⟨h1, h2, fun j x y => (h4 j x y).1⟩

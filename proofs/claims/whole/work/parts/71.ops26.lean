/-! setPoint: where a new point goes -/
def S_pos (g : Nat → Int) (w : Int) : Nat → Nat
  | 0 => 0
  | m + 1 => if w < S_px g m then S_pos g w m else m + 1
theorem pos_le {g : Nat → Int} {w : Int} : ∀ m : Nat, S_pos g w m ≤ m
  | 0 => Nat.le_refl _
  | m + 1 => by
    simp only [S_pos]
    have := pos_le (g := g) (w := w) m
    split <;> omega
theorem pos_hi {g : Nat → Int} {w : Int} : ∀ (m k : Nat), S_pos g w m ≤ k → k < m → w < S_px g k
  | 0, k, a, b => by omega
  | m + 1, k, a, b => by
    simp only [S_pos] at a
    by_cases q : w < S_px g m
    · rw [if_pos q] at a
      by_cases e : k = m
      · subst e; exact q
      · exact pos_hi m k a (by omega)
    · rw [if_neg q] at a; omega
theorem pos_lo {g : Nat → Int} {w : Int} : ∀ (m : Nat), 0 < S_pos g w m → S_px g ((S_pos g w m : Nat) - 1 : Int) ≤ w
  | 0, a => by simp [S_pos] at a
  | m + 1, a => by
    simp only [S_pos] at a ⊢
    by_cases q : w < S_px g m
    · rw [if_pos q] at a ⊢
      exact pos_lo m a
    · rw [if_neg q]
      rw [show (((m + 1 : Nat) : Int) - 1) = (m : Int) by omega]; omega
theorem c_put_l {g : Nat → Int} {w y n : Int} {μ1 : Mu} (hn : n ≤ 4) (hw : iG w) (hb : ∀ k : Int, 0 ≤ k → k < n → iG (S_px g k)) (K : Int → Mu → Option Res) : ∀ (m fu : Nat) (μ : Mu), (m : Int) ≤ n → m < fu → (∀ a : Nat, a ≠ 18 → a ≠ 19 → μ a = μ1 a) →
    (∀ k : Int, 0 ≤ k → k < m → μ 18 k.toNat = S_px g k ∧ μ 19 k.toNat = S_py g k) → (∀ k : Int, (m : Int) < k → k ≤ n → μ 18 k.toNat = S_px g (k - 1) ∧ μ 19 k.toNat = S_py g (k - 1)) →
    ∃ μ', f_X2_put_23 (1 + 16) w y K fu m μ = K (S_pos g w m : Nat) μ' ∧ (∀ a : Nat, a ≠ 18 → a ≠ 19 → μ' a = μ1 a) ∧ (∀ k : Int, 0 ≤ k → k < (S_pos g w m : Nat) → μ' 18 k.toNat = S_px g k ∧ μ' 19 k.toNat = S_py g k) ∧ (∀ k : Int, ((S_pos g w m : Nat) : Int) < k → k ≤ n → μ' 18 k.toNat = S_px g (k - 1) ∧ μ' 19 k.toNat = S_py g (k - 1))
  | 0, fu + 1, μ, hm, hf, hk, h1, h2 => by
    refine ⟨μ, ?_, hk, fun k a b => h1 k a b, fun k a b => h2 k a b⟩
    rw [f_X2_put_23, p_lt (by omega), if_neg (by omega)]; rfl
  | m + 1, fu + 1, μ, hm, hf, hk, h1, h2 => by
    have hv : (((m + 1 : Nat) : Int) - 1) = (m : Int) := by omega
    obtain ⟨e1, e2⟩ := h1 m (by omega) (by omega)
    have e18 : μ (1 + 16 + 1) (m : Int).toNat = S_px g m := e1
    have e19 : μ (1 + 16 + 2) (m : Int).toNat = S_py g m := e2
    have hbm := hb m (by omega) (by omega)
    unfold iG at hw hbm
    rw [f_X2_put_23, p_lt (by omega), if_pos (by omega), hv, p_rdI (by omega), e18, p_lt (by omega)]
    simp only [S_pos]
    by_cases q : w < S_px g m
    · rw [if_pos q, if_pos q, p_rdI (by omega), e18, p_wrI (by omega), p_rdI (by omega), up2_o (by omega), e19, p_wrI (by omega), show (((m + 1 : Nat) : Int) + -1) = (m : Int) by omega]
      refine c_put_l (μ1 := μ1) hn (by unfold iG; omega) hb K m fu _ (by omega) (by omega) (fun a s t => (up2_oo t).trans ((up2_oo s).trans (hk a s t))) (fun k a b => ?_) (fun k a b => ?_)
      · rw [up2_o (by omega), up2_k (by omega), up2_k (by omega), up2_o (by omega)]; exact h1 k a (by omega)
      · by_cases e : k = ((m + 1 : Nat) : Int)
        · subst e
          rw [up2_o (by omega), up2_s, up2_s, hv]; exact ⟨rfl, rfl⟩
        · rw [up2_o (by omega), up2_k (by omega), up2_k (by omega), up2_o (by omega)]; exact h2 k (by omega) b
    · rw [if_neg q, if_neg q]
      exact ⟨μ, rfl, hk, h1, h2⟩
theorem r_put_l {w y n : Int} {μ0 : Mu} (hn : n ≤ 4) (hw : iG w) (hb : ∀ k : Int, 0 ≤ k → k < n → iG (S_px (μ0 249) k)) (K : Int → Mu → Option Res) : ∀ (m fu : Nat) (μ : Mu), (m : Int) ≤ n → m < fu → (∀ a : Nat, a ≠ 249 → μ a = μ0 a) →
    (∀ j : Nat, (j < 642 + 2 * m ∨ 642 + 2 * (n + 1) ≤ j) → μ 249 j = μ0 249 j) → (∀ j : Nat, 642 + 2 * m + 2 ≤ j → (j : Int) < 642 + 2 * (n + 1) → μ 249 j = μ0 249 (j - 2)) →
    ∃ μ', f_X11_setPoint_104 w y K fu m μ = K (S_pos (μ0 249) w m : Nat) μ' ∧ (∀ a : Nat, a ≠ 249 → μ' a = μ0 a) ∧ (∀ j : Nat, (j < 642 + 2 * S_pos (μ0 249) w m ∨ 642 + 2 * (n + 1) ≤ j) → μ' 249 j = μ0 249 j) ∧ (∀ j : Nat, 642 + 2 * S_pos (μ0 249) w m + 2 ≤ j → (j : Int) < 642 + 2 * (n + 1) → μ' 249 j = μ0 249 (j - 2))
  | 0, fu + 1, μ, hm, hf, hk, h1, h2 => by
    refine ⟨μ, ?_, hk, h1, h2⟩
    rw [f_X11_setPoint_104, p_lt (by omega), if_neg (by omega)]; rfl
  | m + 1, fu + 1, μ, hm, hf, hk, h1, h2 => by
    have hbm := hb m (by omega) (by omega)
    have ex : μ 249 (642 + 2 * m) = S_px (μ0 249) m := by
      rw [h1 _ (by omega)]
      unfold S_px
      rw [show (642 + 2 * (m : Int)).toNat = 642 + 2 * m by omega]
    have ey : μ 249 (642 + 2 * m + 1) = μ0 249 (642 + 2 * m + 1) := h1 _ (by omega)
    unfold iG at hw hbm
    rw [f_X11_setPoint_104, p_lt (by omega), if_pos (by omega), p_rdI (by omega), show (642 + 2 * ((m + 1 : Nat) : Int) - 2).toNat = 642 + 2 * m by omega, ex, p_lt (by omega)]
    simp only [S_pos]
    by_cases q : w < S_px (μ0 249) m
    · rw [if_pos q, if_pos q, p_rdI (by omega), show (642 + 2 * ((m + 1 : Nat) : Int) - 2).toNat = 642 + 2 * m by omega, p_wrI (by omega), p_rdI (by omega), show (642 + 2 * ((m + 1 : Nat) : Int) - 1).toNat = 642 + 2 * m + 1 by omega, show (642 + 2 * ((m + 1 : Nat) : Int)).toNat = 642 + 2 * m + 2 by omega, up2_k (by omega), ey, p_wrI (by omega), show (642 + 2 * ((m + 1 : Nat) : Int) + 1).toNat = 642 + 2 * m + 3 by omega, show (((m + 1 : Nat) : Int) + -1) = (m : Int) by omega]
      refine r_put_l (μ0 := μ0) hn (by unfold iG; omega) hb K m fu _ (by omega) (by omega) (fun a s => (up2_oo s).trans ((up2_oo s).trans (hk a s))) (fun j a => ?_) (fun j a b => ?_)
      · rw [up2_k (by omega), up2_k (by omega)]; exact h1 j (by omega)
      · by_cases e : j = 642 + 2 * m + 3
        · subst e
          rw [up2_s]; rfl
        · by_cases e2 : j = 642 + 2 * m + 2
          · subst e2
            rw [up2_k (by omega), up2_s, h1 _ (by omega)]; rfl
          · rw [up2_k e, up2_k e2]; exact h2 j (by omega) b
    · rw [if_neg q, if_neg q]
      exact ⟨μ, rfl, hk, h1, h2⟩

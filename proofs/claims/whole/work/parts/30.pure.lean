/-! the pure functions: tools -/
theorem p_lt {α : Type} {x y : Int} {A B : Option α} (h : (-2147483648 ≤ x ∧ x < 2147483648) ∧ (-2147483648 ≤ y ∧ y < 2147483648)) : i_lt x y A B = if x < y then A else B := if_pos h
theorem p_eq {α : Type} {x y : Int} {A B : Option α} (h : (-2147483648 ≤ x ∧ x < 2147483648) ∧ (-2147483648 ≤ y ∧ y < 2147483648)) : i_eq x y A B = if x = y then A else B := if_pos h
theorem p_llt {α : Type} {x y : Int} {A B : Option α} (h : (-9223372036854775808 ≤ x ∧ x < 9223372036854775808) ∧ (-9223372036854775808 ≤ y ∧ y < 9223372036854775808)) : l_lt x y A B = if x < y then A else B := if_pos h
theorem p_leq {α : Type} {x y : Int} {A B : Option α} (h : (-9223372036854775808 ≤ x ∧ x < 9223372036854775808) ∧ (-9223372036854775808 ≤ y ∧ y < 9223372036854775808)) : l_eq x y A B = if x = y then A else B := if_pos h
theorem p_rdI {α : Type} {μ : Mu} {a n : Nat} {i : Int} {k : Int → Option α} (h : 0 ≤ i ∧ i < n) : rdI μ a n i k = k (μ a i.toNat) := if_pos h
theorem p_wrI {α : Type} {μ : Mu} {a n : Nat} {i x : Int} {k : Mu → Option α} (h : 0 ≤ i ∧ i < n) : wrI μ a n i x k = k (up2 μ a i.toNat x) := if_pos h
theorem p_rdA {α : Type} {n : Nat} {i : Int} {f : Nat → Nat} {k : Nat → Option α} (h : 0 ≤ i ∧ i < n) : rdA n i f k = k (f i.toNat) := if_pos h
theorem p_rdC {α : Type} {n : Nat} {i : Int} {f : Nat → Int} {k : Int → Option α} (h : 0 ≤ i ∧ i < n) : rdC n i f k = k (f i.toNat) := if_pos h
theorem p_div {α : Type} {x y : Int} {k : Int → Option α} (h : (0 ≤ x ∧ x < 2147483648) ∧ (0 < y ∧ y < 2147483648)) : i_div x y k = k (x / y) := by
  unfold i_div
  rw [if_pos (by omega), Int.tdiv_eq_ediv_of_nonneg h.1.1]
theorem p_rem {α : Type} {x y : Int} {k : Int → Option α} (h : (0 ≤ x ∧ x < 2147483648) ∧ (0 < y ∧ y < 2147483648)) : i_rem x y k = k (x % y) := by
  unfold i_rem
  rw [if_pos (by omega), Int.tmod_eq_emod_of_nonneg h.1.1]
theorem p_ldiv {α : Type} {x y : Int} {k : Int → Option α} (h : (0 ≤ x ∧ x < 9223372036854775808) ∧ (0 < y ∧ y < 9223372036854775808)) : l_div x y k = k (x / y) := by
  unfold l_div
  rw [if_pos (by omega), Int.tdiv_eq_ediv_of_nonneg h.1.1]
theorem p_lrem {α : Type} {x y : Int} {k : Int → Option α} (h : (0 ≤ x ∧ x < 9223372036854775808) ∧ (0 < y ∧ y < 9223372036854775808)) : l_rem x y k = k (x % y) := by
  unfold l_rem
  rw [if_pos (by omega), Int.tmod_eq_emod_of_nonneg h.1.1]
theorem p_max {α : Type} {x y : Int} {k : Int → Option α} (h : (-2147483648 ≤ x ∧ x < 2147483648) ∧ (-2147483648 ≤ y ∧ y < 2147483648)) : i_max x y k = k (if x < y then y else x) := if_pos h
theorem p_min {α : Type} {x y : Int} {k : Int → Option α} (h : (-2147483648 ≤ x ∧ x < 2147483648) ∧ (-2147483648 ≤ y ∧ y < 2147483648)) : i_min x y k = k (if y < x then y else x) := if_pos h
theorem p_abs {α : Type} {x : Int} {k : Int → Option α} (h : -2147483648 ≤ x ∧ x < 2147483648) : i_abs x k = k (if 0 ≤ x then x else 0 - x) := if_pos h
theorem p_2l {α : Type} {x : Int} {k : Option α} (h : -2147483648 ≤ x ∧ x < 2147483648) : i_2l x k = k := if_pos h
theorem p_Z0 {μ : Mu} : retZ μ 0 = some (μ, 0, 0) := rfl
theorem p_Z1 {μ : Mu} : retZ μ 1 = some (μ, 0, 1) := rfl
theorem p_Z {μ : Mu} {x : Int} (h : x = 0 ∨ x = 1) : retZ μ x = some (μ, 0, x) := if_pos h
theorem p_wrZ {α : Type} {μ : Mu} {a i : Nat} {x : Int} {k : Mu → Option α} (h : x = 0 ∨ x = 1) : wrZ μ a i x k = k (up2 μ a i x) := if_pos h
theorem p_wrC {α : Type} {μ : Mu} {a n : Nat} {i x : Int} {k : Mu → Option α} (h : 0 ≤ x ∧ x < 65536) : wrC μ a n i x k = wrI μ a n i x k := if_pos h
theorem p_bnd {α : Type} {x : Int} {k : Int → Option α} : bnd x k = k x := rfl
theorem p_rdF {α : Type} {μ : Mu} {a i : Nat} {k : Int → Option α} : rdF μ a i k = k (μ a i) := rfl
theorem p_wrF {α : Type} {μ : Mu} {a i : Nat} {x : Int} {k : Mu → Option α} : wrF μ a i x k = k (up2 μ a i x) := rfl
theorem p_rb {μ : Mu} {x : Int} {k : Mu → Int → Option Res} : rb (some (μ, 0, x)) k = k μ x := rfl
theorem p_rbx {μ : Mu} {x : Int} {e : Nat} {k : Mu → Int → Option Res} : rb (some (μ, e + 1, x)) k = some (μ, e + 1, 0) := rfl
theorem p_cpy {α : Type} {μ : Mu} {a0 n0 a n1 : Nat} {sp dp n : Int} {k : Mu → Option α} (h : (0 ≤ sp ∧ sp < 2147483648) ∧ (0 ≤ dp ∧ dp < 2147483648) ∧ (0 ≤ n ∧ n < 2147483648) ∧ sp + n ≤ n0 ∧ dp + n ≤ n1) : cpyI μ a0 n0 sp a n1 dp n k = k (cpM μ a0 sp.toNat a dp.toNat n.toNat) := if_pos h
theorem up2_eq (μ : Mu) (a k : Nat) (v : Int) (a' k' : Nat) : up2 μ a k v a' k' = if a' = a ∧ k' = k then v else μ a' k' := rfl
theorem up2_o {μ : Mu} {a k : Nat} {v : Int} {a' k' : Nat} (h : a' ≠ a) : up2 μ a k v a' k' = μ a' k' := if_neg (fun w => h w.1)
theorem up2_oo {μ : Mu} {a k : Nat} {v : Int} {a' : Nat} (h : a' ≠ a) : up2 μ a k v a' = μ a' := funext fun _ => up2_o h
theorem up2_k {μ : Mu} {a k : Nat} {v : Int} {k' : Nat} (h : k' ≠ k) : up2 μ a k v a k' = μ a k' := if_neg (fun w => h w.2)
theorem up2_s {μ : Mu} {a k : Nat} {v : Int} : up2 μ a k v a k = v := if_pos ⟨rfl, rfl⟩
theorem cpM_o {μ : Mu} {a0 sp a dp n a' k' : Nat} (h : a' ≠ a) : cpM μ a0 sp a dp n a' k' = μ a' k' := if_neg (fun w => h w.1)
theorem cpM_s {μ : Mu} {a0 sp a dp n k' : Nat} (h : dp ≤ k' ∧ k' < dp + n) : cpM μ a0 sp a dp n a k' = μ a0 (sp + (k' - dp)) := if_pos ⟨rfl, h.1, h.2⟩
/-! loops -/
def itS {S : Type} (step : S → Int → S) : Nat → S → Int → S
  | 0, s, _ => s
  | n + 1, s, v => itS step n (step s v) (v + 1)
/-- a loop that counts v up to N -/
theorem loop_up {S R : Type} (F : Nat → S → Int → R) (k : S → R) (step : S → Int → S) (N : Int) (I : S → Int → Prop)
    (h : ∀ fu s v, I s v → F (fu + 1) s v = if v < N then F fu (step s v) (v + 1) else k s) (hI : ∀ s v, I s v → v < N → I (step s v) (v + 1)) :
    ∀ (n fu : Nat) (s : S) (v : Int), I s v → v + n = N → n < fu → F fu s v = k (itS step n s v)
  | 0, fu + 1, s, v, hi, hn, _ => by
    rw [h fu s v hi, if_neg (by omega)]; rfl
  | n + 1, fu + 1, s, v, hi, hn, hf => by
    rw [h fu s v hi, if_pos (by omega)]
    exact loop_up F k step N I h hI n fu (step s v) (v + 1) (hI s v hi (by omega)) (by omega) (by omega)
/-- the sum of n terms from v on -/
def sm (G : Int → Int) : Nat → Int → Int
  | 0, _ => 0
  | n + 1, v => G v + sm G n (v + 1)
theorem itS_sm (G : Int → Int) : ∀ (n : Nat) (s v : Int), itS (fun s v => s + G v) n s v = s + sm G n v
  | 0, s, v => by simp [itS, sm]
  | n + 1, s, v => by
    simp only [itS, sm]
    rw [itS_sm G n]; omega
theorem sm_congr {G G' : Int → Int} : ∀ (n : Nat) (v : Int), (∀ j : Int, v ≤ j → j < v + n → G j = G' j) → sm G n v = sm G' n v
  | 0, _, _ => rfl
  | n + 1, v, h => by
    simp only [sm]
    rw [h v (by omega) (by omega), sm_congr n (v + 1) (fun j h1 h2 => h j (by omega) (by omega))]
theorem sm_bd {G : Int → Int} {a b : Int} : ∀ (n : Nat) (v : Int), (∀ j : Int, v ≤ j → j < v + n → a ≤ G j ∧ G j ≤ b) → a * n ≤ sm G n v ∧ sm G n v ≤ b * n
  | 0, v, h => by simp [sm]
  | n + 1, v, h => by
    have h0 := h v (by omega) (by omega)
    have h1 := sm_bd n (v + 1) (fun j h1 h2 => h j (by omega) (by omega))
    simp only [sm]
    push_cast
    rw [Int.mul_add, Int.mul_add, Int.mul_one, Int.mul_one]
    omega
/-- the first v up to N that P holds of, or the end -/
theorem loop_find {R : Type} (F : Nat → Int → R) (kf : Int → R) (ke : R) (P : Int → Prop) [DecidablePred P] (N : Int) (I : Int → Prop)
    (h : ∀ fu v, I v → F (fu + 1) v = if v < N then (if P v then kf v else F fu (v + 1)) else ke) (hI : ∀ v, I v → v < N → I (v + 1)) :
    ∀ (n fu : Nat) (v : Int), I v → v + n = N → n < fu → (∃ j, v ≤ j ∧ j < N ∧ P j ∧ (∀ i, v ≤ i → i < j → ¬ P i) ∧ F fu v = kf j) ∨ ((∀ j, v ≤ j → j < N → ¬ P j) ∧ F fu v = ke)
  | 0, fu + 1, v, hi, hn, _ => by
    refine Or.inr ⟨fun j h1 h2 => by omega, ?_⟩
    rw [h fu v hi, if_neg (by omega)]
  | n + 1, fu + 1, v, hi, hn, hf => by
    rw [h fu v hi, if_pos (by omega)]
    by_cases q : P v
    · rw [if_pos q]
      exact Or.inl ⟨v, by omega, by omega, q, fun i h1 h2 => by omega, rfl⟩
    · rw [if_neg q]
      rcases loop_find F kf ke P N I h hI n fu (v + 1) (hI v hi (by omega)) (by omega) (by omega) with ⟨j, h1, h2, h3, h4, h5⟩ | ⟨h1, h2⟩
      · refine Or.inl ⟨j, by omega, h2, h3, fun i a b => ?_, h5⟩
        by_cases e : i = v
        · subst e; exact q
        · exact h4 i (by omega) b
      · refine Or.inr ⟨fun j a b => ?_, h2⟩
        by_cases e : j = v
        · subst e; exact q
        · exact h1 j (by omega) b

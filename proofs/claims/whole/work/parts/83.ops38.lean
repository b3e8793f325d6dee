/-! append -/
theorem and255 (x : Int) : 0 ≤ andI x 255 ∧ andI x 255 ≤ 255 := by
  have e : andI x 255 = ((iI x).toBitVec &&& (iI 255).toBitVec).toInt := rfl
  have t : (iI 255).toBitVec.toNat = 255 := by decide
  have n : ((iI x).toBitVec &&& (iI 255).toBitVec).toNat ≤ 255 := by
    rw [BitVec.toNat_and, t]; exact Nat.and_le_right
  have p : (2 : Nat) ^ 32 = 4294967296 := by decide
  have i := BitVec.toInt_eq_toNat_of_lt (x := (iI x).toBitVec &&& (iI 255).toBitVec) (by omega)
  rw [e, i]; omega
theorem char_k : ∀ x : Fin 256, charI (x.val : Int) = (x.val : Int) := by decide +kernel
theorem char_id {x : Int} (h : 0 ≤ x ∧ x ≤ 255) : charI x = x := by
  have := char_k ⟨x.toNat, by omega⟩
  have e : ((x.toNat : Nat) : Int) = x := by omega
  simp only [e] at this
  exact this
/-- byte n of an int, from the least on -/
def S_by (p : Int) (n : Nat) : Int := andI (ushrI p (8 * (n : Int))) 255
theorem by_bd {p : Int} {n : Nat} : 0 ≤ S_by p n ∧ S_by p n ≤ 255 := and255 _
def S_byl (p : Int) : Nat → List Int
  | 0 => []
  | n + 1 => if S_by p n = 0 then S_byl p n else S_by p n :: S_byl p n
def S_bok (p : Int) : Nat → Prop
  | 0 => True
  | n + 1 => (S_by p n = 0 ∨ (33 ≤ S_by p n ∧ S_by p n ≤ 126)) ∧ S_bok p n
theorem bl_len {p : Int} : ∀ n : Nat, (S_byl p n).length ≤ n
  | 0 => Nat.le_refl _
  | n + 1 => by
    have := bl_len (p := p) n
    simp only [S_byl]
    split
    · omega
    · simp only [List.length_cons]; omega
theorem bl_ok {p : Int} : ∀ n : Nat, S_bok p n → ∀ i : Nat, i < (S_byl p n).length → 33 ≤ (S_byl p n).getD i 0 ∧ (S_byl p n).getD i 0 ≤ 126
  | 0, _, i, h => by simp [S_byl] at h
  | n + 1, hk, i, h => by
    have ih := bl_ok n hk.2
    have h0 := hk.1
    simp only [S_byl] at h ⊢
    by_cases z : S_by p n = 0
    · rw [if_pos z] at h ⊢
      exact ih i h
    · rw [if_neg z] at h ⊢
      cases i with
      | zero => exact h0.resolve_left z
      | succ i =>
        simp only [List.length_cons] at h
        exact ih i (by omega)
theorem c_app1 {p : Int} {k : Int → Mu → Option Res} {μ : Mu} : ∀ (n fu : Nat) (v : Int), n < fu → n ≤ 4 → (S_bok p n → f_X10_append_5 p k fu v (8 * (n : Int) + (-8)) μ = k (v + ((S_byl p n).length : Int)) μ) ∧ (¬ S_bok p n → f_X10_append_5 p k fu v (8 * (n : Int) + (-8)) μ = some (μ, 2, 0))
  | 0, fu + 1, v, hf, h4 => by
    refine ⟨fun _ => ?_, fun w => absurd trivial w⟩
    rw [f_X10_append_5, p_lt (by omega), if_pos (by omega)]
    show k v μ = k (v + 0) μ
    rw [Int.add_zero]
  | n + 1, fu + 1, v, hf, h4 => by
    have eb : andI (ushrI p (8 * ((n + 1 : Nat) : Int) + (-8))) 255 = S_by p n := by
      unfold S_by
      rw [show 8 * ((n + 1 : Nat) : Int) + (-8) = 8 * (n : Int) by omega]
    have e8 : 8 * ((n + 1 : Nat) : Int) + (-8) + (-8) = 8 * (n : Int) + (-8) := by omega
    have bb := by_bd (p := p) (n := n)
    rw [f_X10_append_5, p_lt (by omega), if_neg (by omega), eb, p_bnd, p_eq (by omega)]
    unfold f_X10_append_35
    rw [e8]
    simp only [S_byl, S_bok]
    by_cases z : S_by p n = 0
    · have ih := c_app1 (p := p) (k := k) (μ := μ) n fu v (by omega) (by omega)
      rw [if_pos z, if_pos z]
      exact ⟨fun w => ih.1 w.2, fun w => ih.2 (fun y => w ⟨Or.inl z, y⟩)⟩
    · have ih := c_app1 (p := p) (k := k) (μ := μ) n fu (v + 1) (by omega) (by omega)
      rw [if_neg z, if_neg z, c_reqR (by unfold iG; omega) (by unfold iG; omega) (by unfold iG; omega)]
      by_cases y : 33 ≤ S_by p n ∧ S_by p n ≤ 126
      · rw [if_pos y, p_rb]
        refine ⟨fun w => ?_, fun w => ih.2 (fun x => w ⟨Or.inr y, x⟩)⟩
        rw [ih.1 w.2, List.length_cons, show v + 1 + ((S_byl p n).length : Int) = v + (((S_byl p n).length + 1 : Nat) : Int) by omega]
      · rw [if_neg y]
        exact ⟨fun w => absurd (w.1.resolve_left z) y, fun _ => rfl⟩
theorem r_app1 {p : Int} {k : Int → Mu → Option Res} {kx : Mu → Option Res} {μ : Mu} : ∀ (n fu : Nat) (v : Int), n < fu → n ≤ 4 → (S_bok p n → f_X11_append_10 p kx k fu v (8 * (n : Int) + (-8)) μ = k (v + ((S_byl p n).length : Int)) μ) ∧ (¬ S_bok p n → f_X11_append_10 p kx k fu v (8 * (n : Int) + (-8)) μ = kx μ)
  | 0, fu + 1, v, hf, h4 => by
    refine ⟨fun _ => ?_, fun w => absurd trivial w⟩
    rw [f_X11_append_10, p_lt (by omega), if_pos (by omega)]
    show k v μ = k (v + 0) μ
    rw [Int.add_zero]
  | n + 1, fu + 1, v, hf, h4 => by
    have eb : andI (ushrI p (8 * ((n + 1 : Nat) : Int) + (-8))) 255 = S_by p n := by
      unfold S_by
      rw [show 8 * ((n + 1 : Nat) : Int) + (-8) = 8 * (n : Int) by omega]
    have e8 : 8 * ((n + 1 : Nat) : Int) + (-8) + (-8) = 8 * (n : Int) + (-8) := by omega
    have bb := by_bd (p := p) (n := n)
    have t46 : ∀ m : Mu, f_X11_append_46 p (f_X11_append_10 p kx k fu) v (8 * ((n + 1 : Nat) : Int) + (-8)) (S_by p n) m = if S_by p n = 0 then f_X11_append_10 p kx k fu v (8 * (n : Int) + (-8)) m else f_X11_append_10 p kx k fu (v + 1) (8 * (n : Int) + (-8)) m := fun m => by
      unfold f_X11_append_46 f_X11_append_57
      rw [p_eq (by omega), p_bnd, p_bnd, e8, Int.add_zero]
    rw [f_X11_append_10, p_lt (by omega), if_neg (by omega), eb, p_bnd, p_eq (by omega)]
    simp only [S_byl, S_bok]
    by_cases z : S_by p n = 0
    · have ih := r_app1 (p := p) (k := k) (kx := kx) (μ := μ) n fu v (by omega) (by omega)
      rw [if_pos z, if_pos z, t46, if_pos z]
      exact ⟨fun w => ih.1 w.2, fun w => ih.2 (fun y => w ⟨Or.inl z, y⟩)⟩
    · have ih := r_app1 (p := p) (k := k) (kx := kx) (μ := μ) n fu (v + 1) (by omega) (by omega)
      rw [if_neg z, if_neg z, r_in (by unfold iG; omega) (by unfold iG; omega) (by unfold iG; omega), p_rb]
      by_cases y : 33 ≤ S_by p n ∧ S_by p n ≤ 126
      · rw [b2_t y, p_eq (by omega), if_neg (by omega), t46, if_neg z]
        refine ⟨fun w => ?_, fun w => ih.2 (fun x => w ⟨Or.inr y, x⟩)⟩
        rw [ih.1 w.2, List.length_cons, show v + 1 + ((S_byl p n).length : Int) = v + (((S_byl p n).length + 1 : Nat) : Int) by omega]
      · rw [b2_f y, p_eq (by omega), if_pos rfl]
        exact ⟨fun w => absurd (w.1.resolve_left z) y, fun _ => rfl⟩
/-- L cells of row A stand, and l behind them -/
def TX (μ μ' : Mu) (A B kB : Nat) (L : Int) (l : List Int) : Prop := (∀ a k : Nat, a ≠ A → ¬ (a = B ∧ k = kB) → μ' a k = μ a k) ∧ (∀ i : Nat, (i : Int) < L → μ' A i = μ A i) ∧ (∀ i : Nat, i < l.length → μ' A (L.toNat + i) = l.getD i 0) ∧ μ' B kB = L + (l.length : Int)
theorem TX.nil {μ : Mu} {A B kB : Nat} {L : Int} (h : μ B kB = L) : TX μ μ A B kB L [] := ⟨fun _ _ _ _ => rfl, fun _ _ => rfl, fun i h => absurd h (Nat.not_lt_zero _), by rw [h]; exact (Int.add_zero L).symm⟩
theorem TX.cons {μ μ' : Mu} {A B kB : Nat} {L x : Int} {l : List Int} (hAB : A ≠ B) (h0 : 0 ≤ L) (h : TX (up2 (up2 μ A L.toNat x) B kB (L + 1)) μ' A B kB (L + 1) l) : TX μ μ' A B kB L (x :: l) := by
  obtain ⟨h1, h2, h3, h4⟩ := h
  refine ⟨fun a k y z => ?_, fun i hi => ?_, fun i hi => ?_, ?_⟩
  · rw [h1 a k y z, up2_eq, if_neg z, up2_o y]
  · rw [h2 i (by omega), up2_o hAB, up2_k (by omega)]
  · cases i with
    | zero =>
      have := h2 L.toNat (by omega)
      rw [up2_o hAB, up2_s] at this
      exact this
    | succ i =>
      simp only [List.length_cons] at hi
      have := h3 i (by omega)
      rw [show (L + 1).toNat + i = L.toNat + (i + 1) by omega] at this
      exact this
  · rw [h4, List.length_cons]; omega
theorem c_app2 {p : Int} {k : Mu → Option Res} : ∀ (n fu : Nat) (L : Int) (μ : Mu), n < fu → n ≤ 4 → μ 219 2 = L → 0 ≤ L → L + ((S_byl p n).length : Int) ≤ 60 → ∃ μ', f_X10_append_68 p k fu (8 * (n : Int) + (-8)) μ = k μ' ∧ TX μ μ' 220 219 2 L (S_byl p n)
  | 0, fu + 1, L, μ, hf, h4, hL, h0, h6 => by
    refine ⟨μ, ?_, TX.nil hL⟩
    rw [f_X10_append_68, p_lt (by omega), if_pos (by omega)]
  | n + 1, fu + 1, L, μ, hf, h4, hL, h0, h6 => by
    have eb : andI (ushrI p (8 * ((n + 1 : Nat) : Int) + (-8))) 255 = S_by p n := by
      unfold S_by
      rw [show 8 * ((n + 1 : Nat) : Int) + (-8) = 8 * (n : Int) by omega]
    have e8 : 8 * ((n + 1 : Nat) : Int) + (-8) + (-8) = 8 * (n : Int) + (-8) := by omega
    have bb := by_bd (p := p) (n := n)
    rw [f_X10_append_68, p_lt (by omega), if_neg (by omega), eb, e8]
    unfold f_X8_store f_X8_store_34
    rw [p_eq (by omega)]
    simp only [S_byl] at h6 ⊢
    by_cases z : S_by p n = 0
    · rw [if_pos z] at h6
      obtain ⟨μ', a1, a2⟩ := c_app2 (p := p) (k := k) n fu L μ (by omega) (by omega) hL h0 h6
      rw [if_pos z, p_rb, if_pos z]
      exact ⟨μ', a1, a2⟩
    · rw [if_neg z, List.length_cons] at h6
      obtain ⟨μ', a1, a2⟩ := c_app2 (p := p) (k := k) n fu (L + 1) (up2 (up2 μ 220 L.toNat (S_by p n)) 219 2 (L + 1)) (by omega) (by omega) up2_s (by omega) (by omega)
      rw [if_neg z, p_rdF, hL, p_lt (by omega), if_pos (by omega), p_rdF, hL, char_id bb, p_wrC (by omega), p_wrI (by omega), p_rdF, up2_o (by omega), hL, p_wrF, p_rb, if_neg z]
      exact ⟨μ', a1, a2.cons (by omega) h0⟩
theorem r_app2 {p : Int} {k : Mu → Option Res} : ∀ (n fu : Nat) (L : Int) (μ : Mu), n < fu → n ≤ 4 → μ 248 8 = L → 0 ≤ L → L + ((S_byl p n).length : Int) ≤ 60 → ∃ μ', f_X11_append_85 p k fu (8 * (n : Int) + (-8)) μ = k μ' ∧ TX μ μ' 253 248 8 L (S_byl p n)
  | 0, fu + 1, L, μ, hf, h4, hL, h0, h6 => by
    refine ⟨μ, ?_, TX.nil hL⟩
    rw [f_X11_append_85, p_lt (by omega), if_pos (by omega)]
  | n + 1, fu + 1, L, μ, hf, h4, hL, h0, h6 => by
    have eb : andI (ushrI p (8 * ((n + 1 : Nat) : Int) + (-8))) 255 = S_by p n := by
      unfold S_by
      rw [show 8 * ((n + 1 : Nat) : Int) + (-8) = 8 * (n : Int) by omega]
    have e8 : 8 * ((n + 1 : Nat) : Int) + (-8) + (-8) = 8 * (n : Int) + (-8) := by omega
    have bb := by_bd (p := p) (n := n)
    rw [f_X11_append_85, p_lt (by omega), if_neg (by omega), eb, p_bnd, p_eq (by omega)]
    unfold f_X11_append_124
    rw [e8]
    simp only [S_byl] at h6 ⊢
    by_cases z : S_by p n = 0
    · rw [if_pos z] at h6
      obtain ⟨μ', a1, a2⟩ := r_app2 (p := p) (k := k) n fu L μ (by omega) (by omega) hL h0 h6
      rw [if_pos z, if_pos z]
      exact ⟨μ', a1, a2⟩
    · rw [if_neg z, List.length_cons] at h6
      obtain ⟨μ', a1, a2⟩ := r_app2 (p := p) (k := k) n fu (L + 1) (up2 (up2 μ 253 L.toNat (S_by p n)) 248 8 (L + 1)) (by omega) (by omega) up2_s (by omega) (by omega)
      rw [if_neg z, p_rdF, hL, p_wrI (by omega), p_rdF, up2_o (by omega), hL, p_wrF, if_neg z]
      exact ⟨μ', a1, a2.cons (by omega) h0⟩
/-- the text changes, and what was read from it -/
theorem Inv.txt {T : Int} {μ μ2 : Mu} (I : Inv T μ) (h : ∀ a k : Nat, ¬ jk a k → ¬ (219 ≤ a ∧ a ≤ 222) → a ≠ 253 → a ≠ 251 → ¬ (a = 248 ∧ (k = 8 ∨ k = 9)) → μ2 a k = μ a k)
    (t : (0 ≤ μ2 219 2 ∧ μ2 219 2 ≤ 60 ∧ μ2 248 8 = μ2 219 2) ∧ (-1 ≤ μ2 219 3 ∧ μ2 219 3 ≤ 60 ∧ μ2 248 9 = μ2 219 3) ∧ ∀ i : Int, 0 ≤ i → i < μ2 219 2 → μ2 253 i.toNat = μ2 220 i.toNat ∧ 33 ≤ μ2 220 i.toNat ∧ μ2 220 i.toNat ≤ 126) : Inv T μ2 := by
  obtain ⟨⟨i1, i2⟩, ⟨i3, i4⟩, ⟨i5, i6, i7, i8⟩, -, ⟨i12, i13, i14⟩⟩ := I
  have e : ∀ a : Nat, (a ≠ 24 ∧ ¬ (25 ≤ a ∧ a ≤ 48) ∧ ¬ (219 ≤ a ∧ a ≤ 222) ∧ ¬ (227 ≤ a ∧ a ≤ 248) ∧ a ≠ 251 ∧ a ≠ 253 ∧ ¬ (255 ≤ a ∧ a ≤ 260)) → μ2 a = μ a := fun a ha => funext fun k => h a k (by unfold jk; omega) (by omega) (by omega) (by omega) (by omega)
  have e248 : ∀ k : Nat, k ≠ 0 → k < 13 → k ≠ 8 → k ≠ 9 → μ2 248 k = μ 248 k := fun k x y z w => h 248 k (by unfold jk; omega) (by omega) (by omega) (by omega) (by omega)
  refine ⟨⟨?_, ?_⟩, ⟨?_, ?_⟩, ⟨?_, ?_, ?_, fun j x y => ?_⟩, t, ⟨?_, ?_, ?_⟩⟩
  · rw [e 249 (by omega)]; exact i1.keep (fun a x y => e a (by omega))
  · rw [e 249 (by omega)]; exact i2
  · rw [e248 6 (by omega) (by omega) (by omega) (by omega), e 0 (by omega)]; exact i3
  · rw [e 0 (by omega), e 250 (by omega)]
    intro w
    exact ⟨(i4 w).1.keep (fun a x y => e a (by omega)), (i4 w).2⟩
  · rw [e 73 (by omega)]; exact i5
  · rw [e 73 (by omega)]; exact i6
  · rw [e248 5 (by omega) (by omega) (by omega) (by omega), e 73 (by omega)]; exact i7
  · rw [e 73 (by omega)] at y
    have hr : ring μ2 j = ring μ j := by unfold ring; rw [e 73 (by omega)]
    have hs : slice μ2 j = slice μ j := by unfold slice; rw [e 252 (by omega)]
    have rb : 75 ≤ ring μ j ∧ ring μ j + 24 ≤ 219 := by unfold ring; omega
    rw [hr, hs]
    exact ⟨(i8 j x y).1.keep (fun a x y => e a (by omega)), (i8 j x y).2⟩
  · rw [e 223 (by omega)]; exact i12
  · rw [e248 11 (by omega) (by omega) (by omega) (by omega), e 223 (by omega)]; exact i13
  · rw [e 254 (by omega), e 224 (by omega), e 225 (by omega)]; exact i14
theorem o_append {T : Int} {μ : Mu} (I : Inv T μ) {w1 : Int} (h1 : iG w1) : OK T (lc_append w1 μ) := by
  obtain ⟨⟨t1, t2, t3⟩, te, tc⟩ := I.2.2.2.1
  have hl := bl_len (p := w1) 4
  have ca := c_app1 (p := w1) (k := fun v2 μ => rdF μ 219 2 fun x1 => i_lt 60 (x1 + v2) (some (μ, 1, 0)) (f_X10_append_68 w1 (fun μ => rdF μ 219 2 fun x2 => some (μ, 0, x2)) FU 24 μ)) (μ := μ) 4 FU 0 (by unfold FU; omega) (by omega)
  have ra := fun m : Mu => r_app1 (p := w1) (kx := fun μ => rb (f_X11_fails 1 μ) fun μ x1 => some (μ, 0, x1)) (k := fun v2 μ => rdF μ 248 8 fun x2 => i_lt 60 (x2 + v2) (rb (f_X11_fails 2 μ) fun μ x4 => some (μ, 0, x4)) (f_X11_append_85 w1 (fun μ => rdF μ 248 8 fun x3 => some (μ, 0, x3)) FU 24 μ)) (μ := m) 4 FU 0 (by unfold FU; omega) (by omega)
  have e24 : 8 * ((4 : Nat) : Int) + (-8) = 24 := by omega
  rw [e24] at ca
  rw [e24] at ra
  unfold lc_append
  by_cases k : S_bok w1 4
  · have c1 : f_X10_append w1 μ = rdF μ 219 2 fun x1 => i_lt 60 (x1 + (0 + ((S_byl w1 4).length : Int))) (some (μ, 1, 0)) (f_X10_append_68 w1 (fun μ => rdF μ 219 2 fun x2 => some (μ, 0, x2)) FU 24 μ) := ca.1 k
    rw [p_rdF, p_lt (by omega)] at c1
    have r1 : ∀ m : Mu, f_X11_append w1 m = rdF (up2 m 248 0 0) 248 8 fun x2 => i_lt 60 (x2 + (0 + ((S_byl w1 4).length : Int))) (rb (f_X11_fails 2 (up2 m 248 0 0)) fun μ x4 => some (μ, 0, x4)) (f_X11_append_85 w1 (fun μ => rdF μ 248 8 fun x3 => some (μ, 0, x3)) FU 24 (up2 m 248 0 0)) := fun m => (ra (up2 m 248 0 0)).1 k
    by_cases z : 60 < μ 219 2 + (0 + ((S_byl w1 4).length : Int))
    · refine op_ex I (e := 0) (i := 1) (x := 0) (b := 0) (μ2 := up2 (up2 μ 248 0 0) 248 0 2) ?_ rfl (by omega) ?_ (JT.th.up (by unfold jT; omega)) up2_s
      · rw [c1, if_pos z]
      · rw [r1 μ, p_rdF, up2_k (by omega), t3, p_lt (by omega), if_pos z]; rfl
    · obtain ⟨μ1, a1, A1, A2, A3, A4⟩ := c_app2 (p := w1) (k := fun μ => rdF μ 219 2 fun x2 => some (μ, 0, x2)) 4 FU (μ 219 2) μ (by unfold FU; omega) (by omega) rfl t1 (by omega)
      rw [e24] at a1
      have a1 : f_X10_append_68 w1 (fun μ => rdF μ 219 2 fun x2 => some (μ, 0, x2)) FU 24 μ = some (μ1, 0, μ1 219 2) := a1
      rw [if_neg z, a1, A4] at c1
      have hx : iG (μ 219 2 + ((S_byl w1 4).length : Int)) := by unfold iG; omega
      have b8 : (up2 (up2 μ1 260 0 (μ 219 2 + ((S_byl w1 4).length : Int))) 248 0 0) 248 8 = μ 219 2 := by
        rw [up2_k (by omega), up2_o (by omega), A1 248 8 (by omega) (by omega), t3]
      obtain ⟨μ2, b1, B1, B2, B3, B4⟩ := r_app2 (p := w1) (k := fun μ => rdF μ 248 8 fun x3 => some (μ, 0, x3)) 4 FU (μ 219 2) (up2 (up2 μ1 260 0 (μ 219 2 + ((S_byl w1 4).length : Int))) 248 0 0) (by unfold FU; omega) (by omega) b8 t1 (by omega)
      rw [e24] at b1
      have b1 : f_X11_append_85 w1 (fun μ => rdF μ 248 8 fun x3 => some (μ, 0, x3)) FU 24 (up2 (up2 μ1 260 0 (μ 219 2 + ((S_byl w1 4).length : Int))) 248 0 0) = some (μ2, 0, μ2 248 8) := b1
      have q1 : f_X11_append w1 (up2 μ1 260 0 (μ 219 2 + ((S_byl w1 4).length : Int))) = some (μ2, 0, μ 219 2 + ((S_byl w1 4).length : Int)) := by
        rw [r1, p_rdF, b8, p_lt (by omega), if_neg z, b1, B4]
      have lo : ∀ a k : Nat, a ≠ 220 → a ≠ 253 → a ≠ 248 → a ≠ 260 → ¬ (a = 219 ∧ k = 2) → μ2 a k = μ a k := fun a k x y z w u => by
        rw [B1 a k y (by omega), up2_o z, up2_o w, A1 a k x u]
      refine ⟨μ2, lc_ok c1 (hg0 hx) q1 ?_ ?_ (cI_ok hx), Inv.up (I.txt (fun a k x y z _ w => ?_) ⟨?_, ?_, fun i x y => ?_⟩) (by omega)⟩
      · rw [B1 248 0 (by omega) (by omega), up2_s]
      · rw [B1 260 0 (by omega) (by omega), up2_o (by omega), up2_s]
      · unfold jk at x
        rw [B1 a k z (by omega), up2_eq, if_neg (by omega), up2_o (by omega), A1 a k (by omega) (by omega)]
      · have e2 : μ2 219 2 = μ 219 2 + ((S_byl w1 4).length : Int) := by rw [B1 219 2 (by omega) (by omega), up2_o (by omega), up2_o (by omega), A4]
        rw [e2, B4]; omega
      · have e9 : μ2 248 9 = μ 248 9 := by rw [B1 248 9 (by omega) (by omega), up2_k (by omega), up2_o (by omega), A1 248 9 (by omega) (by omega)]
        rw [lo 219 3 (by omega) (by omega) (by omega) (by omega) (by omega), e9]; exact te
      · have e2 : μ2 219 2 = μ 219 2 + ((S_byl w1 4).length : Int) := by rw [B1 219 2 (by omega) (by omega), up2_o (by omega), up2_o (by omega), A4]
        rw [e2] at y
        have r0 : μ2 220 i.toNat = μ1 220 i.toNat := by rw [B1 220 _ (by omega) (by omega), up2_o (by omega), up2_o (by omega)]
        rw [r0]
        by_cases v : i < μ 219 2
        · rw [A2 _ (by omega), B2 _ (by omega), up2_o (by omega), up2_o (by omega), A1 253 _ (by omega) (by omega)]
          exact tc i x v
        · have a3 := A3 (i - μ 219 2).toNat (by omega)
          have b3 := B3 (i - μ 219 2).toNat (by omega)
          rw [show (μ 219 2).toNat + (i - μ 219 2).toNat = i.toNat by omega] at a3 b3
          rw [a3, b3]
          exact ⟨rfl, bl_ok 4 k _ (by omega)⟩
  · refine op_ex I (e := 1) (i := 0) (x := 0) (b := 0) (μ2 := up2 (up2 μ 248 0 0) 248 0 1) (ca.2 k) rfl (by omega) ?_ (JT.th.up (by unfold jT; omega)) up2_s
    exact (ra (up2 μ 248 0 0)).2 k

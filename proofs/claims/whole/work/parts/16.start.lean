/-! the skeleton that the constructors leave is the layout -/
theorem arrV_ext9 (cI : ClassId) {N : Nat} {f g : Nat → Value} (h : ∀ j, j < N → f j = g j) : arrV cI N f = arrV cI N g := by
  unfold arrV
  have : (Array.ofFn (n := N) fun j => f j.val) = Array.ofFn (n := N) fun j => g j.val := congrArg _ (funext fun j => h j.val j.isLt)
  rw [this]
def kSame (a b : Kd) : Prop := match a, b with
  | .inl (t, n, rf), .inl (t', n', rf') => t = t' ∧ n = n' ∧ ∀ j, j < n → rf j = rf' j
  | .inr (c, rf), .inr (c', rf') => c = c' ∧ rf = rf'
  | _, _ => False
theorem kSame_rfl (a : Kd) : kSame a a := by
  rcases a with ⟨t, n, rf⟩ | ⟨c, rf⟩
  · exact ⟨rfl, rfl, fun _ _ => rfl⟩
  · exact ⟨rfl, rfl⟩
theorem kAt_same {X : kX} {g : Nat → Int} {a b : Kd} (h : kSame a b) {q : Nat} {H : Heap} (h1 : va_at X.2.1 kCl (q, kE X g a) H) : va_at X.2.1 kCl (q, kE X g b) H := by
  rcases a with ⟨t, n, rf⟩ | ⟨c, rf⟩ <;> rcases b with ⟨t', n', rf'⟩ | ⟨c', rf'⟩
  · obtain ⟨rfl, rfl, h⟩ := h
    have e : vp_cell (X.2.2.1 t) (kArr X.1 t n g rf) = vp_cell (X.2.2.1 t) (kArr X.1 t n g rf') := by
      match t with
      | 0 => rfl
      | 1 => rfl
      | 2 => rfl
      | t + 3 =>
        show arrV _ n (fun j => va_rf ((rf j).map fun a => X.1 + a)) = arrV _ n (fun j => va_rf ((rf' j).map fun a => X.1 + a))
        refine arrV_ext9 _ (fun j hj => ?_)
        rw [h j hj]
    show H[q]? = some (vp_cell (X.2.2.1 t) (kArr X.1 t n g rf'))
    rw [← e]
    exact h1
  · exact h.elim
  · exact h.elim
  · obtain ⟨rfl, rfl⟩ := h; exact h1
theorem kHp_same {X : kX} {sk sk' : List Kd} {ex : Bool} {μ : Mu} {H : Heap} (hl : sk.length = sk'.length) (h : ∀ (i : Nat) (a b : Kd), sk[i]? = some a → sk'[i]? = some b → kSame a b) (h1 : kHp X sk ex μ H) : kHp X sk' ex μ H := by
  refine ⟨fun k q hq => ?_, fun h9 => by rw [← hl]; exact h1.2 h9⟩
  have hk : k < sk'.length := by
    have := (List.getElem?_eq_some_iff.mp hq).1
    rw [kW_len] at this; exact this
  have e2 := kW_get (X := X) (μ := μ) (List.getElem?_eq_getElem hk)
  rw [e2] at hq
  have hk' : k < sk.length := by rw [hl]; exact hk
  have e1 := kW_get (X := X) (μ := μ) (List.getElem?_eq_getElem hk')
  cases hq
  exact kAt_same (h k _ _ (List.getElem?_eq_getElem hk') (List.getElem?_eq_getElem hk)) (h1.1 k _ e1)
theorem rN_X0 (b : Nat) : (rfu (rfu (rfu (fun _ => none) 0 (b + 1)) 1 (b + 2)) 2 (b + 3)) = rfX0 b := by
  funext k; rcases k with _ | _ | _ | k <;> rfl
theorem rN_X7 (b : Nat) : (rfu (rfu (rfu (fun _ => none) 0 (b + 1)) 1 (b + 2)) 2 (b + 3)) = rfX7 b := by
  funext k; rcases k with _ | _ | _ | k <;> rfl
theorem rN_X3 (b : Nat) : (rfu (rfu (rfu (rfu (fun _ => none) 0 (b + 1)) 1 (b + 2)) 2 (b + 3)) 3 (b + 4)) = rfX3 b := by
  funext k; rcases k with _ | _ | _ | _ | k <;> rfl
theorem rN_X2 (b : Nat) : (rfu (rfu (fun _ => none) 0 (b + 1)) 1 (b + 2)) = rfX2 b := by
  funext k; rcases k with _ | _ | k <;> rfl
theorem rN_X5 (b : Nat) : (rfu (fun _ => none) 0 (b + 1)) = rfX5 b := by
  funext k; rcases k with _ | k <;> rfl
theorem kN_X0_eq (b : Nat) : kN_X0 b = ksX0 b := by unfold kN_X0; rw [rN_X0]; rfl
theorem kN_X7_eq (b : Nat) : kN_X7 b = ksX7 b := by unfold kN_X7; rw [rN_X7]; rfl
theorem kN_X3_eq (b : Nat) : kN_X3 b = ksX3 b := by unfold kN_X3; rw [rN_X3]; rfl
theorem kN_X2_eq (b : Nat) : kN_X2 b = ksX2 b := by unfold kN_X2; rw [rN_X2]; rfl
theorem kN_X5_eq (b : Nat) : kN_X5 b = ksX5 b := by unfold kN_X5; rw [rN_X5]; rfl
theorem rN_X1 (b : Nat) : (rfu (rfu (rfu (rfu (rfu (rfu (rfu (rfu (rfu (rfu (rfu (fun _ => none) 0 (b + 1)) 1 (b + 2)) 2 (b + 3)) 3 (b + 4)) 4 (b + 5)) 5 (b + 6)) 6 (b + 7)) 7 (b + 11)) 8 (b + 16)) 9 (b + 19)) 11 (b + 23)) = rfX1 b := by
  funext k; rcases k with _ | _ | _ | _ | _ | _ | _ | _ | _ | _ | _ | _ | k <;> rfl
theorem kN_X1_eq (b : Nat) : kN_X1 b = ksX1 b := by unfold kN_X1; rw [rN_X1, kN_X7_eq, kN_X3_eq, kN_X2_eq, kN_X0_eq]; rfl
theorem rN_X10 : (rfu (rfu (rfu (rfu (rfu (rfu (rfu (rfu (fun _ => none) 0 (0 + 1)) 1 (0 + 25)) 2 (0 + 49)) 4 (0 + 73)) 5 (0 + 219)) 6 (0 + 223)) 7 (0 + 226)) 8 (0 + 227)) = rfX10 := by
  funext k; rcases k with _ | _ | _ | _ | _ | _ | _ | _ | _ | k <;> rfl
theorem rN_X4 : (rfu (fun _ => none) 0 (0 + 73 + 1)) = rfX4 := by
  funext k; rcases k with _ | k <;> rfl
theorem rN_X8 : (rfu (rfu (rfu (fun _ => none) 0 (0 + 219 + 1)) 7 (0 + 219 + 2)) 8 (0 + 219 + 3)) = rfX8 := by
  funext k; rcases k with _ | _ | _ | _ | _ | _ | _ | _ | _ | k <;> rfl
theorem rN_X6 : (rfu (rfu (fun _ => none) 0 (0 + 223 + 1)) 1 (0 + 223 + 2)) = rfX6 := by
  funext k; rcases k with _ | _ | k <;> rfl
theorem rN_X9 : (rfu (rfu (rfu (rfu (fun _ => none) 0 (0 + 227 + 1)) 1 (0 + 227 + 2)) 2 (0 + 227 + 3)) 3 (0 + 227 + 4)) = rfX9 := by
  funext k; rcases k with _ | _ | _ | _ | k <;> rfl
theorem rN_X11 : (rfu (rfu (rfu (rfu (rfu (rfu (rfu (rfu (rfu (rfu (rfu (fun _ => none) 1 (248 + 1)) 2 (248 + 2)) 3 (248 + 3)) 4 (248 + 4)) 7 (248 + 5)) 10 (248 + 6)) 12 (248 + 7)) 14 (248 + 8)) 25 (248 + 9)) 26 (248 + 10)) 27 (248 + 11)) = rfX11 := by
  funext k; rcases k with _ | _ | _ | _ | _ | _ | _ | _ | _ | _ | _ | _ | _ | _ | _ | _ | _ | _ | _ | _ | _ | _ | _ | _ | _ | _ | _ | _ | k <;> rfl
def rfPast : Nat → Option Nat := (rfu (rfu (rfu (rfu (rfu (rfu (fun _ => none) 0 (0 + 73 + 2)) 1 (0 + 73 + 26)) 2 (0 + 73 + 50)) 3 (0 + 73 + 74)) 4 (0 + 73 + 98)) 5 (0 + 73 + 122))
def rfOuts : Nat → Option Nat := (rfu (rfu (rfu (rfu (rfu (rfu (rfu (rfu (fun _ => none) 0 (0 + 232)) 1 (0 + 234)) 2 (0 + 236)) 3 (0 + 238)) 4 (0 + 240)) 5 (0 + 242)) 6 (0 + 244)) 7 (0 + 246))
def SK9 : List Kd := (SK.set 74 (.inl (3, 6, rfPast))).set 226 (.inl (4, 8, rfOuts))
set_option maxRecDepth 100000 in
theorem kN_all : (kN_X10 0 ++ kN_X11 248) ++ [.inl (2, 1, fun _ => none)] = SK9 := by
  unfold kN_X10 kN_X4 kN_X8 kN_X6 kN_X9 kN_X11
  rw [rN_X10, rN_X4, rN_X8, rN_X6, rN_X9, rN_X11, kN_X1_eq (0 + 1), kN_X1_eq (0 + 25), kN_X1_eq (0 + 49), kN_X1_eq (0 + 73 + 2), kN_X1_eq (0 + 73 + 26), kN_X1_eq (0 + 73 + 50), kN_X1_eq (0 + 73 + 74), kN_X1_eq (0 + 73 + 98), kN_X1_eq (0 + 73 + 122), kN_X5_eq (0 + 232), kN_X5_eq (0 + 234), kN_X5_eq (0 + 236), kN_X5_eq (0 + 238), kN_X5_eq (0 + 240), kN_X5_eq (0 + 242), kN_X5_eq (0 + 244), kN_X5_eq (0 + 246)]
  rfl
theorem SK9_same : ∀ (i : Nat) (a b : Kd), SK9[i]? = some a → SK[i]? = some b → kSame a b := by
  intro i a b h1 h2
  unfold SK9 at h1
  rw [List.getElem?_set, List.getElem?_set] at h1
  by_cases e1 : 226 = i
  · subst e1
    rw [if_pos rfl, if_pos (by rw [List.length_set]; exact (List.getElem?_eq_some_iff.mp sk_226).1)] at h1
    rw [sk_226] at h2
    cases h1; cases h2
    refine ⟨rfl, rfl, fun j hj => ?_⟩
    match j, hj with
    | 0, _ => rfl
    | 1, _ => rfl
    | 2, _ => rfl
    | 3, _ => rfl
    | 4, _ => rfl
    | 5, _ => rfl
    | 6, _ => rfl
    | 7, _ => rfl
    | j + 8, hj => exact absurd hj (by omega)
  · rw [if_neg e1] at h1
    by_cases e2 : 74 = i
    · subst e2
      rw [if_pos rfl, if_pos (List.getElem?_eq_some_iff.mp sk_74).1] at h1
      rw [sk_74] at h2
      cases h1; cases h2
      refine ⟨rfl, rfl, fun j hj => ?_⟩
      match j, hj with
      | 0, _ => rfl
      | 1, _ => rfl
      | 2, _ => rfl
      | 3, _ => rfl
      | 4, _ => rfl
      | 5, _ => rfl
      | j + 6, hj => exact absurd hj (by omega)
    · rw [if_neg e2] at h1
      rw [h1] at h2
      cases h2
      exact kSame_rfl _
/-- the world after the three new objects of the law is the layout's -/
theorem kHp_start {X : kX} {ex : Bool} {μ : Mu} {H : Heap} (h : kHp X ((kN_X10 0 ++ kN_X11 248) ++ [.inl (2, 1, fun _ => none)]) ex μ H) : kHp X SK ex μ H := by
  rw [kN_all] at h
  exact kHp_same (by unfold SK9; rw [List.length_set, List.length_set]) SK9_same h

/-! the invariant, and what doesn't matter to it -/
def WS (g : Nat → Int) (T : Int) : Prop := WF g ∧ WF3 g ∧ WFx g ∧ (∀ m : Int, 0 ≤ m → m < 4 → 0 ≤ g (775 + m).toNat ∧ g (775 + m).toNat ≤ T) ∧ (0 ≤ g 774 ∧ g 774 ≤ T) ∧ g 773 = sm (fun c => sm (fun q => S_ap g c q 1) 5 0) 8 0
def slice (μ : Mu) (j : Int) : Nat → Int := fun k => μ 252 (779 * j.toNat + k)
def ring (μ : Mu) (j : Int) : Nat := 75 + 24 * ((μ 73 1 + j) % 6).toNat
def Inv (T : Int) (μ : Mu) : Prop :=
  (RB μ 1 (μ 249) ∧ WS (μ 249) T) ∧
  ((μ 248 6 = μ 0 3 ∧ (μ 0 3 = 0 ∨ μ 0 3 = 1)) ∧ (μ 0 3 = 1 → RB μ 49 (μ 250) ∧ WS (μ 250) T)) ∧
  ((0 ≤ μ 73 1 ∧ μ 73 1 < 6) ∧ (0 ≤ μ 73 2 ∧ μ 73 2 ≤ 6) ∧ μ 248 5 = μ 73 2 ∧ ∀ j : Int, 0 ≤ j → j < μ 73 2 → RB μ (ring μ j) (slice μ j) ∧ WS (slice μ j) T) ∧
  ((0 ≤ μ 219 2 ∧ μ 219 2 ≤ 60 ∧ μ 248 8 = μ 219 2) ∧ (-1 ≤ μ 219 3 ∧ μ 219 3 ≤ 60 ∧ μ 248 9 = μ 219 3) ∧ ∀ i : Int, 0 ≤ i → i < μ 219 2 → μ 253 i.toNat = μ 220 i.toNat ∧ 33 ≤ μ 220 i.toNat ∧ μ 220 i.toNat ≤ 126) ∧
  ((μ 223 2 = 0 ∨ μ 223 2 = 2) ∧ μ 248 11 = μ 223 2 ∧ ∀ l : Int, 0 ≤ l → l < 2 → (μ 254 (2 * l).toNat = μ 224 l.toNat ∧ iG (μ 224 l.toNat)) ∧ (μ 254 (2 * l + 1).toNat = μ 225 l.toNat ∧ iG (μ 225 l.toNat)))
def jk (a k : Nat) : Prop := a = 24 ∨ (25 ≤ a ∧ a ≤ 48) ∨ (227 ≤ a ∧ a ≤ 247) ∨ (255 ≤ a ∧ a ≤ 259) ∨ (a = 248 ∧ (k = 0 ∨ 13 ≤ k)) ∨ a = 260
def KA (μ μ' : Mu) : Prop := ∀ a k : Nat, ¬ jk a k → μ' a k = μ a k
theorem KA.rf (μ : Mu) : KA μ μ := fun _ _ _ => rfl
theorem KA.tr {μ μ1 μ2 : Mu} (h1 : KA μ μ1) (h2 : KA μ1 μ2) : KA μ μ2 := fun a k h => (h2 a k h).trans (h1 a k h)
theorem KA.at {μ μ' : Mu} (h : KA μ μ') {a : Nat} (ha : a ≠ 24 ∧ ¬ (25 ≤ a ∧ a ≤ 48) ∧ ¬ (227 ≤ a ∧ a ≤ 260)) : μ' a = μ a := funext fun k => h a k (by unfold jk; omega)
theorem KA.s {μ μ' : Mu} (h : KA μ μ') : μ' 249 = μ 249 := h 249 |> fun w => funext fun k => w k (by unfold jk; omega)
theorem KA.up {μ μ1 : Mu} (h : KA μ μ1) {a k : Nat} {v : Int} (hj : jk a k) : KA μ (up2 μ1 a k v) := fun a' k' hn => by
  rw [up2_eq, if_neg]
  · exact h a' k' hn
  · rintro ⟨rfl, rfl⟩; exact hn hj
theorem JR.ka {μ μ' : Mu} (h : JR μ μ') : KA μ μ' := fun a k hn => h a k (fun w => hn (by unfold jR at w; unfold jk; omega))
theorem JF.ka {μ μ' : Mu} (h : JF μ μ') : KA μ μ' := h.r.ka
theorem JB.ka {μ μ' : Mu} (h : JB 1 μ μ') : KA μ μ' := fun a k hn => by rw [h a (by unfold jk at hn; omega)]
theorem RF.ka {μ μ' : Mu} {c : Int} {g : Nat → Int} {M : Int → Int} (hc : 0 ≤ c ∧ c < 8) (h : RF μ μ' 1 (232 + 2 * c.toNat) g c M) : KA μ μ' := fun a k hn => by
  unfold jk at hn
  rw [h.1 a (by omega) (by omega) (by omega)]
theorem KA.RB {μ μ' : Mu} (h : KA μ μ') {g : Nat → Int} (R : RB μ 1 g) : RB μ' 1 g := R.keep (fun a x y => h.at (by omega))
theorem Inv.keep {T : Int} {μ μ' : Mu} (I : Inv T μ) (h : KA μ μ') : Inv T μ' := by
  obtain ⟨⟨i1, i2⟩, ⟨i3, i4⟩, ⟨i5, i6, i7, i8⟩, ⟨i9, i10, i11⟩, ⟨i12, i13, i14⟩⟩ := I
  have e : ∀ a : Nat, (a ≠ 24 ∧ ¬ (25 ≤ a ∧ a ≤ 48) ∧ ¬ (227 ≤ a ∧ a ≤ 248) ∧ ¬ (255 ≤ a ∧ a ≤ 260)) → μ' a = μ a := fun a ha => funext fun k => h a k (by unfold jk; omega)
  have e248 : ∀ k : Nat, k ≠ 0 → k < 13 → μ' 248 k = μ 248 k := fun k h1 h2 => h 248 k (by unfold jk; omega)
  have e73 := e 73 (by omega)
  have e252 := e 252 (by omega)
  refine ⟨⟨?_, ?_⟩, ⟨?_, ?_⟩, ⟨?_, ?_, ?_, ?_⟩, ⟨?_, ?_, ?_⟩, ⟨?_, ?_, ?_⟩⟩
  · rw [h.s]; exact h.RB i1
  · rw [h.s]; exact i2
  · rw [e248 6 (by omega) (by omega), e 0 (by omega)]; exact i3
  · rw [e 0 (by omega), e 250 (by omega)]
    intro w
    exact ⟨(i4 w).1.keep (fun a x y => e a (by omega)), (i4 w).2⟩
  · rw [e73]; exact i5
  · rw [e73]; exact i6
  · rw [e248 5 (by omega) (by omega), e73]; exact i7
  · intro j x y
    rw [e73] at y
    have hr : ring μ' j = ring μ j := by unfold ring; rw [e73]
    have hs : slice μ' j = slice μ j := by unfold slice; rw [e252]
    rw [hr, hs]
    have hb : 75 ≤ ring μ j ∧ ring μ j + 24 ≤ 219 := by unfold ring; omega
    exact ⟨(i8 j x y).1.keep (fun a x y => e a (by omega)), (i8 j x y).2⟩
  · rw [e 219 (by omega), e248 8 (by omega) (by omega)]; exact i9
  · rw [e 219 (by omega), e248 9 (by omega) (by omega)]; exact i10
  · rw [e 219 (by omega), e 253 (by omega), e 220 (by omega)]; exact i11
  · rw [e 223 (by omega)]; exact i12
  · rw [e248 11 (by omega) (by omega), e 223 (by omega)]; exact i13
  · rw [e 254 (by omega), e 224 (by omega), e 225 (by omega)]; exact i14
theorem WS.up {g : Nat → Int} {T T' : Int} (h : WS g T) (hT : T ≤ T') : WS g T' := by
  obtain ⟨a, b, c, d, e, f⟩ := h
  exact ⟨a, b, c, fun m x y => by have := d m x y; omega, by omega, f⟩
theorem Inv.up {T T' : Int} {μ : Mu} (I : Inv T μ) (hT : T ≤ T') : Inv T' μ := by
  obtain ⟨⟨i1, i2⟩, ⟨i3, i4⟩, ⟨i5, i6, i7, i8⟩, i9, i10⟩ := I
  exact ⟨⟨i1, i2.up hT⟩, ⟨i3, fun w => ⟨(i4 w).1, (i4 w).2.up hT⟩⟩, ⟨i5, i6, i7, fun j x y => ⟨(i8 j x y).1, (i8 j x y).2.up hT⟩⟩, i9, i10⟩
theorem Inv.R {T : Int} {μ : Mu} (I : Inv T μ) : RB μ 1 (μ 249) := I.1.1
theorem Inv.wf {T : Int} {μ : Mu} (I : Inv T μ) : WF (μ 249) := I.1.2.1
theorem Inv.w3 {T : Int} {μ : Mu} (I : Inv T μ) : WF3 (μ 249) := I.1.2.2.1
theorem Inv.wx {T : Int} {μ : Mu} (I : Inv T μ) : WFx (μ 249) := I.1.2.2.2.1
/-! the law's cases, from the two answers -/
theorem lcase_s {g : Mu → Option Res} {cmp : Int → Int → Option Mu → Option Mu} {μ1 μ2 : Mu} {k b : Int} (h : g μ1 = some (μ2, 0, b)) : lcase (some (μ1, 0, k)) g cmp = i_eq (μ2 248 0) k (i_eq k 0 (cmp (μ2 260 0) b (some μ2)) (some μ2)) none := by
  simp only [lcase, h]
theorem lc_ok {k : Nat} {cl : List Nat} {f : Option Res} {g : Mu → Option Res} {cmp : Int → Int → Option Mu → Option Mu} {μ1 μ2 : Mu} {x b : Int} (hf : f = some (μ1, 0, x)) (hx : hg k x = true) (hg' : g (up2 μ1 260 0 x) = some (μ2, 0, b)) (ht : μ2 248 0 = 0) (ho : μ2 260 0 = x) (hc : cmp x b (some μ2) = some μ2) : lcase (hp k cl f) g cmp = some μ2 := by
  have e : hp k cl f = some (up2 μ1 260 0 x, 0, 0) := by
    rw [hf]; exact if_pos hx
  rw [e, lcase_s hg', ht, p_eq (by omega), if_pos rfl, p_eq (by omega), if_pos rfl, ho]
  exact hc
theorem lc_ex {k : Nat} {cl : List Nat} {f : Option Res} {g : Mu → Option Res} {cmp : Int → Int → Option Mu → Option Mu} {μ1 μ2 : Mu} {x b : Int} {e i : Nat} (hf : f = some (μ1, e + 1, x)) (hi : hpos cl e = some i) (hi9 : i < 100) (hg' : g μ1 = some (μ2, 0, b)) (ht : μ2 248 0 = (i : Int) + 1) : lcase (hp k cl f) g cmp = some μ2 := by
  have e1 : hp k cl f = some (μ1, 0, (i : Int) + 1) := by
    rw [hf]
    unfold hp
    try dsimp only
    rw [hi]
  rw [e1, lcase_s hg', ht, p_eq (by omega), if_pos rfl, p_eq (by omega), if_neg (by omega)]
theorem cI_ok {x : Int} {μ : Mu} (h : iG x) : cmpI x x (some μ) = some μ := by
  unfold iG at h
  unfold cmpI
  rw [p_2l h, p_leq (by omega), if_pos rfl]
theorem cZ_ok {x : Int} {μ : Mu} (h : x = 0 ∨ x = 1) : cmpZ x x (some μ) = some μ := by
  unfold cmpZ
  rw [if_pos h, p_leq (by omega), if_pos rfl]
theorem cL_ok {x : Int} {μ : Mu} (h : -9223372036854775808 ≤ x ∧ x < 9223372036854775808) : cmpL x x (some μ) = some μ := by
  unfold cmpL
  rw [p_leq (by omega), if_pos rfl]
theorem hg0 {x : Int} (h : iG x) : hg 0 x = true := by
  unfold iG at h
  simp [hg, h.1, h.2]
theorem hg1 {x : Int} (h : x = 0 ∨ x = 1) : hg 1 x = true := by
  rcases h with rfl | rfl <;> rfl
/-! what the class requires -/
theorem c_reqQ {μ : Mu} {v : Int} (hv : iG v) : f_X10_requireQuestion v μ = if 0 ≤ v ∧ v < 5 then some (μ, 0, 0) else some (μ, 3, 0) := by
  unfold f_X10_requireQuestion
  rw [c_below hv (by unfold iG; omega), p_rb]
  by_cases p : 0 ≤ v ∧ v < 5
  · rw [b2_t p, if_pos p]; rfl
  · rw [b2_f p, if_neg p]; rfl
theorem c_reqC {μ : Mu} {v : Int} (hv : iG v) : f_X10_requireCandidate v μ = if 0 ≤ v ∧ v < 8 then some (μ, 0, 0) else some (μ, 3, 0) := by
  unfold f_X10_requireCandidate
  rw [c_below hv (by unfold iG; omega), p_rb]
  by_cases p : 0 ≤ v ∧ v < 8
  · rw [b2_t p, if_pos p]; rfl
  · rw [b2_f p, if_neg p]; rfl
theorem c_reqM {μ : Mu} {v : Int} (hv : iG v) : f_X10_requireMarker v μ = if 0 ≤ v ∧ v < 4 then some (μ, 0, 0) else some (μ, 3, 0) := by
  unfold f_X10_requireMarker
  rw [c_below hv (by unfold iG; omega), p_rb]
  by_cases p : 0 ≤ v ∧ v < 4
  · rw [b2_t p, if_pos p]; rfl
  · rw [b2_f p, if_neg p]; rfl
theorem c_reqG {μ : Mu} {v : Int} (hv : iG v) : f_X10_requireGradeNumber v μ = if 0 ≤ v ∧ v < 5 then some (μ, 0, 0) else some (μ, 3, 0) := by
  unfold f_X10_requireGradeNumber
  rw [c_below hv (by unfold iG; omega), p_rb]
  by_cases p : 0 ≤ v ∧ v < 5
  · rw [b2_t p, if_pos p]; rfl
  · rw [b2_f p, if_neg p]; rfl
theorem c_reqR {μ : Mu} {v a b : Int} (hv : iG v) (ha : iG a) (hb : iG b) : f_X10_requireRange v a b μ = if a ≤ v ∧ v ≤ b then some (μ, 0, 0) else some (μ, 2, 0) := by
  unfold iG at hv ha hb
  unfold f_X10_requireRange f_X10_requireRange_10
  rw [p_lt ⟨hv, ha⟩, p_lt ⟨hb, hv⟩]
  by_cases h1 : v < a
  · rw [if_pos h1, if_neg (by omega)]
  · rw [if_neg h1]
    by_cases h2 : b < v
    · rw [if_pos h2, if_neg (by omega)]
    · rw [if_neg h2, if_pos (by omega)]
theorem c_reqS {μ : Mu} {c q : Int} (hc : iG c) (hq : iG q) : f_X10_requireScript c q μ = if (0 ≤ c ∧ c < 8) ∧ (0 ≤ q ∧ q < 5) then some (μ, 0, 0) else some (μ, 3, 0) := by
  unfold f_X10_requireScript
  rw [c_reqC hc]
  by_cases p : 0 ≤ c ∧ c < 8
  · rw [if_pos p, p_rb, c_reqQ hq]
    by_cases p2 : 0 ≤ q ∧ q < 5
    · rw [if_pos p2, if_pos ⟨p, p2⟩]; rfl
    · rw [if_neg p2, if_neg (fun w => p2 w.2)]; rfl
  · rw [if_neg p, if_neg (fun w => p w.1)]; rfl

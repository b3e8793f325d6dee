/-! operations that change the numbers -/
def CM (μ μ1 : Mu) (g1 : Nat → Int) : Prop := RB μ1 1 g1 ∧ ((0 ≤ μ1 73 1 ∧ μ1 73 1 < 6) ∧ μ1 73 2 = S_hn (μ 73 2) ∧ ∀ j : Int, 0 ≤ j → j < S_hn (μ 73 2) → RB μ1 (ring μ1 j) (S_hist (μ 73 2) μ j)) ∧ ∀ a : Nat, (a = 0 ∨ (49 ≤ a ∧ a < 73) ∨ (219 ≤ a ∧ a < 227) ∨ 248 ≤ a) → μ1 a = μ a
def RM (μ μ9 μ2 : Mu) (g1 : Nat → Int) : Prop := EqG g1 (μ2 249) ∧ (μ2 248 5 = S_hn (μ 73 2) ∧ ∀ j : Int, 0 ≤ j → j < S_hn (μ 73 2) → EqG (S_hist (μ 73 2) μ j) (slice μ2 j)) ∧ (∀ a : Nat, a < 248 → μ2 a = μ9 a) ∧ (∀ a : Nat, (a = 250 ∨ a = 253 ∨ a = 254 ∨ a = 260) → μ2 a = μ9 a) ∧ ∀ k : Nat, k ≠ 0 → k ≠ 5 → k < 13 → μ2 248 k = μ9 248 k
theorem hist_ws {T : Int} {μ : Mu} (I : Inv T μ) {j : Int} (h : 0 ≤ j ∧ j < S_hn (μ 73 2)) : WS (S_hist (μ 73 2) μ j) T := by
  obtain ⟨h1, h2, h3, h4⟩ := I.2.2.1
  unfold S_hn at h
  unfold S_hist
  by_cases p : μ 73 2 < 6
  · rw [if_pos p] at h ⊢
    by_cases q : j < μ 73 2
    · rw [if_pos q]; exact (h4 j (by omega) q).2
    · rw [if_neg q]; exact I.1.2
  · rw [if_neg p] at h ⊢
    by_cases q : j < 5
    · rw [if_pos q]; exact (h4 (j + 1) (by omega) (by omega)).2
    · rw [if_neg q]; exact I.1.2
theorem hn_bd {n : Int} (h : 0 ≤ n ∧ n ≤ 6) : 0 ≤ S_hn n ∧ S_hn n ≤ 6 := by
  unfold S_hn
  split <;> omega
theorem Inv.mut {T : Int} {μ μ1 μ9 μ2 : Mu} {g1 : Nat → Int} (I : Inv T μ) (W : WS g1 (T + 1000)) (C : CM μ μ1 g1) (h9 : ∀ a : Nat, a ≠ 260 → μ9 a = μ1 a) (R : RM μ μ9 μ2 g1): Inv (T + 1000) μ2 := by
  obtain ⟨c1, ⟨c2, c3, c4⟩, c5⟩ := C
  obtain ⟨r1, ⟨r2, r3⟩, r4, r5, r6⟩ := R
  obtain ⟨⟨i1, i2⟩, ⟨i3, i4⟩, ⟨i5, i6, i7, i8⟩, ⟨i9, i10, i11⟩, ⟨i12, i13, i14⟩⟩ := I
  have I : Inv T μ := ⟨⟨i1, i2⟩, ⟨i3, i4⟩, ⟨i5, i6, i7, i8⟩, ⟨i9, i10, i11⟩, ⟨i12, i13, i14⟩⟩
  have lo : ∀ a : Nat, a < 248 → μ2 a = μ1 a := fun a ha => (r4 a ha).trans (h9 a (by omega))
  have un : ∀ a : Nat, (a = 0 ∨ (49 ≤ a ∧ a < 73) ∨ (219 ≤ a ∧ a < 227)) → μ2 a = μ a := fun a ha => (lo a (by omega)).trans (c5 a (by omega))
  have hi : ∀ a : Nat, (a = 250 ∨ a = 253 ∨ a = 254) → μ2 a = μ a := fun a ha => (r5 a (by omega)).trans ((h9 a (by omega)).trans (c5 a (by omega)))
  have hb := hn_bd i6
  have hk : ∀ k : Nat, k ≠ 0 → k < 13 → k ≠ 5 → μ2 248 k = μ 248 k := fun k x y z => (r6 k x z y).trans (by rw [h9 248 (by omega), c5 248 (by omega)])
  refine ⟨⟨?_, WS.cg r1 W⟩, ⟨?_, fun w => ?_⟩, ⟨?_, ?_, ?_, fun j x y => ?_⟩, ⟨?_, ?_, fun i x y => ?_⟩, ⟨?_, ?_, ?_⟩⟩
  · exact RB.cg r1 W.1 (c1.keep (fun a x y => lo a (by omega)))
  · rw [hk 6 (by omega) (by omega) (by omega), un 0 (by omega)]; exact i3
  · rw [un 0 (by omega)] at w
    rw [hi 250 (by omega)]
    exact ⟨(i4 w).1.keep (fun a x y => un a (by omega)), (i4 w).2.up (by omega)⟩
  · rw [lo 73 (by omega)]; exact c2
  · rw [lo 73 (by omega), c3]; exact hb
  · rw [r2, lo 73 (by omega), c3]
  · rw [lo 73 (by omega), c3] at y
    have hr : ring μ2 j = ring μ1 j := by unfold ring; rw [lo 73 (by omega)]
    have hw := hist_ws I ⟨x, y⟩
    have rb : 75 ≤ ring μ1 j ∧ ring μ1 j + 24 ≤ 219 := by unfold ring; omega
    rw [hr]
    exact ⟨RB.cg (r3 j x y) hw.1 ((c4 j x y).keep (fun a u v => lo a (by omega))), WS.cg (r3 j x y) (hw.up (by omega))⟩
  · rw [un 219 (by omega), hk 8 (by omega) (by omega) (by omega)]; exact i9
  · rw [un 219 (by omega), hk 9 (by omega) (by omega) (by omega)]; exact i10
  · rw [un 219 (by omega)] at y
    rw [hi 253 (by omega), un 220 (by omega)]; exact i11 i x y
  · rw [un 223 (by omega)]; exact i12
  · rw [un 223 (by omega), hk 11 (by omega) (by omega) (by omega)]; exact i13
  · rw [hi 254 (by omega), un 224 (by omega), un 225 (by omega)]; exact i14
theorem op_mut {T : Int} {μ : Mu} (I : Inv T μ) {k : Nat} {cl : List Nat} {f : Option Res} {g : Mu → Option Res} {cmp : Int → Int → Option Mu → Option Mu} {μ1 : Mu} {x : Int} {g1 : Nat → Int} (hf : f = some (μ1, 0, x)) (W : WS g1 (T + 1000)) (C : CM μ μ1 g1) (hx : hg k x = true) (hc : ∀ μ, cmp x x (some μ) = some μ)
    (hg' : ∀ μ9 : Mu, (∀ a : Nat, 248 ≤ a → a ≠ 260 → μ9 a = μ a) → ∃ μ2, g μ9 = some (μ2, 0, x) ∧ RM μ μ9 μ2 g1 ∧ μ2 248 0 = 0) : OK T (lcase (hp k cl f) g cmp) := by
  have h9 : ∀ a : Nat, 248 ≤ a → a ≠ 260 → (up2 μ1 260 0 x) a = μ a := fun a h1 h2 => (up2_oo h2).trans (C.2.2 a (by omega))
  obtain ⟨μ2, a1, a2, a3⟩ := hg' _ h9
  refine ⟨μ2, lc_ok hf hx a1 a3 ?_ (hc μ2), I.mut (μ1 := μ1) (μ9 := up2 μ1 260 0 x) W C (fun a h => up2_oo h) a2⟩
  rw [a2.2.2.2.1 260 (by omega), up2_s]
/-- the class keeps the numbers -/
theorem c_kept {T : Int} {μ : Mu} (I : Inv T μ) : ∃ μ', f_X4_keep 1 μ = some (μ', 0, 0) ∧ CM μ μ' (μ 249) ∧ ∀ a : Nat, a < 73 → μ' a = μ a := by
  obtain ⟨μ', a1, a2, a3, a4, a5⟩ := c_keep I
  exact ⟨μ', a1, ⟨I.R.keep (fun a x y => a2 a (by omega) (by omega)), ⟨a3, a4, a5⟩, fun a ha => a2 a (by omega) (by omega)⟩, fun a ha => a2 a (by omega) (by omega)⟩
/-- so does the reference -/
theorem r_kept {T : Int} {μ μ9 : Mu} (I : Inv T μ) (h1 : μ9 249 = μ 249) (h2 : μ9 252 = μ 252) (h3 : μ9 248 5 = μ 248 5) : ∃ μ2, f_X11_changes μ9 = some (μ2, 0, 0) ∧ RM μ μ9 μ2 (μ 249) ∧ μ2 249 = μ 249 ∧ μ2 248 0 = μ9 248 0 := by
  obtain ⟨i5, i6, i7, i8⟩ := I.2.2.1
  have hn : ((μ 73 2).toNat : Int) = μ 73 2 := by omega
  obtain ⟨μ2, a1, a2, a3, a4⟩ := r_changes (μ := μ9) (μ 73 2).toNat (by omega) (by rw [h3, i7]; exact hn.symm)
  rw [hn] at a3 a4
  have e249 : μ2 249 = μ 249 := (funext fun k => a2 249 k (by omega) (by omega) (by omega)).trans h1
  refine ⟨μ2, a1, ⟨fun k hk => by rw [e249], ⟨a3, fun j x y => ?_⟩, fun a ha => funext fun k => a2 a k (by omega) (by omega) (by omega), fun a ha => funext fun k => a2 a k (by omega) (by omega) (by omega), fun k x y z => a2 248 k (by omega) (by omega) (by omega)⟩, e249, a2 248 0 (by omega) (by omega) (by omega)⟩
  have := a4 j x y
  rw [S_hist_e h1 h2] at this
  exact this
def gup (g : Nat → Int) (k : Nat) (v : Int) : Nat → Int := fun i => if i = k then v else g i
theorem gup_s {g : Nat → Int} {k : Nat} {v : Int} : gup g k v k = v := if_pos rfl
theorem gup_o {g : Nat → Int} {k i : Nat} {v : Int} (h : i ≠ k) : gup g k v i = g i := if_neg h
theorem RM.wr {μ μ9 μ2 : Mu} {g1 : Nat → Int} (R : RM μ μ9 μ2 g1) {k : Nat} {v : Int} : RM μ μ9 (up2 μ2 249 k v) (gup g1 k v) := by
  obtain ⟨r1, ⟨r2, r3⟩, r4, r5, r6⟩ := R
  refine ⟨fun i hi => ?_, ⟨by rw [up2_o (by omega)]; exact r2, fun j x y => ?_⟩, fun a ha => (up2_oo (by omega)).trans (r4 a ha), fun a ha => (up2_oo (by omega)).trans (r5 a ha), fun k x y z => (up2_o (by omega)).trans (r6 k x y z)⟩
  · by_cases e : i = k
    · subst e; rw [up2_s, gup_s]
    · rw [up2_k e, gup_o e]; exact r1 i hi
  · have e : slice (up2 μ2 249 k v) j = slice μ2 j := by unfold slice; rw [up2_oo (by omega)]
    rw [e]; exact r3 j x y
theorem CM.wr {μ μ1 μ2 : Mu} {g1 g2 : Nat → Int} (C : CM μ μ1 g1) (h : ∀ a : Nat, (a = 0 ∨ 25 ≤ a) → μ2 a = μ1 a) (R : RB μ2 1 g2) : CM μ μ2 g2 := by
  obtain ⟨c1, ⟨c2, c3, c4⟩, c5⟩ := C
  have e73 : μ2 73 = μ1 73 := h 73 (by omega)
  refine ⟨R, ⟨by rw [e73]; exact c2, by rw [e73]; exact c3, fun j x y => ?_⟩, fun a ha => (h a (by omega)).trans (c5 a ha)⟩
  have hr : ring μ2 j = ring μ1 j := by unfold ring; rw [e73]
  rw [hr]
  have rb : 75 ≤ ring μ1 j ∧ ring μ1 j + 24 ≤ 219 := by unfold ring; omega
  exact (c4 j x y).keep (fun a u v => h a (by omega))

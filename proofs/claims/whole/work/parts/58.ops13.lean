/-! undo, save, restore -/
theorem o_undo {T : Int} {μ : Mu} (I : Inv T μ) : OK T (lc_undo μ) := by
  obtain ⟨h1, h2, h3, h4⟩ := I.2.2.1
  unfold lc_undo
  by_cases p : 0 < μ 73 2
  · have hg4 := h4 (μ 73 2 - 1) (by omega) (by omega)
    have W := hg4.2
    have hr : ring μ (μ 73 2 - 1) = 75 + 24 * ((μ 73 1 + (μ 73 2 - 1)) % 6).toNat := rfl
    have R0 : RB (up2 μ 73 2 (μ 73 2 - 1)) (75 + 24 * ((μ 73 1 + (μ 73 2 - 1)) % 6).toNat) (slice μ (μ 73 2 - 1)) := by
      rw [← hr]
      have rb : 75 ≤ ring μ (μ 73 2 - 1) := by unfold ring; omega
      exact hg4.1.keep (fun a x y => up2_oo (by omega))
    obtain ⟨μ1, a1, a2, a3⟩ := c_copyBook (μ := up2 μ 73 2 (μ 73 2 - 1)) (s := 75 + 24 * ((μ 73 1 + (μ 73 2 - 1)) % 6).toNat) (d := 1) (by omega) W.1 W.2.1 R0
    have k1 : ∀ a : Nat, a ≠ 73 → (a = 0 ∨ 24 ≤ a) → μ1 a = μ a := fun a x y => (a3 a (by omega)).trans (up2_oo x)
    have e73 : μ1 73 = (up2 μ 73 2 (μ 73 2 - 1)) 73 := a3 73 (by omega)
    have e1 : μ1 73 1 = μ 73 1 := by rw [e73, up2_k (by omega)]
    have e2 : μ1 73 2 = μ 73 2 - 1 := by rw [e73, up2_s]
    have h9 : ∀ a : Nat, a ≠ 260 → (up2 μ1 260 0 (μ 73 2 - 1)) a = μ1 a := fun a x => up2_oo x
    generalize hμ9 : up2 μ1 260 0 (μ 73 2 - 1) = μ9 at h9
    have e260 : μ9 260 0 = μ 73 2 - 1 := by rw [← hμ9, up2_s]
    have u9 : ∀ a : Nat, a ≠ 73 → a ≠ 260 → (a = 0 ∨ 24 ≤ a) → μ9 a = μ a := fun a x y z => (h9 a y).trans (k1 a x z)
    obtain ⟨μ2, b1, b2', b3, b4⟩ := loop_wr (F := f_X11_undo_30 (fun μ => rdF μ 248 5 fun x3 => some (μ, 0, x3))) (k := fun μ => rdF μ 248 5 fun x3 => some (μ, 0, x3)) (A := 249) (off := 0) (N := 779) (val := fun i => slice μ (μ 73 2 - 1) i) (μ0 := up2 (up2 μ9 248 0 0) 248 5 (μ 73 2 - 1)) (fun fu v μ3 hv j => by
      have f5 : μ3 248 5 = μ 73 2 - 1 := by rw [j.1 248 (by omega), up2_s]
      have f252 : μ3 252 = μ 252 := by rw [j.1 252 (by omega), up2_oo (by omega), up2_oo (by omega), u9 252 (by omega) (by omega) (by omega)]
      rw [f_X11_undo_30, p_lt (by omega)]
      by_cases p : v < 779
      · rw [if_pos (by omega), if_pos p, p_rdF, f5, p_rdI (by omega), p_wrI (by omega), f252, Int.toNat_natCast, Nat.zero_add, show (779 * (μ 73 2 - 1) + (v : Int)).toNat = 779 * (μ 73 2 - 1).toNat + v by omega]
        rfl
      · rw [if_neg (by omega), if_neg p]) 779 FU 0 _ (by omega) (by unfold FU; omega) (JW.nil _ _ _ _)
    have v2 : ∀ a : Nat, a ≠ 249 → a ≠ 248 → μ2 a = μ9 a := fun a x y => (b2' a x).trans ((up2_oo y).trans (up2_oo y))
    have w2 : ∀ a : Nat, a ≠ 249 → a ≠ 248 → a ≠ 73 → a ≠ 260 → (a = 0 ∨ 24 ≤ a) → μ2 a = μ a := fun a x y z s t => (v2 a x y).trans (u9 a z s t)
    have e248 : ∀ k : Nat, μ2 248 k = if k = 5 then μ 73 2 - 1 else if k = 0 then 0 else μ 248 k := by
      intro k
      rw [b2' 248 (by omega), up2_eq, up2_eq]
      by_cases k5 : k = 5
      · rw [if_pos ⟨rfl, k5⟩, if_pos k5]
      · rw [if_neg (fun w => k5 w.2), if_neg k5]
        by_cases k0 : k = 0
        · rw [if_pos ⟨rfl, k0⟩, if_pos k0]
        · rw [if_neg (fun w => k0 w.2), if_neg k0, u9 248 (by omega) (by omega) (by omega)]
    have eg : EqG (slice μ (μ 73 2 - 1)) (μ2 249) := fun k hk => by have := b4 k hk; rw [Nat.zero_add] at this; exact this
    have f1 : μ2 73 = μ1 73 := (v2 73 (by omega) (by omega)).trans (h9 73 (by omega))
    have hx : iG (μ 73 2 - 1) := by unfold iG; omega
    refine ⟨μ2, lc_ok (μ1 := μ1) (x := μ 73 2 - 1) (b := μ 73 2 - 1) ?_ (hg0 hx) ?_ ?_ ?_ (cI_ok hx), ?_⟩
    · unfold f_X10_undo f_X4_takeBack f_X4_takeBack_38
      rw [p_rdF, p_lt (by omega), if_pos p, p_rdF, p_lt (by omega), if_pos p, p_rdF, p_wrF, p_rdF, p_rdF, up2_k (by omega), up2_s, p_rem (by omega), p_rdA (by omega), a1, p_rb, p_rb, p_rdF, e2]
    · rw [hμ9]
      unfold f_X11_undo
      have f5 : (up2 μ9 248 0 0) 248 5 = μ 73 2 := by rw [up2_k (by omega), u9 248 (by omega) (by omega) (by omega)]; exact h3
      rw [p_wrF, p_rdF, f5, p_eq (by omega), if_neg (by omega), p_rdF, f5, p_wrF]
      refine Eq.trans b1 ?_
      rw [p_rdF, e248 5, if_pos rfl]
    · rw [e248 0, if_neg (by omega), if_pos rfl]
    · rw [v2 260 (by omega) (by omega), e260]
    · obtain ⟨⟨i1, i2⟩, ⟨i3, i4⟩, -, ⟨i9, i10, i11⟩, ⟨i12, i13, i14⟩⟩ := I
      have hk : ∀ k : Nat, k ≠ 5 → k ≠ 0 → μ2 248 k = μ 248 k := fun k x y => by rw [e248 k, if_neg x, if_neg y]
      refine ⟨⟨?_, WS.cg eg (W.up (by omega))⟩, ⟨?_, fun w => ?_⟩, ⟨?_, ?_, ?_, fun j x y => ?_⟩, ⟨?_, ?_, fun i x y => ?_⟩, ⟨?_, ?_, ?_⟩⟩
      · exact RB.cg eg W.1 (a2.keep (fun a x y => (v2 a (by omega) (by omega)).trans (h9 a (by omega))))
      · rw [hk 6 (by omega) (by omega), w2 0 (by omega) (by omega) (by omega) (by omega) (by omega)]; exact i3
      · rw [w2 0 (by omega) (by omega) (by omega) (by omega) (by omega)] at w
        rw [w2 250 (by omega) (by omega) (by omega) (by omega) (by omega)]
        exact ⟨(i4 w).1.keep (fun a x y => w2 a (by omega) (by omega) (by omega) (by omega) (by omega)), (i4 w).2.up (by omega)⟩
      · rw [f1, e1]; exact h1
      · rw [f1, e2]; omega
      · rw [f1, e2, e248 5, if_pos rfl]
      · rw [f1, e2] at y
        have hrj : ring μ2 j = ring μ j := by unfold ring; rw [f1, e1]
        have hsj : slice μ2 j = slice μ j := by unfold slice; rw [w2 252 (by omega) (by omega) (by omega) (by omega) (by omega)]
        have rb : 75 ≤ ring μ j ∧ ring μ j + 24 ≤ 219 := by unfold ring; omega
        rw [hrj, hsj]
        exact ⟨(h4 j x (by omega)).1.keep (fun a u v => w2 a (by omega) (by omega) (by omega) (by omega) (by omega)), (h4 j x (by omega)).2.up (by omega)⟩
      · rw [w2 219 (by omega) (by omega) (by omega) (by omega) (by omega), hk 8 (by omega) (by omega)]; exact i9
      · rw [w2 219 (by omega) (by omega) (by omega) (by omega) (by omega), hk 9 (by omega) (by omega)]; exact i10
      · rw [w2 219 (by omega) (by omega) (by omega) (by omega) (by omega)] at y
        rw [w2 253 (by omega) (by omega) (by omega) (by omega) (by omega), w2 220 (by omega) (by omega) (by omega) (by omega) (by omega)]; exact i11 i x y
      · rw [w2 223 (by omega) (by omega) (by omega) (by omega) (by omega)]; exact i12
      · rw [w2 223 (by omega) (by omega) (by omega) (by omega) (by omega), hk 11 (by omega) (by omega)]; exact i13
      · rw [w2 254 (by omega) (by omega) (by omega) (by omega) (by omega), w2 224 (by omega) (by omega) (by omega) (by omega) (by omega), w2 225 (by omega) (by omega) (by omega) (by omega) (by omega)]; exact i14
  · refine op_ex I (e := 0) (i := 0) (x := 0) (b := 0) (μ2 := up2 (up2 μ 248 0 0) 248 0 1) ?_ rfl (by omega) ?_ (JT.th.up (by unfold jT; omega)) up2_s
    · unfold f_X10_undo
      rw [p_rdF, p_lt (by omega), if_neg p]
    · unfold f_X11_undo f_X11_fails
      rw [p_wrF, p_rdF, up2_k (by omega), h3, p_eq (by omega), if_pos (by omega)]; rfl
theorem o_restore {T : Int} {μ : Mu} (I : Inv T μ) : OK T (lc_restore μ) := by
  obtain ⟨i3, i4⟩ := I.2.1
  unfold lc_restore
  by_cases p : μ 0 3 = 0
  · refine op_ex I (e := 0) (i := 0) (x := 0) (b := 0) (μ2 := up2 (up2 μ 248 0 0) 248 0 1) ?_ rfl (by omega) ?_ (JT.th.up (by unfold jT; omega)) up2_s
    · unfold f_X10_restore
      rw [p_rdF, p_eq (by omega), if_pos p]
    · unfold f_X11_restore f_X11_fails
      rw [p_wrF, p_rdF, up2_k (by omega), i3.1, p_eq (by omega), if_pos p]; rfl
  · obtain ⟨R, W⟩ := i4 (by omega)
    obtain ⟨μ1, a1, C, a3⟩ := c_kept I
    have u1 : ∀ a : Nat, (49 ≤ a ∧ a < 73) → μ1 a = μ a := fun a h => C.2.2 a (by omega)
    obtain ⟨μ2, b1, b2', b3⟩ := c_copyBook (μ := μ1) (s := 49) (d := 1) (by omega) W.1 W.2.1 (R.keep (fun a x y => u1 a (by omega)))
    have hi : iG (μ 250 144) := by have := W.1.tot; unfold iG; omega
    refine op_mut I (μ1 := μ2) (x := μ 250 144) (g1 := μ 250) ?_ (W.up (by omega)) (C.wr (fun a h => b3 a (by omega)) b2') (hg0 hi) (fun μ => cI_ok hi) (fun μ9 k9 => ?_)
    · unfold f_X10_restore
      rw [p_rdF, p_eq (by omega), if_neg p, a1, p_rb, b1, p_rb, p_rdF, b2'.tot]
    · have e249 : (up2 μ9 248 0 0) 249 = μ 249 := (up2_oo (by omega)).trans (k9 249 (by omega) (by omega))
      have e252 : (up2 μ9 248 0 0) 252 = μ 252 := (up2_oo (by omega)).trans (k9 252 (by omega) (by omega))
      have e5 : (up2 μ9 248 0 0) 248 5 = μ 248 5 := (up2_k (by omega)).trans (congrFun (k9 248 (by omega) (by omega)) 5)
      have e6 : (up2 μ9 248 0 0) 248 6 = μ 248 6 := (up2_k (by omega)).trans (congrFun (k9 248 (by omega) (by omega)) 6)
      obtain ⟨μ3, c1, ⟨r1, r2, r4, r5, r6⟩, c3, c4⟩ := r_kept I e249 e252 e5
      have f250 : μ3 250 = μ 250 := (r5 250 (by omega)).trans ((up2_oo (by omega)).trans (k9 250 (by omega) (by omega)))
      obtain ⟨μ4, d1, d2, d3, d4⟩ := loop_wr (F := f_X11_restore_24 (fun μ => rdI μ 249 779 144 fun x2 => some (μ, 0, x2))) (k := fun μ => rdI μ 249 779 144 fun x2 => some (μ, 0, x2)) (A := 249) (off := 0) (N := 779) (val := fun i => μ 250 i) (μ0 := μ3) (fun fu v μ5 hv j => by
        rw [f_X11_restore_24, p_lt (by omega)]
        by_cases p : v < 779
        · rw [if_pos (by omega), if_pos p, p_rdI (by omega), p_wrI (by omega), j.1 250 (by omega), f250, Int.toNat_natCast, Nat.zero_add]
        · rw [if_neg (by omega), if_neg p]) 779 FU 0 _ (by omega) (by unfold FU; omega) (JW.nil _ _ _ _)
      have eg : EqG (μ 250) (μ4 249) := fun k hk => by have := d4 k hk; rw [Nat.zero_add] at this; exact this
      refine ⟨μ4, ?_, ⟨eg, ⟨?_, fun j x y => ?_⟩, fun a ha => ?_, fun a ha => ?_, fun k x y z => ?_⟩, ?_⟩
      · unfold f_X11_restore
        rw [p_wrF, p_rdF, e6, i3.1, p_eq (by omega), if_neg p, c1, p_rb]
        refine Eq.trans d1 ?_
        rw [p_rdI (by omega)]
        have e144 : (144 : Int).toNat = 144 := rfl
        rw [e144, eg 144 (by omega)]
      · rw [d2 248 (by omega)]; exact r2.1
      · have hs : slice μ4 j = slice μ3 j := by unfold slice; rw [d2 252 (by omega)]
        rw [hs]; exact r2.2 j x y
      · exact (d2 a (by omega)).trans ((r4 a ha).trans (up2_oo (by omega)))
      · exact (d2 a (by omega)).trans ((r5 a ha).trans (up2_oo (by omega)))
      · rw [d2 248 (by omega), r6 k x y z, up2_k x]
      · rw [d2 248 (by omega), c4, up2_s]
theorem o_save {T : Int} {μ : Mu} (I : Inv T μ) : OK T (lc_save μ) := by
  obtain ⟨μ1, a1, a2, a3⟩ := c_copyBook (μ := μ) (s := 1) (d := 49) (by omega) I.wf I.w3 I.R
  have ht := I.wf.tot
  have k1 : ∀ a : Nat, a ≠ 0 → (a < 49 ∨ 72 ≤ a) → (up2 μ1 0 3 1) a = μ a := fun a x y => (up2_oo x).trans (a3 a (by omega))
  obtain ⟨μ2, b1, b2', b3, b4⟩ := loop_wr (F := f_X11_save_7 (fun μ => wrZ μ 248 6 1 fun μ => rdI μ 249 779 144 fun x1 => some (μ, 0, x1))) (k := fun μ => wrZ μ 248 6 1 fun μ => rdI μ 249 779 144 fun x1 => some (μ, 0, x1)) (A := 250) (off := 0) (N := 779) (val := fun i => μ 249 i) (μ0 := up2 (up2 μ1 0 3 1) 248 0 0) (fun fu v μ5 hv j => by
    rw [f_X11_save_7, p_lt (by omega)]
    by_cases p : v < 779
    · rw [if_pos (by omega), if_pos p, p_rdI (by omega), p_wrI (by omega), j.1 249 (by omega), up2_oo (by omega), k1 249 (by omega) (by omega), Int.toNat_natCast, Nat.zero_add]
    · rw [if_neg (by omega), if_neg p]) 779 FU 0 _ (by omega) (by unfold FU; omega) (JW.nil _ _ _ _)
  have v2 : ∀ a : Nat, a ≠ 250 → a ≠ 248 → (up2 μ2 248 6 1) a = (up2 μ1 0 3 1) a := fun a x y => (up2_oo y).trans ((b2' a x).trans (up2_oo y))
  have w2 : ∀ a : Nat, a ≠ 250 → a ≠ 248 → a ≠ 0 → (a < 49 ∨ 72 ≤ a) → (up2 μ2 248 6 1) a = μ a := fun a x y z t => (v2 a x y).trans (k1 a z t)
  have e0 : (up2 μ2 248 6 1) 0 3 = 1 := by rw [v2 0 (by omega) (by omega), up2_s]
  have e248 : ∀ k : Nat, k ≠ 0 → k ≠ 6 → (up2 μ2 248 6 1) 248 k = μ 248 k := by
    intro k x y
    rw [up2_k y, b2' 248 (by omega), up2_k x, k1 248 (by omega) (by omega)]
  have eg : EqG (μ 249) ((up2 μ2 248 6 1) 250) := fun k hk => by
    have := b4 k hk
    rw [Nat.zero_add] at this
    rw [up2_oo (by omega)]; exact this
  unfold lc_save
  refine ⟨up2 μ2 248 6 1, ?_, ?_⟩
  · have hf : f_X10_save μ = some (up2 μ1 0 3 1, 0, μ 249 144) := by
      unfold f_X10_save
      rw [a1, p_rb, p_wrZ (Or.inr rfl), p_rdF, k1 (1 + 11) (by omega) (by omega), I.R.tot]
    have hg' : f_X11_save (up2 μ1 0 3 1) = some (up2 μ2 248 6 1, 0, μ 249 144) := by
      unfold f_X11_save
      rw [p_wrF]
      refine Eq.trans b1 ?_
      rw [p_wrZ (Or.inr rfl), p_rdI (by omega), w2 249 (by omega) (by omega) (by omega) (by omega)]; rfl
    rw [hf]
    simp only [ldir, hg']
    rw [p_eq (by omega), if_pos rfl]
  · obtain ⟨⟨i1, i2⟩, ⟨i3, i4⟩, ⟨i5, i6, i7, i8⟩, ⟨i9, i10, i11⟩, ⟨i12, i13, i14⟩⟩ := I
    refine ⟨⟨?_, ?_⟩, ⟨⟨?_, ?_⟩, fun w => ⟨?_, WS.cg eg (i2.up (by omega))⟩⟩, ⟨?_, ?_, ?_, fun j x y => ?_⟩, ⟨?_, ?_, fun i x y => ?_⟩, ⟨?_, ?_, ?_⟩⟩
    · rw [w2 249 (by omega) (by omega) (by omega) (by omega)]
      exact i1.keep (fun a x y => w2 a (by omega) (by omega) (by omega) (by omega))
    · rw [w2 249 (by omega) (by omega) (by omega) (by omega)]; exact i2.up (by omega)
    · rw [e0, up2_s]
    · exact Or.inr e0
    · exact RB.cg eg i2.1 (a2.keep (fun a x y => (v2 a (by omega) (by omega)).trans (up2_oo (by omega))))
    · rw [w2 73 (by omega) (by omega) (by omega) (by omega)]; exact i5
    · rw [w2 73 (by omega) (by omega) (by omega) (by omega)]; exact i6
    · rw [w2 73 (by omega) (by omega) (by omega) (by omega), e248 5 (by omega) (by omega)]; exact i7
    · rw [w2 73 (by omega) (by omega) (by omega) (by omega)] at y
      have hrj : ring (up2 μ2 248 6 1) j = ring μ j := by unfold ring; rw [w2 73 (by omega) (by omega) (by omega) (by omega)]
      have hsj : slice (up2 μ2 248 6 1) j = slice μ j := by unfold slice; rw [w2 252 (by omega) (by omega) (by omega) (by omega)]
      have rb : 75 ≤ ring μ j ∧ ring μ j + 24 ≤ 219 := by unfold ring; omega
      rw [hrj, hsj]
      exact ⟨(i8 j x y).1.keep (fun a u v => w2 a (by omega) (by omega) (by omega) (by omega)), (i8 j x y).2.up (by omega)⟩
    · rw [w2 219 (by omega) (by omega) (by omega) (by omega), e248 8 (by omega) (by omega)]; exact i9
    · rw [w2 219 (by omega) (by omega) (by omega) (by omega), e248 9 (by omega) (by omega)]; exact i10
    · rw [w2 219 (by omega) (by omega) (by omega) (by omega)] at y
      rw [w2 253 (by omega) (by omega) (by omega) (by omega), w2 220 (by omega) (by omega) (by omega) (by omega)]; exact i11 i x y
    · rw [w2 223 (by omega) (by omega) (by omega) (by omega)]; exact i12
    · rw [w2 223 (by omega) (by omega) (by omega) (by omega), e248 11 (by omega) (by omega)]; exact i13
    · rw [w2 254 (by omega) (by omega) (by omega) (by omega), w2 224 (by omega) (by omega) (by omega) (by omega), w2 225 (by omega) (by omega) (by omega) (by omega)]; exact i14

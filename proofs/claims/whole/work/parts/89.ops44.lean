/-! sheet: what is left of the books, and of the history -/
def S_hisF (n : Int) (μ : Mu) (fr : Nat → Int) (j : Int) : Nat → Int := if n < 6 then (if j < n then slice μ j else fr) else (if j < 5 then slice μ (j + 1) else fr)
theorem r_keeps0 {μ1 : Mu} {fr : Nat → Int} (n : Nat) (hn : n ≤ 6) (e5 : μ1 248 5 = (n : Int)) (hfr : ∀ k : Nat, k < 779 → μ1 251 k = fr k) : ∃ μ', f_X11_keeps μ1 = some (μ', 0, 0) ∧ (∀ a k : Nat, a ≠ 252 → ¬ (a = 248 ∧ k = 5) → μ' a k = μ1 a k) ∧ μ' 248 5 = S_hn n ∧ ∀ j : Int, 0 ≤ j → j < S_hn n → EqG (S_hisF n μ1 fr j) (slice μ' j) := by
  unfold f_X11_keeps S_hn S_hisF slice
  rw [p_rdF, e5, p_eq (by omega)]
  by_cases p : n = 6
  · subst p
    obtain ⟨μ2, b1, b2', b3, b4⟩ := loop_wr (F := f_X11_keeps_11 (fun μ => f_X11_keeps_53 μ)) (k := fun μ => f_X11_keeps_53 μ) (A := 252) (off := 0) (N := 3895) (val := fun i => μ1 252 (i + 779)) (μ0 := μ1) (fun fu v μ3 hv j => by
      rw [f_X11_keeps_11, p_lt (by omega)]
      by_cases p : v < 3895
      · rw [if_pos (by omega), if_pos p, p_rdI (by omega), p_wrI (by omega), Int.toNat_natCast, Nat.zero_add, show ((v : Int) + 779).toNat = v + 779 by omega, j.2.1 _ (by omega)]
      · rw [if_neg (by omega), if_neg p]) 3895 FU 0 μ1 (by omega) (by unfold FU; omega) (JW.nil _ _ _ _)
    have f5 : μ2 248 5 = ((6 : Nat) : Int) := by rw [b2' 248 (by omega)]; exact e5
    obtain ⟨μ3, c1, c2, c3, c4⟩ := r_keeps53 (μ := μ2) (n := 6) (by omega) f5
    refine ⟨μ3, ?_, fun a k h2 h3 => by rw [c2 a h2, b2' a h2], ?_, fun j x y => ?_⟩
    · rw [if_pos (by omega)]
      rw [show f_X11_keeps_11 (fun μ => f_X11_keeps_53 μ) FU 0 μ1 = f_X11_keeps_53 μ2 from b1, c1]
    · rw [c2 248 (by omega), f5]; rfl
    · rw [if_neg (by omega)] at y ⊢
      intro k hk
      by_cases q : j < 5
      · rw [if_pos q]
        have := b4 (779 * j.toNat + k) (by omega)
        rw [Nat.zero_add] at this
        have this : μ2 252 (779 * j.toNat + k) = μ1 252 (779 * j.toNat + k + 779) := this
        show μ3 252 (779 * j.toNat + k) = μ1 252 (779 * (j + 1).toNat + k)
        rw [c3 _ (by omega), this, show 779 * j.toNat + k + 779 = 779 * (j + 1).toNat + k by omega]
      · rw [if_neg q]
        have := c4 k hk
        show μ3 252 (779 * j.toNat + k) = fr k
        rw [show 779 * j.toNat + k = 779 * (6 - 1) + k by omega, this, b2' 251 (by omega), hfr k hk]
  · have f5 : (up2 μ1 248 5 ((n : Int) + 1)) 248 5 = ((n + 1 : Nat) : Int) := by rw [up2_s]; omega
    obtain ⟨μ3, c1, c2, c3, c4⟩ := r_keeps53 (μ := up2 μ1 248 5 ((n : Int) + 1)) (n := n + 1) (by omega) f5
    refine ⟨μ3, ?_, fun a k h2 h3 => by rw [c2 a h2, up2_eq, if_neg h3], ?_, fun j x y => ?_⟩
    · rw [if_neg (by omega), p_rdF, e5, p_wrF, c1]
    · rw [c2 248 (by omega), f5, if_pos (by omega)]; omega
    · rw [if_pos (by omega)] at y ⊢
      intro k hk
      by_cases q : j < (n : Int)
      · rw [if_pos q]
        show μ3 252 (779 * j.toNat + k) = μ1 252 (779 * j.toNat + k)
        rw [c3 _ (by omega), up2_oo (by omega)]
      · rw [if_neg q]
        have := c4 k hk
        show μ3 252 (779 * j.toNat + k) = fr k
        rw [show 779 * j.toNat + k = 779 * (n + 1 - 1) + k by omega, this, up2_oo (by omega), hfr k hk]
/-- the numbers are put back -/
theorem r_back {μ : Mu} {k : Int → Int → Mu → Option Res} {v5 v6 : Int} : ∃ μ', f_X11_sheet_196 k FU v5 v6 0 μ = k v5 v6 μ' ∧ (∀ a : Nat, a ≠ 249 → μ' a = μ a) ∧ (∀ i : Nat, i < 779 → μ' 249 i = μ 251 i) ∧ ∀ i : Nat, 779 ≤ i → μ' 249 i = μ 249 i := by
  obtain ⟨μ', a1, a2, a3, a4⟩ := loop_wr (F := fun fu v μ => f_X11_sheet_196 k fu v5 v6 v μ) (k := fun μ => k v5 v6 μ) (A := 249) (off := 0) (N := 779) (val := fun i => μ 251 i) (μ0 := μ) (fun fu v μ1 hv j => by
    show f_X11_sheet_196 k (fu + 1) v5 v6 (v : Int) μ1 = _
    rw [f_X11_sheet_196, p_lt (by omega)]
    by_cases p : v < 779
    · rw [if_pos (by omega), if_pos p, p_rdI (by omega), p_wrI (by omega), j.1 251 (by omega), Int.toNat_natCast, Nat.zero_add]
    · rw [if_neg (by omega), if_neg p]) 779 FU 0 μ (by omega) (by unfold FU; omega) (JW.nil _ _ _ _)
  exact ⟨μ', a1, a2, fun i hi => by have := a4 i hi; rw [Nat.zero_add] at this; exact this, fun i hi => a3 i (by omega)⟩
/-! the invariant's parts -/
def P3 (T : Int) (μ : Mu) : Prop := (0 ≤ μ 73 1 ∧ μ 73 1 < 6) ∧ (0 ≤ μ 73 2 ∧ μ 73 2 ≤ 6) ∧ μ 248 5 = μ 73 2 ∧ ∀ j : Int, 0 ≤ j → j < μ 73 2 → RB μ (ring μ j) (slice μ j) ∧ WS (slice μ j) T
def P4 (μ : Mu) : Prop := (0 ≤ μ 219 2 ∧ μ 219 2 ≤ 60 ∧ μ 248 8 = μ 219 2) ∧ (-1 ≤ μ 219 3 ∧ μ 219 3 ≤ 60 ∧ μ 248 9 = μ 219 3) ∧ ∀ i : Int, 0 ≤ i → i < μ 219 2 → μ 253 i.toNat = μ 220 i.toNat ∧ 33 ≤ μ 220 i.toNat ∧ μ 220 i.toNat ≤ 126
def P5 (μ : Mu) : Prop := (μ 223 2 = 0 ∨ μ 223 2 = 2) ∧ μ 248 11 = μ 223 2 ∧ ∀ l : Int, 0 ≤ l → l < 2 → (μ 254 (2 * l).toNat = μ 224 l.toNat ∧ iG (μ 224 l.toNat)) ∧ (μ 254 (2 * l + 1).toNat = μ 225 l.toNat ∧ iG (μ 225 l.toNat))
theorem P4.e {μ : Mu} {x : Int} (h1 : μ 219 2 = 0) (h2 : μ 248 8 = 0) (h3 : μ 219 3 = x) (h4 : μ 248 9 = x) (h5 : -1 ≤ x ∧ x ≤ 60) : P4 μ := ⟨⟨by omega, by omega, by omega⟩, ⟨by omega, by omega, by omega⟩, fun i a b => by omega⟩
theorem P3.keep {T T' : Int} {μ μ2 : Mu} (I : Inv T μ) (hT : T ≤ T') (h : ∀ a : Nat, (73 ≤ a ∧ a < 219) → μ2 a = μ a) (h5 : μ2 248 5 = μ 248 5) (h252 : μ2 252 = μ 252) : P3 T' μ2 := by
  obtain ⟨i5, i6, i7, i8⟩ := I.2.2.1
  refine ⟨?_, ?_, ?_, fun j x y => ?_⟩
  · rw [h 73 (by omega)]; exact i5
  · rw [h 73 (by omega)]; exact i6
  · rw [h5, h 73 (by omega)]; exact i7
  · rw [h 73 (by omega)] at y
    have hr : ring μ2 j = ring μ j := by unfold ring; rw [h 73 (by omega)]
    have hs : slice μ2 j = slice μ j := by unfold slice; rw [h252]
    have rb : 75 ≤ ring μ j ∧ ring μ j + 24 ≤ 219 := by unfold ring; omega
    rw [hr, hs]
    exact ⟨(i8 j x y).1.keep (fun a u v => h a (by omega)), (i8 j x y).2.up hT⟩
theorem P5.keep {T : Int} {μ μ2 : Mu} (I : Inv T μ) (h : ∀ a : Nat, (a = 223 ∨ a = 224 ∨ a = 225 ∨ a = 254) → μ2 a = μ a) (h11 : μ2 248 11 = μ 248 11) : P5 μ2 := by
  obtain ⟨i12, i13, i14⟩ := I.2.2.2.2
  refine ⟨?_, ?_, ?_⟩
  · rw [h 223 (by omega)]; exact i12
  · rw [h11, h 223 (by omega)]; exact i13
  · rw [h 254 (by omega), h 224 (by omega), h 225 (by omega)]; exact i14
theorem P5.of {μ : Mu} {s1 s2 s3 s4 : Int} (u : μ 223 2 = 2 ∧ μ 224 0 = s1 ∧ μ 225 0 = s2 ∧ μ 224 1 = s3 ∧ μ 225 1 = s4) (v : μ 248 11 = 2 ∧ μ 254 0 = s1 ∧ μ 254 1 = s2 ∧ μ 254 2 = s3 ∧ μ 254 3 = s4) (hs : iG s1 ∧ iG s2 ∧ iG s3 ∧ iG s4) : P5 μ := by
  obtain ⟨u1, u2, u3, u4, u5⟩ := u
  obtain ⟨v1, v2, v3, v4, v5⟩ := v
  refine ⟨Or.inr u1, by rw [v1, u1], fun l x y => ?_⟩
  rcases (show l = 0 ∨ l = 1 by omega) with rfl | rfl
  · show (μ 254 0 = μ 224 0 ∧ iG (μ 224 0)) ∧ (μ 254 1 = μ 225 0 ∧ iG (μ 225 0))
    rw [v2, v3, u2, u3]; exact ⟨⟨rfl, hs.1⟩, rfl, hs.2.1⟩
  · show (μ 254 2 = μ 224 1 ∧ iG (μ 224 1)) ∧ (μ 254 3 = μ 225 1 ∧ iG (μ 225 1))
    rw [v4, v5, u4, u5]; exact ⟨⟨rfl, hs.2.2.1⟩, rfl, hs.2.2.2⟩
theorem Inv.fin2 {T T' : Int} {μ μ2 : Mu} (I : Inv T μ) (hT : T ≤ T') (h : ∀ a : Nat, (a = 0 ∨ (49 ≤ a ∧ a < 73) ∨ a = 250) → μ2 a = μ a) (h6 : μ2 248 6 = μ 248 6) (p1 : RB μ2 1 (μ2 249) ∧ WS (μ2 249) T') (p3 : P3 T' μ2) (p4 : P4 μ2) (p5 : P5 μ2) : Inv T' μ2 := by
  obtain ⟨i3, i4⟩ := I.2.1
  refine ⟨p1, ⟨?_, ?_⟩, p3, p4, p5⟩
  · rw [h6, h 0 (by omega)]; exact i3
  · rw [h 0 (by omega), h 250 (by omega)]
    intro w
    exact ⟨(i4 w).1.keep (fun a x y => h a (by omega)), (i4 w).2.up hT⟩
theorem shpos_b {t : Int → Int} {L : Int} (h : TY t L) : 0 ≤ tq_shpos t ∧ tq_shpos t ≤ 60 := by
  have hL := h.1
  unfold tq_shpos
  by_cases p1 : 48 ≤ t 0 ∧ t 0 ≤ 51
  · rw [if_pos p1]
    by_cases p2 : t 1 = 47
    · rw [if_pos p2]
      by_cases p3 : 48 ≤ t 2 ∧ t 2 ≤ 52
      · rw [if_pos p3]
        by_cases p4 : t 3 = 58
        · have l4 := h.lt (j := 3) (by omega)
          have := tq_posb h 60 4 (by omega) (by omega)
          rw [if_pos p4]; omega
        · rw [if_neg p4]; omega
      · rw [if_neg p3]; omega
    · rw [if_neg p2]; omega
  · rw [if_neg p1]; omega
theorem shok_01 {t : Int → Int} {L : Int} : tq_shok t L = 0 ∨ (tq_shok t L = 1 ∧ (48 ≤ t 0 ∧ t 0 ≤ 51) ∧ t 1 = 47 ∧ (48 ≤ t 2 ∧ t 2 ≤ 52) ∧ t 3 = 58 ∧ tq_ok t L 60 4 = 1) := by
  unfold tq_shok
  by_cases p1 : 48 ≤ t 0 ∧ t 0 ≤ 51
  · rw [if_pos p1]
    by_cases p2 : t 1 = 47
    · rw [if_pos p2]
      by_cases p3 : 48 ≤ t 2 ∧ t 2 ≤ 52
      · rw [if_pos p3]
        by_cases p4 : t 3 = 58
        · rw [if_pos p4]
          rcases tq_ok01 (t := t) (L := L) 60 4 with w | w
          · exact Or.inl w
          · exact Or.inr ⟨w, p1, p2, p3, p4, w⟩
        · rw [if_neg p4]; exact Or.inl rfl
      · rw [if_neg p3]; exact Or.inl rfl
    · rw [if_neg p2]; exact Or.inl rfl
  · rw [if_neg p1]; exact Or.inl rfl
/-- the text of the class -/
def S_tx (μ : Mu) (j : Int) : Int := if j < μ 219 2 then μ 220 j.toNat else -1
theorem tx_TY {T : Int} {μ : Mu} (I : Inv T μ) : TY (S_tx μ) (μ 219 2) := by
  obtain ⟨⟨t1, t2, t3⟩, te, tc⟩ := I.2.2.2.1
  refine ⟨⟨t1, t2⟩, fun j x y => ?_, fun j x => ?_⟩
  · unfold S_tx
    rw [if_pos y]; exact (tc j x y).2
  · unfold S_tx
    rw [if_neg (by omega)]
theorem tx_CY {μ : Mu} : CY μ (S_tx μ) (μ 219 2) := ⟨rfl, fun j x y => by
  unfold S_tx
  rw [if_pos y]⟩
theorem tx_TYr {T : Int} {μ : Mu} (I : Inv T μ) : TYr μ (S_tx μ) (μ 219 2) := by
  obtain ⟨⟨t1, t2, t3⟩, te, tc⟩ := I.2.2.2.1
  refine ⟨t3, fun j x y => ?_⟩
  unfold S_tx
  rw [if_pos y]; exact (tc j x y).1
/-- the class reads, and empties its buffer -/
theorem c_read {T : Int} {μ : Mu} (I : Inv T μ) : ∃ μ', f_X8_readAndClear μ = some (μ', 0, 0) ∧ μ' 219 2 = 0 ∧ μ' 219 3 = (if tq_shok (S_tx μ) (μ 219 2) = 1 then -1 else tq_shpos (S_tx μ)) ∧ (∀ a : Nat, ¬ (219 ≤ a ∧ a ≤ 222) → μ' a = μ a) ∧ (tq_shok (S_tx μ) (μ 219 2) = 1 → μ' 219 6 = ((tq_es (S_tx μ) 60 4).length : Int) ∧ (∀ j : Nat, j < (tq_es (S_tx μ) 60 4).length → μ' 221 j = ((tq_es (S_tx μ) 60 4).getD j (0, 0)).1 ∧ μ' 222 j = ((tq_es (S_tx μ) 60 4).getD j (0, 0)).2) ∧ μ' 219 4 = S_tx μ 0 - 48 ∧ μ' 219 5 = S_tx μ 2 - 48) := by
  have h := tx_TY I
  have j0 : JC μ (up2 (up2 μ 219 1 0) 219 6 0) := ((JC.rf μ).up (by omega)).up (by omega)
  obtain ⟨m1, a1, j1, k1⟩ := c_pos h (tx_CY.jc j0) ((up2_k (by omega)).trans up2_s) up2_s
  have j1 := j0.tr j1
  refine ⟨up2 (up2 m1 219 3 (if tq_shok (S_tx μ) (μ 219 2) = 1 then -1 else tq_shpos (S_tx μ))) 219 2 0, ?_, up2_s, ?_, fun a ha => funext fun k => ?_, fun w => ?_⟩
  · unfold f_X8_readAndClear
    rw [p_wrF, p_wrF, a1, p_rb, p_wrF, p_wrF]
  · rw [up2_k (by omega), up2_s]
  · rw [up2_o (by omega), up2_o (by omega), j1 a k (by omega)]
  · obtain ⟨k2, k3, k4, k5⟩ := k1 w
    refine ⟨?_, fun j hj => ⟨?_, ?_⟩, ?_, ?_⟩
    · rw [up2_k (by omega), up2_k (by omega)]; exact k2
    · rw [up2_o (by omega), up2_o (by omega)]; exact (k3 j hj).1
    · rw [up2_o (by omega), up2_o (by omega)]; exact (k3 j hj).2
    · rw [up2_k (by omega), up2_k (by omega)]; exact k4
    · rw [up2_k (by omega), up2_k (by omega)]; exact k5
/-- the reference reads, and begins -/
theorem r_shP {m9 : Mu} {t : Int → Int} {L T : Int} {g : Nat → Int} (h : TY t L) (R : TYr m9 t L) (hg : m9 249 = g) (W : WS g T) (ok : tq_shok t L = 1) (p1 : 48 ≤ t 0 ∧ t 0 ≤ 51) (p2 : t 1 = 47) (p3 : 48 ≤ t 2 ∧ t 2 ≤ 52) (p4 : t 3 = 58) (o4 : tq_ok t L 60 4 = 1) :
    ∃ m10, f_X11_sheet m9 = f_X11_sheet_176 (tq_ri (t 0 - 48) (t 2 - 48) (tq_es t 60 4) g) (tq_rw (t 0 - 48) (t 2 - 48) (tq_es t 60 4) g) m10 ∧ m10 249 = tq_rg (t 0 - 48) (t 2 - 48) (tq_es t 60 4) g ∧ (tq_rw (t 0 - 48) (t 2 - 48) (tq_es t 60 4) g ≠ 0 → m10 248 20 = S_wd (tq_rg (t 0 - 48) (t 2 - 48) (tq_es t 60 4) g) (t 0 - 48) (t 2 - 48) (tq_rw (t 0 - 48) (t 2 - 48) (tq_es t 60 4) g)) ∧ (∀ k : Nat, k < 779 → m10 251 k = g k) ∧ m10 248 9 = -1 ∧ m10 248 0 = 0 ∧ ∀ a k : Nat, a ≠ 249 → a ≠ 251 → ¬ jT a k → ¬ (a = 248 ∧ (k = 8 ∨ k = 9)) → m10 a k = m9 a k := by
  have hL := h.1
  have l4 := h.lt (j := 3) (by omega)
  have R0 : TYr (up2 m9 248 0 0) t L := ⟨(up2_k (by omega)).trans R.1, fun j x y => (up2_o (by omega)).trans (R.2 j x y)⟩
  obtain ⟨m2, a2, j2, -, r2⟩ := r_isSheet h R0
  rw [ok] at a2
  obtain ⟨m3, a3, b3, c3⟩ := r_frames (up2 (up2 m2 248 9 (-1)) 248 8 0)
  have g3 : ∀ k : Nat, m3 248 k = (up2 (up2 m2 248 9 (-1)) 248 8 0) 248 k := fun k => congrFun (b3 248 (by omega)) k
  have lo : ∀ a k : Nat, a ≠ 251 → ¬ (a = 248 ∧ (k = 0 ∨ k = 8 ∨ k = 9 ∨ (21 ≤ k ∧ k ≤ 24))) → m3 a k = m9 a k := fun a k x y => by
    rw [b3 a x, up2_eq, if_neg (by omega), up2_eq, if_neg (by omega), j2 a k (by omega), up2_eq, if_neg (by omega)]
  have s5 : SQ (up2 (up2 m3 248 8 L) 248 21 0) 0 1 := by
    refine ⟨up2_s, ?_⟩
    rw [up2_k (by omega), up2_k (by omega), g3, up2_k (by omega), up2_k (by omega)]
    exact r2 ok
  have R5 : TYr (up2 (up2 m3 248 8 L) 248 21 0) t L := ⟨(up2_k (by omega)).trans up2_s, fun j x y => by
    rw [up2_o (by omega), up2_o (by omega), lo 253 _ (by omega) (by omega)]; exact R.2 j x y⟩
  obtain ⟨m6, a6, j6, s6⟩ := r_dt h R5 s5 (by omega) (c := 51) (by omega) p1
  have s6 : SQ m6 1 1 := s6
  have j7 : JP (up2 (up2 m3 248 8 L) 248 21 0) (up2 m6 248 21 2) := j6.jp.up (by omega)
  have s7 : SQ (up2 m6 248 21 2) 2 1 := ⟨up2_s, (up2_k (by omega)).trans s6.2⟩
  obtain ⟨m8, a8, j8, s8⟩ := r_dt h (R5.jp j7) s7 (by omega) (c := 52) (by omega) p3
  have s8 : SQ m8 (4 - 1) 1 := s8
  have j8 := j7.tr j8.jp
  have f8 : m8 249 = g := (funext fun k => by rw [j8 249 k (by omega), up2_o (by omega), up2_o (by omega), lo 249 k (by omega) (by omega)]).trans hg
  obtain ⟨m10, k1, k2, k3, k4⟩ := r_shl h (m := t 0 - 48) (q := t 2 - 48) (by omega) (by omega) (fun v5 v6 μ => f_X11_sheet_176 v5 v6 μ) 60 FU 4 0 T g m8 f8 W (R5.jp j8) s8 (by omega) (by omega) o4 (by unfold FU; omega)
  have k1 : f_X11_sheet_91 (fun v5 v6 μ => f_X11_sheet_176 v5 v6 μ) FU (t 0 - 48) (t 2 - 48) 0 0 m8 = f_X11_sheet_176 (0 + tq_ri (t 0 - 48) (t 2 - 48) (tq_es t 60 4) g) (tq_rw (t 0 - 48) (t 2 - 48) (tq_es t 60 4) g) m10 := k1
  rw [Int.zero_add] at k1
  have e24 : ∀ k : Nat, ¬ (21 ≤ k ∧ k ≤ 24) → m8 248 k = (up2 (up2 m3 248 8 L) 248 21 0) 248 k := fun k x => j8 248 k (by omega)
  refine ⟨m10, ?_, k2, k3, fun k hk => ?_, ?_, ?_, fun a k x y z w => ?_⟩
  · have n8 : (up2 m2 248 9 (-1)) 248 8 = L := by
      rw [up2_k (by omega), j2 248 8 (by omega)]; exact R0.1
    unfold f_X11_sheet f_X11_sheet_23
    rw [p_wrF, a2, p_rb, p_eq (by omega), if_neg (by omega), p_wrF, p_rdF, n8, p_wrF, p_eq (by omega), if_neg (by omega), a3, p_rb, p_wrF, p_wrF, a6, p_rb, p_rdF, s6.1, p_wrF]
    show (rb (f_X11_digit 52 (up2 m6 248 21 2)) fun μ x4 => f_X11_sheet_91 (fun v5 v6 μ => f_X11_sheet_176 v5 v6 μ) FU (t 0 - 48) x4 0 0 μ) = _
    obtain ⟨m8', a8', -, -⟩ := r_dt h (R5.jp j7) s7 (by omega) (c := 52) (by omega) p3
    rw [a8, p_rb, k1]
  · rw [k4 251 k (by omega) (by unfold jR; omega), j8 251 k (by omega), up2_o (by omega), up2_o (by omega), c3 k hk, up2_o (by omega), up2_o (by omega), j2 249 k (by omega), up2_o (by omega), hg]
  · rw [k4 248 9 (by omega) (by unfold jR; omega), e24 9 (by omega), up2_k (by omega), up2_k (by omega), g3, up2_k (by omega), up2_s]
  · rw [k4 248 0 (by omega) (by unfold jR; omega), e24 0 (by omega), up2_k (by omega), up2_k (by omega), g3, up2_k (by omega), up2_k (by omega), j2 248 0 (by omega), up2_s]
  · unfold jT at z
    rw [k4 a k x (by unfold jR; omega), j8 a k (by omega), up2_eq, if_neg (by omega), up2_eq, if_neg (by omega), lo a k y (by omega)]

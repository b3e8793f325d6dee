/-! who made an entry of a script; pay -/
abbrev S_hb (g : Nat → Int) (m c q : Int) : Prop := 0 < sm (fun e => b2 (S_is g c q e ∧ S_em g e = m)) (g 144).toNat 0
abbrev S_bP (μ : Mu) (a : Nat) (n s m j : Int) : Prop := j < n ∧ μ a (s * 3 + j).toNat = m
/-- the entries of a script stand in its slots -/
theorem sl_ex {g : Nat → Int} (h : WF g) {c q j : Int} (h0 : 0 ≤ j) (hj : j < S_cnt g c q (g 144).toNat) : ∃ e : Int, (0 ≤ e ∧ e < g 144) ∧ S_is g c q e ∧ S_sl g e = (c * 5 + q) * 3 + j := by
  have hln := ents_len g c q
  obtain ⟨a1, a2, a3⟩ := ents_at (g := g) (c := c) (q := q) h.tot.1 (i := j.toNat) (by omega)
  exact ⟨_, a1, a2, by omega⟩
theorem c_hasEB {μ : Mu} {b : Nat} {g : Nat → Int} (h : WF g) (h3 : WF3 g) (R : RB μ b g) {m c q s : Int} (hm : 0 ≤ m ∧ m < 4) (hc : 0 ≤ c ∧ c < 8) (hq : 0 ≤ q ∧ q < 5) (hs : s = c * 5 + q) : f_X3_hasEntryBy (b + 11) m s μ = some (μ, 0, b2 (S_hb g m c q)) := by
  have ht := h.tot
  have hsz := R.sz hc hq
  have hcn := h3 c q
  have hc0 := cnt_0 (g := g) (c := c) (q := q) (n := (g 144).toNat)
  have sp := sm_pos (fun e => S_is g c q e ∧ S_em g e = m) (g 144).toNat 0
  rw [← hs] at hsz
  unfold f_X3_hasEntryBy
  have key := loop_find (fun fu v => f_X3_hasEntryBy_2 (b + 11) m s (fun μ => retZ μ 1) (fun μ => retZ μ 0) fu v μ) (fun _ => retZ μ 1) (retZ μ 0) (S_bP μ (b + 11 + 2) (S_cnt g c q (g 144).toNat) s m) 3 (fun v => 0 ≤ v ∧ v ≤ 3) ?_ (fun v hi hlt => by omega) 3 FU 0 (by omega) (by omega) (by unfold FU; omega)
  · rcases key with ⟨j, j1, j2, ⟨j3, j4⟩, -, j5⟩ | ⟨n1, n2⟩
    · obtain ⟨e, e1, e2, e3⟩ := sl_ex h (c := c) (q := q) j1 j3
      have en := (R.en e1).2.1
      rw [e3, ← hs] at en
      rw [j5, b2_t (show S_hb g m c q from sp.mpr ⟨e, e1.1, by omega, e2, en.symm.trans j4⟩)]; rfl
    · have nb : ¬ S_hb g m c q := fun w => by
        obtain ⟨e, e1, e2, e3, e4⟩ := sp.mp w
        have he : 0 ≤ e ∧ e < g 144 := by omega
        have en := (R.en he).2.1
        have cl := cnt_lt he e3
        have c9 := cnt_0 (g := g) (c := c) (q := q) (n := e.toNat)
        have es : S_sl g e = s * 3 + S_cnt g c q e.toNat := by
          unfold S_sl
          rw [e3.1, e3.2]; omega
        refine n1 (S_cnt g c q e.toNat) c9 (by omega) ⟨cl, ?_⟩
        rw [← es]; exact en.trans e4
      rw [n2, b2_f nb]; rfl
  · intro fu v hi
    show f_X3_hasEntryBy_2 (b + 11) m s _ _ (fu + 1) v μ = _
    rw [f_X3_hasEntryBy_2, p_lt (by omega)]
    by_cases hv : v < 3
    · rw [if_pos hv, if_pos hv]
      unfold f_X3_isBy f_X3_isBy_28 f_X3_isBy_29
      rw [p_rem (by omega), p_div (by omega), show (s * 3 + v) % 3 = v by omega, show (s * 3 + v) / 3 = s by omega, p_rdI (by omega), hsz, p_lt (by omega)]
      by_cases p : v < S_cnt g c q (g 144).toNat
      · obtain ⟨e, e1, e2, e3⟩ := sl_ex h (c := c) (q := q) hi.1 p
        have en := (R.en e1).2.1
        rw [e3, ← hs] at en
        have hee := h.ee e1
        rw [if_pos p, p_rdI (by omega), p_eq (by omega)]
        by_cases p2 : μ (b + 11 + 2) (s * 3 + v).toNat = m
        · rw [if_pos p2, p_Z1, p_rb, p_eq (by omega), if_neg (by omega), if_pos ⟨p, p2⟩]; rfl
        · rw [if_neg p2, p_Z0, p_rb, p_eq (by omega), if_pos rfl, if_neg (fun w => p2 w.2)]
      · rw [if_neg p, p_Z0, p_rb, p_eq (by omega), if_pos rfl, if_neg (fun w => p w.1)]
    · rw [if_neg hv, if_neg hv]
theorem r_hasEnt {μ : Mu} (h : WF (μ 249)) {m c q : Int} (hm : iG m) (hc : iG c) (hq : iG q) : f_X11_hasEntered m c q μ = some (μ, 0, b2 (S_hb (μ 249) m c q)) := by
  have hN := h.tot
  unfold f_X11_hasEntered
  have key := loop_up (S := Int) (fun fu s v => f_X11_hasEntered_6 m c q (fun v4 μ => retZ μ v4) fu s v μ) (fun s => retZ μ s) (fun s v => if s = 0 then b2 (S_is (μ 249) c q v ∧ S_em (μ 249) v = m) else 1) (μ 249 144) (fun s v => (s = 0 ∨ s = 1) ∧ 0 ≤ v ∧ v ≤ μ 249 144) ?_ ?_ (μ 249 144).toNat FU 0 0 ⟨Or.inl rfl, by omega, by omega⟩ (by omega) (by unfold FU; omega)
  · rw [key]
    obtain ⟨a1, a2⟩ := itS_or (fun e => S_is (μ 249) c q e ∧ S_em (μ 249) e = m) (μ 249 144).toNat 0 0 (Or.inl rfl)
    rw [p_Z a1, b2_of a1 (a2.trans (show _ ↔ S_hb (μ 249) m c q from ?_))]
    have sp := sm_pos (fun e => S_is (μ 249) c q e ∧ S_em (μ 249) e = m) (μ 249 144).toNat 0
    constructor
    · rintro (h1 | h1)
      · omega
      · exact sp.mpr h1
    · intro h1; exact Or.inr (sp.mp h1)
  · intro fu s v hi
    obtain ⟨hs, hv⟩ := hi
    show f_X11_hasEntered_6 m c q _ (fu + 1) s v μ = _
    rw [f_X11_hasEntered_6, p_rdI (by omega)]
    show i_lt v (μ 249 144) _ _ = _
    rw [p_lt (by omega)]
    by_cases hvN : v < μ 249 144
    · have h1 := h.ee (e := v) (by omega)
      unfold iG at hm
      rw [if_pos hvN, if_pos hvN, p_eq (by omega)]
      unfold f_X11_hasEntered_46 f_X11_hasEntered_50 f_X11_hasEntered_51
      rcases hs with rfl | rfl
      · rw [if_pos rfl, if_pos rfl, r_isOf h (by omega) hc hq, p_rb]
        by_cases p : S_is (μ 249) c q v
        · rw [b2_t p, p_eq (by omega), if_neg (by omega), r_p0 (by omega), p_rb, p_eq (by omega)]
          by_cases p2 : S_em (μ 249) v = m
          · rw [if_pos p2, b2_t (show S_is (μ 249) c q v ∧ S_em (μ 249) v = m from ⟨p, p2⟩)]
          · rw [if_neg p2, b2_f (show ¬ (S_is (μ 249) c q v ∧ S_em (μ 249) v = m) from fun w => p2 w.2)]
        · rw [b2_f p, p_eq (by omega), if_pos rfl, b2_f (show ¬ (S_is (μ 249) c q v ∧ S_em (μ 249) v = m) from fun w => p w.1)]
      · rw [if_neg (by omega), if_neg (by omega)]
    · rw [if_neg hvN, if_neg hvN]
  · intro s v hi hlt
    refine ⟨?_, by omega, by omega⟩
    rcases hi.1 with e | e
    · rw [if_pos e]; exact b2_01 _
    · rw [if_neg (by omega)]; exact Or.inr rfl
theorem c_earn {μ : Mu} {b : Nat} {m q : Int} (hm : 0 ≤ m ∧ m < 4) (hq : 0 ≤ q ∧ q < 5) : f_X1_earn b m q μ = some (up2 μ (b + 6) m.toNat (μ (b + 6) m.toNat + (10 + μ (b + 1) q.toNat)), 0, 0) := by
  unfold f_X1_earn
  rw [p_rdI (by omega), p_rdI (by omega), p_wrI (by omega)]
theorem r_pays {μ : Mu} {m q : Int} (hm : 0 ≤ m ∧ m < 4) (hq : 0 ≤ q ∧ q < 5) : f_X11_pays m q μ = some (up2 μ 249 (775 + m).toNat (μ 249 (775 + m).toNat + (10 + μ 249 q.toNat)), 0, 0) := by
  unfold f_X11_pays
  rw [p_rdI (by omega), p_rdI (by omega), p_wrI (by omega), Int.zero_add]
theorem c_reqN {μ : Mu} {v : Int} (hv : iG v) : f_X10_requireNotNegative v μ = if 0 ≤ v then some (μ, 0, 0) else some (μ, 2, 0) := by
  unfold iG at hv
  unfold f_X10_requireNotNegative
  rw [p_lt (by omega)]
  by_cases p : v < 0
  · rw [if_pos p, if_neg (by omega)]
  · rw [if_neg p, if_pos (by omega)]
/-- what happens elsewhere -/
theorem CM.wr2 {μ μ1 μ2 : Mu} {g1 g2 : Nat → Int} (C : CM μ μ1 g1) (h : ∀ a : Nat, (a = 0 ∨ (25 ≤ a ∧ a < 227) ∨ 248 ≤ a) → μ2 a = μ1 a) (R : RB μ2 1 g2) : CM μ μ2 g2 := by
  obtain ⟨c1, ⟨c2, c3, c4⟩, c5⟩ := C
  have e73 : μ2 73 = μ1 73 := h 73 (by omega)
  refine ⟨R, ⟨by rw [e73]; exact c2, by rw [e73]; exact c3, fun j x y => ?_⟩, fun a ha => (h a (by omega)).trans (c5 a ha)⟩
  have hr : ring μ2 j = ring μ1 j := by unfold ring; rw [e73]
  rw [hr]
  have rb : 75 ≤ ring μ1 j ∧ ring μ1 j + 24 ≤ 219 := by unfold ring; omega
  exact (c4 j x y).keep (fun a u v => h a (by omega))
theorem RM.jt2 {μ μ9 μ2 μ3 : Mu} {g1 : Nat → Int} (R : RM μ μ9 μ2 g1) (h : JT μ2 μ3) : RM μ μ9 μ3 g1 := by
  obtain ⟨r1, ⟨r2, r3⟩, r4, r5, r6⟩ := R
  refine ⟨fun k hk => by rw [h.s]; exact r1 k hk, ⟨(h 248 5 (by unfold jT; omega)).trans r2, fun j x y => ?_⟩, fun a ha => (funext fun k => h a k (by unfold jT; omega)).trans (r4 a ha), fun a ha => (funext fun k => h a k (by unfold jT; omega)).trans (r5 a ha), fun k x y z => (h 248 k (by unfold jT; omega)).trans (r6 k x y z)⟩
  have e : slice μ3 j = slice μ2 j := funext fun k => h 252 _ (by unfold jT; omega)
  rw [e]; exact r3 j x y
/-! remark: what the numbers are afterwards -/
def RMK (g G : Nat → Int) (c q m v st V : Int) : Prop := (∀ k : Nat, k ≠ (653 + 15 * c + 3 * q).toNat → k ≠ (653 + 15 * c + 3 * q + 2).toNat → k ≠ (775 + m).toNat → k ≠ 774 → G k = g k) ∧ G (653 + 15 * c + 3 * q).toNat = st ∧ G (653 + 15 * c + 3 * q + 2).toNat = v ∧ G (775 + m).toNat = V
theorem RMK.e {g G : Nat → Int} {c q m v st V : Int} (K : RMK g G c q m v st V) (hc : 0 ≤ c ∧ c < 8) (hq : 0 ≤ q ∧ q < 5) (hm : 0 ≤ m ∧ m < 4) : ∀ k : Nat, k < 653 → G k = g k := fun k x => K.1 k (by omega) (by omega) (by omega) (by omega)
theorem RMK.o {g G : Nat → Int} {c q m v st V : Int} (K : RMK g G c q m v st V) (hc : 0 ≤ c ∧ c < 8) (hq : 0 ≤ q ∧ q < 5) (hm : 0 ≤ m ∧ m < 4) : ∀ x y w : Int, 0 ≤ x → x < 8 → 0 ≤ y → y < 5 → 0 ≤ w → w < 3 → ¬ (x = c ∧ y = q) → S_ap G x y w = S_ap g x y w := fun x y w x1 x2 y1 y2 v1 v2 n => K.1 _ (by omega) (by omega) (by omega) (by omega)
theorem RMK.s {g G : Nat → Int} {c q m v st V : Int} (K : RMK g G c q m v st V) (hc : 0 ≤ c ∧ c < 8) (hq : 0 ≤ q ∧ q < 5) (hm : 0 ≤ m ∧ m < 4) : S_ap G c q 0 = st ∧ S_ap G c q 1 = S_ap g c q 1 ∧ S_ap G c q 2 = v := by
  refine ⟨?_, K.1 _ (by omega) (by omega) (by omega) (by omega), K.2.2.1⟩
  unfold S_ap
  rw [Int.add_zero]; exact K.2.1
theorem RMK.W {g G : Nat → Int} {T T' c q m v st V : Int} (K : RMK g G c q m v st V) (W : WS g T) (hT : T ≤ T') (hc : 0 ≤ c ∧ c < 8) (hq : 0 ≤ q ∧ q < 5) (hm : 0 ≤ m ∧ m < 4) (hs : 1 ≤ st ∧ st ≤ 3) (hv : 0 ≤ v ∧ v ≤ 40) (ha : 1 ≤ S_ap g c q 0) (hV : 0 ≤ V ∧ V ≤ T') (hr : 0 ≤ G 774 ∧ G 774 ≤ T') : WS G T' := by
  have a := W.1.ap0 hc hq
  obtain ⟨s0, s1, s2⟩ := K.s hc hq hm
  refine WS.ap1 W hc hq (K.e hc hq hm) (K.o hc hq hm) (by rw [s0]; exact hs) (by rw [s1]; exact a.2.1) (by rw [s2]; exact hv) ?_ (fun i x y => ?_) hr ?_
  · have := (W.2.2.1 c hc.1 hc.2).2
    rw [b2_t (by omega)]; omega
  · by_cases z : i = m
    · rw [z, K.2.2.2]; exact hV
    · rw [K.1 _ (by omega) (by omega) (by omega) (by omega)]
      have := W.2.2.2.1 i x y
      omega
  · rw [s1, K.1 773 (by omega) (by omega) (by omega) (by omega)]; omega
theorem RMK.R {μ1 μ2 : Mu} {g G : Nat → Int} {c q m v st V : Int} (K : RMK g G c q m v st V) (h : WF g) (R : RB μ1 1 g) (hc : 0 ≤ c ∧ c < 8) (hq : 0 ≤ q ∧ q < 5) (hm : 0 ≤ m ∧ m < 4) (hr : ∀ a : Nat, ((1 ≤ a ∧ a ≤ 6) ∨ (8 ≤ a ∧ a ≤ 19) ∨ a = 22) → μ2 a = μ1 a)
    (h7 : μ2 7 m.toNat = V ∧ ∀ k : Nat, k ≠ m.toNat → μ2 7 k = μ1 7 k) (h21 : μ2 21 (c * 5 + q).toNat = st ∧ ∀ k : Nat, k ≠ (c * 5 + q).toNat → μ2 21 k = μ1 21 k) (h23 : μ2 23 (c * 5 + q).toNat = v ∧ ∀ k : Nat, k ≠ (c * 5 + q).toNat → μ2 23 k = μ1 23 k) (h20 : μ2 20 3 = G 774) : RB μ2 1 G := by
  obtain ⟨s0, s1, s2⟩ := K.s hc hq hm
  refine RB.ap1 h R hc hq (K.e hc hq hm) (K.o hc hq hm) (fun a ha => hr a (by omega)) (fun a k x y z => ?_) ⟨?_, ?_, ?_⟩ (fun i x y => ?_) h20
  · rcases (show a = 21 ∨ a = 22 ∨ a = 23 by omega) with rfl | rfl | rfl
    · exact h21.2 k z
    · rw [hr 22 (by omega)]
    · exact h23.2 k z
  · rw [s0]; exact h21.1
  · rw [s1, hr 22 (by omega)]; exact (R.ap hc hq).2.1
  · rw [s2]; exact h23.1
  · by_cases z : i = m
    · rw [z, K.2.2.2]; exact h7.1
    · rw [h7.2 _ (by omega), K.1 _ (by omega) (by omega) (by omega) (by omega)]; exact R.pay ⟨x, y⟩

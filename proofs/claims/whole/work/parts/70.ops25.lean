/-! removePoint -/
def S_sk (i k : Int) : Int := if k < i then k else k + 1
theorem c_take_l {g : Nat → Int} {i n : Int} {μ1 : Mu} (hn : n ≤ 5) (hi : 0 ≤ i ∧ i < n) (x : Int) (K : Int → Mu → Option Res) : ∀ (d fu : Nat) (v : Int) (μ : Mu), (∀ a : Nat, a ≠ 18 → a ≠ 19 → μ a = μ1 a) → μ1 17 2 = n → i ≤ v → v + d = n - 1 → d < fu →
    (∀ k : Int, 0 ≤ k → k < n → μ 18 k.toNat = S_px g (if k < v then S_sk i k else k) ∧ μ 19 k.toNat = S_py g (if k < v then S_sk i k else k)) →
    ∃ μ', f_X2_takeAway_9 (1 + 16) i K fu x v μ = K x μ' ∧ (∀ a : Nat, a ≠ 18 → a ≠ 19 → μ' a = μ1 a) ∧ (∀ k : Int, 0 ≤ k → k < n - 1 → μ' 18 k.toNat = S_px g (S_sk i k) ∧ μ' 19 k.toNat = S_py g (S_sk i k))
  | 0, fu + 1, v, μ, hk, h17, hv, hd, hf, hp => by
    have e17 : μ (1 + 16) 2 = n := by rw [hk (1 + 16) (by omega) (by omega)]; exact h17
    refine ⟨μ, ?_, hk, fun k a b => ?_⟩
    · rw [f_X2_takeAway_9, p_rdF, e17, p_lt (by omega), if_neg (by omega)]
    · have := hp k a (by omega)
      rw [if_pos (by omega)] at this
      exact this
  | d + 1, fu + 1, v, μ, hk, h17, hv, hd, hf, hp => by
    have e17 : μ (1 + 16) 2 = n := by rw [hk (1 + 16) (by omega) (by omega)]; exact h17
    have hp1 := hp (v + 1) (by omega) (by omega)
    rw [if_neg (by omega)] at hp1
    have e18 : μ (1 + 16 + 1) (v + 1).toNat = S_px g (v + 1) := hp1.1
    have e19 : μ (1 + 16 + 2) (v + 1).toNat = S_py g (v + 1) := hp1.2
    have hsk : S_sk i v = v + 1 := by unfold S_sk; rw [if_neg (by omega)]
    obtain ⟨μ', a1, a2, a3⟩ := c_take_l (g := g) (μ1 := μ1) hn hi x K d fu (v + 1) (up2 (up2 μ 18 v.toNat (S_px g (v + 1))) 19 v.toNat (S_py g (v + 1))) (fun a s t => (up2_oo t).trans ((up2_oo s).trans (hk a s t))) h17 (by omega) (by omega) (by omega) (fun k a b => by
      by_cases e : k = v
      · subst e
        rw [if_pos (by omega), hsk, up2_o (by omega), up2_s, up2_s]
        exact ⟨rfl, rfl⟩
      · rw [up2_o (by omega), up2_k (by omega), up2_k (by omega), up2_o (by omega)]
        have := hp k a b
        by_cases y : k < v
        · rw [if_pos y] at this
          rw [if_pos (by omega)]; exact this
        · rw [if_neg y] at this
          rw [if_neg (by omega)]; exact this)
    refine ⟨μ', ?_, a2, a3⟩
    rw [f_X2_takeAway_9, p_rdF, e17, p_lt (by omega), if_pos (by omega), p_lt (by omega), if_pos (by omega), p_rdI (by omega), e18, p_wrI (by omega), p_rdI (by omega), up2_o (by omega), e19, p_wrI (by omega)]
    exact a1
theorem c_take {μ1 : Mu} {g : Nat → Int} (h : WF g) (R : RB μ1 1 g) {i : Int} (hi : 0 ≤ i ∧ i < g 641) : ∃ μ', f_X2_takeAway (1 + 16) i μ1 = some (μ', 0, S_py g i) ∧ RB μ' 1 (S_rem g i) ∧ ∀ a : Nat, a ≠ 17 → a ≠ 18 → a ≠ 19 → μ' a = μ1 a := by
  have hpm := h.pm
  have rpm : μ1 17 2 = g 641 := R.pm
  obtain ⟨μ', a1, a2, a3⟩ := c_take_l (g := g) (n := g 641) (μ1 := μ1) hpm.2 hi (S_py g i) (fun v2 μ => f_X2_takeAway_60 (1 + 16) i v2 μ) (g 641 - 1 - i).toNat FU i μ1 (fun _ _ _ => rfl) rpm (Int.le_refl _) (by omega) (by unfold FU; omega) (fun k a b => by
    have := R.pt (k := k) ⟨a, b⟩
    by_cases y : k < i
    · have e : (if k < i then S_sk i k else k) = k := by rw [if_pos y]; unfold S_sk; rw [if_pos y]
      rw [e]; exact this
    · rw [if_neg y]; exact this)
  have e17 : μ' (1 + 16) 2 = g 641 := by rw [a2 (1 + 16) (by omega) (by omega)]; exact rpm
  refine ⟨up2 μ' 17 2 (g 641 - 1), ?_, ?_, fun a x y z => (up2_oo x).trans (a2 a y z)⟩
  · have r19 : μ1 (1 + 16 + 2) i.toNat = S_py g i := (R.pt hi).2
    unfold f_X2_takeAway
    rw [p_rdI (by omega), r19]
    refine Eq.trans a1 ?_
    unfold f_X2_takeAway_60
    rw [p_rdF, e17, p_wrF]
  · have e : ∀ k : Nat, ¬ (641 ≤ k ∧ k ≤ 651) → S_rem g i k = g k := fun k x => by
      unfold S_rem
      rw [if_neg (by omega), if_neg (by omega)]
    have e641 : S_rem g i 641 = g 641 - 1 := if_pos rfl
    have ke : ∀ a : Nat, a ≠ 17 → a ≠ 18 → a ≠ 19 → (up2 μ' 17 2 (g 641 - 1)) a = μ1 a := fun a x y z => (up2_oo x).trans (a2 a y z)
    refine RB.head h R (fun k x y z => e k (by omega)) (fun a ha => ke a (by omega) (by omega) (by omega)) (fun q x y => ?_) (fun q x y => ?_) (fun q x y => ?_) (fun c x y => ?_) ?_ (fun k x y => ?_) ?_
    · rw [ke 2 (by omega) (by omega) (by omega), e _ (by omega)]; exact R.mx ⟨x, y⟩
    · rw [ke 3 (by omega) (by omega) (by omega), e _ (by omega)]; exact R.st ⟨x, y⟩
    · rw [ke 4 (by omega) (by omega) (by omega), e _ (by omega)]; exact R.bo ⟨x, y⟩
    · rw [ke 6 (by omega) (by omega) (by omega), e _ (by omega)]; exact R.ra ⟨x, y⟩
    · rw [up2_s, e641]
    · rw [e641] at y
      obtain ⟨p1, p2⟩ := rem_pt hi (k := k) ⟨x, y⟩
      obtain ⟨q1, q2⟩ := a3 k x y
      rw [up2_o (by omega), up2_o (by omega), q1, q2]
      unfold S_px S_py S_sk
      rw [p1, p2]
      exact ⟨rfl, rfl⟩
    · rw [ke 1 (by omega) (by omega) (by omega), e _ (by omega)]; exact R.pub
theorem o_removePoint {T : Int} {μ : Mu} (I : Inv T μ) {w1 : Int} (h1 : iG w1) : OK T (lc_removePoint w1 μ) := by
  have hpb := I.wf.pub
  have hpm := I.wf.pm
  have e0 : (up2 μ 248 0 0) 249 = μ 249 := up2_oo (by omega)
  unfold lc_removePoint
  by_cases p3 : μ 249 652 = 0
  · rcases ix_bd (g := μ 249) (w := w1) hpm.1 with q | ⟨q, -⟩
    · refine op_ex I (e := 5) (i := 1) (x := 0) (b := 0) (μ2 := up2 (up2 μ 248 0 0) 248 0 2) ?_ rfl (by omega) ?_ (JT.th.up (by unfold jT; omega)) up2_s
      · unfold f_X10_removePoint
        rw [c_reqU I.wf I.R, if_pos p3, p_rb, c_index I.wf I.R h1, p_rb, q, p_lt (by omega), if_pos (by omega)]
      · unfold f_X11_removePoint f_X11_fails
        rw [p_wrF, r_pub (by rw [e0]; exact I.wf), p_rb, e0, p_eq (by omega), if_pos p3, r_index (by rw [e0]; exact I.wf) h1, p_rb, e0, q, p_eq (by omega), if_pos rfl]; rfl
    · obtain ⟨μ1, a1, C, a3⟩ := c_kept I
      generalize hi0 : S_ix (μ 249) w1 = i at q
      obtain ⟨μ2, b1, b2', b3⟩ := c_take I.wf C.1 q
      have hy := (I.wf.pt q).2
      have hi : iG (S_py (μ 249) i) := by unfold iG S_py; omega
      refine op_mut I (μ1 := μ2) (x := S_py (μ 249) i) ?_ ((W_rem I.1.2 q).up (by omega)) (C.wr (fun a h => b3 a (by omega) (by omega) (by omega)) b2') (hg0 hi) (fun μ => cI_ok hi) (fun μ9 k9 => ?_)
      · unfold f_X10_removePoint
        rw [c_reqU I.wf I.R, if_pos p3, p_rb, c_index I.wf I.R h1, p_rb, hi0, p_lt (by omega), if_neg (by omega), a1, p_rb, b1, p_rb]
      · have e1 : (up2 μ9 248 0 0) 249 = μ 249 := (up2_oo (by omega)).trans (k9 249 (by omega) (by omega))
        obtain ⟨μ3, c1, ⟨r1, ⟨r2, r3⟩, r4, r5, r6⟩, c3, c4⟩ := r_kept (μ9 := up2 μ9 248 0 0) I e1 ((up2_oo (by omega)).trans (k9 252 (by omega) (by omega))) ((up2_k (by omega)).trans (congrFun (k9 248 (by omega) (by omega)) 5))
        have e641 : (641 : Int).toNat = 641 := rfl
        obtain ⟨μ4, d1, d2, d3, d4⟩ := loop_wr (F := fun fu v μ => f_X11_removePoint_71 w1 (fun v3 μ => some (μ, 0, v3)) fu (S_py (μ3 249) i) (2 * i + v) μ) (k := fun μ => some (μ, 0, S_py (μ3 249) i)) (A := 249) (off := 642 + 2 * i.toNat) (N := (2 * (μ 249 641 - 1) - 2 * i).toNat) (val := fun j => μ 249 (642 + 2 * i.toNat + j + 2)) (μ0 := up2 μ3 249 641 (μ 249 641 - 1)) (fun fu v m5 hv j => by
          show f_X11_removePoint_71 w1 _ (fu + 1) _ (2 * i + (v : Int)) m5 = _
          have f641 : m5 249 641 = μ 249 641 - 1 := by rw [j.2.1 641 (by omega), up2_s]
          rw [f_X11_removePoint_71, p_rdI (by omega), e641, f641, p_lt (by omega)]
          by_cases z : v < (2 * (μ 249 641 - 1) - 2 * i).toNat
          · rw [if_pos (by omega), if_pos z, p_rdI (by omega), p_wrI (by omega), show (642 + (2 * i + (v : Int)) + 2).toNat = 642 + 2 * i.toNat + v + 2 by omega, show (642 + (2 * i + (v : Int))).toNat = 642 + 2 * i.toNat + v by omega, j.2.1 _ (by omega), up2_k (by omega), c3, show 2 * i + (v : Int) + 1 = 2 * i + ((v : Int) + 1) by omega]
          · rw [if_neg (by omega), if_neg z]) (2 * (μ 249 641 - 1) - 2 * i).toNat FU 0 _ (by omega) (by unfold FU; omega) (JW.nil _ _ _ _)
        have eg : EqG (S_rem (μ 249) i) (μ4 249) := fun k hk => by
          unfold S_rem
          by_cases z : k = 641
          · subst z
            rw [if_pos rfl, d3 641 (by omega), up2_s]
          · rw [if_neg z]
            by_cases y : 642 + 2 * i ≤ (k : Int) ∧ (k : Int) < 642 + 2 * (μ 249 641 - 1)
            · have := d4 (k - (642 + 2 * i.toNat)) (by omega)
              rw [show 642 + 2 * i.toNat + (k - (642 + 2 * i.toNat)) = k by omega] at this
              rw [if_pos y, this]
              show μ 249 (642 + 2 * i.toNat + (k - (642 + 2 * i.toNat)) + 2) = μ 249 (k + 2)
              rw [show 642 + 2 * i.toNat + (k - (642 + 2 * i.toNat)) = k by omega]
            · rw [if_neg y, d3 k (by omega), up2_k z, c3]
        refine ⟨μ4, ?_, ⟨eg, ⟨?_, fun j x y => ?_⟩, fun a ha => ?_, fun a ha => ?_, fun k x y z => ?_⟩, ?_⟩
        · unfold f_X11_removePoint
          rw [p_wrF, r_pub (by rw [e1]; exact I.wf), p_rb, e1, p_eq (by omega), if_pos p3, r_index (by rw [e1]; exact I.wf) h1, p_rb, e1, hi0, p_eq (by omega), if_neg (by omega), c1, p_rb, p_rdI (by omega), p_rdI (by omega), e641, p_wrI (by omega), p_bnd, c3]
          have d1 := d1
          simp only [Int.natCast_zero, Int.add_zero, c3] at d1
          exact d1
        · rw [d2 248 (by omega), up2_o (by omega)]; exact r2
        · have hs : slice μ4 j = slice μ3 j := by unfold slice; rw [d2 252 (by omega), up2_oo (by omega)]
          rw [hs]; exact r3 j x y
        · exact (d2 a (by omega)).trans ((up2_oo (by omega)).trans ((r4 a ha).trans (up2_oo (by omega))))
        · exact (d2 a (by omega)).trans ((up2_oo (by omega)).trans ((r5 a ha).trans (up2_oo (by omega))))
        · rw [d2 248 (by omega), up2_o (by omega), r6 k x y z, up2_k x]
        · rw [d2 248 (by omega), up2_o (by omega), c4, up2_s]
  · refine op_ex I (e := 4) (i := 0) (x := 0) (b := 0) (μ2 := up2 (up2 μ 248 0 0) 248 0 1) ?_ rfl (by omega) ?_ (JT.th.up (by unfold jT; omega)) up2_s
    · unfold f_X10_removePoint
      rw [c_reqU I.wf I.R, if_neg p3]; rfl
    · unfold f_X11_removePoint f_X11_fails
      rw [p_wrF, r_pub (by rw [e0]; exact I.wf), p_rb, e0, p_eq (by omega), if_neg p3]; rfl

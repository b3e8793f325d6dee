/-! publish, withdraw -/
theorem up2_gup {μ : Mu} {k : Nat} {v : Int} : (up2 μ 249 k v) 249 = gup (μ 249) k v := by
  funext i
  by_cases e : i = k
  · subst e; rw [up2_s, gup_s]
  · rw [up2_k e, gup_o e]
theorem W_pub {g : Nat → Int} {T v : Int} (W : WS g T) (hv : v = 0 ∨ v = 1) : WS (gup g 652 v) T := by
  have h := W.1
  refine WS.head W (fun k x y z => gup_o (by omega)) (fun q x y => by rw [gup_o (by omega)]; exact h.mx ⟨x, y⟩) ?_ ?_ (fun c x y => ?_) ⟨?_, fun k x y => ?_, fun k x y => ?_⟩ ?_
  · rw [gup_o (by omega), gup_o (by omega), gup_o (by omega), gup_o (by omega), gup_o (by omega)]; exact h.st
  · rw [gup_o (by omega), gup_o (by omega), gup_o (by omega), gup_o (by omega)]; exact h.bo
  · rw [gup_o (by omega)]; exact (h.ex ⟨x, y⟩).2
  · rw [gup_o (by omega)]; exact h.pm
  · rw [gup_o (by omega)] at y
    have := h.pm
    rw [gup_o (by omega), gup_o (by omega)]; exact h.pt ⟨x, y⟩
  · rw [gup_o (by omega)] at y
    have := h.pm
    rw [gup_o (by omega), gup_o (by omega)]; exact h.pl ⟨x, y⟩
  · rw [gup_s]; exact hv
theorem R_pub {μ1 : Mu} {g : Nat → Int} {v : Int} (h : WF g) (R : RB μ1 1 g) : RB (up2 μ1 1 10 v) 1 (gup g 652 v) := by
  have hpm := h.pm
  refine RB.head h R (fun k x y z => gup_o (by omega)) (fun a ha => up2_oo (by omega)) (fun q x y => ?_) (fun q x y => ?_) (fun q x y => ?_) (fun c x y => ?_) ?_ (fun k x y => ?_) ?_
  · rw [up2_o (by omega), gup_o (by omega)]; exact R.mx ⟨x, y⟩
  · rw [up2_o (by omega), gup_o (by omega)]; exact R.st ⟨x, y⟩
  · rw [up2_o (by omega), gup_o (by omega)]; exact R.bo ⟨x, y⟩
  · rw [up2_o (by omega), gup_o (by omega)]; exact R.ra ⟨x, y⟩
  · rw [up2_o (by omega), gup_o (by omega)]; exact R.pm
  · rw [gup_o (by omega)] at y
    unfold S_px S_py
    rw [up2_o (by omega), gup_o (by omega), up2_o (by omega), gup_o (by omega)]; exact R.pt ⟨x, y⟩
  · rw [up2_s, gup_s]
theorem wg_bd {g : Nat → Int} : 0 ≤ S_wg g ∧ S_wg g ≤ 8 := by
  have := sm_bd (G := fun c => b2 (S_hg g c)) (a := 0) (b := 1) 8 0 (fun j x y => by
    have := b2_01 (S_hg g j)
    omega)
  unfold S_wg
  omega
theorem c_pubset {T : Int} {μ : Mu} (I : Inv T μ) {v : Int} (hv : v = 0 ∨ v = 1) : ∃ μ1, (rb (f_X4_keep 1 μ) fun μ _ => wrZ μ 1 10 v fun μ => rb (f_X1_gradedCandidates 1 μ) fun μ x3 => some (μ, 0, x3)) = some (μ1, 0, S_wg (gup (μ 249) 652 v)) ∧ CM μ μ1 (gup (μ 249) 652 v) := by
  obtain ⟨μ1, a1, C, a3⟩ := c_kept I
  have R1 := R_pub (v := v) I.wf C.1
  have W1 := W_pub I.1.2 hv
  refine ⟨up2 μ1 1 10 v, ?_, C.wr (fun a h => up2_oo (by omega)) R1⟩
  rw [a1, p_rb, p_wrZ hv, c_graded W1.1 W1.2.1 R1, p_rb]
theorem r_pubset {T : Int} {μ μ9 : Mu} (I : Inv T μ) {v : Int} (hv : v = 0 ∨ v = 1) (e249 : μ9 249 = μ 249) (e252 : μ9 252 = μ 252) (e5 : μ9 248 5 = μ 248 5) : ∃ μ2, (rb (f_X11_changes μ9) fun μ _ => wrI μ 249 779 652 v fun μ => rb (f_X11_withGrades μ) fun μ x4 => some (μ, 0, x4)) = some (μ2, 0, S_wg (gup (μ 249) 652 v)) ∧ RM μ μ9 μ2 (gup (μ 249) 652 v) ∧ μ2 248 0 = μ9 248 0 := by
  obtain ⟨μ3, c1, R, c3, c4⟩ := r_kept I e249 e252 e5
  have W1 := W_pub I.1.2 hv
  have eg : (up2 μ3 249 652 v) 249 = gup (μ 249) 652 v := by rw [up2_gup, c3]
  refine ⟨up2 μ3 249 652 v, ?_, R.wr, by rw [up2_o (by omega), c4]⟩
  rw [c1, p_rb, p_wrI (by omega)]
  show rb (f_X11_withGrades (up2 μ3 249 652 v)) _ = _
  rw [r_withGrades (by rw [eg]; exact W1.1), p_rb, eg]
theorem RM.jt {μ μ9 μ8 μ2 : Mu} {g1 : Nat → Int} (h : JT μ9 μ8) (R : RM μ μ8 μ2 g1) : RM μ μ9 μ2 g1 := by
  obtain ⟨r1, r2, r4, r5, r6⟩ := R
  exact ⟨r1, r2, fun a ha => (r4 a ha).trans (funext fun k => h a k (by unfold jT; omega)), fun a ha => (r5 a ha).trans (funext fun k => h a k (by unfold jT; omega)), fun k x y z => (r6 k x y z).trans (h 248 k (by unfold jT; omega))⟩
theorem o_withdraw {T : Int} {μ : Mu} (I : Inv T μ) : OK T (lc_withdraw μ) := by
  have hpb := I.wf.pub
  have e0 : (up2 μ 248 0 0) 249 = μ 249 := up2_oo (by omega)
  have hap := sm_bd (G := fun c => sm (fun q => b2 (1 ≤ S_ap (μ 249) c q 0 ∧ S_ap (μ 249) c q 0 ≤ 3)) 5 0) (a := 0) (b := 5) 8 0 (fun j x y => by
    have := sm_bd (G := fun q => b2 (1 ≤ S_ap (μ 249) j q 0 ∧ S_ap (μ 249) j q 0 ≤ 3)) (a := 0) (b := 1) 5 0 (fun i z w => by
      have := b2_01 (1 ≤ S_ap (μ 249) j i 0 ∧ S_ap (μ 249) j i 0 ≤ 3)
      omega)
    omega)
  have hapb : 0 ≤ S_app (μ 249) 1 3 ∧ S_app (μ 249) 1 3 ≤ 40 := by unfold S_app; omega
  unfold lc_withdraw
  by_cases p : μ 249 652 = 0
  · refine op_ex I (e := 0) (i := 0) (x := 0) (b := 0) (μ2 := up2 (up2 μ 248 0 0) 248 0 1) ?_ rfl (by omega) ?_ (JT.th.up (by unfold jT; omega)) up2_s
    · unfold f_X10_withdraw
      rw [p_rdF, I.R.pub, p_eq (by omega), if_pos p]
    · unfold f_X11_withdraw f_X11_fails
      rw [p_wrF, r_pub (by rw [e0]; exact I.wf), p_rb, e0, p_eq (by omega), if_pos p]; rfl
  · by_cases p2 : 0 < S_app (μ 249) 1 3
    · refine op_ex I (e := 4) (i := 1) (x := 0) (b := 0) (μ2 := up2 (up2 μ 248 0 0) 248 0 2) ?_ rfl (by omega) ?_ (JT.th.up (by unfold jT; omega)) up2_s
      · unfold f_X10_withdraw
        rw [p_rdF, I.R.pub, p_eq (by omega), if_neg p, c_made I.wf I.R, p_rb, p_lt (by omega), if_pos p2]
      · unfold f_X11_withdraw f_X11_fails
        rw [p_wrF, r_pub (by rw [e0]; exact I.wf), p_rb, e0, p_eq (by omega), if_neg p, r_allAppeals (by rw [e0]; exact I.wf) (by unfold iG; omega) (by unfold iG; omega), p_rb, e0, p_lt (by omega), if_pos p2]; rfl
    · obtain ⟨μ1, a1, C⟩ := c_pubset I (v := 0) (Or.inl rfl)
      have hw := wg_bd (g := gup (μ 249) 652 0)
      have hi : iG (S_wg (gup (μ 249) 652 0)) := by unfold iG; omega
      refine op_mut I (μ1 := μ1) (x := S_wg (gup (μ 249) 652 0)) ?_ ((W_pub I.1.2 (Or.inl rfl)).up (by omega)) C (hg0 hi) (fun μ => cI_ok hi) (fun μ9 k9 => ?_)
      · unfold f_X10_withdraw
        rw [p_rdF, I.R.pub, p_eq (by omega), if_neg p, c_made I.wf I.R, p_rb, p_lt (by omega), if_neg p2]
        exact a1
      · have e1 : (up2 μ9 248 0 0) 249 = μ 249 := (up2_oo (by omega)).trans (k9 249 (by omega) (by omega))
        obtain ⟨μ2, b1, b2', b3⟩ := r_pubset (μ9 := up2 μ9 248 0 0) I (v := 0) (Or.inl rfl) e1 ((up2_oo (by omega)).trans (k9 252 (by omega) (by omega))) ((up2_k (by omega)).trans (congrFun (k9 248 (by omega) (by omega)) 5))
        refine ⟨μ2, ?_, RM.jt JT.th b2', by rw [b3, up2_s]⟩
        unfold f_X11_withdraw
        rw [p_wrF, r_pub (by rw [e1]; exact I.wf), p_rb, e1, p_eq (by omega), if_neg p, r_allAppeals (by rw [e1]; exact I.wf) (by unfold iG; omega) (by unfold iG; omega), p_rb, e1, p_lt (by omega), if_neg p2]
        exact b1
/-- a refusal with its two reasons -/
theorem op_rep {T : Int} {μ : Mu} (I : Inv T μ) {k : Nat} {cl : List Nat} {f : Option Res} {g : Mu → Option Res} {cmp : Int → Int → Option Mu → Option Mu} {μ1 μ2 : Mu} {x b s1 s2 s3 s4 : Int} {e i : Nat} (hf : f = some (μ1, e + 1, x)) (hi : hpos cl e = some i) (hi9 : i < 100)
    (h1 : ∀ a k : Nat, ¬ jk a k → ¬ (223 ≤ a ∧ a ≤ 225) → μ1 a k = μ a k) (t1 : μ1 223 2 = 2 ∧ μ1 224 0 = s1 ∧ μ1 225 0 = s2 ∧ μ1 224 1 = s3 ∧ μ1 225 1 = s4) (hs : iG s1 ∧ iG s2 ∧ iG s3 ∧ iG s4)
    (hg' : g μ1 = some (μ2, 0, b)) (h2 : ∀ a k : Nat, ¬ jT a k → a ≠ 254 → ¬ (a = 248 ∧ k = 11) → μ2 a k = μ1 a k) (t2 : μ2 248 11 = 2 ∧ μ2 254 0 = s1 ∧ μ2 254 1 = s2 ∧ μ2 254 2 = s3 ∧ μ2 254 3 = s4) (ht : μ2 248 0 = (i : Int) + 1) : OK T (lcase (hp k cl f) g cmp) := by
  refine ⟨μ2, lc_ex hf hi hi9 hg' ht, ?_⟩
  obtain ⟨⟨i1, i2⟩, ⟨i3, i4⟩, ⟨i5, i6, i7, i8⟩, ⟨i9, i10, i11⟩, -⟩ := I
  obtain ⟨u1, u2, u3, u4, u5⟩ := t1
  obtain ⟨v1, v2, v3, v4, v5⟩ := t2
  have e : ∀ a : Nat, (a ≠ 24 ∧ ¬ (25 ≤ a ∧ a ≤ 48) ∧ ¬ (223 ≤ a ∧ a ≤ 225) ∧ ¬ (227 ≤ a ∧ a ≤ 248) ∧ a ≠ 254 ∧ ¬ (255 ≤ a ∧ a ≤ 260)) → μ2 a = μ a := fun a ha => funext fun k => (h2 a k (by unfold jT; omega) (by omega) (by omega)).trans (h1 a k (by unfold jk; omega) (by omega))
  have e248 : ∀ k : Nat, k ≠ 0 → k < 13 → k ≠ 11 → μ2 248 k = μ 248 k := fun k x y z => (h2 248 k (by unfold jT; omega) (by omega) (by omega)).trans (h1 248 k (by unfold jk; omega) (by omega))
  have e22 : ∀ a k : Nat, (a = 223 ∨ a = 224 ∨ a = 225) → μ2 a k = μ1 a k := fun a k x => h2 a k (by unfold jT; omega) (by omega) (by omega)
  refine Inv.up (T := T) ⟨⟨?_, ?_⟩, ⟨?_, ?_⟩, ⟨?_, ?_, ?_, fun j x y => ?_⟩, ⟨?_, ?_, ?_⟩, ⟨?_, ?_, fun l x y => ?_⟩⟩ (by omega)
  · rw [e 249 (by omega)]; exact i1.keep (fun a x y => by
      by_cases q : a = 24
      · omega
      · exact e a (by omega))
  · rw [e 249 (by omega)]; exact i2
  · rw [e248 6 (by omega) (by omega) (by omega), e 0 (by omega)]; exact i3
  · rw [e 0 (by omega), e 250 (by omega)]
    intro w
    exact ⟨(i4 w).1.keep (fun a x y => e a (by omega)), (i4 w).2⟩
  · rw [e 73 (by omega)]; exact i5
  · rw [e 73 (by omega)]; exact i6
  · rw [e248 5 (by omega) (by omega) (by omega), e 73 (by omega)]; exact i7
  · rw [e 73 (by omega)] at y
    have hr : ring μ2 j = ring μ j := by unfold ring; rw [e 73 (by omega)]
    have hs : slice μ2 j = slice μ j := by unfold slice; rw [e 252 (by omega)]
    have rb : 75 ≤ ring μ j ∧ ring μ j + 24 ≤ 219 := by unfold ring; omega
    rw [hr, hs]
    exact ⟨(i8 j x y).1.keep (fun a x y => e a (by omega)), (i8 j x y).2⟩
  · rw [e 219 (by omega), e248 8 (by omega) (by omega) (by omega)]; exact i9
  · rw [e 219 (by omega), e248 9 (by omega) (by omega) (by omega)]; exact i10
  · rw [e 219 (by omega), e 253 (by omega), e 220 (by omega)]; exact i11
  · rw [e22 223 2 (by omega)]; exact Or.inr u1
  · rw [e22 223 2 (by omega), v1, u1]
  · rw [e22 224 _ (by omega), e22 225 _ (by omega)]
    rcases (show l = 0 ∨ l = 1 by omega) with rfl | rfl
    · show (μ2 254 0 = μ1 224 0 ∧ iG (μ1 224 0)) ∧ (μ2 254 1 = μ1 225 0 ∧ iG (μ1 225 0))
      rw [v2, v3, u2, u3]; exact ⟨⟨rfl, hs.1⟩, rfl, hs.2.1⟩
    · show (μ2 254 2 = μ1 224 1 ∧ iG (μ1 224 1)) ∧ (μ2 254 3 = μ1 225 1 ∧ iG (μ1 225 1))
      rw [v4, v5, u4, u5]; exact ⟨⟨rfl, hs.2.2.1⟩, rfl, hs.2.2.2⟩
/-- what the first reasons are -/
def S_fq (P : Int → Prop) [DecidablePred P] : Nat → Int → Option Int
  | 0, _ => none
  | n + 1, v => if P v then some v else S_fq P n (v + 1)
theorem fq_none {P : Int → Prop} [DecidablePred P] (h : ∀ q, ¬ P q) : ∀ (n : Nat) (v : Int), S_fq P n v = none
  | 0, _ => rfl
  | n + 1, v => by simp only [S_fq]; rw [if_neg (h v), fq_none h n]
theorem fq_some {P : Int → Prop} [DecidablePred P] : ∀ (n : Nat) (v q : Int), S_fq P n v = some q → (v ≤ q ∧ q < v + n) ∧ P q
  | 0, v, q, h => by simp [S_fq] at h
  | n + 1, v, q, h => by
    simp only [S_fq] at h
    by_cases p : P v
    · rw [if_pos p] at h
      injection h with h
      subst h
      exact ⟨⟨Int.le_refl _, by omega⟩, p⟩
    · rw [if_neg p] at h
      have := fq_some n (v + 1) q h
      exact ⟨⟨by omega, by omega⟩, this.2⟩
abbrev S_bad (g : Nat → Int) (c q : Int) : Prop := S_hg g c ∧ ¬ S_exc g c q ∧ 0 < S_state g c q
def S_fc (g : Nat → Int) : Nat → Int → Option (Int × Int)
  | 0, _ => none
  | n + 1, c => (S_fq (S_bad g c) 5 0).elim (S_fc g n (c + 1)) (fun q => some (c, q))
theorem fc_some {g : Nat → Int} : ∀ (n : Nat) (v c q : Int), S_fc g n v = some (c, q) → (v ≤ c ∧ c < v + n) ∧ (0 ≤ q ∧ q < 5) ∧ S_bad g c q
  | 0, v, c, q, h => by simp [S_fc] at h
  | n + 1, v, c, q, h => by
    simp only [S_fc] at h
    cases e : S_fq (S_bad g v) 5 0 with
    | none =>
      rw [e] at h
      have := fc_some n (v + 1) c q h
      exact ⟨⟨by omega, by omega⟩, this.2⟩
    | some r =>
      rw [e] at h
      have h : some (v, r) = some (c, q) := h
      injection h with h
      injection h with h1 h2
      subst h1; subst h2
      have := fq_some 5 0 r e
      exact ⟨⟨Int.le_refl _, by omega⟩, ⟨by omega, by omega⟩, this.2⟩
theorem S_st02 {g : Nat → Int} {c q : Int} : 0 ≤ S_state g c q ∧ S_state g c q ≤ 2 := by
  unfold S_state S_stl
  repeat' split
  all_goals omega
theorem c_refP_in {g : Nat → Int} (h : WF g) (h3 : WF3 g) {c : Int} (hc : 0 ≤ c ∧ c < 8) (K : Int → Int → Int → Mu → Option Res) (E : Int → Mu → Option Res) : ∀ (n fu : Nat) (v : Int) (μ : Mu), RB μ 1 g → 0 ≤ v → v + n = 5 → n < fu → ∃ μ', f_X10_refusesPublication_10 K E fu c v μ = (S_fq (S_bad g c) n v).elim (E c μ') (fun q => K c q (S_state g c q) μ') ∧ JB 1 μ μ'
  | 0, fu + 1, v, μ, R, h0, hn, hf => by
    refine ⟨μ, ?_, JB.rf 1 μ⟩
    rw [f_X10_refusesPublication_10, p_lt (by omega), if_neg (by omega)]; rfl
  | n + 1, fu + 1, v, μ, R, h0, hn, hf => by
    rw [f_X10_refusesPublication_10, p_lt (by omega), if_pos (by omega), c_hasGrade h h3 R hc, p_rb]
    by_cases p : S_hg g c
    · obtain ⟨μ1, b1, b2'⟩ := c_standing h h3 R hc (q := v) (s := c * 5 + v) (by omega) rfl
      have hst := S_st02 (g := g) (c := c) (q := v)
      have e1 : f_X10_scriptOf c v μ = some (μ, 0, c * 5 + v) := rfl
      obtain ⟨μ', a1, a2⟩ := c_refP_in h h3 hc K E n fu (v + 1) μ1 (b2'.R R) (by omega) (by omega) (by omega)
      rw [b2_t p, p_eq (by omega), if_neg (by omega), e1, p_rb, b1, p_rb, p_eq (by omega)]
      unfold f_X10_refusesPublication_78
      simp only [S_fq]
      by_cases p2 : S_state g c v = 0
      · rw [if_pos p2, if_neg (show ¬ S_bad g c v from fun w => by have := w.2.2; omega)]
        exact ⟨μ', a1, b2'.tr a2⟩
      · rw [if_neg p2, c_exc h (b2'.R R) hc (q := v) (by omega), p_rb]
        by_cases p3 : S_exc g c v
        · rw [b2_t p3, p_eq (by omega), if_neg (by omega), if_neg (show ¬ S_bad g c v from fun w => w.2.1 p3)]
          exact ⟨μ', a1, b2'.tr a2⟩
        · rw [b2_f p3, p_eq (by omega), if_pos rfl, if_pos (show S_bad g c v from ⟨p, p3, by omega⟩)]
          exact ⟨μ1, rfl, b2'⟩
    · rw [b2_f p, p_eq (by omega), if_pos rfl, fq_none (fun q w => p w.1)]
      exact ⟨μ, rfl, JB.rf 1 μ⟩
theorem c_refP_out {g : Nat → Int} (h : WF g) (h3 : WF3 g) (K : Int → Int → Int → Mu → Option Res) (E : Mu → Option Res) : ∀ (n fu : Nat) (v : Int) (μ : Mu), RB μ 1 g → 0 ≤ v → v + n = 8 → n < fu → ∃ μ', f_X10_refusesPublication_2 K E fu v μ = (S_fc g n v).elim (E μ') (fun r => K r.1 r.2 (S_state g r.1 r.2) μ') ∧ JB 1 μ μ'
  | 0, fu + 1, v, μ, R, h0, hn, hf => by
    refine ⟨μ, ?_, JB.rf 1 μ⟩
    rw [f_X10_refusesPublication_2, p_lt (by omega), if_neg (by omega)]; rfl
  | n + 1, fu + 1, v, μ, R, h0, hn, hf => by
    obtain ⟨μ1, b1, b2'⟩ := c_refP_in h h3 (c := v) (by omega) K (fun v1 μ => f_X10_refusesPublication_84 (f_X10_refusesPublication_2 K E fu) v1 μ) 5 FU 0 μ R (by omega) (by omega) (by unfold FU; omega)
    rw [f_X10_refusesPublication_2, p_lt (by omega), if_pos (by omega), b1]
    simp only [S_fc]
    cases e : S_fq (S_bad g v) 5 0 with
    | none =>
      obtain ⟨μ', a1, a2⟩ := c_refP_out h h3 K E n fu (v + 1) μ1 (b2'.R R) (by omega) (by omega) (by omega)
      exact ⟨μ', a1, b2'.tr a2⟩
    | some q => exact ⟨μ1, rfl, b2'⟩
theorem r_refP_in {μ0 : Mu} (h : WF (μ0 249)) (h3 : WF3 (μ0 249)) {c : Int} (hc : 0 ≤ c ∧ c < 8) (K : Int → Int → Mu → Option Res) (E : Int → Mu → Option Res) : ∀ (n fu : Nat) (v : Int) (μ : Mu), JF μ0 μ → 0 ≤ v → v + n = 5 → n < fu → ∃ μ', f_X11_publish_28 K E fu c v μ = (S_fq (S_bad (μ0 249) c) n v).elim (E c μ') (fun q => K c q μ') ∧ JF μ0 μ'
  | 0, fu + 1, v, μ, j, h0, hn, hf => by
    refine ⟨μ, ?_, j⟩
    rw [f_X11_publish_28, p_lt (by omega), if_neg (by omega)]; rfl
  | n + 1, fu + 1, v, μ, j, h0, hn, hf => by
    have e : μ 249 = μ0 249 := funext fun k => j 249 k (by unfold jF; omega)
    rw [f_X11_publish_28, p_lt (by omega), if_pos (by omega), r_hasGrade (by rw [e]; exact h) (c := c) (by unfold iG; omega), p_rb, e]
    unfold f_X11_publish_77
    simp only [S_fq]
    by_cases p : S_hg (μ0 249) c
    · rw [b2_t p, p_eq (by omega), if_neg (by omega), r_exc (by rw [e]; exact h) hc (q := v) (by omega), p_rb, e]
      by_cases p3 : S_exc (μ0 249) c v
      · rw [b2_t p3, p_eq (by omega), if_neg (by omega), if_neg (show ¬ S_bad (μ0 249) c v from fun w => w.2.1 p3)]
        exact r_refP_in h h3 hc K E n fu (v + 1) μ j (by omega) (by omega) (by omega)
      · obtain ⟨μ1, b1, b2'⟩ := r_state (μ := μ) (by rw [e]; exact h) (by rw [e]; exact h3) hc (q := v) (by omega)
        have hst := S_st02 (g := μ0 249) (c := c) (q := v)
        rw [e] at b1
        rw [b2_f p3, p_eq (by omega), if_pos rfl, b1, p_rb, p_lt (by omega)]
        by_cases p2 : 0 < S_state (μ0 249) c v
        · rw [if_pos p2, if_pos (show S_bad (μ0 249) c v from ⟨p, p3, p2⟩)]
          exact ⟨μ1, rfl, j.tr b2'⟩
        · rw [if_neg p2, if_neg (show ¬ S_bad (μ0 249) c v from fun w => p2 w.2.2)]
          exact r_refP_in h h3 hc K E n fu (v + 1) μ1 (j.tr b2') (by omega) (by omega) (by omega)
    · rw [b2_f p, p_eq (by omega), if_pos rfl, if_neg (show ¬ S_bad (μ0 249) c v from fun w => p w.1)]
      exact r_refP_in h h3 hc K E n fu (v + 1) μ j (by omega) (by omega) (by omega)
theorem r_refP_out {μ0 : Mu} (h : WF (μ0 249)) (h3 : WF3 (μ0 249)) (K : Int → Int → Mu → Option Res) (E : Mu → Option Res) : ∀ (n fu : Nat) (v : Int) (μ : Mu), JF μ0 μ → 0 ≤ v → v + n = 8 → n < fu → ∃ μ', f_X11_publish_20 K E fu v μ = (S_fc (μ0 249) n v).elim (E μ') (fun r => K r.1 r.2 μ') ∧ JF μ0 μ'
  | 0, fu + 1, v, μ, j, h0, hn, hf => by
    refine ⟨μ, ?_, j⟩
    rw [f_X11_publish_20, p_lt (by omega), if_neg (by omega)]; rfl
  | n + 1, fu + 1, v, μ, j, h0, hn, hf => by
    obtain ⟨μ1, b1, b2'⟩ := r_refP_in h h3 (c := v) (by omega) K (fun v1 μ => (f_X11_publish_20 K E fu) (v1 + 1) μ) 5 FU 0 μ j (by omega) (by omega) (by unfold FU; omega)
    rw [f_X11_publish_20, p_lt (by omega), if_pos (by omega), b1]
    simp only [S_fc]
    cases e : S_fq (S_bad (μ0 249) v) 5 0 with
    | none => exact r_refP_out h h3 K E n fu (v + 1) μ1 b2' (by omega) (by omega) (by omega)
    | some q => exact ⟨μ1, rfl, b2'⟩

/-! account -/
theorem p_sw4 {α : Type} {x : Int} {L : List (Option α)} {D : Option α} (h : 4 ≤ x ∧ x < 2147483648) : i_sw x 4 L D = L.getD (x - 4).toNat D := by
  unfold i_sw
  rw [if_pos (by omega), if_neg (by omega)]
theorem c_inState {μ : Mu} {a : Nat} {st lo hi : Int} (hs : iG st) (h : 0 ≤ lo ∧ lo ≤ hi ∧ hi ≤ 40) (hr : ∀ s : Int, 0 ≤ s → s < 40 → iG (μ (a + 1) s.toNat)) : f_X0_inState a st lo hi μ = some (μ, 0, sm (fun s => b2 (μ (a + 1) s.toNat = st)) (hi - lo).toNat lo) := by
  unfold iG at hs hr
  unfold f_X0_inState f_X0_inState_50
  rw [p_max (by omega), show (if 0 < lo then lo else 0) = lo by split <;> omega]
  have key := loop_up (S := Int) (fun fu s v => f_X0_inState_10 a st lo hi (fun v4 μ => some (μ, 0, v4)) fu s v μ) (fun s => some (μ, 0, s)) (fun s v => s + b2 (μ (a + 1) v.toNat = st)) hi (fun s v => lo ≤ v ∧ v ≤ hi) ?_ (fun s v hi hlt => by omega) (hi - lo).toNat FU 0 lo (by omega) (by omega) (by unfold FU; omega)
  · rw [key, itS_sm, Int.zero_add]
  · intro fu s v hv
    show f_X0_inState_10 a st lo hi _ (fu + 1) s v μ = _
    rw [f_X0_inState_10, p_lt (by omega)]
    unfold f_X0_inState_41
    by_cases hvN : v < hi
    · have := hr v (by omega) (by omega)
      rw [if_pos hvN, if_pos hvN, p_lt (by omega), if_pos (by omega), p_rdI (by omega), p_eq (by omega)]
      by_cases p : μ (a + 1) v.toNat = st
      · rw [if_pos p, b2_t p, p_bnd]
      · rw [if_neg p, b2_f p, p_bnd]
    · rw [if_neg hvN, if_neg hvN]
def S_app (g : Nat → Int) (lo hi : Int) : Int := sm (fun c => sm (fun q => b2 (lo ≤ S_ap g c q 0 ∧ S_ap g c q 0 ≤ hi)) 5 0) 8 0
theorem S_app_bd {g : Nat → Int} {lo hi : Int} : 0 ≤ S_app g lo hi ∧ S_app g lo hi ≤ 40 := by
  have := sm_bd (G := fun c => sm (fun q => b2 (lo ≤ S_ap g c q 0 ∧ S_ap g c q 0 ≤ hi)) 5 0) (a := 0) (b := 5) 8 0 (fun j _ _ => by
    have := sm_bd (G := fun q => b2 (lo ≤ S_ap g j q 0 ∧ S_ap g j q 0 ≤ hi)) (a := 0) (b := 1) 5 0 (fun i _ _ => b2_bd)
    omega)
  unfold S_app
  omega
theorem r_appeals {μ : Mu} (h : WF (μ 249)) {c lo hi : Int} (hc : 0 ≤ c ∧ c < 8) (h1 : iG lo) (h2 : iG hi) : f_X11_appeals c lo hi μ = some (μ, 0, sm (fun q => b2 (lo ≤ S_ap (μ 249) c q 0 ∧ S_ap (μ 249) c q 0 ≤ hi)) 5 0) := by
  unfold f_X11_appeals
  have key := loop_up (S := Int) (fun fu s v => f_X11_appeals_6 c lo hi (fun v1 μ => some (μ, 0, v1)) fu s v μ) (fun s => some (μ, 0, s)) (fun s v => s + b2 (lo ≤ S_ap (μ 249) c v 0 ∧ S_ap (μ 249) c v 0 ≤ hi)) 5 (fun s v => 0 ≤ v ∧ v ≤ 5) ?_ (fun s v hi hlt => by omega) 5 FU 0 0 (by omega) (by omega) (by unfold FU; omega)
  · rw [key, itS_sm, Int.zero_add]
  · intro fu s v hv
    show f_X11_appeals_6 c lo hi _ (fu + 1) s v μ = _
    rw [f_X11_appeals_6, p_lt (by omega)]
    unfold f_X11_appeals_35
    by_cases hvN : v < 5
    · have ha := h.ap0 (c := c) (q := v) hc (by omega)
      rw [if_pos hvN, if_pos hvN, r_apP hc (by omega) (by omega), p_rb, r_in (by unfold iG; omega) h1 h2, p_rb]
      by_cases p : lo ≤ S_ap (μ 249) c v 0 ∧ S_ap (μ 249) c v 0 ≤ hi
      · rw [b2_t p, p_eq (by omega), if_neg (by omega), p_bnd]
      · rw [b2_f p, p_eq (by omega), if_pos rfl, p_bnd]
    · rw [if_neg hvN, if_neg hvN]
theorem r_allAppeals {μ : Mu} (h : WF (μ 249)) {lo hi : Int} (h1 : iG lo) (h2 : iG hi) : f_X11_allAppeals lo hi μ = some (μ, 0, S_app (μ 249) lo hi) := by
  unfold f_X11_allAppeals
  have key := loop_up (S := Int) (fun fu s v => f_X11_allAppeals_5 lo hi (fun v1 μ => some (μ, 0, v1)) fu s v μ) (fun s => some (μ, 0, s)) (fun s v => s + sm (fun q => b2 (lo ≤ S_ap (μ 249) v q 0 ∧ S_ap (μ 249) v q 0 ≤ hi)) 5 0) 8 (fun s v => 0 ≤ v ∧ v ≤ 8) ?_ (fun s v hi hlt => by omega) 8 FU 0 0 (by omega) (by omega) (by unfold FU; omega)
  · rw [key, itS_sm, Int.zero_add]; rfl
  · intro fu s v hv
    show f_X11_allAppeals_5 lo hi _ (fu + 1) s v μ = _
    rw [f_X11_allAppeals_5, p_lt (by omega)]
    by_cases hvN : v < 8
    · rw [if_pos hvN, if_pos hvN, r_appeals h (by omega) h1 h2, p_rb, p_bnd]
    · rw [if_neg hvN, if_neg hvN]
theorem sm_one : ∀ n : Nat, ∀ v : Int, sm (fun _ => 1) n v = n
  | 0, _ => rfl
  | n + 1, v => by
    simp only [sm]
    rw [sm_one n (v + 1)]; push_cast; omega
theorem c_made {μ : Mu} {b : Nat} {g : Nat → Int} (h : WF g) (R : RB μ b g) : f_X0_made (b + 19) μ = some (μ, 0, S_app g 1 3) := by
  have hap : ∀ s : Int, 0 ≤ s → s < 40 → μ (b + 19 + 1) s.toNat = S_ap g (s / 5) (s % 5) 0 ∧ 0 ≤ S_ap g (s / 5) (s % 5) 0 ∧ S_ap g (s / 5) (s % 5) 0 ≤ 3 := by
    intro s x y
    have r := (R.ap (c := s / 5) (q := s % 5) (by omega) (by omega)).1
    have w := (h.ap0 (c := s / 5) (q := s % 5) (by omega) (by omega)).1
    rw [show s / 5 * 5 + s % 5 = s by omega] at r
    exact ⟨r, w⟩
  unfold f_X0_made
  rw [c_inState (by unfold iG; omega) (by omega) (fun s x y => by have := hap s x y; unfold iG; omega), p_rb]
  have e := sm_sub (G := fun _ => 1) (G' := fun s => b2 (μ (b + 19 + 1) s.toNat = 0)) 40 0
  rw [sm_one] at e
  show some (μ, 0, 40 - sm (fun s => b2 (μ (b + 19 + 1) s.toNat = 0)) 40 0) = _
  congr 3
  rw [show (40 : Int) - sm (fun s => b2 (μ (b + 19 + 1) s.toNat = 0)) 40 0 = sm (fun j => 1 - b2 (μ (b + 19 + 1) j.toNat = 0)) 40 0 from e.symm]
  refine sm_flat (F := fun c q => b2 (1 ≤ S_ap g c q 0 ∧ S_ap g c q 0 ≤ 3)) (fun c q x y z w => ?_)
  have r := hap (c * 5 + q) (by omega) (by omega)
  rw [show (c * 5 + q) / 5 = c by omega, show (c * 5 + q) % 5 = q by omega] at r
  by_cases p : S_ap g c q 0 = 0
  · rw [b2_t (r.1.trans p), b2_f (by omega)]; rfl
  · rw [b2_f (by rw [r.1]; exact p), b2_t (by omega)]; rfl
theorem c_open {μ : Mu} {b : Nat} {g : Nat → Int} (h : WF g) (R : RB μ b g) : f_X0_inState (b + 19) 1 0 40 μ = some (μ, 0, S_app g 1 1) := by
  have hap : ∀ s : Int, 0 ≤ s → s < 40 → μ (b + 19 + 1) s.toNat = S_ap g (s / 5) (s % 5) 0 ∧ 0 ≤ S_ap g (s / 5) (s % 5) 0 ∧ S_ap g (s / 5) (s % 5) 0 ≤ 3 := by
    intro s x y
    have r := (R.ap (c := s / 5) (q := s % 5) (by omega) (by omega)).1
    have w := (h.ap0 (c := s / 5) (q := s % 5) (by omega) (by omega)).1
    rw [show s / 5 * 5 + s % 5 = s by omega] at r
    exact ⟨r, w⟩
  rw [c_inState (by unfold iG; omega) (by omega) (fun s x y => by have := hap s x y; unfold iG; omega)]
  show some (μ, 0, sm (fun s => b2 (μ (b + 19 + 1) s.toNat = 1)) 40 0) = _
  congr 3
  refine sm_flat (F := fun c q => b2 (1 ≤ S_ap g c q 0 ∧ S_ap g c q 0 ≤ 1)) (fun c q x y z w => ?_)
  have r := hap (c * 5 + q) (by omega) (by omega)
  rw [show (c * 5 + q) / 5 = c by omega, show (c * 5 + q) % 5 = q by omega] at r
  by_cases p : S_ap g c q 0 = 1
  · rw [b2_t (r.1.trans p), b2_t (by omega)]
  · rw [b2_f (by rw [r.1]; exact p), b2_f (by omega)]
def S_acc (g : Nat → Int) (w : Int) : Int := if w < 4 then g (775 + w).toNat else if w = 4 then g 775 + g 776 + g 777 + g 778 else if w = 5 then g 773 else if w = 6 then g 774 else if w = 7 then S_app g 1 3 else S_app g 1 1
theorem S_fee_bd {g : Nat → Int} (h : WF g) : 0 ≤ sm (fun c => sm (fun q => S_ap g c q 1) 5 0) 8 0 ∧ sm (fun c => sm (fun q => S_ap g c q 1) 5 0) 8 0 ≤ 3960 := by
  have := sm_bd (G := fun c => sm (fun q => S_ap g c q 1) 5 0) (a := 0) (b := 495) 8 0 (fun j x y => by
    have := sm_bd (G := fun q => S_ap g j q 1) (a := 0) (b := 99) 5 0 (fun i a b => (h.ap0 (c := j) (q := i) (by omega) (by omega)).2.1)
    omega)
  omega
theorem S_acc_bd {T : Int} {μ : Mu} (I : Inv T μ) (hT : T ≤ 1000000) {w : Int} (hw : 0 ≤ w) : iG (S_acc (μ 249) w) := by
  obtain ⟨-, -, -, py, rf, fs⟩ := I.1.2
  have f9 := S_fee_bd I.wf
  have p0 := py 0 (by omega) (by omega)
  have p1 := py 1 (by omega) (by omega)
  have p2 := py 2 (by omega) (by omega)
  have p3 := py 3 (by omega) (by omega)
  have q0 : μ 249 (775 + 0 : Int).toNat = μ 249 775 := rfl
  have q1 : μ 249 (775 + 1 : Int).toNat = μ 249 776 := rfl
  have q2 : μ 249 (775 + 2 : Int).toNat = μ 249 777 := rfl
  have q3 : μ 249 (775 + 3 : Int).toNat = μ 249 778 := rfl
  have a1 := S_app_bd (g := μ 249) (lo := 1) (hi := 3)
  have a2 := S_app_bd (g := μ 249) (lo := 1) (hi := 1)
  unfold S_acc iG
  by_cases c : w < 4
  · have := py w hw c
    rw [if_pos c]; omega
  · rw [if_neg c]
    repeat' split
    all_goals omega
theorem o_account {T : Int} {μ : Mu} (I : Inv T μ) (hT : T ≤ 1000000) {w1 : Int} (h1 : iG w1) : OK T (lc_account w1 μ) := by
  unfold lc_account
  by_cases p : 0 ≤ w1 ∧ w1 ≤ 8
  · have hi := S_acc_bd I hT (w := w1) p.1
    obtain ⟨-, -, -, py, rf, fs⟩ := I.1.2
    refine op_ok I (μ1 := μ) (x := S_acc (μ 249) w1) ?_ (KA.rf μ) (hg0 hi) (fun μ => cI_ok hi) (fun μ9 I9 k9 => ?_)
    · unfold f_X10_account
      rw [c_reqR h1 (by unfold iG; omega) (by unfold iG; omega), if_pos p, p_rb, p_lt (by omega)]
      unfold S_acc
      by_cases c : w1 < 4
      · rw [if_pos c, if_pos c, p_rdI (by omega), I.R.pay (by omega)]
      · rw [if_neg c, if_neg c, p_sw4 (by omega)]
        rcases (show w1 = 4 ∨ w1 = 5 ∨ w1 = 6 ∨ w1 = 7 ∨ w1 = 8 by omega) with rfl | rfl | rfl | rfl | rfl <;> simp only [Int.reduceSub, Int.toNat_zero, Int.toNat_one, Int.reduceToNat, List.getD_cons_zero, List.getD_cons_succ, List.getD_nil, Int.reduceEq, ↓reduceIte]
        · rw [c_sumOf (by omega), p_rb]
          have r0 := I.R.pay (m := 0) (by omega)
          have r1 := I.R.pay (m := 1) (by omega)
          have r2 := I.R.pay (m := 2) (by omega)
          have r3 := I.R.pay (m := 3) (by omega)
          simp only [sm]
          show some (μ, 0, μ (1 + 6) (0 : Int).toNat + (μ (1 + 6) (1 : Int).toNat + (μ (1 + 6) (2 : Int).toNat + (μ (1 + 6) (3 : Int).toNat + 0)))) = _
          rw [r0, r1, r2, r3]
          show some (μ, 0, μ 249 775 + (μ 249 776 + (μ 249 777 + (μ 249 778 + 0)))) = _
          rw [Int.add_zero, ← Int.add_assoc, ← Int.add_assoc]
        · rw [c_sumOf (by omega), p_rb, fs]
          congr 3
          exact sm_flat (F := fun c q => S_ap (μ 249) c q 1) (fun c q x y z w => (I.R.ap ⟨x, y⟩ ⟨z, w⟩).2.1)
        · rw [p_rdF, I.R.rf]
        · rw [c_made I.wf I.R, p_rb]
        · rw [c_open I.wf I.R, p_rb]
    · have e9 : (up2 μ9 248 0 0) 249 = μ 249 := by rw [up2_oo (by omega), k9.s]
      have W9 : WF ((up2 μ9 248 0 0) 249) := by rw [e9]; exact I.wf
      refine ⟨up2 μ9 248 0 0, ?_, JT.th, up2_s⟩
      unfold f_X11_account f_X11_account_56
      rw [p_wrF, p_sw (by omega)]
      unfold S_acc
      rcases (show w1 = 0 ∨ w1 = 1 ∨ w1 = 2 ∨ w1 = 3 ∨ w1 = 4 ∨ w1 = 5 ∨ w1 = 6 ∨ w1 = 7 ∨ w1 = 8 by omega) with rfl | rfl | rfl | rfl | rfl | rfl | rfl | rfl | rfl <;> simp only [Int.toNat_zero, Int.toNat_one, Int.reduceToNat, List.getD_cons_zero, List.getD_cons_succ, List.getD_nil, Int.reduceEq, Int.reduceLT, ↓reduceIte]
      · rw [p_rdI (by omega), e9]
      · rw [p_rdI (by omega), e9]
      · rw [p_rdI (by omega), e9]
      · rw [p_rdI (by omega), e9]
      · rw [p_rdI (by omega), p_rdI (by omega), p_rdI (by omega), p_rdI (by omega), e9]; rfl
      · rw [p_rdI (by omega), e9]; rfl
      · rw [p_rdI (by omega), e9]; rfl
      · rw [r_allAppeals W9 (by unfold iG; omega) (by unfold iG; omega), p_rb, e9]
      · rw [r_allAppeals W9 (by unfold iG; omega) (by unfold iG; omega), p_rb, e9]
  · refine op_ex I (e := 1) (i := 0) (x := 0) (b := 0) (μ2 := up2 (up2 μ 248 0 0) 248 0 1) ?_ rfl (by omega) ?_ (JT.th.up (by unfold jT; omega)) up2_s
    · unfold f_X10_account
      rw [c_reqR h1 (by unfold iG; omega) (by unfold iG; omega), if_neg p]; rfl
    · unfold f_X11_account
      rw [p_wrF, p_swD h1 (by simp only [List.length_cons, List.length_nil]; omega)]; rfl

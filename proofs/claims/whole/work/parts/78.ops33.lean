/-! remark: the call that is not refused -/
def S_rst (g : Nat → Int) (c q v : Int) : Int := if S_agr g (v * 120) (S_set g c q) then 2 else 3
def S_pay (g : Nat → Int) (m q : Int) : Int := g (775 + m).toNat + (10 + g q.toNat)
def S_rmG (g : Nat → Int) (c q m v : Int) : Nat → Int := gup (gup (gup g (653 + 15 * c + 3 * q + 2).toNat v) (653 + 15 * c + 3 * q).toNat (S_rst g c q v)) (775 + m).toNat (S_pay g m q)
theorem rmG_K {g : Nat → Int} {c q m v : Int} (hc : 0 ≤ c ∧ c < 8) (hq : 0 ≤ q ∧ q < 5) (hm : 0 ≤ m ∧ m < 4) : RMK g (S_rmG g c q m v) c q m v (S_rst g c q v) (S_pay g m q) := by
  unfold S_rmG
  refine ⟨fun k x y z w => ?_, ?_, ?_, gup_s⟩
  · rw [gup_o z, gup_o x, gup_o y]
  · rw [gup_o (by omega), gup_s]
  · rw [gup_o (by omega), gup_o (by omega), gup_s]
theorem rst_bd {g : Nat → Int} {c q v : Int} : 2 ≤ S_rst g c q v ∧ S_rst g c q v ≤ 3 := by
  unfold S_rst
  split <;> omega
theorem pay_bd {g : Nat → Int} {T m q : Int} (W : WS g T) (hm : 0 ≤ m ∧ m < 4) (hq : 0 ≤ q ∧ q < 5) : 0 ≤ S_pay g m q ∧ S_pay g m q ≤ T + 50 := by
  have a := W.2.2.2.1 m hm.1 hm.2
  have b := W.1.mx hq
  unfold S_pay
  omega
theorem rmG_774 {g : Nat → Int} {c q m v : Int} (hc : 0 ≤ c ∧ c < 8) (hq : 0 ≤ q ∧ q < 5) (hm : 0 ≤ m ∧ m < 4) : S_rmG g c q m v 774 = g 774 := by
  unfold S_rmG
  rw [gup_o (by omega), gup_o (by omega), gup_o (by omega)]
theorem rmG_W {g : Nat → Int} {T c q m v : Int} (W : WS g T) (hc : 0 ≤ c ∧ c < 8) (hq : 0 ≤ q ∧ q < 5) (hm : 0 ≤ m ∧ m < 4) (hv : 0 ≤ v ∧ v ≤ 40) (ha : S_ap g c q 0 = 1) : WS (S_rmG g c q m v) (T + 50) := by
  have r := rst_bd (g := g) (c := c) (q := q) (v := v)
  have p := pay_bd W hm hq
  have f := W.2.2.2.2.1
  refine (rmG_K hc hq hm).W W (by omega) hc hq hm (by omega) hv (by omega) p ?_
  rw [rmG_774 hc hq hm]; omega
theorem W_774 {g : Nat → Int} {T T' r : Int} (W : WS g T) (hT : T ≤ T') (hr : 0 ≤ r ∧ r ≤ T') : WS (gup g 774 r) T' := by
  refine WS.tail W (fun k x => gup_o (by omega)) (fun x y x1 x2 y1 y2 => ?_) (fun x x1 x2 => ?_) (fun m x y => ?_) (by rw [gup_s]; exact hr) ?_
  · have a := W.1.ap0 ⟨x1, x2⟩ ⟨y1, y2⟩
    have b := W.1.apf ⟨x1, x2⟩ ⟨y1, y2⟩
    have e : ∀ w : Int, 0 ≤ w → w < 3 → S_ap (gup g 774 r) x y w = S_ap g x y w := fun w w1 w2 => gup_o (by omega)
    rw [e 0 (by omega) (by omega), e 1 (by omega) (by omega), e 2 (by omega) (by omega)]
    exact ⟨a.1, ⟨a.2.1.1, a.2.1.2, b⟩, a.2.2⟩
  · rw [nap_cg (g := g) (g1 := gup g 774 r) (c := x) (fun y a b => gup_o (by omega))]; exact (W.2.2.1 x x1 x2).2
  · rw [gup_o (by omega)]
    have := W.2.2.2.1 m x y
    omega
  · rw [gup_o (by omega), W.2.2.2.2.2]
    exact sm_congr 8 0 (fun x x1 x2 => sm_congr 5 0 (fun y y1 y2 => (show S_ap (gup g 774 r) x y 1 = S_ap g x y 1 from gup_o (by omega)).symm))
theorem R_774 {μ : Mu} {g : Nat → Int} {r : Int} (h : WF g) (R : RB μ 1 g) : RB (up2 μ 20 3 r) 1 (gup g 774 r) := by
  refine RB.tail h R (fun k x => gup_o (by omega)) (fun a ha => up2_oo (by omega)) (fun m x y => ?_) (fun x y x1 x2 y1 y2 => ?_) ?_
  · rw [up2_o (by omega), gup_o (by omega)]; exact R.pay ⟨x, y⟩
  · have e : ∀ w : Int, 0 ≤ w → w < 3 → S_ap (gup g 774 r) x y w = S_ap g x y w := fun w w1 w2 => gup_o (by omega)
    rw [e 0 (by omega) (by omega), e 1 (by omega) (by omega), e 2 (by omega) (by omega), up2_o (by omega), up2_o (by omega), up2_o (by omega)]
    exact R.ap ⟨x1, x2⟩ ⟨y1, y2⟩
  · rw [up2_s, gup_s]
theorem c_close {μ : Mu} {b : Nat} {s v n : Int} (hs : 0 ≤ s ∧ s < 40) (hn : n = 0 ∨ n = 1) : f_X0_close b s v n μ = some (up2 (up2 μ (b + 1) s.toNat (if n = 0 then 2 else 3)) (b + 3) s.toNat v, 0, 0) := by
  unfold f_X0_close f_X0_close_14
  rw [p_eq (by omega)]
  by_cases p : n = 0
  · rw [if_pos p, if_pos p, p_wrI (by omega), p_wrI (by omega)]
  · rw [if_neg p, if_neg p, p_wrI (by omega), p_wrI (by omega)]
theorem c_remark {T : Int} {μ : Mu} (I : Inv T μ) {w1 w2 w3 w4 : Int} (hm : 0 ≤ w1 ∧ w1 < 4) (hc : 0 ≤ w2 ∧ w2 < 8) (hq : 0 ≤ w3 ∧ w3 < 5) (hv : 0 ≤ w4 ∧ w4 ≤ 40) (ha : S_ap (μ 249) w2 w3 0 = 1) :
    ∃ μ6, (rb (f_X4_keep 1 μ) fun μ _ => rb (f_X1_earn 1 w1 w3 μ) fun μ _ => rb (f_X10_scriptOf w2 w3 μ) fun μ x2 => rdA 8 w2 (fun j => 232 + 2 * j) fun x3 => rb (f_X5_find x3 1 w2 μ) fun μ _ => rdF μ x3 5 fun x4 => rb (f_X1_settledOf 1 x2 μ) fun μ x5 => rb (f_X1_agree 1 (w4 * 120) x5 μ) fun μ x6 => i_eq x6 0 (f_X10_remark_118 w1 w2 w3 w4 x2 x3 x4 1 μ) (f_X10_remark_118 w1 w2 w3 w4 x2 x3 x4 0 μ)) = (if S_grade (S_rmG (μ 249) w2 w3 w1 w4) w2 (S_set (S_rmG (μ 249) w2 w3 w1 w4) w2) < S_grade (μ 249) w2 (S_set (μ 249) w2) then some (up2 μ6 20 3 (μ 249 774 + S_ap (μ 249) w2 w3 1), 0, S_ap (μ 249) w2 w3 1) else some (μ6, 0, 0)) ∧ CM μ μ6 (S_rmG (μ 249) w2 w3 w1 w4) := by
  have hap := I.wf.ap0 hc hq
  have hmx := I.wf.mx hq
  have hpy := pay_bd I.1.2 hm hq
  obtain ⟨μ1, a1, C, a3⟩ := c_kept I
  have e1 : f_X1_earn 1 w1 w3 μ1 = some (up2 μ1 7 w1.toNat (S_pay (μ 249) w1 w3), 0, 0) := by
    have := c_earn (μ := μ1) (b := 1) hm hq
    rw [C.1.pay hm, C.1.mx hq] at this
    exact this
  have sO : ∀ m : Mu, f_X10_scriptOf w2 w3 m = some (m, 0, w2 * 5 + w3) := fun _ => rfl
  -- with the pay
  have A0 : μ 249 (653 + 15 * w2 + 3 * w3).toNat = 1 := by
    have := ha
    unfold S_ap at this
    rw [Int.add_zero] at this
    exact this
  have K1 : RMK (μ 249) (gup (μ 249) (775 + w1).toNat (S_pay (μ 249) w1 w3)) w2 w3 w1 (S_ap (μ 249) w2 w3 2) 1 (S_pay (μ 249) w1 w3) := by
    refine ⟨fun k x y z w => gup_o z, ?_, ?_, gup_s⟩
    · rw [gup_o (by omega)]; exact A0
    · rw [gup_o (by omega)]; rfl
  have W1 : WS (gup (μ 249) (775 + w1).toNat (S_pay (μ 249) w1 w3)) (T + 50) := K1.W I.1.2 (by omega) hc hq hm (by omega) hap.2.2 (by omega) hpy (by
    have := I.1.2.2.2.2.2.1
    rw [gup_o (by omega)]; omega)
  have R1 : RB (up2 μ1 7 w1.toNat (S_pay (μ 249) w1 w3)) 1 (gup (μ 249) (775 + w1).toNat (S_pay (μ 249) w1 w3)) := by
    refine K1.R I.wf C.1 hc hq hm (fun a ha => up2_oo (by omega)) ⟨up2_s, fun k x => up2_k x⟩ ⟨?_, fun k x => up2_o (by omega)⟩ ⟨?_, fun k x => up2_o (by omega)⟩ ?_
    · rw [up2_o (by omega)]; exact (C.1.ap hc hq).1.trans ha
    · rw [up2_o (by omega)]; exact (C.1.ap hc hq).2.2
    · rw [up2_o (by omega), gup_o (by omega)]; exact C.1.rf
  obtain ⟨μ3, b1, F3⟩ := c_find (o := 232 + 2 * w2.toNat) W1.1 W1.2.1 W1.2.2.1 R1 (by omega) hc
  have R3 : RB μ3 1 (gup (μ 249) (775 + w1).toNat (S_pay (μ 249) w1 w3)) := R1.keep (fun a x y => F3.1 a (by omega) (by omega) (by omega))
  obtain ⟨μ4, d1, J4⟩ := c_settled W1.1 W1.2.1 R3 hc hq (s := w2 * 5 + w3) rfl
  have R4 := J4.R R3
  have gB : μ3 (232 + 2 * w2.toNat) 5 = S_grade (μ 249) w2 (S_set (μ 249) w2) := F3.2.2.2.2.2.2.trans (cg_pay I.wf (fun k x => gup_o (by omega)) hc)
  have sD : S_set (gup (μ 249) (775 + w1).toNat (S_pay (μ 249) w1 w3)) w2 w3 = S_set (μ 249) w2 w3 := cg_set I.wf (fun k x => gup_o (by omega)) (gup_o (by omega)) (fun _ => gup_o (by omega))
  have hD := S_set_bd I.wf hc hq
  have ag := c_agree W1.1 R4 (v := w4 * 120) (w := S_set (μ 249) w2 w3) (by omega) (by omega)
  unfold S_agr at ag
  rw [gup_o (by omega)] at ag
  have lo : ∀ a : Nat, a ≠ 24 → a ≠ 232 + 2 * w2.toNat → a ≠ 232 + 2 * w2.toNat + 1 → μ4 a = up2 μ1 7 w1.toNat (S_pay (μ 249) w1 w3) a := fun a x y z => (J4 a (by omega)).trans (F3.1 a y z (by omega))
  -- with the remark
  have K := rmG_K (g := μ 249) (v := w4) hc hq hm
  have W5 := rmG_W I.1.2 hc hq hm hv ha
  have R5 : RB (up2 (up2 μ4 21 (w2 * 5 + w3).toNat (S_rst (μ 249) w2 w3 w4)) 23 (w2 * 5 + w3).toNat w4) 1 (S_rmG (μ 249) w2 w3 w1 w4) := by
    refine K.R I.wf C.1 hc hq hm (fun a ha => ?_) ⟨?_, fun k x => ?_⟩ ⟨?_, fun k x => ?_⟩ ⟨up2_s, fun k x => ?_⟩ ?_
    · rw [up2_oo (by omega), up2_oo (by omega), lo a (by omega) (by omega) (by omega), up2_oo (by omega)]
    · rw [up2_o (by omega), up2_o (by omega), lo 7 (by omega) (by omega) (by omega), up2_s]
    · rw [up2_o (by omega), up2_o (by omega), lo 7 (by omega) (by omega) (by omega), up2_k x]
    · rw [up2_o (by omega), up2_s]
    · rw [up2_o (by omega), up2_k x, lo 21 (by omega) (by omega) (by omega), up2_o (by omega)]
    · rw [up2_k x, up2_o (by omega), lo 23 (by omega) (by omega) (by omega), up2_o (by omega)]
    · rw [up2_o (by omega), up2_o (by omega), lo 20 (by omega) (by omega) (by omega), up2_o (by omega), rmG_774 hc hq hm]; exact C.1.rf
  obtain ⟨μ6, d6, F6⟩ := c_find (o := 232 + 2 * w2.toNat) W5.1 W5.2.1 W5.2.2.1 R5 (by omega) hc
  have R6 : RB μ6 1 (S_rmG (μ 249) w2 w3 w1 w4) := R5.keep (fun a x y => F6.1 a (by omega) (by omega) (by omega))
  have gN := F6.2.2.2.2.2.2
  have nb := S_gr_bd (g := S_rmG (μ 249) w2 w3 w1 w4) (c := w2) (M := S_set (S_rmG (μ 249) w2 w3 w1 w4) w2)
  have bb := S_gr_bd (g := μ 249) (c := w2) (M := S_set (μ 249) w2)
  have rf : μ6 (1 + 19) 3 = μ 249 774 := R6.rf.trans (rmG_774 hc hq hm)
  have fe : μ6 (1 + 19 + 2) (w2 * 5 + w3).toNat = S_ap (μ 249) w2 w3 1 := (R6.ap hc hq).2.1.trans (K.s hc hq hm).2.1
  have t118 : ∀ n : Int, (n = 0 ∨ n = 1) → S_rst (μ 249) w2 w3 w4 = (if n = 0 then 2 else 3) → f_X10_remark_118 w1 w2 w3 w4 (w2 * 5 + w3) (232 + 2 * w2.toNat) (S_grade (μ 249) w2 (S_set (μ 249) w2)) n μ4 = (if S_grade (S_rmG (μ 249) w2 w3 w1 w4) w2 (S_set (S_rmG (μ 249) w2 w3 w1 w4) w2) < S_grade (μ 249) w2 (S_set (μ 249) w2) then some (up2 μ6 20 3 (μ 249 774 + S_ap (μ 249) w2 w3 1), 0, S_ap (μ 249) w2 w3 1) else some (μ6, 0, 0)) := by
    intro n hn hs
    have cl := c_close (μ := μ4) (b := 1 + 19) (s := w2 * 5 + w3) (v := w4) (by omega) hn
    rw [← hs] at cl
    have cl : f_X0_close (1 + 19) (w2 * 5 + w3) w4 n μ4 = some (up2 (up2 μ4 21 (w2 * 5 + w3).toNat (S_rst (μ 249) w2 w3 w4)) 23 (w2 * 5 + w3).toNat w4, 0, 0) := cl
    unfold f_X10_remark_118 f_X10_remark_172 f_X0_refund
    rw [cl, p_rb, d6, p_rb, p_rdF, gN, p_lt (by omega)]
    by_cases z : S_grade (S_rmG (μ 249) w2 w3 w1 w4) w2 (S_set (S_rmG (μ 249) w2 w3 w1 w4) w2) < S_grade (μ 249) w2 (S_set (μ 249) w2)
    · rw [if_pos z, if_pos z, p_rdF, rf, p_rdI (by omega), fe, p_wrF, p_rdI (by omega), up2_o (by omega), fe, p_rb]
    · rw [if_neg z, if_neg z]
  refine ⟨μ6, ?_, C.wr2 (fun a x => ?_) R6⟩
  · rw [a1, p_rb, e1, p_rb, sO, p_rb, p_rdA (by omega), b1, p_rb, p_rdF, gB, d1, p_rb, sD, ag, p_rb]
    by_cases z : S_agr (μ 249) (w4 * 120) (S_set (μ 249) w2 w3)
    · rw [b2_t z, p_eq (by omega), if_neg (by omega)]
      exact t118 0 (Or.inl rfl) (by unfold S_rst; rw [if_pos z]; rfl)
    · rw [b2_f z, p_eq (by omega), if_pos rfl]
      exact t118 1 (Or.inr rfl) (by unfold S_rst; rw [if_neg z]; rfl)
  · rw [F6.1 a (by omega) (by omega) (by omega), up2_oo (by omega), up2_oo (by omega), lo a (by omega) (by omega) (by omega), up2_oo (by omega)]

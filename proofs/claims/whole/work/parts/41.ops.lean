/-! operations that change nothing that matters -/
def OK (T : Int) (r : Option Mu) : Prop := ∃ μ', r = some μ' ∧ Inv (T + 1000) μ'
def jT (a k : Nat) : Prop := (255 ≤ a ∧ a ≤ 259) ∨ (a = 248 ∧ (k = 0 ∨ 13 ≤ k))
def JT (μ μ' : Mu) : Prop := ∀ a k : Nat, ¬ jT a k → μ' a k = μ a k
theorem JT.rf (μ : Mu) : JT μ μ := fun _ _ _ => rfl
theorem JT.tr {μ μ1 μ2 : Mu} (h1 : JT μ μ1) (h2 : JT μ1 μ2) : JT μ μ2 := fun a k h => (h2 a k h).trans (h1 a k h)
theorem JT.s {μ μ' : Mu} (h : JT μ μ') : μ' 249 = μ 249 := funext fun k => h 249 k (by unfold jT; omega)
theorem JT.ka {μ μ' : Mu} (h : JT μ μ') : KA μ μ' := fun a k hn => h a k (fun w => hn (by unfold jT at w; unfold jk; omega))
theorem JT.up {μ μ1 : Mu} (h : JT μ μ1) {a k : Nat} {v : Int} (hj : jT a k) : JT μ (up2 μ1 a k v) := fun a' k' hn => by
  rw [up2_eq, if_neg]
  · exact h a' k' hn
  · rintro ⟨rfl, rfl⟩; exact hn hj
theorem JT.th {μ : Mu} {v : Int} : JT μ (up2 μ 248 0 v) := (JT.rf μ).up (by unfold jT; omega)
theorem JR.jt {μ μ' : Mu} (h : JR μ μ') : JT μ μ' := fun a k hn => h a k (fun w => hn (by unfold jR at w; unfold jT; omega))
theorem op_ex {T : Int} {μ : Mu} (I : Inv T μ) {k : Nat} {cl : List Nat} {f : Option Res} {g : Mu → Option Res} {cmp : Int → Int → Option Mu → Option Mu} {μ2 : Mu} {x b : Int} {e i : Nat} (hf : f = some (μ, e + 1, x)) (hi : hpos cl e = some i) (hi9 : i < 100) (hg' : g μ = some (μ2, 0, b)) (hk : JT μ μ2) (ht : μ2 248 0 = (i : Int) + 1) : OK T (lcase (hp k cl f) g cmp) :=
  ⟨μ2, lc_ex hf hi hi9 hg' ht, (I.keep hk.ka).up (by omega)⟩
theorem op_ok {T : Int} {μ : Mu} (I : Inv T μ) {k : Nat} {cl : List Nat} {f : Option Res} {g : Mu → Option Res} {cmp : Int → Int → Option Mu → Option Mu} {μ1 : Mu} {x : Int} (hf : f = some (μ1, 0, x)) (h1 : KA μ μ1) (hx : hg k x = true) (hc : ∀ μ, cmp x x (some μ) = some μ)
    (hg' : ∀ μ9 : Mu, Inv T μ9 → KA μ μ9 → ∃ μ2, g μ9 = some (μ2, 0, x) ∧ JT μ9 μ2 ∧ μ2 248 0 = 0) : OK T (lcase (hp k cl f) g cmp) := by
  have k9 : KA μ (up2 μ1 260 0 x) := h1.up (by unfold jk; omega)
  obtain ⟨μ2, a1, a2, a3⟩ := hg' (up2 μ1 260 0 x) (I.keep k9) k9
  refine ⟨μ2, lc_ok hf hx a1 a3 ?_ (hc μ2), (I.keep (k9.tr a2.ka)).up (by omega)⟩
  rw [a2 260 0 (by unfold jT; omega), up2_s]
theorem ld_ok {T : Int} {μ : Mu} (I : Inv T μ) {f : Option Res} {g : Mu → Option Res} {μ1 μ2 : Mu} {x : Int} (hf : f = some (μ1, 0, x)) (h1 : KA μ μ1) (hx : iG x) (hg' : g μ1 = some (μ2, 0, x)) (h2 : KA μ1 μ2) : OK T (ldir f g) := by
  refine ⟨μ2, ?_, (I.keep (h1.tr h2)).up (by omega)⟩
  unfold iG at hx
  rw [hf]
  simp only [ldir, hg']
  rw [p_eq (by omega), if_pos rfl]
theorem r_mref {μ : Mu} {m q : Int} (hm : iG m) (hq : iG q) : f_X11_markerRefusal m q μ = if (0 ≤ m ∧ m < 4) ∧ (0 ≤ q ∧ q < 5) then some (up2 μ 248 0 0, 0, 0) else some (up2 μ 248 0 1, 0, 1) := by
  unfold f_X11_markerRefusal f_X11_markerRefusal_19 f_X11_markerRefusal_20
  rw [r_mark hm, p_rb]
  by_cases p : 0 ≤ m ∧ m < 4
  · rw [b2_t (by omega), p_eq (by omega), if_neg (by omega), r_ques hq, p_rb]
    by_cases p2 : 0 ≤ q ∧ q < 5
    · rw [b2_t (by omega), p_eq (by omega), if_neg (by omega), if_pos ⟨p, p2⟩, p_wrF, p_rdF, up2_s]
    · rw [b2_f (by omega), p_eq (by omega), if_pos rfl, if_neg (fun w => p2 w.2), p_wrF, p_rdF, up2_s]
  · rw [b2_f (by omega), p_eq (by omega), if_pos rfl, if_neg (fun w => p w.1), p_wrF, p_rdF, up2_s]
theorem r_sref {μ : Mu} {c q : Int} (hc : iG c) (hq : iG q) : f_X11_scriptRefusal c q μ = if (0 ≤ c ∧ c < 8) ∧ (0 ≤ q ∧ q < 5) then some (up2 μ 248 0 0, 0, 0) else some (up2 μ 248 0 1, 0, 1) := by
  unfold f_X11_scriptRefusal f_X11_scriptRefusal_19 f_X11_scriptRefusal_20
  rw [r_cand hc, p_rb]
  by_cases p : 0 ≤ c ∧ c < 8
  · rw [b2_t (by omega), p_eq (by omega), if_neg (by omega), r_ques hq, p_rb]
    by_cases p2 : 0 ≤ q ∧ q < 5
    · rw [b2_t (by omega), p_eq (by omega), if_neg (by omega), if_pos ⟨p, p2⟩, p_wrF, p_rdF, up2_s]
    · rw [b2_f (by omega), p_eq (by omega), if_pos rfl, if_neg (fun w => p2 w.2), p_wrF, p_rdF, up2_s]
  · rw [b2_f (by omega), p_eq (by omega), if_pos rfl, if_neg (fun w => p w.1), p_wrF, p_rdF, up2_s]
theorem iG_of {x A : Int} (h : -A ≤ x ∧ x ≤ A) (hA : A ≤ 1000000000) : iG x := by unfold iG; omega
theorem o_correction {T : Int} {μ : Mu} (I : Inv T μ) {w1 w2 : Int} (h1 : iG w1) (h2 : iG w2) : OK T (lc_correction w1 w2 μ) := by
  unfold lc_correction
  by_cases p : (0 ≤ w1 ∧ w1 < 4) ∧ (0 ≤ w2 ∧ w2 < 5)
  · have hs : μ (1 + 2) (0 : Int).toNat = μ 249 5 := I.R.st (w := 0) (by omega)
    have hb := S_cor_bd I.wf p.1 p.2
    refine op_ok I (μ1 := μ) (x := S_cor (μ 249) w1 w2) ?_ (KA.rf μ) (hg0 (by unfold iG; omega)) (fun μ => cI_ok (by unfold iG; omega)) (fun μ9 I9 k9 => ?_)
    · unfold f_X10_correction
      rw [c_reqM h1, if_pos p.1, p_rb, c_reqQ h2, if_pos p.2, p_rb, p_rdI (by omega), hs, c_cor I.wf I.R p.1 p.2 rfl, p_rb]
    · refine ⟨up2 μ9 248 0 0, ?_, JT.th, up2_s⟩
      have e : (up2 μ9 248 0 0) 249 = μ9 249 := up2_oo (by omega)
      unfold f_X11_correction f_X11_correction_19
      rw [r_mref h1 h2, if_pos p, p_rb, p_lt (by omega), if_neg (by omega), r_cor (by rw [e]; exact I9.wf) p.1 p.2, p_rb, e, k9.s]
  · refine op_ex I (e := 2) (i := 0) (x := 0) (b := 0) (μ2 := up2 μ 248 0 1) ?_ rfl (by omega) ?_ JT.th up2_s
    · unfold f_X10_correction
      rw [c_reqM h1]
      by_cases q : 0 ≤ w1 ∧ w1 < 4
      · rw [if_pos q, p_rb, c_reqQ h2, if_neg (fun w => p ⟨q, w⟩)]; rfl
      · rw [if_neg q]; rfl
    · unfold f_X11_correction f_X11_correction_19
      rw [r_mref h1 h2, if_neg p, p_rb, p_lt (by omega), if_pos (by omega)]
theorem o_isSuspended {T : Int} {μ : Mu} (I : Inv T μ) {w1 w2 : Int} (h1 : iG w1) (h2 : iG w2) : OK T (lc_isSuspended w1 w2 μ) := by
  unfold lc_isSuspended
  by_cases p : (0 ≤ w1 ∧ w1 < 4) ∧ (0 ≤ w2 ∧ w2 < 5)
  · have hs : μ (1 + 2) (1 : Int).toNat = μ 249 6 := I.R.st (w := 1) (by omega)
    have hb := b2_01 (S_susp (μ 249) w1 w2)
    refine op_ok I (μ1 := μ) (x := b2 (S_susp (μ 249) w1 w2)) ?_ (KA.rf μ) (hg1 hb) (fun μ => cZ_ok hb) (fun μ9 I9 k9 => ?_)
    · unfold f_X10_isSuspended
      rw [c_reqM h1, if_pos p.1, p_rb, c_reqQ h2, if_pos p.2, p_rb, p_rdI (by omega), hs, c_strays I.wf I.R p.1 p.2 rfl, p_rb, p_Z hb]
    · refine ⟨up2 μ9 248 0 0, ?_, JT.th, up2_s⟩
      have e : (up2 μ9 248 0 0) 249 = μ9 249 := up2_oo (by omega)
      unfold f_X11_isSuspended f_X11_isSuspended_22 f_X11_isSuspended_23
      rw [r_mref h1 h2, if_pos p, p_rb, p_eq (by omega), if_pos rfl, r_susp (by rw [e]; exact I9.wf) p.1 p.2, p_rb, e, k9.s]
      by_cases q : S_susp (μ 249) w1 w2
      · rw [b2_t q]; rfl
      · rw [b2_f q]; rfl
  · refine op_ex I (e := 2) (i := 0) (x := 0) (b := 0) (μ2 := up2 μ 248 0 1) ?_ rfl (by omega) ?_ JT.th up2_s
    · unfold f_X10_isSuspended
      rw [c_reqM h1]
      by_cases q : 0 ≤ w1 ∧ w1 < 4
      · rw [if_pos q, p_rb, c_reqQ h2, if_neg (fun w => p ⟨q, w⟩)]; rfl
      · rw [if_neg q]; rfl
    · unfold f_X11_isSuspended f_X11_isSuspended_22 f_X11_isSuspended_23
      rw [r_mref h1 h2, if_neg p, p_rb, p_eq (by omega), if_neg (by omega)]; rfl
theorem o_errorPosition {T : Int} {μ : Mu} (I : Inv T μ) : OK T (lc_errorPosition μ) := by
  have h := I.2.2.2.1.2.1
  unfold lc_errorPosition
  refine ld_ok I (μ1 := μ) (μ2 := up2 μ 248 0 0) (x := μ 219 3) ?_ (KA.rf μ) (by unfold iG; omega) ?_ JT.th.ka
  · unfold f_X10_errorPosition; rfl
  · show some (up2 μ 248 0 0, 0, up2 μ 248 0 0 248 9) = _
    rw [up2_k (by omega), h.2.2]
theorem o_levels {T : Int} {μ : Mu} (I : Inv T μ) : OK T (lc_levels μ) := by
  have h := I.2.2.2.2
  unfold lc_levels
  refine ld_ok I (μ1 := μ) (μ2 := up2 μ 248 0 0) (x := μ 223 2) ?_ (KA.rf μ) (by unfold iG; omega) ?_ JT.th.ka
  · unfold f_X10_levels; rfl
  · show some (up2 μ 248 0 0, 0, up2 μ 248 0 0 248 11) = _
    rw [up2_k (by omega), h.2.1]
theorem o_report {T : Int} {μ : Mu} (I : Inv T μ) {w1 w2 : Int} (h1 : iG w1) (h2 : iG w2) : OK T (lc_report w1 w2 μ) := by
  obtain ⟨z1, z2, z3⟩ := I.2.2.2.2
  have g1 := h1
  unfold iG at g1
  unfold lc_report
  by_cases p : 0 ≤ w1 ∧ w1 < μ 223 2
  · by_cases p2 : 0 ≤ w2 ∧ w2 ≤ 1
    · obtain ⟨⟨r1, r2⟩, r3, r4⟩ := z3 w1 p.1 (by omega)
      have hx : ∀ x : Int, x = (if w2 = 0 then μ 224 w1.toNat else μ 225 w1.toNat) → iG x := by
        rintro x rfl
        split
        · exact r2
        · exact r4
      refine op_ok I (μ1 := μ) (x := if w2 = 0 then μ 224 w1.toNat else μ 225 w1.toNat) ?_ (KA.rf μ) (hg0 (hx _ rfl)) (fun μ => cI_ok (hx _ rfl)) (fun μ9 I9 k9 => ?_)
      · unfold f_X10_report f_X10_report_20 f_X10_report_62
        rw [p_lt (by omega), if_neg (by omega), p_rdF, p_lt (by omega), if_pos p.2, p_lt (by omega), if_pos (by omega), c_reqR h2 (by unfold iG; omega) (by unfold iG; omega), if_pos p2, p_rb, p_eq (by omega)]
        by_cases q : w2 = 0
        · rw [if_pos q, if_pos q, p_rdI (by omega)]
        · rw [if_neg q, if_neg q, p_rdI (by omega)]
      · refine ⟨up2 μ9 248 0 0, ?_, JT.th, up2_s⟩
        have e11 : μ9 248 11 = μ 223 2 := (k9 248 11 (by unfold jk; omega)).trans z2
        have e254 : μ9 254 = μ 254 := funext fun k => k9 254 k (by unfold jk; omega)
        unfold f_X11_report f_X11_report_52
        rw [p_wrF, p_rdF, up2_k (by omega), e11, r_in h1 (by unfold iG; omega) (by unfold iG; omega), p_rb, b2_t (by omega), p_eq (by omega), if_neg (by omega), r_in h2 (by unfold iG; omega) (by unfold iG; omega), p_rb, b2_t p2, p_eq (by omega), if_neg (by omega), p_rdI (by omega), up2_o (by omega), e254]
        by_cases q : w2 = 0
        · rw [if_pos q, q, Int.add_zero, r1]
        · rw [if_neg q, show w2 = 1 by omega, r3]
    · refine op_ex I (e := 1) (i := 1) (x := 0) (b := 0) (μ2 := up2 (up2 μ 248 0 0) 248 0 2) ?_ rfl (by omega) ?_ (JT.th.up (by unfold jT; omega)) up2_s
      · unfold f_X10_report f_X10_report_20 f_X10_report_62
        rw [p_lt (by omega), if_neg (by omega), p_rdF, p_lt (by omega), if_pos p.2, p_lt (by omega), if_pos (by omega), c_reqR h2 (by unfold iG; omega) (by unfold iG; omega), if_neg p2]; rfl
      · unfold f_X11_report f_X11_report_52
        rw [p_wrF, p_rdF, up2_k (by omega), z2, r_in h1 (by unfold iG; omega) (by unfold iG; omega), p_rb, b2_t (by omega), p_eq (by omega), if_neg (by omega), r_in h2 (by unfold iG; omega) (by unfold iG; omega), p_rb, b2_f p2, p_eq (by omega), if_pos rfl]; rfl
  · refine op_ex I (e := 5) (i := 0) (x := 0) (b := 0) (μ2 := up2 (up2 μ 248 0 0) 248 0 1) ?_ rfl (by omega) ?_ (JT.th.up (by unfold jT; omega)) up2_s
    · unfold f_X10_report f_X10_report_20 f_X10_report_62
      rw [p_lt (by omega)]
      by_cases q : w1 < 0
      · rw [if_pos q]
      · rw [if_neg q, p_rdF, p_lt (by omega), if_neg (by omega)]
    · unfold f_X11_report f_X11_report_52
      rw [p_wrF, p_rdF, up2_k (by omega), z2, r_in h1 (by unfold iG; omega) (by unfold iG; omega), p_rb, b2_f (by omega), p_eq (by omega), if_pos rfl]; rfl

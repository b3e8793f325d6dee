/-! what settled marks and grades depend on -/
theorem cg_mk {g g1 : Nat → Int} (E : ∀ k : Nat, k < 653 → g1 k = g k) {m q k : Int} (hm : 0 ≤ m ∧ m < 4) (hq : 0 ≤ q ∧ q < 5) (hk : 0 ≤ k ∧ k < 5) : S_mk g1 m q k = S_mk g m q k := E _ (by omega)
theorem cg_dv {g g1 : Nat → Int} (E : ∀ k : Nat, k < 653 → g1 k = g k) {m q k : Int} (hm : 0 ≤ m ∧ m < 4) (hq : 0 ≤ q ∧ q < 5) (hk : 0 ≤ k ∧ k < 5) : S_dv g1 m q k = S_dv g m q k := by
  unfold S_dv
  rw [cg_mk E hm hq hk, E (19 + 5 * q + k).toNat (by omega)]
theorem cg_susp {g g1 : Nat → Int} (E : ∀ k : Nat, k < 653 → g1 k = g k) {m q : Int} (hm : 0 ≤ m ∧ m < 4) (hq : 0 ≤ q ∧ q < 5) : S_susp g1 m q ↔ S_susp g m q := by
  rw [susp_ex, susp_ex]
  constructor
  · rintro ⟨k, a, b, c, d⟩
    rw [cg_mk E hm hq ⟨a, b⟩] at c
    rw [cg_dv E hm hq ⟨a, b⟩, E 6 (by omega)] at d
    exact ⟨k, a, b, c, d⟩
  · rintro ⟨k, a, b, c, d⟩
    refine ⟨k, a, b, ?_, ?_⟩
    · rw [cg_mk E hm hq ⟨a, b⟩]; exact c
    · rw [cg_dv E hm hq ⟨a, b⟩, E 6 (by omega)]; exact d
theorem cg_cor {g g1 : Nat → Int} (E : ∀ k : Nat, k < 653 → g1 k = g k) {m q : Int} (hm : 0 ≤ m ∧ m < 4) (hq : 0 ≤ q ∧ q < 5) : S_cor g1 m q = S_cor g m q := by
  have a : S_cn g1 m q = S_cn g m q := sm_congr 5 0 (fun k x y => by
    rw [cg_mk E hm hq (k := k) ⟨x, by omega⟩])
  have b : S_cs g1 m q = S_cs g m q := sm_congr 5 0 (fun k x y => by
    rw [cg_mk E hm hq (k := k) ⟨x, by omega⟩, cg_dv E hm hq (k := k) ⟨x, by omega⟩])
  unfold S_cor
  rw [a, b, E 5 (by omega)]
theorem cg_ent {g g1 : Nat → Int} (E : ∀ k : Nat, k < 653 → g1 k = g k) {e : Int} (he : 0 ≤ e ∧ e < 120) : S_em g1 e = S_em g e ∧ S_ec g1 e = S_ec g e ∧ S_eq g1 e = S_eq g e ∧ S_ev g1 e = S_ev g e := ⟨E _ (by omega), E _ (by omega), E _ (by omega), E _ (by omega)⟩
theorem cg_val {g g1 : Nat → Int} (h : WF g) (E : ∀ k : Nat, k < 653 → g1 k = g k) {e : Int} (he : 0 ≤ e ∧ e < g 144) : S_val g1 e = S_val g e := by
  have ht := h.tot
  have hee := h.ee he
  obtain ⟨e1, e2, e3, e4⟩ := cg_ent E (e := e) (by omega)
  have r : S_raw g1 e = S_raw g e := by
    unfold S_raw
    rw [e4, e1, e3, cg_cor E hee.1 hee.2.2.1]
  unfold S_val
  rw [r, e3, E (S_eq g e).toNat (by omega)]
theorem cg_ok {g g1 : Nat → Int} (h : WF g) (E : ∀ k : Nat, k < 653 → g1 k = g k) {e : Int} (he : 0 ≤ e ∧ e < g 144) : S_ok g1 e ↔ S_ok g e := by
  have ht := h.tot
  have hee := h.ee he
  obtain ⟨e1, e2, e3, e4⟩ := cg_ent E (e := e) (by omega)
  unfold S_ok
  rw [e1, e3]
  exact not_congr (cg_susp E hee.1 hee.2.2.1)
theorem cg_vl {g g1 : Nat → Int} (h : WF g) (E : ∀ k : Nat, k < 653 → g1 k = g k) {c q : Int} : ∀ (n : Nat) (e : Int), 0 ≤ e → e + n ≤ g 144 → S_vl g1 c q n e = S_vl g c q n e
  | 0, _, _, _ => rfl
  | n + 1, e, h0, hn => by
    have ht := h.tot
    have ih := cg_vl h E (c := c) (q := q) n (e + 1) (by omega) (by omega)
    have k := cg_ok h E (e := e) (by omega)
    obtain ⟨e1, e2, e3, e4⟩ := cg_ent E (e := e) (by omega)
    have i : S_is g1 c q e ↔ S_is g c q e := by
      unfold S_is
      rw [e2, e3]
    simp only [S_vl]
    by_cases p : S_is g c q e ∧ S_ok g e
    · rw [if_pos p, if_pos ⟨i.mpr p.1, k.mpr p.2⟩, cg_val h E (by omega), ih]
    · rw [if_neg p, if_neg (fun w => p ⟨i.mp w.1, k.mp w.2⟩), ih]
theorem cg_vals {g g1 : Nat → Int} (h : WF g) (E : ∀ k : Nat, k < 653 → g1 k = g k) {c q : Int} : S_vals g1 c q = S_vals g c q := by
  have ht := h.tot
  unfold S_vals
  rw [E 144 (by omega), cg_vl h E _ 0 (by omega) (by omega)]
theorem cg_setl {g g1 : Nat → Int} (E : ∀ k : Nat, k < 653 → g1 k = g k) {L : List Int} : S_setl g1 L = S_setl g L := by
  have e := E 7 (by omega)
  rcases L with _ | ⟨a, _ | ⟨b, _ | ⟨c, L⟩⟩⟩
  · rfl
  · rfl
  · show (if absI (a - b) ≤ g1 7 * 120 then (a + b) / 2 else if a < b then a else b) = (if absI (a - b) ≤ g 7 * 120 then (a + b) / 2 else if a < b then a else b)
    rw [e]
  · show (if absI (a - b) ≤ g1 7 * 120 then (a + b) / 2 else S_half a b c) = (if absI (a - b) ≤ g 7 * 120 then (a + b) / 2 else S_half a b c)
    rw [e]
theorem cg_set {g g1 : Nat → Int} (h : WF g) (E : ∀ k : Nat, k < 653 → g1 k = g k) {c q : Int} (e0 : S_ap g1 c q 0 = S_ap g c q 0) (e2 : S_ap g c q 0 = 3 → S_ap g1 c q 2 = S_ap g c q 2) : S_set g1 c q = S_set g c q := by
  unfold S_set
  rw [e0, cg_vals h E, cg_setl E]
  by_cases p : S_ap g c q 0 = 3
  · rw [if_pos p, if_pos p, e2 p]
  · rw [if_neg p, if_neg p]
theorem cg_px {g g1 : Nat → Int} (E : ∀ k : Nat, k < 773 → g1 k = g k) {k : Int} (hk : 0 ≤ k ∧ k ≤ 6) : S_px g1 k = S_px g k ∧ S_py g1 k = S_py g k := ⟨E _ (by omega), E _ (by omega)⟩
theorem cg_seek {g g1 : Nat → Int} (E : ∀ k : Nat, k < 773 → g1 k = g k) {n d : Int} : ∀ (m : Nat) (k : Int), 0 ≤ k → k + m ≤ 4 → S_seek g1 n d m k = S_seek g n d m k ∧ k ≤ S_seek g n d m k ∧ S_seek g n d m k ≤ k + m
  | 0, k, h0, hm => ⟨rfl, Int.le_refl _, by show k ≤ k + ((0 : Nat) : Int); omega⟩
  | m + 1, k, h0, hm => by
    have ih := cg_seek E (n := n) (d := d) m (k + 1) (by omega) (by omega)
    simp only [S_seek]
    rw [(cg_px E (k := k + 1) (by omega)).1]
    by_cases p : n < S_px g (k + 1) * d
    · rw [if_pos p, if_pos p]; omega
    · rw [if_neg p, if_neg p]; exact ⟨ih.1, by omega, by omega⟩
theorem cg_full {g g1 : Nat → Int} (E : ∀ k : Nat, k < 773 → g1 k = g k) : S_full g1 = S_full g := sm_congr 5 0 (fun q x y => E _ (by omega))
theorem cg_scl {g g1 : Nat → Int} (h : WF g) (E : ∀ k : Nat, k < 773 → g1 k = g k) {n d : Int} : S_scl g1 n d = S_scl g n d := by
  have hpm := h.pm
  have sk := cg_seek E (n := n) (d := d) 4 0 (by omega) (by omega)
  unfold S_scl
  rw [E 641 (by omega), cg_full E]
  by_cases a : g 641 < 2
  · rw [if_pos a, if_pos a]
  · rw [if_neg a, if_neg a, (cg_px E (k := 0) (by omega)).1, (cg_px E (k := 0) (by omega)).2, (cg_px E (k := g 641 - 1) (by omega)).1, (cg_px E (k := g 641 - 1) (by omega)).2, sk.1]
    have md : S_mid g1 n d (S_seek g n d 4 0) = S_mid g n d (S_seek g n d 4 0) := by
      have u := sk.2
      generalize S_seek g n d 4 0 = k at u ⊢
      unfold S_mid
      rw [(cg_px E (k := k) (by omega)).1, (cg_px E (k := k) (by omega)).2, (cg_px E (k := k + 1) (by omega)).1, (cg_px E (k := k + 1) (by omega)).2]
    rw [md]
theorem cg_grade {g g1 : Nat → Int} (h : WF g) (E : ∀ k : Nat, k < 773 → g1 k = g k) {c : Int} (hc : 0 ≤ c ∧ c < 8) {M M1 : Int → Int} (hM : ∀ q : Int, 0 ≤ q → q < 5 → M1 q = M q) : S_grade g1 c M1 = S_grade g c M := by
  have e625 : g1 (625 + c).toNat = g (625 + c).toNat := E _ (by omega)
  have e633 : g1 (633 + c).toNat = g (633 + c).toNat := E _ (by omega)
  have full := cg_full E
  have ex : ∀ q : Int, S_exc g1 c q ↔ S_exc g c q := fun q => by
    unfold S_exc
    rw [e625]
  have rs : S_rs g1 c M1 = S_rs g c M := sm_congr 5 0 (fun q x y => by
    rw [hM q x (by omega)]
    by_cases p : S_exc g c q
    · rw [if_pos p, if_pos ((ex q).mpr p)]
    · rw [if_neg p, if_neg (fun w => p ((ex q).mp w))])
  have rm : S_rm g1 c = S_rm g c := sm_congr 5 0 (fun q x y => by
    rw [E q.toNat (by omega)]
    by_cases p : S_exc g c q
    · rw [if_pos p, if_pos ((ex q).mpr p)]
    · rw [if_neg p, if_neg (fun w => p ((ex q).mp w))])
  have all : S_all g1 c = S_all g c := sm_congr 5 0 (fun q x y => by
    by_cases p : S_exc g c q
    · rw [if_pos p, if_pos ((ex q).mpr p)]
    · rw [if_neg p, if_neg (fun w => p ((ex q).mp w))])
  have good : ∀ b : Int, S_good g1 c b M1 = S_good g c b M := fun b => sm_congr 5 0 (fun q x y => by
    rw [E q.toNat (by omega), hM q x (by omega)]
    by_cases p : S_exc g c q
    · rw [if_pos p, if_pos ((ex q).mpr p)]
    · rw [if_neg p, if_neg (fun w => p ((ex q).mp w))])
  have d0 : S_d0 g1 c = S_d0 g c := by unfold S_d0; rw [rm]
  have n0 : S_n0 g1 c M1 = S_n0 g c M := by unfold S_n0; rw [rs, full, e633]
  have n1 : S_n1 g1 c M1 = S_n1 g c M := by unfold S_n1 S_cap; rw [full, d0, n0]
  have d1 : S_d1 g1 c M1 = S_d1 g c M := by unfold S_d1 S_cap; rw [full, d0, n0]
  have num : S_num g1 c M1 = S_num g c M := by unfold S_num; rw [n1, d1]
  have den : S_den g1 c M1 = S_den g c M := by unfold S_den; rw [n1, d1]
  have mkd : S_mkd g1 c M1 = S_mkd g c M := by unfold S_mkd; rw [num, den, cg_scl h E]
  have pl : S_plain g1 c M1 = S_plain g c M := by
    unfold S_plain S_pl
    rw [mkd, E 10 (by omega), E 11 (by omega), E 12 (by omega), E 13 (by omega)]
  have hp : 0 ≤ S_plain g c M ∧ S_plain g c M ≤ 4 := S_pl_bd
  unfold S_grade
  rw [mkd, pl]
  generalize S_plain g c M = p at hp
  generalize S_mkd g c M = m
  unfold S_gr
  by_cases p0 : 0 < p
  · have l : S_lift g1 c M1 m p ↔ S_lift g c M m p := by
      unfold S_lift
      rw [E (10 + p - 1).toNat (by omega), E 8 (by omega), all, good]
    by_cases pp : 0 < p ∧ S_lift g c M m p
    · rw [if_pos pp, if_pos ⟨pp.1, l.mpr pp.2⟩]
    · rw [if_neg pp, if_neg (fun w => pp ⟨w.1, l.mp w.2⟩)]
  · rw [if_neg (fun w => p0 w.1), if_neg (fun w => p0 w.1)]
/-- neither pay nor fees matter to a grade -/
theorem cg_pay {g g1 : Nat → Int} (h : WF g) (E : ∀ k : Nat, k < 773 → g1 k = g k) {c : Int} (hc : 0 ≤ c ∧ c < 8) : S_grade g1 c (S_set g1 c) = S_grade g c (S_set g c) := by
  refine cg_grade h E hc (fun q x y => cg_set h (fun k a => E k (by omega)) ?_ (fun _ => ?_))
  · exact E _ (by omega)
  · exact E _ (by omega)

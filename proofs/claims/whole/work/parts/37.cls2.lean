/-! the class's entries and settled marks -/
theorem sm_snoc (G : Int → Int) (n : Nat) (v : Int) : sm G (n + 1) v = sm G n v + G (v + n) := by
  rw [sm_add G n 1 v]
  simp [sm]
theorem cnt_snoc (g : Nat → Int) (c q : Int) (n : Nat) : S_cnt g c q (n + 1) = S_cnt g c q n + b2 (S_is g c q n) := by
  unfold S_cnt
  rw [sm_snoc, Int.zero_add]
theorem cnt_mono {g : Nat → Int} {c q : Int} : ∀ {n m : Nat}, n ≤ m → S_cnt g c q n ≤ S_cnt g c q m := by
  intro n m h
  obtain ⟨d, rfl⟩ := Nat.le.dest h
  unfold S_cnt
  rw [sm_add]
  have := (sm_bd (G := fun e => b2 (S_is g c q e)) (a := 0) (b := 1) d (0 + n) (fun j _ _ => by have := b2_01 (S_is g c q j); omega)).1
  omega
theorem cnt_0 {g : Nat → Int} {c q : Int} {n : Nat} : 0 ≤ S_cnt g c q n := by
  have := (sm_bd (G := fun e => b2 (S_is g c q e)) (a := 0) (b := 1) n 0 (fun j _ _ => by have := b2_01 (S_is g c q j); omega)).1
  unfold S_cnt
  omega
/-- an entry has fewer before it than its script has -/
theorem cnt_lt {g : Nat → Int} {c q e : Int} (he : 0 ≤ e ∧ e < g 144) (hi : S_is g c q e) : S_cnt g c q e.toNat < S_cnt g c q (g 144).toNat := by
  have h1 := cnt_mono (g := g) (c := c) (q := q) (show e.toNat + 1 ≤ (g 144).toNat by omega)
  rw [cnt_snoc, show ((e.toNat : Nat) : Int) = e by omega, b2_t hi] at h1
  omega
theorem sl_bd {g : Nat → Int} (h : WF g) (h3 : WF3 g) {e : Int} (he : 0 ≤ e ∧ e < g 144) : (0 ≤ S_cnt g (S_ec g e) (S_eq g e) e.toNat ∧ S_cnt g (S_ec g e) (S_eq g e) e.toNat < 3) ∧ 0 ≤ S_sl g e ∧ S_sl g e < 120 := by
  have h1 := cnt_lt he (show S_is g (S_ec g e) (S_eq g e) e from ⟨rfl, rfl⟩)
  have h2 := h3 (S_ec g e) (S_eq g e)
  have h4 := cnt_0 (g := g) (c := S_ec g e) (q := S_eq g e) (n := e.toNat)
  have h5 := h.ee he
  unfold S_sl
  omega
theorem c_quesOf {μ : Mu} {x : Int} (hx : 0 ≤ x ∧ x < 120) : f_X10_questionOf x μ = some (μ, 0, x / 3 % 5) := by
  unfold f_X10_questionOf
  rw [p_div (by omega), p_rem (by omega)]
theorem sl_q {g : Nat → Int} (h : WF g) (h3 : WF3 g) {e : Int} (he : 0 ≤ e ∧ e < g 144) : S_sl g e / 3 % 5 = S_eq g e := by
  have h1 := sl_bd h h3 he
  have h5 := h.ee he
  unfold S_sl at *
  omega
theorem c_isValid {μ : Mu} {b : Nat} {g : Nat → Int} (h : WF g) (h3 : WF3 g) (R : RB μ b g) {e x : Int} (he : 0 ≤ e ∧ e < g 144) (hx : x = S_sl g e) : f_X1_isValid b x μ = some (μ, 0, b2 (S_ok g e)) := by
  have h1 := sl_bd h h3 he
  have h2 := h.ee he
  have h4 := R.en he
  have h5 : μ (b + 2) (1 : Int).toNat = g 6 := R.st (w := 1) (by omega)
  subst hx
  unfold f_X1_isValid f_X1_isValid_43 f_X1_isValid_44
  rw [p_rdI (by omega), h4.2.1, c_below (by unfold iG; omega) (by unfold iG; omega), p_rb, b2_t (by omega), p_eq (by omega), if_neg (by omega), c_quesOf (by omega), p_rb, sl_q h h3 he, p_rdI (by omega), h5, c_strays h R h2.1 h2.2.2.1 rfl, p_rb]
  by_cases p : S_susp g (S_em g e) (S_eq g e)
  · rw [b2_t p, b2_f (fun w => w p)]; rfl
  · rw [b2_f p, b2_t p]; rfl
theorem c_valueOf {μ : Mu} {b : Nat} {g : Nat → Int} (h : WF g) (h3 : WF3 g) (R : RB μ b g) {e x : Int} (he : 0 ≤ e ∧ e < g 144) (hx : x = S_sl g e) : f_X1_valueOf b x μ = some (μ, 0, S_val g e) := by
  have h1 := sl_bd h h3 he
  have h2 := h.ee he
  have h4 := R.en he
  have h5 : μ (b + 2) (0 : Int).toNat = g 5 := R.st (w := 0) (by omega)
  have h6 := R.mx h2.2.2.1
  have h7 := h.mx h2.2.2.1
  have h8 := S_raw_bd h he
  have h9 : S_raw g e = S_ev g e * 120 + S_cor g (S_em g e) (S_eq g e) := rfl
  subst hx
  unfold f_X1_valueOf f_X1_valueOf_57
  rw [c_quesOf (by omega), p_rb, sl_q h h3 he, p_rdI (by omega), h4.2.1, p_rdI (by omega), h4.2.2, p_bnd, c_below (by unfold iG; omega) (by unfold iG; omega), p_rb, b2_t (by omega), p_eq (by omega), if_neg (by omega), p_rdI (by omega), h5, c_cor h R h2.1 h2.2.2.1 rfl, p_rb, p_bnd, p_rdI (by omega), h6, ← h9, p_min (by omega)]
  unfold S_val
  by_cases p : S_raw g e < 0
  · rw [if_pos (show S_raw g e < g (S_eq g e).toNat * 120 by omega), p_max (by omega), if_neg (by omega), if_pos p]
  · rw [if_neg p]
    by_cases p2 : g (S_eq g e).toNat * 120 < S_raw g e
    · rw [if_neg (by omega), p_max (by omega), if_pos (by omega), if_pos p2]
    · rw [if_neg p2]
      by_cases p3 : S_raw g e < g (S_eq g e).toNat * 120
      · rw [if_pos p3, p_max (by omega)]
        by_cases p4 : 0 < S_raw g e
        · rw [if_pos p4]
        · rw [if_neg p4]
          rw [show S_raw g e = 0 by omega]
      · rw [if_neg p3, p_max (by omega), if_pos (by omega)]
        rw [show S_raw g e = g (S_eq g e).toNat * 120 by omega]
/-- the entries of a script, in order -/
def S_es (g : Nat → Int) (c q : Int) : Nat → Int → List Int
  | 0, _ => []
  | n + 1, e => if S_is g c q e then e :: S_es g c q n (e + 1) else S_es g c q n (e + 1)
theorem es_len (g : Nat → Int) (c q : Int) : ∀ (n : Nat) (e : Int), ((S_es g c q n e).length : Int) = sm (fun e => b2 (S_is g c q e)) n e
  | 0, e => by simp [S_es, sm]
  | n + 1, e => by
    have ih := es_len g c q n (e + 1)
    simp only [S_es, sm]
    by_cases p : S_is g c q e
    · rw [if_pos p, b2_t p, List.length_cons]; push_cast; omega
    · rw [if_neg p, b2_f p]; omega
theorem es_at (g : Nat → Int) (c q : Int) : ∀ (n : Nat) (e : Int) (i : Nat), i < (S_es g c q n e).length → e ≤ (S_es g c q n e).getD i 0 ∧ (S_es g c q n e).getD i 0 < e + n ∧ S_is g c q ((S_es g c q n e).getD i 0) ∧ sm (fun e => b2 (S_is g c q e)) ((S_es g c q n e).getD i 0 - e).toNat e = i
  | 0, e, i, hi => by simp [S_es] at hi
  | n + 1, e, i, hi => by
    simp only [S_es] at hi ⊢
    by_cases p : S_is g c q e
    · rw [if_pos p] at hi ⊢
      match i, hi with
      | 0, _ =>
        refine ⟨Int.le_refl _, ?_, p, ?_⟩
        · show e < _; push_cast; omega
        · show sm _ (e - e).toNat e = _
          rw [show (e - e).toNat = 0 by omega]; rfl
      | i + 1, hi =>
        obtain ⟨a1, a2, a3, a4⟩ := es_at g c q n (e + 1) i (by simpa using hi)
        refine ⟨?_, ?_, a3, ?_⟩
        · show e ≤ (S_es g c q n (e + 1)).getD i 0; omega
        · show (S_es g c q n (e + 1)).getD i 0 < _; push_cast; omega
        · show sm _ ((S_es g c q n (e + 1)).getD i 0 - e).toNat e = _
          rw [show ((S_es g c q n (e + 1)).getD i 0 - e).toNat = ((S_es g c q n (e + 1)).getD i 0 - (e + 1)).toNat + 1 by omega]
          simp only [sm]
          rw [a4, b2_t p]; push_cast; omega
    · rw [if_neg p] at hi ⊢
      obtain ⟨a1, a2, a3, a4⟩ := es_at g c q n (e + 1) i hi
      refine ⟨by omega, by push_cast; omega, a3, ?_⟩
      rw [show ((S_es g c q n (e + 1)).getD i 0 - e).toNat = ((S_es g c q n (e + 1)).getD i 0 - (e + 1)).toNat + 1 by omega]
      simp only [sm]
      rw [a4, b2_f p]; omega
theorem flt_t {P : Int → Prop} [DecidablePred P] {e : Int} {L : List Int} (h : P e) : (e :: L).filter (fun e => decide (P e)) = e :: L.filter (fun e => decide (P e)) := List.filter_cons_of_pos (decide_eq_true h)
theorem flt_f {P : Int → Prop} [DecidablePred P] {e : Int} {L : List Int} (h : ¬ P e) : (e :: L).filter (fun e => decide (P e)) = L.filter (fun e => decide (P e)) := List.filter_cons_of_neg (fun w => h (of_decide_eq_true w))
theorem vl_es (g : Nat → Int) (c q : Int) : ∀ (n : Nat) (e : Int), S_vl g c q n e = ((S_es g c q n e).filter (fun e => decide (S_ok g e))).map (S_val g)
  | 0, e => rfl
  | n + 1, e => by
    simp only [S_vl, S_es]
    rw [vl_es g c q n (e + 1)]
    by_cases p : S_is g c q e
    · rw [if_pos p]
      by_cases p2 : S_ok g e
      · rw [if_pos ⟨p, p2⟩, flt_t (P := S_ok g) p2]; rfl
      · rw [if_neg (fun w => p2 w.2), flt_f (P := S_ok g) p2]
    · rw [if_neg p, if_neg (fun w => p w.1)]
def S_ents (g : Nat → Int) (c q : Int) : List Int := S_es g c q (g 144).toNat 0
theorem ents_len (g : Nat → Int) (c q : Int) : ((S_ents g c q).length : Int) = S_cnt g c q (g 144).toNat := es_len g c q _ 0
theorem ents_at {g : Nat → Int} {c q : Int} (ht : 0 ≤ g 144) {i : Nat} (hi : i < (S_ents g c q).length) : (0 ≤ (S_ents g c q).getD i 0 ∧ (S_ents g c q).getD i 0 < g 144) ∧ S_is g c q ((S_ents g c q).getD i 0) ∧ S_sl g ((S_ents g c q).getD i 0) = (c * 5 + q) * 3 + i := by
  obtain ⟨a1, a2, a3, a4⟩ := es_at g c q (g 144).toNat 0 i hi
  have e : S_es g c q (g 144).toNat 0 = S_ents g c q := rfl
  rw [e] at a1 a2 a3 a4
  refine ⟨by omega, a3, ?_⟩
  unfold S_sl
  rw [a3.1, a3.2]
  unfold S_cnt
  rw [Int.sub_zero] at a4
  rw [a4]; omega
theorem vals_ents (g : Nat → Int) (c q : Int) : S_vals g c q = ((S_ents g c q).filter (fun e => decide (S_ok g e))).map (S_val g) := vl_es g c q _ 0
/-- only the values' row of a book is changed -/
def JB (b : Nat) (μ μ' : Mu) : Prop := ∀ a : Nat, a ≠ b + 23 → μ' a = μ a
theorem JB.rf (b : Nat) (μ : Mu) : JB b μ μ := fun _ _ => rfl
theorem JB.tr {b : Nat} {μ μ1 μ2 : Mu} (h1 : JB b μ μ1) (h2 : JB b μ1 μ2) : JB b μ μ2 := fun a h => (h2 a h).trans (h1 a h)
theorem JB.R {b : Nat} {μ μ' : Mu} {g : Nat → Int} (h : JB b μ μ') (R : RB μ b g) : RB μ' b g := R.keep (fun a h1 h2 => h a (by omega))
theorem c_rvv_l {b : Nat} {g : Nat → Int} (h : WF g) (h3 : WF3 g) {c q : Int} (hc : 0 ≤ c ∧ c < 8) (hq : 0 ≤ q ∧ q < 5) (K : Int → Mu → Option Res) : ∀ (L : List Int) (P : List Int) (fu : Nat) (n : Int) (μ : Mu), RB μ b g → S_ents g c q = P ++ L → L.length < fu → 0 ≤ n → n + ((L.filter (fun e => decide (S_ok g e))).length : Int) ≤ 3 →
    ∃ μ', f_X1_readValidValues_4 b (c * 5 + q) K fu n P.length μ = K (n + (L.filter (fun e => decide (S_ok g e))).length) μ' ∧ JB b μ μ' ∧ (∀ i : Nat, (i : Int) < n → μ' (b + 23) i = μ (b + 23) i) ∧ (∀ i : Nat, i < (L.filter (fun e => decide (S_ok g e))).length → μ' (b + 23) (n.toNat + i) = ((L.filter (fun e => decide (S_ok g e))).map (S_val g)).getD i 0)
  | [], P, fu + 1, n, μ, R, hP, hf, hn, hl => by
    have hs := R.sz hc hq
    have hlen := ents_len g c q
    rw [hP, List.append_nil] at hlen
    have h9 := h3 c q
    refine ⟨μ, ?_, JB.rf b μ, fun _ _ => rfl, fun i hi => by simp at hi⟩
    rw [f_X1_readValidValues_4, p_rdI (by omega), hs, p_lt (by omega), if_neg (by omega)]
    simp
  | e :: L, P, fu + 1, n, μ, R, hP, hf, hn, hl => by
    have hs := R.sz hc hq
    have ht := h.tot
    have hlen := ents_len g c q
    have h9 := h3 c q
    have hlen2 : (S_ents g c q).length = P.length + (L.length + 1) := by rw [hP, List.length_append, List.length_cons]
    have hat := ents_at (g := g) (c := c) (q := q) ht.1 (i := P.length) (by omega)
    have hget : (S_ents g c q).getD P.length 0 = e := by rw [hP]; simp
    rw [hget] at hat
    obtain ⟨b1, b2', b3⟩ := hat
    have hP2 : S_ents g c q = (P ++ [e]) ++ L := by rw [hP]; simp
    have hPl : ((P ++ [e]).length : Int) = (P.length : Int) + 1 := by rw [List.length_append]; simp
    rw [f_X1_readValidValues_4, p_rdI (by omega), hs, p_lt (by omega), if_pos (by omega), p_lt (by omega), if_pos (by omega), p_bnd, c_isValid h h3 R b1 b3.symm, p_rb]
    unfold f_X1_readValidValues_53
    by_cases p : S_ok g e
    · have hfl : (e :: L).filter (fun e => decide (S_ok g e)) = e :: L.filter (fun e => decide (S_ok g e)) := flt_t (P := S_ok g) p
      rw [hfl, List.length_cons] at hl ⊢
      rw [b2_t p, p_eq (by omega), if_neg (by omega), c_valueOf h h3 R b1 b3.symm, p_rb, p_wrI (by push_cast at hl; omega), ← hPl]
      have j1 : JB b μ (up2 μ (b + 23) n.toNat (S_val g e)) := fun a ha => up2_oo ha
      obtain ⟨μ', a1, a2, a3, a4⟩ := c_rvv_l h h3 hc hq K L (P ++ [e]) fu (n + 1) _ (j1.R R) hP2 (by simp only [List.length_cons] at hf; omega) (by omega) (by push_cast at hl; omega)
      refine ⟨μ', ?_, j1.tr a2, fun i hi => ?_, fun i hi => ?_⟩
      · rw [a1]; congr 1; push_cast; omega
      · rw [a3 i (by omega), up2_k (by omega)]
      · match i, hi with
        | 0, _ => rw [a3 _ (by omega)]; exact up2_s
        | i + 1, hi =>
          have := a4 i (by omega)
          rw [show n.toNat + (i + 1) = (n + 1).toNat + i by omega, this]; rfl
    · have hfl : (e :: L).filter (fun e => decide (S_ok g e)) = L.filter (fun e => decide (S_ok g e)) := flt_f (P := S_ok g) p
      rw [hfl] at hl ⊢
      rw [b2_f p, p_eq (by omega), if_pos rfl, ← hPl]
      exact c_rvv_l h h3 hc hq K L (P ++ [e]) fu n μ R hP2 (by simp only [List.length_cons] at hf; omega) hn hl
theorem c_rvv {μ : Mu} {b : Nat} {g : Nat → Int} (h : WF g) (h3 : WF3 g) (R : RB μ b g) {c q s : Int} (hc : 0 ≤ c ∧ c < 8) (hq : 0 ≤ q ∧ q < 5) (hs : s = c * 5 + q) : ∃ μ', f_X1_readValidValues b s μ = some (μ', 0, ((S_vals g c q).length : Int)) ∧ JB b μ μ' ∧ (∀ i : Nat, i < (S_vals g c q).length → μ' (b + 23) i = (S_vals g c q).getD i 0) := by
  subst hs
  have hl := S_vals_len h3 (c := c) (q := q)
  have h9 := h3 c q
  have hlen := ents_len g c q
  have e9 : (S_vals g c q).length = ((S_ents g c q).filter (fun e => decide (S_ok g e))).length := by rw [vals_ents, List.length_map]
  obtain ⟨μ', a1, a2, a3, a4⟩ := c_rvv_l h h3 hc hq (fun v2 μ => f_X1_readValidValues_59 b (c * 5 + q) v2 μ) (S_ents g c q) [] FU 0 μ R rfl (by unfold FU; omega) (by omega) (by omega)
  refine ⟨μ', ?_, a2, fun i hi => ?_⟩
  · unfold f_X1_readValidValues
    refine Eq.trans a1 ?_
    unfold f_X1_readValidValues_59
    rw [e9, Int.zero_add]
  · have := a4 i (by omega)
    rw [show (0 : Int).toNat + i = i by simp, ← vals_ents] at this
    exact this
theorem c_agree {μ : Mu} {b : Nat} {g : Nat → Int} (h : WF g) (R : RB μ b g) {v w : Int} (hv : 0 ≤ v ∧ v ≤ 100000) (hw : 0 ≤ w ∧ w ≤ 100000) : f_X1_agree b v w μ = some (μ, 0, b2 (S_agr g v w)) := by
  have hst := h.st
  have ha := absI_bd (x := v - w) (A := 100000) (by omega)
  have h5 : μ (b + 2) (2 : Int).toNat = g 7 := R.st (w := 2) (by omega)
  unfold f_X1_agree f_X1_agree_22
  rw [c_dist (by unfold iG; omega) (by unfold iG; omega), p_rb, p_rdI (by omega), h5, p_lt (by omega)]
  by_cases p : g 7 * 120 < absI (v - w)
  · rw [if_pos p, b2_f (by omega)]; rfl
  · rw [if_neg p, b2_t (by omega)]; rfl
theorem c_half {μ : Mu} {a b c : Int} (ha : 0 ≤ a ∧ a ≤ 4800) (hb : 0 ≤ b ∧ b ≤ 4800) (hc : 0 ≤ c ∧ c ≤ 4800) : f_X10_halfWithNearer c a b μ = some (μ, 0, S_half a b c) := by
  have d1 := S_absI_bd (a := c) (b := a) hc ha
  have d2 := S_absI_bd (a := c) (b := b) hc hb
  unfold f_X10_halfWithNearer f_X10_halfWithNearer_24 f_X10_halfWithNearer_39 S_half
  rw [c_dist (by unfold iG; omega) (by unfold iG; omega), p_rb, c_dist (by unfold iG; omega) (by unfold iG; omega), p_rb, p_lt (by omega), p_eq (by omega), p_eq (by omega)]
  have e1 : ∀ x : Int, 0 ≤ x ∧ x ≤ 4800 → (i_div (c + x) 2 fun x1 => some (μ, 0, x1)) = some (μ, 0, (c + x) / 2) := fun x hx => p_div (by omega)
  by_cases p : absI (c - a) < absI (c - b)
  · rw [if_pos p, if_neg (by omega), e1 a ha]
    by_cases q : a < b
    · rw [if_pos q, if_pos q, if_neg (by omega)]
    · rw [if_neg q, if_neg q, if_pos (by omega)]
  · rw [if_neg p]
    by_cases p2 : absI (c - a) = absI (c - b)
    · rw [if_pos p2, p_max (by omega)]
      by_cases q : a < b
      · rw [if_pos q, if_pos q, if_pos (by omega), e1 b hb]
      · rw [if_neg q, if_neg q, if_pos (by omega), e1 a ha]
    · rw [if_neg p2, e1 b hb]
      by_cases q : a < b
      · rw [if_pos q, if_pos q, if_pos (by omega)]
      · rw [if_neg q, if_neg q, if_neg (by omega)]
theorem c_settled {μ : Mu} {b : Nat} {g : Nat → Int} (h : WF g) (h3 : WF3 g) (R : RB μ b g) {c q s : Int} (hc : 0 ≤ c ∧ c < 8) (hq : 0 ≤ q ∧ q < 5) (hs : s = c * 5 + q) : ∃ μ', f_X1_settledOf b s μ = some (μ', 0, S_set g c q) ∧ JB b μ μ' := by
  have h1 := h.ap0 hc hq
  have h2 := R.ap hc hq
  subst hs
  unfold f_X1_settledOf
  rw [p_rdI (by omega), h2.1, p_eq (by omega)]
  unfold S_set
  by_cases p : S_ap g c q 0 = 3
  · rw [if_pos p, if_pos p, p_rdI (by omega), h2.2.2]
    exact ⟨μ, rfl, JB.rf b μ⟩
  · rw [if_neg p, if_neg p]
    obtain ⟨μ1, a1, a2, a5⟩ := c_rvv h h3 R hc hq rfl
    have hb := S_vals_bd h (c := c) (q := q)
    have hl := S_vals_len h3 (c := c) (q := q)
    have R1 := a2.R R
    refine ⟨μ1, ?_, a2⟩
    rw [a1, p_rb]
    generalize S_vals g c q = L at a5 hb hl ⊢
    unfold S_setl
    match L, a5, hb, hl with
    | [], _, _, _ =>
      simp only [List.length_nil]
      rw [p_eq (by omega)]; rfl
    | [a], a5, hb, _ =>
      have e0 : μ1 (b + 23) (0 : Int).toNat = a := a5 0 (by simp)
      simp only [List.length_cons, List.length_nil]
      rw [p_eq (by omega), p_eq (by omega), p_rdI (by omega), e0]; rfl
    | [a, a'], a5, hb, _ =>
      have e0 : μ1 (b + 23) (0 : Int).toNat = a := a5 0 (by simp)
      have e1 : μ1 (b + 23) (1 : Int).toNat = a' := a5 1 (by simp)
      have ha := hb a (by simp)
      have hb := hb a' (by simp)
      have hag := c_agree h R1 (v := a) (w := a') (by omega) (by omega)
      rw [show (([a, a'].length : Nat) : Int) = 2 from rfl]
      by_cases p2 : S_agr g a a'
      · rw [b2_t p2] at hag
        simp (disch := omega) only [p_eq, p_rdI, e0, e1, hag, p_rb, p_div, if_pos p2, Int.reduceEq, ↓reduceIte]
      · rw [b2_f p2] at hag
        simp (disch := omega) only [p_eq, p_rdI, e0, e1, hag, p_rb, p_min, if_neg p2, Int.reduceEq, ↓reduceIte]
        by_cases p3 : a < a'
        · rw [if_neg (by omega), if_pos p3]
        · rw [if_neg p3]
          by_cases p4 : a' < a
          · rw [if_pos p4]
          · rw [if_neg p4, show a = a' by omega]
    | [a, a', d], a5, hb, _ =>
      have e0 : μ1 (b + 23) (0 : Int).toNat = a := a5 0 (by simp)
      have e1 : μ1 (b + 23) (1 : Int).toNat = a' := a5 1 (by simp)
      have e2 : μ1 (b + 23) (2 : Int).toNat = d := a5 2 (by simp)
      have ha := hb a (by simp)
      have hb1 := hb a' (by simp)
      have hd := hb d (by simp)
      have hag := c_agree h R1 (v := a) (w := a') (by omega) (by omega)
      rw [show (([a, a', d].length : Nat) : Int) = 3 from rfl]
      by_cases p2 : S_agr g a a'
      · rw [b2_t p2] at hag
        simp (disch := omega) only [p_eq, p_rdI, e0, e1, hag, p_rb, p_div, if_pos p2, Int.reduceEq, ↓reduceIte]
      · rw [b2_f p2] at hag
        simp (disch := omega) only [p_eq, p_rdI, e0, e1, e2, hag, p_rb, if_neg p2, Int.reduceEq, ↓reduceIte]
        rw [c_half ha hb1 hd, p_rb]
    | a :: b :: c :: d :: r, _, _, hl => simp at hl
theorem c_standing {μ : Mu} {b : Nat} {g : Nat → Int} (h : WF g) (h3 : WF3 g) (R : RB μ b g) {c q s : Int} (hc : 0 ≤ c ∧ c < 8) (hq : 0 ≤ q ∧ q < 5) (hs : s = c * 5 + q) : ∃ μ', f_X1_standingOf b s μ = some (μ', 0, S_state g c q) ∧ JB b μ μ' := by
  have h1 := h.ap0 hc hq
  have h2 := R.ap hc hq
  subst hs
  unfold f_X1_standingOf
  rw [p_rdI (by omega), h2.1, p_eq (by omega)]
  unfold S_state
  by_cases p : S_ap g c q 0 = 3
  · rw [if_pos p, if_pos p]
    exact ⟨μ, rfl, JB.rf b μ⟩
  · rw [if_neg p, if_neg p]
    obtain ⟨μ1, a1, a2, a5⟩ := c_rvv h h3 R hc hq rfl
    have hb := S_vals_bd h (c := c) (q := q)
    have hl := S_vals_len h3 (c := c) (q := q)
    have R1 := a2.R R
    refine ⟨μ1, ?_, a2⟩
    rw [a1, p_rb]
    generalize S_vals g c q = L at a5 hb hl ⊢
    unfold S_stl f_X1_standingOf_55 f_X1_standingOf_56
    match L, a5, hb, hl with
    | [], _, _, _ =>
      simp only [List.length_nil]
      rw [p_eq (by omega)]; rfl
    | [a], a5, hb, _ =>
      rw [show (([a].length : Nat) : Int) = 1 from rfl]
      simp (disch := omega) only [p_eq, Int.reduceEq, ↓reduceIte]
    | [a, a'], a5, hb, _ =>
      have e0 : μ1 (b + 23) (0 : Int).toNat = a := a5 0 (by simp)
      have e1 : μ1 (b + 23) (1 : Int).toNat = a' := a5 1 (by simp)
      have ha := hb a (by simp)
      have hb := hb a' (by simp)
      have hag := c_agree h R1 (v := a) (w := a') (by omega) (by omega)
      rw [show (([a, a'].length : Nat) : Int) = 2 from rfl]
      by_cases p2 : S_agr g a a'
      · rw [b2_t p2] at hag
        simp (disch := omega) only [p_eq, p_rdI, e0, e1, hag, p_rb, if_pos p2, Int.reduceEq, ↓reduceIte]
      · rw [b2_f p2] at hag
        simp (disch := omega) only [p_eq, p_rdI, e0, e1, hag, p_rb, if_neg p2, Int.reduceEq, ↓reduceIte]
    | [a, a', d], a5, hb, _ =>
      rw [show (([a, a', d].length : Nat) : Int) = 3 from rfl]
      simp (disch := omega) only [p_eq, Int.reduceEq, ↓reduceIte]
    | a :: b :: c :: d :: r, _, _, hl => simp at hl

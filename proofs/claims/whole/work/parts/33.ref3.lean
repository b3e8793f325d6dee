/-! the reference: the values of a script, its settled mark, its state -/
def jF (a k : Nat) : Prop := a = 255 ∨ (a = 248 ∧ k = 13)
def JF (μ μ' : Mu) : Prop := ∀ a k : Nat, ¬ jF a k → μ' a k = μ a k
theorem JF.rf (μ : Mu) : JF μ μ := fun _ _ _ => rfl
theorem JF.tr {μ μ1 μ2 : Mu} (h1 : JF μ μ1) (h2 : JF μ1 μ2) : JF μ μ2 := fun a k h => (h2 a k h).trans (h1 a k h)
theorem JF.at {μ μ' : Mu} (h : JF μ μ') {a : Nat} (ha : a ≠ 248 ∧ a ≠ 255) : μ' a = μ a := funext fun k => h a k (by unfold jF; omega)
theorem JF.s {μ μ' : Mu} (h : JF μ μ') : μ' 249 = μ 249 := h.at (by omega)
theorem JF.up {μ μ1 : Mu} (h : JF μ μ1) {a k : Nat} {v : Int} (hj : jF a k) : JF μ (up2 μ1 a k v) := fun a' k' hn => by
  rw [up2_eq, if_neg]
  · exact h a' k' hn
  · rintro ⟨rfl, rfl⟩; exact hn hj
def S_vl (g : Nat → Int) (c q : Int) : Nat → Int → List Int
  | 0, _ => []
  | n + 1, e => if S_is g c q e ∧ S_ok g e then S_val g e :: S_vl g c q n (e + 1) else S_vl g c q n (e + 1)
def S_vals (g : Nat → Int) (c q : Int) : List Int := S_vl g c q (g 144).toNat 0
theorem S_vl_len {g : Nat → Int} {c q : Int} : ∀ (n : Nat) (e : Int), ((S_vl g c q n e).length : Int) ≤ sm (fun e => b2 (S_is g c q e)) n e
  | 0, e => by simp [S_vl, sm]
  | n + 1, e => by
    have ih := S_vl_len (g := g) (c := c) (q := q) n (e + 1)
    simp only [S_vl, sm]
    have h01 := b2_01 (S_is g c q e)
    by_cases p : S_is g c q e ∧ S_ok g e
    · rw [if_pos p, b2_t p.1, List.length_cons]; push_cast; omega
    · rw [if_neg p]; omega
/-- no script has more than three entries -/
def WF3 (g : Nat → Int) : Prop := ∀ c q : Int, S_cnt g c q (g 144).toNat ≤ 3
theorem S_vals_len {g : Nat → Int} (h3 : WF3 g) {c q : Int} : (S_vals g c q).length ≤ 3 := by
  have := S_vl_len (g := g) (c := c) (q := q) (g 144).toNat 0
  have := h3 c q
  unfold S_cnt at this
  unfold S_vals
  omega
theorem S_vl_mem {g : Nat → Int} (h : WF g) {c q : Int} : ∀ (n : Nat) (e : Int), 0 ≤ e → e + n ≤ g 144 → ∀ v ∈ S_vl g c q n e, 0 ≤ v ∧ v ≤ 4800
  | 0, e, _, _, v, hv => by simp [S_vl] at hv
  | n + 1, e, h0, hn, v, hv => by
    simp only [S_vl] at hv
    by_cases p : S_is g c q e ∧ S_ok g e
    · rw [if_pos p] at hv
      rcases List.mem_cons.mp hv with rfl | hv
      · exact S_val_bd h (by omega)
      · exact S_vl_mem h n (e + 1) (by omega) (by omega) v hv
    · rw [if_neg p] at hv
      exact S_vl_mem h n (e + 1) (by omega) (by omega) v hv
theorem S_vals_bd {g : Nat → Int} (h : WF g) {c q : Int} : ∀ v ∈ S_vals g c q, 0 ≤ v ∧ v ≤ 4800 := by
  have := h.tot
  exact S_vl_mem h _ 0 (by omega) (by omega)
theorem r_finds_l {μ0 : Mu} (h : WF (μ0 249)) {c q : Int} (hc : iG c) (hq : iG q) (k : Mu → Option Res) : ∀ (n fu : Nat) (e : Int) (μ : Mu), 0 ≤ e → e + n = μ0 249 144 → n < fu → μ 249 = μ0 249 → 0 ≤ μ 248 13 → μ 248 13 + (S_vl (μ0 249) c q n e).length ≤ 3 →
    ∃ μ', f_X11_finds_7 c q k fu e μ = k μ' ∧ JF μ μ' ∧ μ' 248 13 = μ 248 13 + (S_vl (μ0 249) c q n e).length ∧ (∀ i : Nat, (i : Int) < μ 248 13 → μ' 255 i = μ 255 i) ∧ (∀ i : Nat, i < (S_vl (μ0 249) c q n e).length → μ' 255 ((μ 248 13).toNat + i) = (S_vl (μ0 249) c q n e).getD i 0)
  | 0, fu + 1, e, μ, h0, hn, hf, hs, hv, hl => by
    refine ⟨μ, ?_, JF.rf μ, ?_, fun _ _ => rfl, fun i hi => ?_⟩
    · rw [f_X11_finds_7, p_rdI (by omega), hs]
      show i_lt e (μ0 249 144) _ _ = _
      have := h.tot
      rw [p_lt (by omega), if_neg (by omega)]
    · simp [S_vl]
    · simp [S_vl] at hi
  | n + 1, fu + 1, e, μ, h0, hn, hf, hs, hv, hl => by
    have ht := h.tot
    have hW : WF (μ 249) := by rw [hs]; exact h
    have hs4 : μ 249 144 = μ0 249 144 := by rw [hs]
    have he : 0 ≤ e ∧ e < μ 249 144 := by omega
    have hstep : f_X11_finds_7 c q k (fu + 1) e μ = (if S_is (μ0 249) c q e ∧ S_ok (μ0 249) e then f_X11_finds_7 c q k fu (e + 1) (up2 (up2 μ 255 (μ 248 13).toNat (S_val (μ0 249) e)) 248 13 (μ 248 13 + 1)) else f_X11_finds_7 c q k fu (e + 1) μ) := by
      rw [f_X11_finds_7, p_rdI (by omega)]
      show i_lt e (μ 249 144) _ _ = _
      rw [p_lt (by omega), if_pos he.2, r_isOf hW he hc hq, p_rb]
      rw [← hs]
      unfold f_X11_finds_61
      by_cases p : S_is (μ 249) c q e
      · rw [b2_t p, p_eq (by omega), if_neg (by omega), r_isValid hW he, p_rb]
        by_cases p2 : S_ok (μ 249) e
        · rw [b2_t p2, p_eq (by omega), if_neg (by omega), p_rdF, r_value hW he, p_rb]
          have hl3 : μ 248 13 < 3 := by
            simp only [S_vl] at hl
            rw [← hs, if_pos ⟨p, p2⟩, List.length_cons] at hl
            push_cast at hl; omega
          rw [p_wrI (by omega), p_rdF, p_wrF, if_pos ⟨p, p2⟩, up2_o (by omega)]
        · rw [b2_f p2, p_eq (by omega), if_pos rfl, if_neg (fun w => p2 w.2)]
      · rw [b2_f p, p_eq (by omega), if_pos rfl, if_neg (fun w => p w.1)]
    rw [hstep]
    by_cases p : S_is (μ0 249) c q e ∧ S_ok (μ0 249) e
    · rw [if_pos p]
      have hS : S_vl (μ0 249) c q (n + 1) e = S_val (μ0 249) e :: S_vl (μ0 249) c q n (e + 1) := by simp only [S_vl]; rw [if_pos p]
      rw [hS, List.length_cons] at hl ⊢
      generalize hμ : up2 (up2 μ 255 (μ 248 13).toNat (S_val (μ0 249) e)) 248 13 (μ 248 13 + 1) = μ1
      have m1 : μ1 248 13 = μ 248 13 + 1 := by rw [← hμ, up2_s]
      have m2 : μ1 249 = μ 249 := by rw [← hμ, up2_oo (by omega), up2_oo (by omega)]
      have m3 : ∀ i : Nat, μ1 255 i = if i = (μ 248 13).toNat then S_val (μ0 249) e else μ 255 i := fun i => by
        rw [← hμ, up2_o (by omega), up2_eq]
        by_cases w : i = (μ 248 13).toNat <;> simp [w]
      obtain ⟨μ', a1, a2, a3, a4, a5⟩ := r_finds_l h hc hq k n fu (e + 1) μ1 (by omega) (by omega) (by omega) (by rw [m2, hs]) (by omega) (by push_cast at hl; omega)
      refine ⟨μ', a1, JF.tr ?_ a2, ?_, fun i hi => ?_, fun i hi => ?_⟩
      · rw [← hμ]
        exact ((JF.rf μ).up (by unfold jF; omega)).up (by unfold jF; omega)
      · rw [a3, m1]; push_cast; omega
      · rw [a4 i (by omega), m3, if_neg (by omega)]
      · match i, hi with
        | 0, _ =>
          rw [a4 _ (by omega), m3, if_pos (by omega)]; rfl
        | i + 1, hi =>
          have := a5 i (by omega)
          rw [m1] at this
          rw [show (μ 248 13).toNat + (i + 1) = (μ 248 13 + 1).toNat + i by omega, this]; rfl
    · rw [if_neg p]
      have hS : S_vl (μ0 249) c q (n + 1) e = S_vl (μ0 249) c q n (e + 1) := by simp only [S_vl]; rw [if_neg p]
      rw [hS] at hl ⊢
      exact r_finds_l h hc hq k n fu (e + 1) μ (by omega) (by omega) (by omega) hs hv hl
theorem r_finds {μ : Mu} (h : WF (μ 249)) (h3 : WF3 (μ 249)) {c q : Int} (hc : iG c) (hq : iG q) : ∃ μ', f_X11_finds c q μ = some (μ', 0, 0) ∧ JF μ μ' ∧ μ' 248 13 = (S_vals (μ 249) c q).length ∧ (∀ i : Nat, i < (S_vals (μ 249) c q).length → μ' 255 i = (S_vals (μ 249) c q).getD i 0) := by
  have ht := h.tot
  have hl := S_vals_len h3 (c := c) (q := q)
  have e9 : up2 μ 248 13 0 249 = μ 249 := up2_oo (by omega)
  obtain ⟨μ', a1, a2, a3, a4, a5⟩ := r_finds_l (μ0 := μ) h hc hq (fun μ => some (μ, 0, 0)) (μ 249 144).toNat FU 0 (up2 μ 248 13 0) (by omega) (by omega) (by unfold FU; omega) e9 (by rw [up2_s]; omega) (by rw [up2_s]; unfold S_vals at hl; omega)
  refine ⟨μ', ?_, JF.tr ((JF.rf μ).up (by unfold jF; omega)) a2, ?_, fun i hi => ?_⟩
  · unfold f_X11_finds
    rw [p_wrF]; exact a1
  · rw [a3, up2_s]; unfold S_vals; omega
  · have := a5 i hi
    rw [up2_s] at this
    rw [show (0 : Int).toNat + i = i by simp] at this
    exact this
def S_ap (g : Nat → Int) (c q w : Int) : Int := g (653 + 15 * c + 3 * q + w).toNat
theorem r_apP {μ : Mu} {c q w : Int} (hc : 0 ≤ c ∧ c < 8) (hq : 0 ≤ q ∧ q < 5) (hw : 0 ≤ w ∧ w < 3) : f_X11_appealPart c q w μ = some (μ, 0, S_ap (μ 249) c q w) := by
  unfold f_X11_appealPart
  rw [p_rdI (by omega)]; rfl
theorem WF.ap0 {g : Nat → Int} (h : WF g) {c q : Int} (h0 : 0 ≤ c ∧ c < 8) (h1 : 0 ≤ q ∧ q < 5) : (0 ≤ S_ap g c q 0 ∧ S_ap g c q 0 ≤ 3) ∧ (0 ≤ S_ap g c q 1 ∧ S_ap g c q 1 ≤ 99) ∧ (0 ≤ S_ap g c q 2 ∧ S_ap g c q 2 ≤ 40) := by
  have := h.ap h0 h1
  unfold S_ap
  rw [Int.add_zero]; exact ⟨this.1, ⟨this.2.1.1, this.2.1.2.1⟩, this.2.2⟩
/-- no fee without an appeal -/
theorem WF.apf {g : Nat → Int} (h : WF g) {c q : Int} (h0 : 0 ≤ c ∧ c < 8) (h1 : 0 ≤ q ∧ q < 5) : S_ap g c q 1 ≤ 99 * S_ap g c q 0 := by
  have := (h.ap h0 h1).2.1.2.2
  unfold S_ap
  rw [Int.add_zero]; exact this
/-- half of the sum of the third value and of the nearer of the first two, the greater one if they are as near -/
def S_half (a b c : Int) : Int := (c + if absI (c - (if a < b then b else a)) ≤ absI (c - (if a < b then a else b)) then (if a < b then b else a) else (if a < b then a else b)) / 2
def S_setl (g : Nat → Int) (L : List Int) : Int := match L with
  | [] => 0
  | [a] => a
  | [a, b] => if S_agr g a b then (a + b) / 2 else if a < b then a else b
  | a :: b :: c :: _ => if S_agr g a b then (a + b) / 2 else S_half a b c
def S_set (g : Nat → Int) (c q : Int) : Int := if S_ap g c q 0 = 3 then S_ap g c q 2 * 120 else S_setl g (S_vals g c q)
def S_stl (g : Nat → Int) (L : List Int) : Int := match L with
  | [] => 1
  | [a, b] => if S_agr g a b then 0 else 2
  | _ => 0
def S_state (g : Nat → Int) (c q : Int) : Int := if S_ap g c q 0 = 3 then 0 else S_stl g (S_vals g c q)
theorem S_half_bd {a b c : Int} (ha : 0 ≤ a ∧ a ≤ 4800) (hb : 0 ≤ b ∧ b ≤ 4800) (hc : 0 ≤ c ∧ c ≤ 4800) : 0 ≤ S_half a b c ∧ S_half a b c ≤ 4800 := by
  unfold S_half
  split <;> split <;> omega
theorem S_set_bd {g : Nat → Int} (h : WF g) {c q : Int} (hc : 0 ≤ c ∧ c < 8) (hq : 0 ≤ q ∧ q < 5) : 0 ≤ S_set g c q ∧ S_set g c q ≤ 4800 := by
  have h1 := h.ap0 hc hq
  have h2 := S_vals_bd h (c := c) (q := q)
  unfold S_set
  split
  · omega
  · generalize S_vals g c q = L at h2
    unfold S_setl
    match L, h2 with
    | [], _ => dsimp only; omega
    | [a], h2 => exact h2 a (by simp)
    | [a, b], h2 =>
      have ha := h2 a (by simp)
      have hb := h2 b (by simp)
      dsimp only
      split
      · omega
      · split <;> omega
    | a :: b :: c :: r, h2 =>
      have ha := h2 a (by simp)
      have hb := h2 b (by simp)
      have hc := h2 c (by simp)
      have := S_half_bd ha hb hc
      dsimp only
      split <;> omega
theorem r_div2 {μ : Mu} {x : Int} (h : 0 ≤ x ∧ x < 100000) (k : Int → Option Res) : i_div x 2 k = k (x / 2) := p_div (by omega)
theorem S_absI_bd {a b : Int} (ha : 0 ≤ a ∧ a ≤ 4800) (hb : 0 ≤ b ∧ b ≤ 4800) : 0 ≤ absI (a - b) ∧ absI (a - b) ≤ 4800 := absI_bd (by omega)
theorem r_settled {μ : Mu} (h : WF (μ 249)) (h3 : WF3 (μ 249)) {c q : Int} (hc : 0 ≤ c ∧ c < 8) (hq : 0 ≤ q ∧ q < 5) : ∃ μ', f_X11_settled c q μ = some (μ', 0, S_set (μ 249) c q) ∧ JF μ μ' := by
  have h1 := h.ap0 hc hq
  unfold f_X11_settled
  rw [r_apP hc hq (by omega), p_rb, p_eq (by omega)]
  unfold S_set
  by_cases p : S_ap (μ 249) c q 0 = 3
  · rw [if_pos p, if_pos p, r_apP hc hq (by omega), p_rb]
    exact ⟨μ, rfl, JF.rf μ⟩
  · rw [if_neg p, if_neg p]
    obtain ⟨μ1, a1, a2, a3, a5⟩ := r_finds h h3 (c := c) (q := q) (by unfold iG; omega) (by unfold iG; omega)
    have hb := S_vals_bd h (c := c) (q := q)
    have hl := S_vals_len h3 (c := c) (q := q)
    have hW : WF (μ1 249) := by rw [a2.s]; exact h
    refine ⟨μ1, ?_, a2⟩
    rw [a1, p_rb]
    have hst := hW.st
    rw [← a2.s] at a3 a5 hb hl ⊢
    generalize S_vals (μ1 249) c q = L at a3 a5 hb hl ⊢
    unfold S_setl
    match L, a3, a5, hb, hl with
    | [], a3, _, _, _ =>
      simp only [List.length_nil] at a3
      simp (disch := omega) only [p_rdF, a3, p_eq, ↓reduceIte]
      rfl
    | [a], a3, a5, hb, _ =>
      have e0 : μ1 255 (0 : Int).toNat = a := a5 0 (by simp)
      simp only [List.length_cons, List.length_nil] at a3
      simp (disch := omega) only [p_rdF, a3, p_eq, p_rdI, e0]
      rfl
    | [a, b], a3, a5, hb, _ =>
      have e0 : μ1 255 (0 : Int).toNat = a := a5 0 (by simp)
      have e1 : μ1 255 (1 : Int).toNat = b := a5 1 (by simp)
      have ha := hb a (by simp)
      have hb := hb b (by simp)
      have hag := r_agree hW (v := a) (w := b) (by omega) (by omega)
      simp only [List.length_cons, List.length_nil] at a3
      have a3 : μ1 248 13 = 2 := a3
      by_cases p2 : S_agr (μ1 249) a b
      · rw [b2_t p2] at hag
        simp (disch := omega) only [p_rdF, a3, p_eq, p_rdI, e0, e1, hag, p_rb, p_div, if_pos p2, Int.reduceEq, ↓reduceIte]
      · rw [b2_f p2] at hag
        unfold f_X11_settled_117
        by_cases p3 : a < b
        · simp (disch := omega) only [p_rdF, a3, p_eq, p_lt, p_bnd, p_rdI, e0, e1, hag, p_rb, p_div, if_neg p2, if_pos p3, Int.reduceEq, ↓reduceIte]
        · simp (disch := omega) only [p_rdF, a3, p_eq, p_lt, p_bnd, p_rdI, e0, e1, hag, p_rb, p_div, if_neg p2, if_neg p3, Int.reduceEq, ↓reduceIte]
    | [a, b, d], a3, a5, hb, _ =>
      have e0 : μ1 255 (0 : Int).toNat = a := a5 0 (by simp)
      have e1 : μ1 255 (1 : Int).toNat = b := a5 1 (by simp)
      have e2 : μ1 255 (2 : Int).toNat = d := a5 2 (by simp)
      have ha := hb a (by simp)
      have hb1 := hb b (by simp)
      have hd := hb d (by simp)
      have hag := r_agree hW (v := a) (w := b) (by omega) (by omega)
      simp only [List.length_cons, List.length_nil] at a3
      have a3 : μ1 248 13 = 3 := a3
      by_cases p2 : S_agr (μ1 249) a b
      · rw [b2_t p2] at hag
        simp (disch := omega) only [p_rdF, a3, p_eq, p_rdI, e0, e1, hag, p_rb, p_div, if_pos p2, Int.reduceEq, ↓reduceIte]
      · rw [b2_f p2] at hag
        unfold f_X11_settled_117 f_X11_settled_183 S_half
        have am1 := r_amount (μ := μ1) (v := d - a) (by unfold iG; omega)
        have am2 := r_amount (μ := μ1) (v := d - b) (by unfold iG; omega)
        have bd1 := S_absI_bd (a := d) (b := a) (by omega) (by omega)
        have bd2 := S_absI_bd (a := d) (b := b) (by omega) (by omega)
        by_cases p3 : a < b
        · have ab : a + b - a = b := by omega
          simp (disch := omega) only [p_rdF, a3, p_eq, p_lt, p_bnd, p_rdI, e0, e1, e2, hag, p_rb, if_neg p2, if_pos p3, Int.reduceEq, ↓reduceIte, ab, am1, am2]
          by_cases p4 : absI (d - b) ≤ absI (d - a)
          · rw [if_neg (by omega), if_pos p4, p_div (by omega)]
          · rw [if_pos (by omega), if_neg p4, p_div (by omega)]
        · have ab : a + b - b = a := by omega
          simp (disch := omega) only [p_rdF, a3, p_eq, p_lt, p_bnd, p_rdI, e0, e1, e2, hag, p_rb, if_neg p2, if_neg p3, Int.reduceEq, ↓reduceIte, ab, am1, am2]
          by_cases p4 : absI (d - a) ≤ absI (d - b)
          · rw [if_neg (by omega), if_pos p4, p_div (by omega)]
          · rw [if_pos (by omega), if_neg p4, p_div (by omega)]
    | a :: b :: c :: d :: r, _, _, _, hl => simp at hl
theorem r_state {μ : Mu} (h : WF (μ 249)) (h3 : WF3 (μ 249)) {c q : Int} (hc : 0 ≤ c ∧ c < 8) (hq : 0 ≤ q ∧ q < 5) : ∃ μ', f_X11_state c q μ = some (μ', 0, S_state (μ 249) c q) ∧ JF μ μ' := by
  have h1 := h.ap0 hc hq
  unfold f_X11_state
  rw [r_apP hc hq (by omega), p_rb, p_eq (by omega)]
  unfold S_state
  by_cases p : S_ap (μ 249) c q 0 = 3
  · rw [if_pos p, if_pos p]
    exact ⟨μ, rfl, JF.rf μ⟩
  · rw [if_neg p, if_neg p]
    obtain ⟨μ1, a1, a2, a3, a5⟩ := r_finds h h3 (c := c) (q := q) (by unfold iG; omega) (by unfold iG; omega)
    have hb := S_vals_bd h (c := c) (q := q)
    have hl := S_vals_len h3 (c := c) (q := q)
    have hW : WF (μ1 249) := by rw [a2.s]; exact h
    refine ⟨μ1, ?_, a2⟩
    rw [a1, p_rb]
    have hst := hW.st
    rw [← a2.s] at a3 a5 hb hl ⊢
    generalize S_vals (μ1 249) c q = L at a3 a5 hb hl ⊢
    unfold S_stl f_X11_state_61 f_X11_state_62
    match L, a3, a5, hb, hl with
    | [], a3, _, _, _ =>
      simp only [List.length_nil] at a3
      simp (disch := omega) only [p_rdF, a3, p_eq, ↓reduceIte]
      rfl
    | [a], a3, a5, hb, _ =>
      simp only [List.length_cons, List.length_nil] at a3
      have a3 : μ1 248 13 = 1 := a3
      simp (disch := omega) only [p_rdF, a3, p_eq, Int.reduceEq, ↓reduceIte]
    | [a, b], a3, a5, hb, _ =>
      have e0 : μ1 255 (0 : Int).toNat = a := a5 0 (by simp)
      have e1 : μ1 255 (1 : Int).toNat = b := a5 1 (by simp)
      have ha := hb a (by simp)
      have hb := hb b (by simp)
      have hag := r_agree hW (v := a) (w := b) (by omega) (by omega)
      simp only [List.length_cons, List.length_nil] at a3
      have a3 : μ1 248 13 = 2 := a3
      by_cases p2 : S_agr (μ1 249) a b
      · rw [b2_t p2] at hag
        simp (disch := omega) only [p_rdF, a3, p_eq, p_rdI, e0, e1, hag, p_rb, if_pos p2, Int.reduceEq, ↓reduceIte]
      · rw [b2_f p2] at hag
        simp (disch := omega) only [p_rdF, a3, p_eq, p_rdI, e0, e1, hag, p_rb, if_neg p2, Int.reduceEq, ↓reduceIte]
    | [a, b, d], a3, a5, hb, _ =>
      simp only [List.length_cons, List.length_nil] at a3
      have a3 : μ1 248 13 = 3 := a3
      simp (disch := omega) only [p_rdF, a3, p_eq, Int.reduceEq, ↓reduceIte]
    | a :: b :: c :: d :: r, _, _, _, hl => simp at hl
/-- grades -/
abbrev S_hg (g : Nat → Int) (c : Int) : Prop := 0 < sm (fun e => b2 (S_ec g e = c)) (g 144).toNat 0
theorem sm_pos (P : Int → Prop) [DecidablePred P] : ∀ (n : Nat) (v : Int), 0 < sm (fun e => b2 (P e)) n v ↔ ∃ j : Int, v ≤ j ∧ j < v + n ∧ P j
  | 0, v => by
    constructor
    · intro h; simp [sm] at h
    · rintro ⟨j, h1, h2, -⟩; omega
  | n + 1, v => by
    have ih := sm_pos P n (v + 1)
    have h0 := (sm_bd (G := fun e => b2 (P e)) (a := 0) (b := 1) n (v + 1) (fun j _ _ => by have := b2_01 (P j); omega)).1
    simp only [sm]
    have h01 := b2_01 (P v)
    constructor
    · intro h
      by_cases p : P v
      · exact ⟨v, by omega, by omega, p⟩
      · rw [b2_f p] at h
        obtain ⟨j, a, b, d⟩ := ih.mp (by omega)
        exact ⟨j, by omega, by omega, d⟩
    · rintro ⟨j, a, b, d⟩
      by_cases e : j = v
      · subst e; rw [b2_t d]; omega
      · have := ih.mpr ⟨j, by omega, by omega, d⟩
        omega
theorem r_hasGrade {μ : Mu} (h : WF (μ 249)) {c : Int} (hc : iG c) : f_X11_hasGrade c μ = some (μ, 0, b2 (S_hg (μ 249) c)) := by
  have hN := h.tot
  unfold f_X11_hasGrade
  have key := loop_up (S := Int) (fun fu s v => f_X11_hasGrade_4 c (fun v2 μ => retZ μ v2) fu s v μ) (fun s => retZ μ s) (fun s v => if s = 0 then b2 (S_ec (μ 249) v = c) else 1) (μ 249 144) (fun s v => (s = 0 ∨ s = 1) ∧ 0 ≤ v ∧ v ≤ μ 249 144) ?_ ?_ (μ 249 144).toNat FU 0 0 ⟨Or.inl rfl, by omega, by omega⟩ (by omega) (by unfold FU; omega)
  · rw [key]
    obtain ⟨a1, a2⟩ := itS_or (fun e => S_ec (μ 249) e = c) (μ 249 144).toNat 0 0 (Or.inl rfl)
    rw [p_Z a1, b2_of a1 (a2.trans (show _ ↔ S_hg (μ 249) c from ?_))]
    have sp := sm_pos (fun e => S_ec (μ 249) e = c) (μ 249 144).toNat 0
    constructor
    · rintro (h1 | h1)
      · omega
      · exact sp.mpr h1
    · intro h1; exact Or.inr (sp.mp h1)
  · intro fu s v hi
    obtain ⟨hs, hv⟩ := hi
    show f_X11_hasGrade_4 c _ (fu + 1) s v μ = _
    rw [f_X11_hasGrade_4, p_rdI (by omega)]
    show i_lt v (μ 249 144) _ _ = _
    rw [p_lt (by omega)]
    by_cases hvN : v < μ 249 144
    · have h1 := h.ee (e := v) (by omega)
      unfold iG at hc
      rw [if_pos hvN, if_pos hvN, p_eq (by omega)]
      unfold f_X11_hasGrade_30 f_X11_hasGrade_35
      rcases hs with rfl | rfl
      · rw [if_pos rfl, if_pos rfl, r_p1 (by omega), p_rb, p_eq (by omega)]
        by_cases p : S_ec (μ 249) v = c
        · rw [if_pos p, b2_t p]
        · rw [if_neg p, b2_f p]
      · rw [if_neg (by omega), if_neg (by omega)]
    · rw [if_neg hvN, if_neg hvN]
  · intro s v hi hlt
    refine ⟨?_, by omega, by omega⟩
    rcases hi.1 with e | e
    · rw [if_pos e]; exact b2_01 _
    · rw [if_neg (by omega)]; exact Or.inr rfl
def S_wg (g : Nat → Int) : Int := sm (fun c => b2 (S_hg g c)) 8 0
theorem r_withGrades {μ : Mu} (h : WF (μ 249)) : f_X11_withGrades μ = some (μ, 0, S_wg (μ 249)) := by
  unfold f_X11_withGrades
  have key := loop_up (S := Int) (fun fu s v => f_X11_withGrades_4 (fun v3 μ => some (μ, 0, v3)) fu s v μ) (fun s => some (μ, 0, s)) (fun s v => s + b2 (S_hg (μ 249) v)) 8 (fun s v => 0 ≤ v ∧ v ≤ 8) ?_ (fun s v hi hlt => by omega) 8 FU 0 0 (by omega) (by omega) (by unfold FU; omega)
  · rw [key, itS_sm, Int.zero_add]; rfl
  · intro fu s v hi
    show f_X11_withGrades_4 _ (fu + 1) s v μ = _
    rw [f_X11_withGrades_4, p_lt (by omega)]
    by_cases hvN : v < 8
    · rw [if_pos hvN, if_pos hvN, r_hasGrade h (by unfold iG; omega), p_rb]
      unfold f_X11_withGrades_24
      by_cases p : S_hg (μ 249) v
      · rw [b2_t p, p_eq (by omega), if_neg (by omega), p_bnd]
      · rw [b2_f p, p_eq (by omega), if_pos rfl, p_bnd]
    · rw [if_neg hvN, if_neg hvN]

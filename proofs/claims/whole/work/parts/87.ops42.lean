/-! the class's walk through a text -/
theorem pe_x {μ μ' : Mu} {t : Int → Int} {L i : Int} {fu : Nat} (h : TY t L) (R : CY μ t L) (hi : 0 ≤ i ∧ i ≤ L) (he : 0 ≤ μ 219 1 ∧ μ 219 1 ≤ 6) (a : i < L → f_X8_accepts (t i) μ = some (μ', 0, 0)) (j : JC μ μ') : ∃ μ', tq_PE (fu + 1) i μ = some (μ', 0, i) ∧ JC μ μ' := by
  by_cases p : i < L
  · exact ⟨μ', pe_f h R ⟨hi.1, p⟩ (a p), j⟩
  · refine ⟨μ, ?_, JC.rf μ⟩
    rw [pe_e h R (by omega) (by omega), if_neg (by omega), show i = L by omega]
theorem c_pe {μ : Mu} {t : Int → Int} {L i k : Int} (h : TY t L) (R : CY μ t L) (e : μ 219 1 = 4) (hk : μ 219 6 = k) (h0 : 0 ≤ k ∧ k < 20) (hi : 0 ≤ i ∧ i ≤ L) (fu : Nat) :
    (tq_E t i → ∃ μ' fu', fu ≤ fu' ∧ tq_PE (fu + 4) i μ = tq_PE fu' (tq_J t i) μ' ∧ JC μ μ' ∧ μ' 219 6 = k + 1 ∧ EM μ' (t (tq_J t i)) ∧ (μ' 221 k.toNat = tq_C t i ∧ μ' 222 k.toNat = tq_V t i) ∧ (∀ j : Nat, j ≠ k.toNat → μ' 221 j = μ 221 j ∧ μ' 222 j = μ 222 j) ∧ μ' 219 4 = μ 219 4 ∧ μ' 219 5 = μ 219 5) ∧
    (¬ tq_E t i → ∃ μ', tq_PE (fu + 4) i μ = some (μ', 0, tq_F t i) ∧ JC μ μ') := by
  by_cases p1 : 48 ≤ t i ∧ t i ≤ 55
  · have l1 := h.lt (j := i) (by omega)
    have a1 := c_acc4t p1 e hk h0
    have j1 : JC μ (up2 (up2 (up2 (up2 μ 221 k.toNat (t i - 48)) 222 k.toNat 0) 219 6 (k + 1)) 219 1 5) := ((((JC.rf μ).up (by omega)).up (by omega)).up (by omega)).up (by omega)
    have s1 := pe_t (fu := fu + 3) h R ⟨hi.1, l1⟩ a1
    have b1 : (up2 (up2 (up2 (up2 μ 221 k.toNat (t i - 48)) 222 k.toNat 0) 219 6 (k + 1)) 219 1 5) 219 1 = 5 := up2_s
    have c1 : (up2 (up2 (up2 (up2 μ 221 k.toNat (t i - 48)) 222 k.toNat 0) 219 6 (k + 1)) 219 1 5) 219 6 = k + 1 := (up2_k (by omega)).trans up2_s
    have d1 : (up2 (up2 (up2 (up2 μ 221 k.toNat (t i - 48)) 222 k.toNat 0) 219 6 (k + 1)) 219 1 5) 221 k.toNat = tq_C t i := by
      rw [up2_o (by omega), up2_o (by omega), up2_o (by omega), up2_s]; rfl
    have d2 : (up2 (up2 (up2 (up2 μ 221 k.toNat (t i - 48)) 222 k.toNat 0) 219 6 (k + 1)) 219 1 5) 222 k.toNat = 0 := by
      rw [up2_o (by omega), up2_o (by omega), up2_s]
    have d3 : ∀ j : Nat, j ≠ k.toNat → (up2 (up2 (up2 (up2 μ 221 k.toNat (t i - 48)) 222 k.toNat 0) 219 6 (k + 1)) 219 1 5) 221 j = μ 221 j ∧ (up2 (up2 (up2 (up2 μ 221 k.toNat (t i - 48)) 222 k.toNat 0) 219 6 (k + 1)) 219 1 5) 222 j = μ 222 j := fun j w =>
      ⟨by rw [up2_o (by omega), up2_o (by omega), up2_o (by omega), up2_k w], by rw [up2_o (by omega), up2_o (by omega), up2_k w, up2_o (by omega)]⟩
    have d4 : (up2 (up2 (up2 (up2 μ 221 k.toNat (t i - 48)) 222 k.toNat 0) 219 6 (k + 1)) 219 1 5) 219 4 = μ 219 4 := by
      rw [up2_k (by omega), up2_k (by omega), up2_o (by omega), up2_o (by omega)]
    have d5 : (up2 (up2 (up2 (up2 μ 221 k.toNat (t i - 48)) 222 k.toNat 0) 219 6 (k + 1)) 219 1 5) 219 5 = μ 219 5 := by
      rw [up2_k (by omega), up2_k (by omega), up2_o (by omega), up2_o (by omega)]
    rw [show fu + 4 = fu + 3 + 1 from rfl, s1]
    generalize up2 (up2 (up2 (up2 μ 221 k.toNat (t i - 48)) 222 k.toNat 0) 219 6 (k + 1)) 219 1 5 = m1 at j1 b1 c1 d1 d2 d3 d4 d5 ⊢
    have R1 := R.jc j1
    by_cases p2 : t (i + 1) = 61
    · have l2 := h.lt (j := i + 1) (by omega)
      have a2 := c_acc5 (x := t (i + 1)) (by omega) b1
      rw [b2_t p2] at a2
      have s2 := pe_t (fu := fu + 2) h R1 ⟨by omega, l2⟩ a2
      rw [show i + 1 + 1 = i + 2 by omega] at s2
      have j2 : JC μ (up2 m1 219 1 6) := j1.up (by omega)
      have R2 := R.jc j2
      have b2' : (up2 m1 219 1 6) 219 1 = 6 := up2_s
      have c2 : (up2 m1 219 1 6) 219 6 = k + 1 := (up2_k (by omega)).trans c1
      have v2 : (up2 m1 219 1 6) 222 (k + 1 - 1).toNat = 0 := by
        rw [up2_o (by omega), show k + 1 - 1 = k by omega]; exact d2
      rw [show fu + 3 = fu + 2 + 1 from rfl, s2]
      by_cases p3 : 48 ≤ t (i + 2) ∧ t (i + 2) ≤ 57
      · have hE : tq_E t i := ⟨p1, p2, p3⟩
        have l3 := h.lt (j := i + 2) (by omega)
        have a3 := c_acc6t p3 b2' c2 (by omega) v2
        rw [show k + 1 - 1 = k by omega] at a3
        have s3 := pe_t (fu := fu + 1) h R2 ⟨by omega, l3⟩ a3
        rw [show i + 2 + 1 = i + 3 by omega] at s3
        have j3 : JC μ (up2 (up2 (up2 m1 219 1 6) 222 k.toNat (0 * 10 + (t (i + 2) - 48))) 219 1 (if t (i + 2) = 48 then 8 else 7)) := (j2.up (by omega)).up (by omega)
        have R3 := R.jc j3
        have c3 : (up2 (up2 (up2 m1 219 1 6) 222 k.toNat (0 * 10 + (t (i + 2) - 48))) 219 1 (if t (i + 2) = 48 then 8 else 7)) 219 6 = k + 1 := by
          rw [up2_k (by omega), up2_o (by omega)]; exact c2
        have v3 : (up2 (up2 (up2 m1 219 1 6) 222 k.toNat (0 * 10 + (t (i + 2) - 48))) 219 1 (if t (i + 2) = 48 then 8 else 7)) 222 k.toNat = t (i + 2) - 48 := by
          rw [up2_o (by omega), up2_s]; omega
        have e3 : (up2 (up2 (up2 m1 219 1 6) 222 k.toNat (0 * 10 + (t (i + 2) - 48))) 219 1 (if t (i + 2) = 48 then 8 else 7)) 219 1 = (if t (i + 2) = 48 then 8 else 7) := up2_s
        have f3 : ∀ a j : Nat, a ≠ 219 → ¬ (a = 222 ∧ j = k.toNat) → (up2 (up2 (up2 m1 219 1 6) 222 k.toNat (0 * 10 + (t (i + 2) - 48))) 219 1 (if t (i + 2) = 48 then 8 else 7)) a j = m1 a j := fun a j w z => by
          rw [up2_o w, up2_eq, if_neg z, up2_o w]
        have g3 : ∀ j : Nat, j = 4 ∨ j = 5 → (up2 (up2 (up2 m1 219 1 6) 222 k.toNat (0 * 10 + (t (i + 2) - 48))) 219 1 (if t (i + 2) = 48 then 8 else 7)) 219 j = m1 219 j := fun j w => by
          rw [up2_k (by omega), up2_o (by omega), up2_k (by omega)]
        refine ⟨fun _ => ?_, fun w => absurd hE w⟩
        rw [show fu + 2 = fu + 1 + 1 from rfl, s3]
        generalize up2 (up2 (up2 m1 219 1 6) 222 k.toNat (0 * 10 + (t (i + 2) - 48))) 219 1 (if t (i + 2) = 48 then 8 else 7) = m3 at j3 R3 c3 v3 e3 f3 g3 ⊢
        unfold tq_J tq_V
        by_cases h2 : tq_2 t i
        · have l4 := h.lt (j := i + 3) (by have := h2.2; omega)
          rw [if_neg (by have := h2.1; omega)] at e3
          have a4 := c_acc7t (x := t (i + 3)) (v := t (i + 2) - 48) ⟨h2.2.1, h2.2.2⟩ e3 c3 (by omega) (by rw [show k + 1 - 1 = k by omega]; exact v3)
          rw [show k + 1 - 1 = k by omega] at a4
          have s4 := pe_t (fu := fu) h R3 ⟨by omega, l4⟩ a4
          rw [show i + 3 + 1 = i + 4 by omega] at s4
          rw [if_pos h2, if_pos h2]
          refine ⟨_, fu, Nat.le_refl _, s4, (j3.up (by omega)).up (by omega), ?_, Or.inl up2_s, ⟨?_, ?_⟩, fun j w => ⟨?_, ?_⟩, ?_, ?_⟩
          · rw [up2_k (by omega), up2_o (by omega)]; exact c3
          · rw [up2_o (by omega), up2_o (by omega), f3 221 _ (by omega) (by omega)]; exact d1
          · rw [up2_o (by omega), up2_s]; omega
          · rw [up2_o (by omega), up2_o (by omega), f3 221 _ (by omega) (by omega)]; exact (d3 j w).1
          · rw [up2_o (by omega), up2_k w, f3 222 _ (by omega) (by omega)]; exact (d3 j w).2
          · rw [up2_k (by omega), up2_o (by omega), g3 4 (by omega)]; exact d4
          · rw [up2_k (by omega), up2_o (by omega), g3 5 (by omega)]; exact d5
        · rw [if_neg h2, if_neg h2]
          refine ⟨m3, fu + 1, by omega, rfl, j3, c3, ?_, ⟨(f3 221 _ (by omega) (by omega)).trans d1, v3⟩, fun j w => ⟨(f3 221 _ (by omega) (by omega)).trans (d3 j w).1, (f3 222 _ (by omega) (by omega)).trans (d3 j w).2⟩, (g3 4 (by omega)).trans d4, (g3 5 (by omega)).trans d5⟩
          by_cases z : t (i + 2) = 48
          · rw [if_pos z] at e3
            exact Or.inl e3
          · rw [if_neg z] at e3
            exact Or.inr ⟨e3, fun w => h2 ⟨by omega, w⟩⟩
      · refine ⟨fun w => absurd w.2.2 p3, fun _ => ?_⟩
        unfold tq_F
        rw [if_pos p1, if_pos p2]
        obtain ⟨μ', a, j⟩ := pe_x (fu := fu + 1) h R2 (by omega) (by omega) (fun w => c_acc6f (h.2.1 _ (by omega) w) b2' p3) (JC.rf _)
        exact ⟨μ', a, j2.tr j⟩
    · refine ⟨fun w => absurd w.2.1 p2, fun _ => ?_⟩
      unfold tq_F
      rw [if_pos p1, if_neg p2]
      obtain ⟨μ', a, j⟩ := pe_x (μ' := up2 m1 219 1 6) (fu := fu + 2) (i := i + 1) h R1 (by omega) (by omega) (fun w => by
        rw [c_acc5 (h.2.1 _ (by omega) w) b1, b2_f p2]) ((JC.rf m1).up (by omega))
      exact ⟨μ', a, j1.tr j⟩
  · refine ⟨fun w => absurd w.1 p1, fun _ => ?_⟩
    unfold tq_F
    rw [if_neg p1]
    exact pe_x (fu := fu + 3) h R hi (by omega) (fun w => c_acc4f (h.2.1 _ (by omega) w) e p1) (JC.rf _)
/-- what stands in the reader's rows after l entries from k on -/
def EK (μ μ' : Mu) (k : Int) (l : List (Int × Int)) : Prop := μ' 219 6 = k + (l.length : Int) ∧ (∀ j : Nat, j < l.length → μ' 221 (k.toNat + j) = (l.getD j (0, 0)).1 ∧ μ' 222 (k.toNat + j) = (l.getD j (0, 0)).2) ∧ (∀ j : Nat, (j : Int) < k → μ' 221 j = μ 221 j ∧ μ' 222 j = μ 222 j) ∧ μ' 219 4 = μ 219 4 ∧ μ' 219 5 = μ 219 5
theorem c_lp {t : Int → Int} {L : Int} (h : TY t L) : ∀ (n fu : Nat) (i k : Int) (μ : Mu), CY μ t L → μ 219 1 = 4 → μ 219 6 = k → 0 ≤ k → 4 * k ≤ i → i ≤ L → L ≤ i + n → 5 * n + 5 ≤ fu → ∃ μ', tq_PE fu i μ = some (μ', 0, if tq_ok t L n i = 1 then -1 else tq_pos t n i) ∧ JC μ μ' ∧ (tq_ok t L n i = 1 → EK μ μ' k (tq_es t n i))
  | 0, fu, i, k, μ, R, e, hk, k0, ki, hi, hn, hf => by
    have hL := h.1
    obtain ⟨f, rfl⟩ : ∃ f, fu = f + 4 := ⟨fu - 4, by omega⟩
    have ne : ¬ tq_E t i := fun w => by
      have := h.2.2 i (by omega)
      have := w.1
      omega
    have eF : tq_F t i = i := by
      have := h.2.2 i (by omega)
      unfold tq_F
      rw [if_neg (by omega)]
    obtain ⟨m1, a1, j1⟩ := (c_pe h R e hk (by omega) (by omega) f).2 ne
    rw [eF] at a1
    refine ⟨m1, ?_, j1, fun w => ?_⟩
    · rw [a1]; rfl
    · have : tq_ok t L 0 i = 0 := rfl
      omega
  | n + 1, fu, i, k, μ, R, e, hk, k0, ki, hi, hn, hf => by
    have hL := h.1
    obtain ⟨f, rfl⟩ : ∃ f, fu = f + 4 := ⟨fu - 4, by omega⟩
    have cp := c_pe (i := i) h R e hk (by omega) (by omega) f
    by_cases p : tq_E t i
    · obtain ⟨m1, f1, hf1, a1, j1, k1, M1, ⟨v1, v2⟩, o1, q4, q5⟩ := cp.1 p
      have jb := tq_Jb h p
      rw [a1]
      have R1 := R.jc j1
      obtain ⟨f2, rfl⟩ : ∃ f2, f1 = f2 + 1 := ⟨f1 - 1, by omega⟩
      by_cases q : t (tq_J t i) = 44
      · have lt := h.lt (j := tq_J t i) (by omega)
        have ac := c_accM (h.2.1 _ (by omega) lt) M1
        rw [b2_t q] at ac
        have j2 : JC m1 (up2 m1 219 1 4) := (JC.rf m1).up (by omega)
        have eP : tq_pos t (n + 1) i = tq_pos t n (tq_J t i + 1) := by
          simp only [tq_pos]
          rw [if_pos p, if_pos q]
        have eO : tq_ok t L (n + 1) i = tq_ok t L n (tq_J t i + 1) := by
          simp only [tq_ok]
          rw [if_pos p, if_pos q]
        have eS : tq_es t (n + 1) i = (tq_C t i, tq_V t i) :: tq_es t n (tq_J t i + 1) := by
          simp only [tq_es]
          rw [if_pos p, if_pos q]
        rw [pe_t h R1 ⟨by omega, lt⟩ ac, eP, eO, eS]
        obtain ⟨m3, a3, j3, K3⟩ := c_lp h n f2 (tq_J t i + 1) (k + 1) (up2 m1 219 1 4) (R1.jc j2) up2_s ((up2_k (by omega)).trans k1) (by omega) (by omega) (by omega) (by omega) (by omega)
        refine ⟨m3, a3, (j1.tr j2).tr j3, fun w => ?_⟩
        obtain ⟨E1, E2, E3, E4, E5⟩ := K3 w
        have z221 : m3 221 k.toNat = tq_C t i := by
          rw [(E3 k.toNat (by omega)).1, up2_o (by omega)]; exact v1
        have z222 : m3 222 k.toNat = tq_V t i := by
          rw [(E3 k.toNat (by omega)).2, up2_o (by omega)]; exact v2
        refine ⟨?_, fun j hj => ?_, fun j hj => ⟨?_, ?_⟩, ?_, ?_⟩
        · rw [E1, List.length_cons]; omega
        · cases j with
          | zero => exact ⟨z221, z222⟩
          | succ j =>
            simp only [List.length_cons] at hj
            have := E2 j (by omega)
            rw [show (k + 1).toNat + j = k.toNat + (j + 1) by omega] at this
            exact this
        · rw [(E3 j (by omega)).1, up2_o (by omega)]; exact (o1 j (by omega)).1
        · rw [(E3 j (by omega)).2, up2_o (by omega)]; exact (o1 j (by omega)).2
        · rw [E4, up2_k (by omega)]; exact q4
        · rw [E5, up2_k (by omega)]; exact q5
      · have eP : tq_pos t (n + 1) i = tq_J t i := by
          simp only [tq_pos]
          rw [if_pos p, if_neg q]
        have eO : tq_ok t L (n + 1) i = b2 (tq_J t i = L) := by
          simp only [tq_ok]
          rw [if_pos p, if_neg q]
        have eS : tq_es t (n + 1) i = [(tq_C t i, tq_V t i)] := by
          simp only [tq_es]
          rw [if_pos p, if_neg q]
        rw [eP, eO, eS]
        have K1 : EK μ m1 k [(tq_C t i, tq_V t i)] := by
          refine ⟨k1, fun j hj => ?_, fun j hj => o1 j (by omega), q4, q5⟩
          have : j = 0 := by
            simp only [List.length_cons, List.length_nil] at hj
            omega
          subst this
          exact ⟨v1, v2⟩
        by_cases z : tq_J t i = L
        · have he : 0 ≤ m1 219 1 ∧ m1 219 1 ≤ 8 := by
            rcases M1 with w | ⟨w, -⟩ <;> omega
          have h78 : m1 219 1 = 7 ∨ m1 219 1 = 8 := by
            rcases M1 with w | ⟨w, -⟩
            · exact Or.inr w
            · exact Or.inl w
          refine ⟨m1, ?_, j1, fun _ => K1⟩
          rw [pe_e h R1 z he, if_pos h78, b2_t z, if_pos rfl]
        · have lt : tq_J t i < L := by omega
          have ac := c_accM (h.2.1 _ (by omega) lt) M1
          rw [b2_f q] at ac
          refine ⟨up2 m1 219 1 4, ?_, j1.up (by omega), fun w => ?_⟩
          · rw [pe_f h R1 ⟨by omega, lt⟩ ac, b2_f z, if_neg (by omega)]
          · rw [b2_f z] at w; omega
    · obtain ⟨m1, a1, j1⟩ := cp.2 p
      have eP : tq_pos t (n + 1) i = tq_F t i := by
        simp only [tq_pos]
        rw [if_neg p]
      have eO : tq_ok t L (n + 1) i = 0 := by
        simp only [tq_ok]
        rw [if_neg p]
      rw [eP, eO]
      refine ⟨m1, ?_, j1, fun w => by omega⟩
      rw [a1, if_neg (by omega)]
/-- where the class finds an error, and what it has read if there is none -/
theorem c_pos {μ : Mu} {t : Int → Int} {L : Int} (h : TY t L) (R : CY μ t L) (e : μ 219 1 = 0) (hk : μ 219 6 = 0) : ∃ μ', f_X8_positionOfError μ = some (μ', 0, if tq_shok t L = 1 then -1 else tq_shpos t) ∧ JC μ μ' ∧ (tq_shok t L = 1 → μ' 219 6 = ((tq_es t 60 4).length : Int) ∧ (∀ j : Nat, j < (tq_es t 60 4).length → μ' 221 j = ((tq_es t 60 4).getD j (0, 0)).1 ∧ μ' 222 j = ((tq_es t 60 4).getD j (0, 0)).2) ∧ μ' 219 4 = t 0 - 48 ∧ μ' 219 5 = t 2 - 48) := by
  have hL := h.1
  have f : FU = 99995 + 1 + 1 + 1 + 1 + 1 := rfl
  have e0 : f_X8_positionOfError μ = tq_PE (99995 + 1 + 1 + 1 + 1 + 1) 0 μ := by
    unfold f_X8_positionOfError tq_PE
    rw [f]
  rw [e0]
  unfold tq_shok tq_shpos
  by_cases p1 : 48 ≤ t 0 ∧ t 0 ≤ 51
  · have l1 := h.lt (j := 0) (by omega)
    have a1 := c_acc0 (h.2.1 0 (by omega) l1) e
    rw [b2_t p1, dg_of (by omega)] at a1
    have j1 : JC μ (up2 (up2 μ 219 4 (t 0 - 48)) 219 1 1) := ((JC.rf μ).up (by omega)).up (by omega)
    have R1 := R.jc j1
    have e1 : (up2 (up2 μ 219 4 (t 0 - 48)) 219 1 1) 219 1 = 1 := up2_s
    rw [pe_t h R ⟨by omega, l1⟩ a1, if_pos p1, if_pos p1, show (0 : Int) + 1 = 1 from rfl]
    by_cases p2 : t 1 = 47
    · have l2 := h.lt (j := 1) (by omega)
      have a2 := c_acc1 (h.2.1 1 (by omega) l2) e1
      rw [b2_t p2] at a2
      have j2 := j1.up (a := 219) (k := 1) (v := 2) (by omega)
      have R2 := R.jc j2
      have e2 : (up2 (up2 (up2 μ 219 4 (t 0 - 48)) 219 1 1) 219 1 2) 219 1 = 2 := up2_s
      rw [pe_t h R1 ⟨by omega, l2⟩ a2, if_pos p2, if_pos p2, show (1 : Int) + 1 = 2 from rfl]
      by_cases p3 : 48 ≤ t 2 ∧ t 2 ≤ 52
      · have l3 := h.lt (j := 2) (by omega)
        have a3 := c_acc2 (h.2.1 2 (by omega) l3) e2
        rw [b2_t p3, dg_of (by omega)] at a3
        have j3 := (j2.up (a := 219) (k := 5) (v := t 2 - 48) (by omega)).up (a := 219) (k := 1) (v := 3) (by omega)
        have R3 := R.jc j3
        have e3 : (up2 (up2 (up2 (up2 (up2 μ 219 4 (t 0 - 48)) 219 1 1) 219 1 2) 219 5 (t 2 - 48)) 219 1 3) 219 1 = 3 := up2_s
        rw [pe_t h R2 ⟨by omega, l3⟩ a3, if_pos p3, if_pos p3, show (2 : Int) + 1 = 3 from rfl]
        by_cases p4 : t 3 = 58
        · have l4 := h.lt (j := 3) (by omega)
          have a4 := c_acc3 (h.2.1 3 (by omega) l4) e3
          rw [b2_t p4] at a4
          have j4 := j3.up (a := 219) (k := 1) (v := 4) (by omega)
          have R4 := R.jc j4
          rw [pe_t h R3 ⟨by omega, l4⟩ a4, if_pos p4, if_pos p4, show (3 : Int) + 1 = 4 from rfl]
          have k4 : (up2 (up2 (up2 (up2 (up2 (up2 μ 219 4 (t 0 - 48)) 219 1 1) 219 1 2) 219 5 (t 2 - 48)) 219 1 3) 219 1 4) 219 6 = 0 := by
            rw [up2_k (by omega), up2_k (by omega), up2_k (by omega), up2_k (by omega), up2_k (by omega), up2_k (by omega)]; exact hk
          have m4 : (up2 (up2 (up2 (up2 (up2 (up2 μ 219 4 (t 0 - 48)) 219 1 1) 219 1 2) 219 5 (t 2 - 48)) 219 1 3) 219 1 4) 219 4 = t 0 - 48 := by
            rw [up2_k (by omega), up2_k (by omega), up2_k (by omega), up2_k (by omega), up2_k (by omega), up2_s]
          have n4 : (up2 (up2 (up2 (up2 (up2 (up2 μ 219 4 (t 0 - 48)) 219 1 1) 219 1 2) 219 5 (t 2 - 48)) 219 1 3) 219 1 4) 219 5 = t 2 - 48 := by
            rw [up2_k (by omega), up2_k (by omega), up2_s]
          obtain ⟨m5, a5, j5, K5⟩ := c_lp h 60 (99995 + 1) 4 0 _ R4 up2_s k4 (by omega) (by omega) (by omega) (by omega) (by omega)
          refine ⟨m5, a5, j4.tr j5, fun w => ?_⟩
          obtain ⟨E1, E2, -, E4, E5⟩ := K5 w
          refine ⟨by rw [E1]; omega, fun j hj => ?_, E4.trans m4, E5.trans n4⟩
          have := E2 j hj
          rw [show (0 : Int).toNat + j = j by omega] at this
          exact this
        · obtain ⟨m4, a4, j4⟩ := pe_x (μ' := up2 (up2 (up2 (up2 (up2 (up2 μ 219 4 (t 0 - 48)) 219 1 1) 219 1 2) 219 5 (t 2 - 48)) 219 1 3) 219 1 4) (fu := 99995 + 1) h R3 (i := 3) (by omega) (by omega) (fun w => by
            rw [c_acc3 (h.2.1 3 (by omega) w) e3, b2_f p4]) ((JC.rf _).up (by omega))
          rw [if_neg p4, if_neg p4]
          exact ⟨m4, a4, j3.tr j4, fun w => by omega⟩
      · obtain ⟨m3, a3, j3⟩ := pe_x (μ' := up2 (up2 (up2 (up2 (up2 μ 219 4 (t 0 - 48)) 219 1 1) 219 1 2) 219 5 (S_dg (t 2))) 219 1 3) (fu := 99995 + 1 + 1) h R2 (i := 2) (by omega) (by omega) (fun w => by
          rw [c_acc2 (h.2.1 2 (by omega) w) e2, b2_f p3]) (((JC.rf _).up (by omega)).up (by omega))
        rw [if_neg p3, if_neg p3]
        exact ⟨m3, a3, j2.tr j3, fun w => by omega⟩
    · obtain ⟨m2, a2, j2⟩ := pe_x (μ' := up2 (up2 (up2 μ 219 4 (t 0 - 48)) 219 1 1) 219 1 2) (fu := 99995 + 1 + 1 + 1) h R1 (i := 1) (by omega) (by omega) (fun w => by
        rw [c_acc1 (h.2.1 1 (by omega) w) e1, b2_f p2]) ((JC.rf _).up (by omega))
      rw [if_neg p2, if_neg p2]
      exact ⟨m2, a2, j1.tr j2, fun w => by omega⟩
  · obtain ⟨m1, a1, j1⟩ := pe_x (μ' := up2 (up2 μ 219 4 (S_dg (t 0))) 219 1 1) (fu := 99995 + 1 + 1 + 1 + 1) h R (i := 0) (by omega) (by omega) (fun w => by
      rw [c_acc0 (h.2.1 0 (by omega) w) e, b2_f p1]) (((JC.rf _).up (by omega)).up (by omega))
    rw [if_neg p1, if_neg p1]
    exact ⟨m1, a1, j1, fun w => by omega⟩

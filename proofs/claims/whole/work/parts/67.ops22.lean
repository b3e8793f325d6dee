/-! excuse: bits -/
def S_B (x : Int) : Int := sm (fun j => andI (shrI x j) 1) 5 0
def S_n0b (x q : Int) : Int := andI x (xorI (shlI 1 q) (-1))
def S_n1b (x q : Int) : Int := orI x (shlI 1 q)
theorem S_bt : ∀ x : Fin 32, ∀ q : Fin 5, (0 ≤ S_n0b x.val q.val ∧ S_n0b x.val q.val < 32) ∧ S_B (S_n0b x.val q.val) ≤ S_B x.val ∧ orI (S_n0b x.val q.val) 0 = S_n0b x.val q.val ∧ (0 ≤ S_n1b x.val q.val ∧ S_n1b x.val q.val < 32) ∧ orI (S_n0b x.val q.val) (shlI 1 q.val) = S_n1b x.val q.val ∧ (andI (shrI x.val q.val) 1 = 1 → S_n1b x.val q.val = x.val) ∧ S_B (S_n1b x.val q.val) ≤ S_B x.val + 1 := by decide +kernel
theorem S_bits {x q : Int} (hx : 0 ≤ x ∧ x < 32) (hq : 0 ≤ q ∧ q < 5) : (0 ≤ S_n0b x q ∧ S_n0b x q < 32) ∧ S_B (S_n0b x q) ≤ S_B x ∧ orI (S_n0b x q) 0 = S_n0b x q ∧ (0 ≤ S_n1b x q ∧ S_n1b x q < 32) ∧ orI (S_n0b x q) (shlI 1 q) = S_n1b x q ∧ (andI (shrI x q) 1 = 1 → S_n1b x q = x) ∧ S_B (S_n1b x q) ≤ S_B x + 1 := by
  have := S_bt ⟨x.toNat, by omega⟩ ⟨q.toNat, by omega⟩
  simp only [show ((x.toNat : Nat) : Int) = x by omega, show ((q.toNat : Nat) : Int) = q by omega] at this
  exact this
def S_bcv (x : Int) : Int :=
  let x1 := x - (andI (ushrI x 1) 1431655765)
  let x2 := (andI x1 858993459) + (andI (ushrI x1 2) 858993459)
  let x3 := andI (x2 + (ushrI x2 4)) 252645135
  let x4 := x3 + (ushrI x3 8)
  let x5 := x4 + (ushrI x4 16)
  andI x5 63
theorem S_bct : ∀ x : Fin 32, S_bcv x.val = S_B x.val := by decide +kernel
theorem c_bits {x : Int} (hx : 0 ≤ x ∧ x < 32) (μ : Mu) : f_J6_bitCount_0f7a4 x μ = some (μ, 0, S_B x) := by
  have := S_bct ⟨x.toNat, by omega⟩
  simp only [show ((x.toNat : Nat) : Int) = x by omega] at this
  rw [← this]; rfl
theorem S_B_bd {x : Int} (hx : 0 ≤ x ∧ x < 32) : 0 ≤ S_B x ∧ S_B x ≤ 5 := by
  have := sm_bd (G := fun j => andI (shrI x j) 1) (a := 0) (b := 1) 5 0 (fun j a b => by
    have := exc_01 hx (q := j) (by omega)
    omega)
  unfold S_B
  omega
theorem r_bits {x : Int} (hx : 0 ≤ x ∧ x < 32) (μ : Mu) : f_X11_bits x μ = some (μ, 0, S_B x) := by
  unfold f_X11_bits S_B
  have key := loop_up (S := Int) (fun fu s v => f_X11_bits_4 x (fun v1 μ => some (μ, 0, v1)) fu s v μ) (fun s => some (μ, 0, s)) (fun s v => s + andI (shrI x v) 1) 5 (fun s v => 0 ≤ v ∧ v ≤ 5) ?_ (fun s v hi hlt => by omega) 5 FU 0 0 (by omega) (by omega) (by unfold FU; omega)
  · refine Eq.trans key ?_
    rw [itS_sm, Int.zero_add]
  · intro fu s v hi
    show f_X11_bits_4 x _ (fu + 1) s v μ = _
    rw [f_X11_bits_4, p_lt (by omega)]
    by_cases hv : v < 5
    · rw [if_pos hv, if_pos hv, p_bnd]
    · rw [if_neg hv, if_neg hv]
theorem S_B_ex {g : Nat → Int} {c : Int} (hx : 0 ≤ g (625 + c).toNat ∧ g (625 + c).toNat < 32) : sm (fun q => b2 (S_exc g c q)) 5 0 = S_B (g (625 + c).toNat) := by
  refine sm_congr 5 0 (fun j a b => ?_)
  have := exc_01 hx (q := j) (by omega)
  unfold S_exc
  by_cases z : andI (shrI (g (625 + c).toNat) j) 1 = 1
  · rw [b2_t z, z]
  · rw [b2_f z]; omega
theorem WS.exc {g g1 : Nat → Int} {T : Int} (W : WS g T) (e : ∀ k : Nat, ¬ (625 ≤ k ∧ k < 633) → g1 k = g k) (ex : ∀ c : Int, 0 ≤ c → c < 8 → 0 ≤ g1 (625 + c).toNat ∧ g1 (625 + c).toNat < 32) (fx : ∀ c : Int, 0 ≤ c → c < 8 → sm (fun q => b2 (S_exc g1 c q)) 5 0 ≤ 2) : WS g1 T := by
  obtain ⟨h1, h2, h3, h4, h5, h6⟩ := W
  have ht := h1.tot
  have hpm := h1.pm
  have ei : ∀ x : Int, ¬ (625 ≤ x ∧ x < 633) → 0 ≤ x → g1 x.toNat = g x.toNat := fun x a b => e _ (by omega)
  have e144 : g1 144 = g 144 := e 144 (by omega)
  have e641 : g1 641 = g 641 := e 641 (by omega)
  refine ⟨⟨fun q x y => ?_, ?_, ?_, fun q x y => ?_, fun i x y => ?_, fun i x y => ?_, fun m q k x y z w u v => ?_, ?_, fun i x y => ?_, fun c x y => ⟨ex c x y, ?_⟩, ⟨?_, fun k x y => ?_, fun k x y => ?_⟩, ?_, fun c q x y z w => ?_⟩, fun c q => ?_, fun c x y => ⟨fx c x y, by rw [nap_cg (g := g) (fun q z w => ei _ (by omega) (by omega))]; exact (h3 c x y).2⟩, fun m x y => ?_, ?_, ?_⟩
  · rw [ei _ (by omega) (by omega)]; exact h1.mx ⟨x, y⟩
  · rw [e 5 (by omega), e 6 (by omega), e 7 (by omega), e 8 (by omega), e 9 (by omega)]; exact h1.st
  · rw [e 10 (by omega), e 11 (by omega), e 12 (by omega), e 13 (by omega)]; exact h1.bo
  · rw [ei _ (by omega) (by omega)]; exact h1.many ⟨x, y⟩
  · rw [ei _ (by omega) (by omega)]; exact h1.2.2.2.2.1 i x y
  · rw [ei _ (by omega) (by omega)]; exact h1.2.2.2.2.2.1 i x y
  · rw [ei _ (by omega) (by omega)] at u
    have := h1.many ⟨z, w⟩
    rw [ei _ (by omega) (by omega)]; exact h1.2.2.2.2.2.2.1 m q k x y z w u v
  · rw [e144]; exact ht
  · rw [e144] at y
    rw [ei _ (by omega) (by omega), ei _ (by omega) (by omega), ei _ (by omega) (by omega), ei _ (by omega) (by omega)]; exact h1.en ⟨x, y⟩
  · rw [ei _ (by omega) (by omega)]; exact (h1.ex ⟨x, y⟩).2
  · rw [e641]; exact hpm
  · rw [e641] at y
    rw [ei _ (by omega) (by omega), ei _ (by omega) (by omega)]; exact h1.pt ⟨x, y⟩
  · rw [e641] at y
    rw [ei _ (by omega) (by omega), ei _ (by omega) (by omega)]; exact h1.pl ⟨x, y⟩
  · rw [e 652 (by omega)]; exact h1.pub
  · rw [ei _ (by omega) (by omega), ei _ (by omega) (by omega), ei _ (by omega) (by omega)]; exact h1.ap ⟨x, y⟩ ⟨z, w⟩
  · have : S_cnt g1 c q (g 144).toNat = S_cnt g c q (g 144).toNat := by
      unfold S_cnt
      refine sm_congr _ 0 (fun j x y => ?_)
      have e1 : S_ec g1 j = S_ec g j := ei _ (by omega) (by omega)
      have e2 : S_eq g1 j = S_eq g j := ei _ (by omega) (by omega)
      unfold S_is
      rw [e1, e2]
    rw [e144, this]; exact h2 c q
  · rw [ei _ (by omega) (by omega)]; exact h4 m x y
  · rw [e 774 (by omega)]; exact h5
  · rw [e 773 (by omega), h6]
    refine sm_congr 8 0 (fun c x y => sm_congr 5 0 (fun q z w => ?_))
    exact (ei _ (by omega) (by omega)).symm
theorem RB.exc {μ1 μ2 : Mu} {g g1 : Nat → Int} (h : WF g) (R : RB μ1 1 g) (e : ∀ k : Nat, ¬ (625 ≤ k ∧ k < 633) → g1 k = g k) (hr : ∀ a : Nat, ((1 ≤ a ∧ a ≤ 4) ∨ (6 ≤ a ∧ a ≤ 23)) → μ2 a = μ1 a) (ex : ∀ c : Int, 0 ≤ c → c < 8 → μ2 5 c.toNat = g1 (625 + c).toNat) : RB μ2 1 g1 := by
  have ht := h.tot
  have hpm := h.pm
  have e144 : g1 144 = g 144 := e 144 (by omega)
  have e641 : g1 641 = g 641 := e 641 (by omega)
  have ei : ∀ x : Int, ¬ (625 ≤ x ∧ x < 633) → 0 ≤ x → g1 x.toNat = g x.toNat := fun x a b => e _ (by omega)
  have ecn : ∀ (c q : Int) (n : Nat), n ≤ 120 → S_cnt g1 c q n = S_cnt g c q n := by
    intro c q n hn
    unfold S_cnt
    refine sm_congr _ 0 (fun j x y => ?_)
    have e1 : S_ec g1 j = S_ec g j := ei _ (by omega) (by omega)
    have e2 : S_eq g1 j = S_eq g j := ei _ (by omega) (by omega)
    unfold S_is
    rw [e1, e2]
  refine ⟨fun q x y => ?_, fun w x y => ?_, fun k x y => ?_, fun c x y => ⟨ex c x y, ?_⟩, fun m x y => ?_, fun q x y => ?_, fun q k x y z w => ?_, fun m q k x y z w u v => ?_, ?_, fun i x y => ?_, fun c q x y z w => ?_, ?_, fun k x y => ⟨?_, ?_⟩, fun c q x y z w => ⟨?_, ?_, ?_⟩, ?_, ?_⟩
  · rw [hr _ (by omega), ei _ (by omega) (by omega)]; exact R.mx ⟨x, y⟩
  · rw [hr _ (by omega), ei _ (by omega) (by omega)]; exact R.st ⟨x, y⟩
  · rw [hr _ (by omega), ei _ (by omega) (by omega)]; exact R.bo ⟨x, y⟩
  · rw [hr _ (by omega), ei _ (by omega) (by omega)]; exact R.ra ⟨x, y⟩
  · rw [hr _ (by omega), ei _ (by omega) (by omega)]; exact R.pay ⟨x, y⟩
  · rw [hr _ (by omega), ei _ (by omega) (by omega)]; exact R.many ⟨x, y⟩
  · rw [hr _ (by omega), ei _ (by omega) (by omega)]; exact R.sd ⟨x, y⟩ ⟨z, w⟩
  · have : S_mk g1 m q k = S_mk g m q k := ei _ (by omega) (by omega)
    rw [hr _ (by omega), this]; exact R.mk ⟨x, y⟩ ⟨z, w⟩ ⟨u, v⟩
  · rw [hr _ (by omega), e144]; exact R.tot
  · rw [e144] at y
    have e1 : S_ec g1 i = S_ec g i := ei _ (by omega) (by omega)
    have e2 : S_eq g1 i = S_eq g i := ei _ (by omega) (by omega)
    have e3 : S_em g1 i = S_em g i := ei _ (by omega) (by omega)
    have e4 : S_ev g1 i = S_ev g i := ei _ (by omega) (by omega)
    have e5 : S_sl g1 i = S_sl g i := by unfold S_sl; rw [e1, e2, ecn _ _ _ (by omega)]
    rw [e5, e3, e4, hr _ (by omega), hr _ (by omega), hr _ (by omega)]; exact R.en ⟨x, y⟩
  · rw [hr _ (by omega), e144, ecn _ _ _ (by omega)]; exact R.sz ⟨x, y⟩ ⟨z, w⟩
  · rw [hr _ (by omega), e641]; exact R.pm
  · rw [e641] at y
    rw [hr _ (by omega), (R.pt ⟨x, y⟩).1]; exact (ei _ (by omega) (by omega)).symm
  · rw [e641] at y
    rw [hr _ (by omega), (R.pt ⟨x, y⟩).2]; exact (ei _ (by omega) (by omega)).symm
  · rw [hr _ (by omega), (R.ap ⟨x, y⟩ ⟨z, w⟩).1]; exact (ei _ (by omega) (by omega)).symm
  · rw [hr _ (by omega), (R.ap ⟨x, y⟩ ⟨z, w⟩).2.1]; exact (ei _ (by omega) (by omega)).symm
  · rw [hr _ (by omega), (R.ap ⟨x, y⟩ ⟨z, w⟩).2.2]; exact (ei _ (by omega) (by omega)).symm
  · rw [hr _ (by omega), e 774 (by omega)]; exact R.rf
  · rw [hr _ (by omega), e 652 (by omega)]; exact R.pub

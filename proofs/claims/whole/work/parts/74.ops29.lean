/-! appeals, fees, refunds and pay change -/
theorem WS.tail {g g1 : Nat → Int} {T T' : Int} (W : WS g T) (e : ∀ k : Nat, k < 653 → g1 k = g k)
    (ap : ∀ c q : Int, 0 ≤ c → c < 8 → 0 ≤ q → q < 5 → (0 ≤ S_ap g1 c q 0 ∧ S_ap g1 c q 0 ≤ 3) ∧ (0 ≤ S_ap g1 c q 1 ∧ S_ap g1 c q 1 ≤ 99 ∧ S_ap g1 c q 1 ≤ 99 * S_ap g1 c q 0) ∧ (0 ≤ S_ap g1 c q 2 ∧ S_ap g1 c q 2 ≤ 40))
    (nap : ∀ c : Int, 0 ≤ c → c < 8 → S_nap g1 c ≤ 3)
    (pay : ∀ m : Int, 0 ≤ m → m < 4 → 0 ≤ g1 (775 + m).toNat ∧ g1 (775 + m).toNat ≤ T') (rf : 0 ≤ g1 774 ∧ g1 774 ≤ T') (fe : g1 773 = sm (fun c => sm (fun q => S_ap g1 c q 1) 5 0) 8 0) : WS g1 T' := by
  obtain ⟨h1, h2, h3, h4, h5, h6⟩ := W
  have ht := h1.tot
  have hpm := h1.pm
  have ei : ∀ x : Int, x < 653 → 0 ≤ x → g1 x.toNat = g x.toNat := fun x a b => e _ (by omega)
  have e144 : g1 144 = g 144 := e 144 (by omega)
  have e641 : g1 641 = g 641 := e 641 (by omega)
  refine ⟨⟨fun q x y => ?_, ?_, ?_, fun q x y => ?_, fun i x y => ?_, fun i x y => ?_, fun m q k x y z w u v => ?_, ?_, fun i x y => ?_, fun c x y => ?_, ⟨?_, fun k x y => ?_, fun k x y => ?_⟩, ?_, fun c q x y z w => ?_⟩, fun c q => ?_, fun c x y => ⟨?_, nap c x y⟩, pay, rf, fe⟩
  · rw [ei _ (by omega) (by omega)]; exact h1.mx ⟨x, y⟩
  · rw [e 5 (by omega), e 6 (by omega), e 7 (by omega), e 8 (by omega), e 9 (by omega)]; exact h1.st
  · rw [e 10 (by omega), e 11 (by omega), e 12 (by omega), e 13 (by omega)]; exact h1.bo
  · rw [ei _ (by omega) (by omega)]; exact h1.many ⟨x, y⟩
  · rw [ei _ (by omega) (by omega)]; exact h1.2.2.2.2.1 i x y
  · rw [ei _ (by omega) (by omega)]; exact h1.2.2.2.2.2.1 i x y
  · rw [ei _ (by omega) (by omega)] at u
    have := h1.many ⟨z, w⟩
    rw [ei _ (by omega) (by omega)]; exact h1.2.2.2.2.2.2.1 m q k x y z w u v
  · rw [e144]; exact ht
  · rw [e144] at y
    rw [ei _ (by omega) (by omega), ei _ (by omega) (by omega), ei _ (by omega) (by omega), ei _ (by omega) (by omega)]; exact h1.en ⟨x, y⟩
  · rw [ei _ (by omega) (by omega), ei _ (by omega) (by omega)]; exact h1.ex ⟨x, y⟩
  · rw [e641]; exact hpm
  · rw [e641] at y
    rw [ei _ (by omega) (by omega), ei _ (by omega) (by omega)]; exact h1.pt ⟨x, y⟩
  · rw [e641] at y
    rw [ei _ (by omega) (by omega), ei _ (by omega) (by omega)]; exact h1.pl ⟨x, y⟩
  · rw [e 652 (by omega)]; exact h1.pub
  · have := ap c q x y z w
    unfold S_ap at this
    rw [Int.add_zero] at this
    exact this
  · have : S_cnt g1 c q (g 144).toNat = S_cnt g c q (g 144).toNat := by
      unfold S_cnt
      refine sm_congr _ 0 (fun j x y => ?_)
      have e1 : S_ec g1 j = S_ec g j := ei _ (by omega) (by omega)
      have e2 : S_eq g1 j = S_eq g j := ei _ (by omega) (by omega)
      unfold S_is
      rw [e1, e2]
    rw [e144, this]; exact h2 c q
  · have e1 : g1 (625 + c).toNat = g (625 + c).toNat := ei _ (by omega) (by omega)
    have := (h3 c x y).1
    unfold S_exc at this ⊢
    rw [e1]; exact this
theorem RB.tail {μ1 μ2 : Mu} {g g1 : Nat → Int} (h : WF g) (R : RB μ1 1 g) (e : ∀ k : Nat, k < 653 → g1 k = g k) (hr : ∀ a : Nat, ((1 ≤ a ∧ a ≤ 6) ∨ (8 ≤ a ∧ a ≤ 19)) → μ2 a = μ1 a)
    (pay : ∀ m : Int, 0 ≤ m → m < 4 → μ2 7 m.toNat = g1 (775 + m).toNat)
    (ap : ∀ c q : Int, 0 ≤ c → c < 8 → 0 ≤ q → q < 5 → μ2 21 (c * 5 + q).toNat = S_ap g1 c q 0 ∧ μ2 22 (c * 5 + q).toNat = S_ap g1 c q 1 ∧ μ2 23 (c * 5 + q).toNat = S_ap g1 c q 2) (rf : μ2 20 3 = g1 774) : RB μ2 1 g1 := by
  have ht := h.tot
  have hpm := h.pm
  have e144 : g1 144 = g 144 := e 144 (by omega)
  have e641 : g1 641 = g 641 := e 641 (by omega)
  have ei : ∀ x : Int, x < 653 → 0 ≤ x → g1 x.toNat = g x.toNat := fun x a b => e _ (by omega)
  have ecn : ∀ (c q : Int) (n : Nat), n ≤ 120 → S_cnt g1 c q n = S_cnt g c q n := by
    intro c q n hn
    unfold S_cnt
    refine sm_congr _ 0 (fun j x y => ?_)
    have e1 : S_ec g1 j = S_ec g j := ei _ (by omega) (by omega)
    have e2 : S_eq g1 j = S_eq g j := ei _ (by omega) (by omega)
    unfold S_is
    rw [e1, e2]
  refine ⟨fun q x y => ?_, fun w x y => ?_, fun k x y => ?_, fun c x y => ⟨?_, ?_⟩, pay, fun q x y => ?_, fun q k x y z w => ?_, fun m q k x y z w u v => ?_, ?_, fun i x y => ?_, fun c q x y z w => ?_, ?_, fun k x y => ⟨?_, ?_⟩, ap, rf, ?_⟩
  · rw [hr _ (by omega), ei _ (by omega) (by omega)]; exact R.mx ⟨x, y⟩
  · rw [hr _ (by omega), ei _ (by omega) (by omega)]; exact R.st ⟨x, y⟩
  · rw [hr _ (by omega), ei _ (by omega) (by omega)]; exact R.bo ⟨x, y⟩
  · rw [hr _ (by omega), ei _ (by omega) (by omega)]; exact R.ex ⟨x, y⟩
  · rw [hr _ (by omega), ei _ (by omega) (by omega)]; exact R.ra ⟨x, y⟩
  · rw [hr _ (by omega), ei _ (by omega) (by omega)]; exact R.many ⟨x, y⟩
  · rw [hr _ (by omega), ei _ (by omega) (by omega)]; exact R.sd ⟨x, y⟩ ⟨z, w⟩
  · have : S_mk g1 m q k = S_mk g m q k := ei _ (by omega) (by omega)
    rw [hr _ (by omega), this]; exact R.mk ⟨x, y⟩ ⟨z, w⟩ ⟨u, v⟩
  · rw [hr _ (by omega), e144]; exact R.tot
  · rw [e144] at y
    have e1 : S_ec g1 i = S_ec g i := ei _ (by omega) (by omega)
    have e2 : S_eq g1 i = S_eq g i := ei _ (by omega) (by omega)
    have e3 : S_em g1 i = S_em g i := ei _ (by omega) (by omega)
    have e4 : S_ev g1 i = S_ev g i := ei _ (by omega) (by omega)
    have e5 : S_sl g1 i = S_sl g i := by unfold S_sl; rw [e1, e2, ecn _ _ _ (by omega)]
    rw [e5, e3, e4, hr _ (by omega), hr _ (by omega), hr _ (by omega)]; exact R.en ⟨x, y⟩
  · rw [hr _ (by omega), e144, ecn _ _ _ (by omega)]; exact R.sz ⟨x, y⟩ ⟨z, w⟩
  · rw [hr _ (by omega), e641]; exact R.pm
  · rw [e641] at y
    rw [hr _ (by omega), (R.pt ⟨x, y⟩).1]; exact (ei _ (by omega) (by omega)).symm
  · rw [e641] at y
    rw [hr _ (by omega), (R.pt ⟨x, y⟩).2]; exact (ei _ (by omega) (by omega)).symm
  · rw [hr _ (by omega), e 652 (by omega)]; exact R.pub
/-- what a refusal leaves in the class, and in the reference -/
def TLc (μ : Mu) (s1 s2 s3 s4 : Int) : Mu := up2 (up2 (up2 (up2 (up2 μ 224 0 s1) 225 0 s2) 224 1 s3) 225 1 s4) 223 2 2
def TLr (μ : Mu) (s1 s2 s3 s4 t : Int) : Mu := up2 (up2 (up2 (up2 (up2 (up2 μ 254 0 s1) 254 1 s2) 254 2 s3) 254 3 s4) 248 11 2) 248 0 t
theorem c_tell {μ : Mu} {s1 s2 s3 s4 : Int} : f_X6_tell s1 s2 s3 s4 μ = some (TLc μ s1 s2 s3 s4, 0, 1) := rfl
theorem r_rep {μ : Mu} {s1 s2 s3 s4 t : Int} : f_X11_reports s1 s2 s3 s4 t μ = some (TLr μ s1 s2 s3 s4 t, 0, 0) := rfl
/-- a refusal -/
theorem op_tell {T : Int} {μ μ0 : Mu} (I : Inv T μ) (k0 : KA μ μ0) {k : Nat} {cl : List Nat} {f : Option Res} {g : Mu → Option Res} {cmp : Int → Int → Option Mu → Option Mu} {x s1 s2 s3 s4 t : Int} {e i : Nat} (ht : t = (i : Int) + 1) (hf : f = some (TLc μ0 s1 s2 s3 s4, e + 1, x)) (hi : hpos cl e = some i) (hi9 : i < 100) (hs : iG s1 ∧ iG s2 ∧ iG s3 ∧ iG s4)
    (hg' : ∀ m1 : Mu, (∀ a k : Nat, ¬ jk a k → ¬ (223 ≤ a ∧ a ≤ 225) → m1 a k = μ a k) → m1 249 = μ 249 → ∃ μ3 b, g m1 = some (TLr μ3 s1 s2 s3 s4 t, 0, b) ∧ JT m1 μ3) : OK T (lcase (hp k cl f) g cmp) := by
  have u1 : ∀ a k : Nat, ¬ jk a k → ¬ (223 ≤ a ∧ a ≤ 225) → TLc μ0 s1 s2 s3 s4 a k = μ a k := fun a k x y => by
    unfold TLc
    rw [up2_o (by omega), up2_o (by omega), up2_o (by omega), up2_o (by omega), up2_o (by omega)]
    exact k0 a k x
  obtain ⟨μ3, b, g1, j⟩ := hg' _ u1 (funext fun k => u1 249 k (by unfold jk; omega) (by omega))
  refine op_rep I (s1 := s1) (s2 := s2) (s3 := s3) (s4 := s4) hf hi hi9 u1 ?_ hs g1 (fun a k x y z => ?_) ?_ ?_
  · unfold TLc
    refine ⟨up2_s, ?_, ?_, ?_, ?_⟩
    · rw [up2_o (by omega), up2_o (by omega), up2_k (by omega), up2_o (by omega), up2_s]
    · rw [up2_o (by omega), up2_k (by omega), up2_o (by omega), up2_s]
    · rw [up2_o (by omega), up2_o (by omega), up2_s]
    · rw [up2_o (by omega), up2_s]
  · unfold TLr
    rw [up2_eq, if_neg (by unfold jT at x; omega), up2_eq, if_neg z, up2_o y, up2_o y, up2_o y, up2_o y]
    exact j a k x
  · unfold TLr
    refine ⟨?_, ?_, ?_, ?_, ?_⟩
    · rw [up2_k (by omega), up2_s]
    · rw [up2_o (by omega), up2_o (by omega), up2_k (by omega), up2_k (by omega), up2_k (by omega), up2_s]
    · rw [up2_o (by omega), up2_o (by omega), up2_k (by omega), up2_k (by omega), up2_s]
    · rw [up2_o (by omega), up2_o (by omega), up2_k (by omega), up2_s]
    · rw [up2_o (by omega), up2_o (by omega), up2_s]
  · rw [← ht]; exact up2_s
theorem sm_upd {G G' : Int → Int} : ∀ (n : Nat) (v i : Int), v ≤ i → i < v + n → (∀ j : Int, v ≤ j → j < v + n → j ≠ i → G' j = G j) → sm G' n v = sm G n v + (G' i - G i)
  | 0, v, i, h1, h2, _ => by omega
  | n + 1, v, i, h1, h2, h => by
    simp only [sm]
    by_cases e : i = v
    · rw [e, sm_congr (G := G') (G' := G) n (v + 1) (fun j a b => h j (by omega) (by omega) (by omega))]
      omega
    · rw [h v (by omega) (by omega) (fun w => e w.symm), sm_upd n (v + 1) i (by omega) (by omega) (fun j a b c => h j (by omega) (by omega) c)]
      omega
/-- one script's appeal changes -/
theorem WS.ap1 {g g1 : Nat → Int} {T T' c q : Int} (W : WS g T) (hc : 0 ≤ c ∧ c < 8) (hq : 0 ≤ q ∧ q < 5) (e : ∀ k : Nat, k < 653 → g1 k = g k)
    (o : ∀ x y w : Int, 0 ≤ x → x < 8 → 0 ≤ y → y < 5 → 0 ≤ w → w < 3 → ¬ (x = c ∧ y = q) → S_ap g1 x y w = S_ap g x y w)
    (s : 1 ≤ S_ap g1 c q 0 ∧ S_ap g1 c q 0 ≤ 3) (f : 0 ≤ S_ap g1 c q 1 ∧ S_ap g1 c q 1 ≤ 99) (m : 0 ≤ S_ap g1 c q 2 ∧ S_ap g1 c q 2 ≤ 40)
    (n : S_nap g c + 1 - b2 (1 ≤ S_ap g c q 0 ∧ S_ap g c q 0 ≤ 3) ≤ 3)
    (pay : ∀ m : Int, 0 ≤ m → m < 4 → 0 ≤ g1 (775 + m).toNat ∧ g1 (775 + m).toNat ≤ T') (rf : 0 ≤ g1 774 ∧ g1 774 ≤ T') (fe : g1 773 = g 773 + (S_ap g1 c q 1 - S_ap g c q 1)) : WS g1 T' := by
  refine WS.tail W e (fun x y x1 x2 y1 y2 => ?_) (fun x x1 x2 => ?_) pay rf ?_
  · by_cases z : x = c ∧ y = q
    · rw [z.1, z.2]
      exact ⟨⟨by omega, s.2⟩, ⟨f.1, f.2, by omega⟩, m⟩
    · rw [o x y 0 x1 x2 y1 y2 (by omega) (by omega) z, o x y 1 x1 x2 y1 y2 (by omega) (by omega) z, o x y 2 x1 x2 y1 y2 (by omega) (by omega) z]
      have a := W.1.ap0 ⟨x1, x2⟩ ⟨y1, y2⟩
      have b := W.1.apf ⟨x1, x2⟩ ⟨y1, y2⟩
      exact ⟨a.1, ⟨a.2.1.1, a.2.1.2, b⟩, a.2.2⟩
  · by_cases z : x = c
    · rw [z]
      have u : sm (fun y => b2 (1 ≤ S_ap g1 c y 0 ∧ S_ap g1 c y 0 ≤ 3)) 5 0 = sm (fun y => b2 (1 ≤ S_ap g c y 0 ∧ S_ap g c y 0 ≤ 3)) 5 0 + (b2 (1 ≤ S_ap g1 c q 0 ∧ S_ap g1 c q 0 ≤ 3) - b2 (1 ≤ S_ap g c q 0 ∧ S_ap g c q 0 ≤ 3)) := sm_upd 5 0 q hq.1 (by omega) (fun j a b d => by
        rw [o c j 0 hc.1 hc.2 a (by omega) (by omega) (by omega) (fun w => d w.2)])
      rw [b2_t s] at u
      unfold S_nap at n ⊢
      omega
    · rw [nap_cg (g := g) (fun y a b => o x y 0 x1 x2 a b (by omega) (by omega) (fun w => z w.1))]; exact (W.2.2.1 x x1 x2).2
  · rw [fe, W.2.2.2.2.2]
    have i1 : sm (fun y => S_ap g1 c y 1) 5 0 = sm (fun y => S_ap g c y 1) 5 0 + (S_ap g1 c q 1 - S_ap g c q 1) := sm_upd 5 0 q hq.1 (by omega) (fun j a b d => o c j 1 hc.1 hc.2 a (by omega) (by omega) (by omega) (fun w => d w.2))
    have i2 : sm (fun x => sm (fun y => S_ap g1 x y 1) 5 0) 8 0 = sm (fun x => sm (fun y => S_ap g x y 1) 5 0) 8 0 + (sm (fun y => S_ap g1 c y 1) 5 0 - sm (fun y => S_ap g c y 1) 5 0) := sm_upd 8 0 c hc.1 (by omega) (fun j a b d => sm_congr 5 0 (fun y u v => o j y 1 a (by omega) u (by omega) (by omega) (by omega) (fun w => d w.1)))
    omega
theorem RB.ap1 {μ1 μ2 : Mu} {g g1 : Nat → Int} {c q : Int} (h : WF g) (R : RB μ1 1 g) (hc : 0 ≤ c ∧ c < 8) (hq : 0 ≤ q ∧ q < 5) (e : ∀ k : Nat, k < 653 → g1 k = g k)
    (o : ∀ x y w : Int, 0 ≤ x → x < 8 → 0 ≤ y → y < 5 → 0 ≤ w → w < 3 → ¬ (x = c ∧ y = q) → S_ap g1 x y w = S_ap g x y w)
    (hr : ∀ a : Nat, ((1 ≤ a ∧ a ≤ 6) ∨ (8 ≤ a ∧ a ≤ 19)) → μ2 a = μ1 a) (ho : ∀ a k : Nat, 21 ≤ a → a ≤ 23 → k ≠ (c * 5 + q).toNat → μ2 a k = μ1 a k)
    (hs : μ2 21 (c * 5 + q).toNat = S_ap g1 c q 0 ∧ μ2 22 (c * 5 + q).toNat = S_ap g1 c q 1 ∧ μ2 23 (c * 5 + q).toNat = S_ap g1 c q 2)
    (pay : ∀ m : Int, 0 ≤ m → m < 4 → μ2 7 m.toNat = g1 (775 + m).toNat) (rf : μ2 20 3 = g1 774) : RB μ2 1 g1 := by
  refine RB.tail h R e hr pay (fun x y x1 x2 y1 y2 => ?_) rf
  by_cases z : x = c ∧ y = q
  · rw [z.1, z.2]; exact hs
  · rw [ho 21 _ (by omega) (by omega) (by omega), ho 22 _ (by omega) (by omega) (by omega), ho 23 _ (by omega) (by omega) (by omega), o x y 0 x1 x2 y1 y2 (by omega) (by omega) z, o x y 1 x1 x2 y1 y2 (by omega) (by omega) z, o x y 2 x1 x2 y1 y2 (by omega) (by omega) z]
    exact R.ap ⟨x1, x2⟩ ⟨y1, y2⟩

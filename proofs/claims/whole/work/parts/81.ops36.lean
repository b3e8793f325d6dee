/-! an entry is made -/
def S_enG (g : Nat → Int) (m c q v : Int) : Nat → Int := gup (gup (gup (gup (gup (gup g (145 + 4 * g 144).toNat m) (145 + 4 * g 144 + 1).toNat c) (145 + 4 * g 144 + 2).toNat q) (145 + 4 * g 144 + 3).toNat v) 144 (g 144 + 1)) (775 + m).toNat (S_pay g m q)
theorem enG_o {g : Nat → Int} {m c q v : Int} (ht : 0 ≤ g 144) {k : Nat} (h1 : k ≠ 144) (h2 : ¬ (145 + 4 * g 144 ≤ (k : Int) ∧ (k : Int) < 149 + 4 * g 144)) (h3 : k ≠ (775 + m).toNat) : S_enG g m c q v k = g k := by
  unfold S_enG
  rw [gup_o h3, gup_o h1, gup_o (by omega), gup_o (by omega), gup_o (by omega), gup_o (by omega)]
theorem enG_144 {g : Nat → Int} {m c q v : Int} (hm : 0 ≤ m ∧ m < 4) : S_enG g m c q v 144 = g 144 + 1 := by
  unfold S_enG
  rw [gup_o (by omega), gup_s]
theorem enG_n {g : Nat → Int} {m c q v : Int} (hm : 0 ≤ m ∧ m < 4) (ht : 0 ≤ g 144 ∧ g 144 < 120) : S_em (S_enG g m c q v) (g 144) = m ∧ S_ec (S_enG g m c q v) (g 144) = c ∧ S_eq (S_enG g m c q v) (g 144) = q ∧ S_ev (S_enG g m c q v) (g 144) = v := by
  unfold S_em S_ec S_eq S_ev S_enG
  generalize g 144 = n at ht ⊢
  refine ⟨?_, ?_, ?_, ?_⟩
  · rw [gup_o (by omega), gup_o (by omega), gup_o (by omega), gup_o (by omega), gup_o (by omega), gup_s]
  · rw [gup_o (by omega), gup_o (by omega), gup_o (by omega), gup_o (by omega), gup_s]
  · rw [gup_o (by omega), gup_o (by omega), gup_o (by omega), gup_s]
  · rw [gup_o (by omega), gup_o (by omega), gup_s]
theorem enG_e {g : Nat → Int} {m c q v : Int} (hm : 0 ≤ m ∧ m < 4) (ht : 0 ≤ g 144 ∧ g 144 < 120) {e : Int} (he : 0 ≤ e ∧ e < g 144) : S_em (S_enG g m c q v) e = S_em g e ∧ S_ec (S_enG g m c q v) e = S_ec g e ∧ S_eq (S_enG g m c q v) e = S_eq g e ∧ S_ev (S_enG g m c q v) e = S_ev g e :=
  ⟨enG_o ht.1 (by omega) (by omega) (by omega), enG_o ht.1 (by omega) (by omega) (by omega), enG_o ht.1 (by omega) (by omega) (by omega), enG_o ht.1 (by omega) (by omega) (by omega)⟩
theorem enG_c {g : Nat → Int} {m c q v : Int} (hm : 0 ≤ m ∧ m < 4) (ht : 0 ≤ g 144 ∧ g 144 < 120) {x y : Int} {k : Nat} (hk : (k : Int) ≤ g 144) : S_cnt (S_enG g m c q v) x y k = S_cnt g x y k := by
  unfold S_cnt
  refine sm_congr k 0 (fun e a b => ?_)
  obtain ⟨-, e2, e3, -⟩ := enG_e (c := c) (q := q) (v := v) hm ht (e := e) (by omega)
  unfold S_is
  rw [e2, e3]
theorem enG_cnt {g : Nat → Int} {m c q v : Int} (hm : 0 ≤ m ∧ m < 4) (ht : 0 ≤ g 144 ∧ g 144 < 120) {x y : Int} : S_cnt (S_enG g m c q v) x y (S_enG g m c q v 144).toNat = S_cnt g x y (g 144).toNat + b2 (c = x ∧ q = y) := by
  obtain ⟨-, e2, e3, -⟩ := enG_n (g := g) (c := c) (q := q) (v := v) hm ht
  rw [enG_144 hm, show (g 144 + 1).toNat = (g 144).toNat + 1 by omega, cnt_snoc, enG_c hm ht (by omega), show (((g 144).toNat : Nat) : Int) = g 144 by omega]
  unfold S_is
  rw [e2, e3]
theorem enG_W {g : Nat → Int} {T m c q v : Int} (W : WS g T) (ht : g 144 < 120) (hm : 0 ≤ m ∧ m < 4) (hc : 0 ≤ c ∧ c < 8) (hq : 0 ≤ q ∧ q < 5) (hv : 0 ≤ v ∧ v ≤ 40) (hn : S_cnt g c q (g 144).toNat < 3) : WS (S_enG g m c q v) (T + 50) := by
  have hpy := pay_bd W hm hq
  obtain ⟨h1, h2, h3, h4, h5, h6⟩ := W
  have ht : 0 ≤ g 144 ∧ g 144 < 120 := ⟨h1.tot.1, ht⟩
  have hpm := h1.pm
  have e : ∀ k : Nat, (k < 144 ∨ (625 ≤ k ∧ k < 775)) → S_enG g m c q v k = g k := fun k a => enG_o ht.1 (by omega) (by omega) (by omega)
  have ei : ∀ x : Int, (x < 144 ∨ (625 ≤ x ∧ x < 775)) → 0 ≤ x → S_enG g m c q v x.toNat = g x.toNat := fun x a b => e _ (by omega)
  have e641 : S_enG g m c q v 641 = g 641 := e 641 (by omega)
  refine ⟨⟨fun q x y => ?_, ?_, ?_, fun q x y => ?_, fun i x y => ?_, fun i x y => ?_, fun m q k x y z w u v => ?_, ?_, fun i x y => ?_, fun c x y => ?_, ⟨?_, fun k x y => ?_, fun k x y => ?_⟩, ?_, fun c q x y z w => ?_⟩, fun x y => ?_, fun d x y => ⟨?_, ?_⟩, fun i x y => ?_, ?_, ?_⟩
  · rw [ei _ (by omega) (by omega)]; exact h1.mx ⟨x, y⟩
  · rw [e 5 (by omega), e 6 (by omega), e 7 (by omega), e 8 (by omega), e 9 (by omega)]; exact h1.st
  · rw [e 10 (by omega), e 11 (by omega), e 12 (by omega), e 13 (by omega)]; exact h1.bo
  · rw [ei _ (by omega) (by omega)]; exact h1.many ⟨x, y⟩
  · rw [ei _ (by omega) (by omega)]; exact h1.2.2.2.2.1 i x y
  · rw [ei _ (by omega) (by omega)]; exact h1.2.2.2.2.2.1 i x y
  · rw [ei _ (by omega) (by omega)] at u
    have := h1.many ⟨z, w⟩
    rw [ei _ (by omega) (by omega)]; exact h1.2.2.2.2.2.2.1 m q k x y z w u v
  · rw [enG_144 hm]; omega
  · rw [enG_144 hm] at y
    show (0 ≤ S_em (S_enG g m c q v) i ∧ S_em (S_enG g m c q v) i < 4) ∧ (0 ≤ S_ec (S_enG g m c q v) i ∧ S_ec (S_enG g m c q v) i < 8) ∧ (0 ≤ S_eq (S_enG g m c q v) i ∧ S_eq (S_enG g m c q v) i < 5) ∧ (0 ≤ S_ev (S_enG g m c q v) i ∧ S_ev (S_enG g m c q v) i ≤ 40)
    by_cases z : i = g 144
    · obtain ⟨e1, e2, e3, e4⟩ := enG_n (g := g) (c := c) (q := q) (v := v) hm ht
      rw [z, e1, e2, e3, e4]; exact ⟨hm, hc, hq, hv⟩
    · obtain ⟨e1, e2, e3, e4⟩ := enG_e (c := c) (q := q) (v := v) hm ht (e := i) (by omega)
      rw [e1, e2, e3, e4]; exact h1.ee ⟨x, by omega⟩
  · rw [ei _ (by omega) (by omega), ei _ (by omega) (by omega)]; exact h1.ex ⟨x, y⟩
  · rw [e641]; exact hpm
  · rw [e641] at y
    rw [ei _ (by omega) (by omega), ei _ (by omega) (by omega)]; exact h1.pt ⟨x, y⟩
  · rw [e641] at y
    rw [ei _ (by omega) (by omega), ei _ (by omega) (by omega)]; exact h1.pl ⟨x, y⟩
  · rw [e 652 (by omega)]; exact h1.pub
  · rw [ei _ (by omega) (by omega), ei _ (by omega) (by omega), ei _ (by omega) (by omega)]; exact h1.ap ⟨x, y⟩ ⟨z, w⟩
  · rw [enG_cnt hm ht]
    have := h2 x y
    by_cases z : c = x ∧ q = y
    · rw [b2_t z, ← z.1, ← z.2]; omega
    · rw [b2_f z]; omega
  · have e1 : S_enG g m c q v (625 + d).toNat = g (625 + d).toNat := ei _ (by omega) (by omega)
    have := (h3 d x y).1
    unfold S_exc at this ⊢
    rw [e1]; exact this
  · rw [nap_cg (g := g) (g1 := S_enG g m c q v) (c := d) (fun y z w => ei _ (by omega) (by omega))]; exact (h3 d x y).2
  · by_cases z : i = m
    · rw [z, show S_enG g m c q v (775 + m).toNat = S_pay g m q from gup_s]; exact hpy
    · rw [enG_o ht.1 (by omega) (by omega) (by omega)]
      have := h4 i x y
      omega
  · rw [e 774 (by omega)]; omega
  · rw [e 773 (by omega), h6]
    refine sm_congr 8 0 (fun c x y => sm_congr 5 0 (fun q z w => ?_))
    exact (ei _ (by omega) (by omega)).symm
theorem enG_R {μ1 μ2 : Mu} {b : Nat} {g : Nat → Int} {m c q v : Int} (h : WF g) (h3 : WF3 g) (R : RB μ1 b g) (ht : g 144 < 120) (hm : 0 ≤ m ∧ m < 4) (hc : 0 ≤ c ∧ c < 8) (hq : 0 ≤ q ∧ q < 5) (hn : S_cnt g c q (g 144).toNat < 3)
    (hr : ∀ a : Nat, (a = b ∨ (b + 1 ≤ a ∧ a ≤ b + 5) ∨ (b + 7 ≤ a ∧ a ≤ b + 10) ∨ (b + 16 ≤ a ∧ a < b + 23)) → μ2 a = μ1 a)
    (py : μ2 (b + 6) m.toNat = S_pay g m q ∧ ∀ k : Nat, k ≠ m.toNat → μ2 (b + 6) k = μ1 (b + 6) k) (tt : μ2 (b + 11) 4 = g 144 + 1)
    (sz : μ2 (b + 11 + 1) (c * 5 + q).toNat = S_cnt g c q (g 144).toNat + 1 ∧ ∀ k : Nat, k ≠ (c * 5 + q).toNat → μ2 (b + 11 + 1) k = μ1 (b + 11 + 1) k)
    (mr : μ2 (b + 11 + 2) ((c * 5 + q) * 3 + S_cnt g c q (g 144).toNat).toNat = m ∧ ∀ k : Nat, k ≠ ((c * 5 + q) * 3 + S_cnt g c q (g 144).toNat).toNat → μ2 (b + 11 + 2) k = μ1 (b + 11 + 2) k)
    (mk : μ2 (b + 11 + 3) ((c * 5 + q) * 3 + S_cnt g c q (g 144).toNat).toNat = v ∧ ∀ k : Nat, k ≠ ((c * 5 + q) * 3 + S_cnt g c q (g 144).toNat).toNat → μ2 (b + 11 + 3) k = μ1 (b + 11 + 3) k)
    (od : μ2 (b + 11 + 4) (g 144).toNat = (c * 5 + q) * 3 + S_cnt g c q (g 144).toNat ∧ ∀ k : Nat, k ≠ (g 144).toNat → μ2 (b + 11 + 4) k = μ1 (b + 11 + 4) k) : RB μ2 b (S_enG g m c q v) := by
  have ht : 0 ≤ g 144 ∧ g 144 < 120 := ⟨h.tot.1, ht⟩
  have hpm := h.pm
  have hn0 := cnt_0 (g := g) (c := c) (q := q) (n := (g 144).toNat)
  have e : ∀ k : Nat, (k < 144 ∨ (625 ≤ k ∧ k < 775)) → S_enG g m c q v k = g k := fun k a => enG_o ht.1 (by omega) (by omega) (by omega)
  have ei : ∀ x : Int, (x < 144 ∨ (625 ≤ x ∧ x < 775)) → 0 ≤ x → S_enG g m c q v x.toNat = g x.toNat := fun x a b => e _ (by omega)
  have e641 : S_enG g m c q v 641 = g 641 := e 641 (by omega)
  refine ⟨fun q x y => ?_, fun w x y => ?_, fun k x y => ?_, fun c x y => ⟨?_, ?_⟩, fun i x y => ?_, fun q x y => ?_, fun q k x y z w => ?_, fun m' q' k x y z w u v' => ?_, ?_, fun i x y => ?_, fun x y x1 x2 y1 y2 => ?_, ?_, fun k x y => ⟨?_, ?_⟩, fun c' q' x y z w => ⟨?_, ?_, ?_⟩, ?_, ?_⟩
  · rw [hr _ (by omega), ei _ (by omega) (by omega)]; exact R.mx ⟨x, y⟩
  · rw [hr _ (by omega), ei _ (by omega) (by omega)]; exact R.st ⟨x, y⟩
  · rw [hr _ (by omega), ei _ (by omega) (by omega)]; exact R.bo ⟨x, y⟩
  · rw [hr _ (by omega), ei _ (by omega) (by omega)]; exact R.ex ⟨x, y⟩
  · rw [hr _ (by omega), ei _ (by omega) (by omega)]; exact R.ra ⟨x, y⟩
  · by_cases z : i = m
    · rw [z, show S_enG g m c q v (775 + m).toNat = S_pay g m q from gup_s]; exact py.1
    · rw [py.2 _ (by omega), enG_o ht.1 (by omega) (by omega) (by omega)]; exact R.pay ⟨x, y⟩
  · rw [hr _ (by omega), ei _ (by omega) (by omega)]; exact R.many ⟨x, y⟩
  · rw [hr _ (by omega), ei _ (by omega) (by omega)]; exact R.sd ⟨x, y⟩ ⟨z, w⟩
  · have : S_mk (S_enG g m c q v) m' q' k = S_mk g m' q' k := ei _ (by omega) (by omega)
    rw [hr _ (by omega), this]; exact R.mk ⟨x, y⟩ ⟨z, w⟩ ⟨u, v'⟩
  · rw [tt, enG_144 hm]
  · rw [enG_144 hm] at y
    by_cases z : i = g 144
    · obtain ⟨e1, e2, e3, e4⟩ := enG_n (g := g) (c := c) (q := q) (v := v) hm ht
      have es : S_sl (S_enG g m c q v) (g 144) = (c * 5 + q) * 3 + S_cnt g c q (g 144).toNat := by
        unfold S_sl
        rw [e2, e3, enG_c hm ht (by omega)]; omega
      rw [z, es, e1, e4]
      exact ⟨od.1, mr.1, mk.1⟩
    · have he : 0 ≤ i ∧ i < g 144 := by omega
      obtain ⟨e1, e2, e3, e4⟩ := enG_e (c := c) (q := q) (v := v) hm ht he
      have es : S_sl (S_enG g m c q v) i = S_sl g i := by
        unfold S_sl
        rw [e2, e3, enG_c hm ht (by omega)]
      have hsb := sl_bd h h3 he
      have hee := h.ee he
      have ne : (S_sl g i).toNat ≠ ((c * 5 + q) * 3 + S_cnt g c q (g 144).toNat).toNat := by
        by_cases w : S_is g c q i
        · have cl := cnt_lt he w
          have : S_sl g i = 3 * (5 * c + q) + S_cnt g c q i.toNat := by
            unfold S_sl
            rw [w.1, w.2]
          omega
        · have : S_sl g i = 3 * (5 * S_ec g i + S_eq g i) + S_cnt g (S_ec g i) (S_eq g i) i.toNat := rfl
          unfold S_is at w
          omega
      rw [es, e1, e4, od.2 _ (by omega), mr.2 _ ne, mk.2 _ ne]
      exact R.en he
  · rw [enG_cnt hm ht]
    by_cases z : c = x ∧ q = y
    · rw [b2_t z, ← z.1, ← z.2]; exact sz.1
    · rw [b2_f z, Int.add_zero, sz.2 _ (by omega)]; exact R.sz ⟨x1, x2⟩ ⟨y1, y2⟩
  · rw [hr _ (by omega), e641]; exact R.pm
  · rw [e641] at y
    rw [hr _ (by omega), (R.pt ⟨x, y⟩).1]; exact (ei _ (by omega) (by omega)).symm
  · rw [e641] at y
    rw [hr _ (by omega), (R.pt ⟨x, y⟩).2]; exact (ei _ (by omega) (by omega)).symm
  · rw [hr _ (by omega), (R.ap ⟨x, y⟩ ⟨z, w⟩).1]; exact (ei _ (by omega) (by omega)).symm
  · rw [hr _ (by omega), (R.ap ⟨x, y⟩ ⟨z, w⟩).2.1]; exact (ei _ (by omega) (by omega)).symm
  · rw [hr _ (by omega), (R.ap ⟨x, y⟩ ⟨z, w⟩).2.2]; exact (ei _ (by omega) (by omega)).symm
  · rw [hr _ (by omega), e 774 (by omega)]; exact R.rf
  · rw [hr _ (by omega), e 652 (by omega)]; exact R.pub
/-- where a script has a free place, so has the book -/
theorem tot_lt {g : Nat → Int} (h : WF g) (h3 : WF3 g) {c q : Int} (hc : 0 ≤ c ∧ c < 8) (hq : 0 ≤ q ∧ q < 5) (hn : S_cnt g c q (g 144).toNat < 3) : g 144 < 120 := by
  have ht := h.tot
  have s := slots_sum h h3 (fun _ => 1)
  rw [sm_one] at s
  have hl := ents_len g c q
  have u := sm_upd (G := fun _ => (1 : Int)) (G' := fun j => if j = (c * 5 + q) * 3 + 2 then 0 else 1) 120 0 ((c * 5 + q) * 3 + 2) (by omega) (by omega) (fun j a b d => if_neg d)
  have l := sm_le (G := S_so g (fun _ => 1)) (G' := fun j => if j = (c * 5 + q) * 3 + 2 then 0 else 1) 120 0 (fun j a b => by
    unfold S_so
    by_cases z : j = (c * 5 + q) * 3 + 2
    · rw [if_pos z, z, show ((c * 5 + q) * 3 + 2) / 15 = c by omega, show ((c * 5 + q) * 3 + 2) / 3 % 5 = q by omega, if_neg (by omega)]; omega
    · rw [if_neg z]
      split
      · exact Int.le_refl 1
      · omega)
  rw [sm_one, if_pos rfl] at u
  omega
theorem c_makeE {μ1 : Mu} {b : Nat} {g : Nat → Int} {m c q s v : Int} (h : WF g) (h3 : WF3 g) (R : RB μ1 b g) (hm : 0 ≤ m ∧ m < 4) (hc : 0 ≤ c ∧ c < 8) (hq : 0 ≤ q ∧ q < 5) (hs : s = c * 5 + q) (hn : S_cnt g c q (g 144).toNat < 3) :
    ∃ μ2, f_X1_makeEntry b m s v μ1 = some (μ2, 0, S_cnt g c q (g 144).toNat + 1) ∧ RB μ2 b (S_enG g m c q v) ∧ ∀ a : Nat, (a < b ∨ b + 23 ≤ a) → μ2 a = μ1 a := by
  subst hs
  have ht : 0 ≤ g 144 ∧ g 144 < 120 := ⟨h.tot.1, tot_lt h h3 hc hq hn⟩
  have hn0 := cnt_0 (g := g) (c := c) (q := q) (n := (g 144).toNat)
  have rsz := R.sz hc hq
  have rtt := R.tot
  have e1 : f_X1_earn b m q μ1 = some (up2 μ1 (b + 6) m.toNat (S_pay g m q), 0, 0) := by
    have := c_earn (μ := μ1) (b := b) hm hq
    rw [R.pay hm, R.mx hq] at this
    exact this
  refine ⟨up2 (up2 (up2 (up2 (up2 (up2 μ1 (b + 6) m.toNat (S_pay g m q)) (b + 11 + 2) ((c * 5 + q) * 3 + S_cnt g c q (g 144).toNat).toNat m) (b + 11 + 3) ((c * 5 + q) * 3 + S_cnt g c q (g 144).toNat).toNat v) (b + 11 + 4) (g 144).toNat ((c * 5 + q) * 3 + S_cnt g c q (g 144).toNat)) (b + 11) 4 (g 144 + 1)) (b + 11 + 1) (c * 5 + q).toNat (S_cnt g c q (g 144).toNat + 1), ?_, ?_, fun a ha => ?_⟩
  · unfold f_X1_makeEntry f_X3_put f_X3_put_78
    rw [p_rem (by omega), show (c * 5 + q) % 5 = q by omega, e1, p_rb, p_rdI (by omega), up2_o (by omega), rsz, p_lt (by omega), if_pos hn, p_rdF, up2_o (by omega), rtt, p_lt (by omega), if_pos ht.2, p_bnd, p_wrI (by omega), p_wrI (by omega), p_rdF, up2_o (by omega), up2_o (by omega), up2_o (by omega), rtt, p_wrI (by omega), p_rdF, up2_o (by omega), up2_o (by omega), up2_o (by omega), up2_o (by omega), rtt, p_wrF, p_wrI (by omega), p_rdI (by omega), up2_s, p_rb]
  · refine enG_R h h3 R ht.2 hm hc hq hn (fun a ha => ?_) ⟨?_, fun k x => ?_⟩ ?_ ⟨up2_s, fun k x => ?_⟩ ⟨?_, fun k x => ?_⟩ ⟨?_, fun k x => ?_⟩ ⟨?_, fun k x => ?_⟩
    · rw [up2_oo (by omega), up2_oo (by omega), up2_oo (by omega), up2_oo (by omega), up2_oo (by omega), up2_oo (by omega)]
    · rw [up2_o (by omega), up2_o (by omega), up2_o (by omega), up2_o (by omega), up2_o (by omega), up2_s]
    · rw [up2_o (by omega), up2_o (by omega), up2_o (by omega), up2_o (by omega), up2_o (by omega), up2_k x]
    · rw [up2_o (by omega), up2_s]
    · rw [up2_k x, up2_o (by omega), up2_o (by omega), up2_o (by omega), up2_o (by omega), up2_o (by omega)]
    · rw [up2_o (by omega), up2_o (by omega), up2_o (by omega), up2_o (by omega), up2_s]
    · rw [up2_o (by omega), up2_o (by omega), up2_o (by omega), up2_o (by omega), up2_k x, up2_o (by omega)]
    · rw [up2_o (by omega), up2_o (by omega), up2_o (by omega), up2_s]
    · rw [up2_o (by omega), up2_o (by omega), up2_o (by omega), up2_k x, up2_o (by omega), up2_o (by omega)]
    · rw [up2_o (by omega), up2_o (by omega), up2_s]
    · rw [up2_o (by omega), up2_o (by omega), up2_k x, up2_o (by omega), up2_o (by omega), up2_o (by omega)]
  · rw [up2_oo (by omega), up2_oo (by omega), up2_oo (by omega), up2_oo (by omega), up2_oo (by omega), up2_oo (by omega)]
theorem r_enters {μ : Mu} {m c q v : Int} (hm : 0 ≤ m ∧ m < 4) (hc : 0 ≤ c ∧ c < 8) (hq : 0 ≤ q ∧ q < 5) (ht : 0 ≤ μ 249 144 ∧ μ 249 144 < 120) : ∃ μ2, f_X11_enters m c q v μ = some (μ2, 0, 0) ∧ μ2 249 = S_enG (μ 249) m c q v ∧ ∀ a : Nat, a ≠ 249 → μ2 a = μ a := by
  have e144 : (144 : Int).toNat = 144 := rfl
  refine ⟨up2 (up2 (up2 (up2 (up2 (up2 μ 249 (145 + 4 * μ 249 144).toNat m) 249 (145 + 4 * μ 249 144 + 1).toNat c) 249 (145 + 4 * μ 249 144 + 2).toNat q) 249 (145 + 4 * μ 249 144 + 3).toNat v) 249 144 (μ 249 144 + 1)) 249 (775 + m).toNat (S_pay (μ 249) m q), ?_, ?_, fun a ha => ?_⟩
  · have r := r_pays (μ := up2 (up2 (up2 (up2 (up2 μ 249 (145 + 4 * μ 249 144).toNat m) 249 (145 + 4 * μ 249 144 + 1).toNat c) 249 (145 + 4 * μ 249 144 + 2).toNat q) 249 (145 + 4 * μ 249 144 + 3).toNat v) 249 144 (μ 249 144 + 1)) hm hq
    rw [up2_k (by omega), up2_k (by omega), up2_k (by omega), up2_k (by omega), up2_k (by omega), up2_k (by omega), up2_k (by omega), up2_k (by omega), up2_k (by omega), up2_k (by omega)] at r
    unfold f_X11_enters
    rw [p_rdI (by omega), e144, p_wrI (by omega), p_wrI (by omega), p_wrI (by omega), p_wrI (by omega), p_rdI (by omega), e144, up2_k (by omega), up2_k (by omega), up2_k (by omega), up2_k (by omega), p_wrI (by omega), e144, r, p_rb]; rfl
  · unfold S_enG
    rw [up2_gup, up2_gup, up2_gup, up2_gup, up2_gup, up2_gup]
  · rw [up2_oo ha, up2_oo ha, up2_oo ha, up2_oo ha, up2_oo ha, up2_oo ha]
theorem RM.to {μ μ9 μ2 μ3 : Mu} {g1 G : Nat → Int} (R : RM μ μ9 μ2 g1) (h : ∀ a : Nat, a ≠ 249 → μ3 a = μ2 a) (e : μ3 249 = G) : RM μ μ9 μ3 G := by
  obtain ⟨r1, ⟨r2, r3⟩, r4, r5, r6⟩ := R
  refine ⟨fun k hk => by rw [e], ⟨by rw [h 248 (by omega)]; exact r2, fun j x y => ?_⟩, fun a ha => (h a (by omega)).trans (r4 a ha), fun a ha => (h a (by omega)).trans (r5 a ha), fun k x y z => by rw [h 248 (by omega)]; exact r6 k x y z⟩
  have es : slice μ3 j = slice μ2 j := by unfold slice; rw [h 252 (by omega)]
  rw [es]; exact r3 j x y

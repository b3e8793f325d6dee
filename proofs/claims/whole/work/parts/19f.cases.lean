def cmpI (o b : Int) (A : Option Mu) : Option Mu := i_2l b (l_eq o b A none)
def cmpZ (o b : Int) (A : Option Mu) : Option Mu := if b = 0 ∨ b = 1 then l_eq o b A none else none
def cmpL (o b : Int) (A : Option Mu) : Option Mu := l_eq o b A none
/-- one call of the script: the class (helper's answer f), the reference g, the comparison -/
def lcase (f : Option Res) (g : Mu → Option Res) (cmp : Int → Int → Option Mu → Option Mu) : Option Mu := match f with
  | some (μ1, 0, k) => match g μ1 with
    | some (μ2, 0, b) => i_eq (μ2 248 0) k (i_eq k 0 (cmp (μ2 260 0) b (some μ2)) (some μ2)) none
    | _ => none
  | _ => none
/-- a call that no exception leaves, compared at once -/
def ldir (f : Option Res) (g : Mu → Option Res) : Option Mu := match f with
  | some (μ1, 0, a) => match g μ1 with
    | some (μ2, 0, b) => i_eq a b (some μ2) none
    | _ => none
  | _ => none

theorem cmp_same {cmp : Int → Int → Option Mu → Option Mu} (hc : cmp = cmpI ∨ cmp = cmpZ ∨ cmp = cmpL) {o b : Int} {μ2 μ' : Mu} (h : cmp o b (some μ2) = some μ') : μ2 = μ' := by
  rcases hc with rfl | rfl | rfl
  · unfold cmpI at h
    obtain ⟨-, h⟩ := og h
    obtain ⟨-, h⟩ := og h
    split at h
    · exact Option.some.inj h
    · cases h
  · unfold cmpZ at h
    obtain ⟨-, h⟩ := og h
    obtain ⟨-, h⟩ := og h
    split at h
    · exact Option.some.inj h
    · cases h
  · unfold cmpL at h
    obtain ⟨-, h⟩ := og h
    split at h
    · exact Option.some.inj h
    · cases h
theorem lcase_of {f : Option Res} {g : Mu → Option Res} {cmp : Int → Int → Option Mu → Option Mu} {μ' : Mu} (hc : cmp = cmpI ∨ cmp = cmpZ ∨ cmp = cmpL) (h : lcase f g cmp = some μ') :
    ∃ (μ1 : Mu) (k : Int) (b : Int), f = some (μ1, 0, k) ∧ g μ1 = some (μ', 0, b) ∧ μ' 248 0 = k ∧ gI k ∧ (k = 0 → cmp (μ' 260 0) b (some μ') = some μ') := by
  unfold lcase at h
  split at h
  · rename_i f9 μ1 k
    split at h
    · rename_i f8 μ2 b hg
      obtain ⟨⟨g1, g2⟩, h⟩ := og h
      by_cases e1 : μ2 248 0 = k
      · rw [if_pos e1] at h
        obtain ⟨-, h⟩ := og h
        by_cases q : k = 0
        · rw [if_pos q] at h
          have e := cmp_same hc h
          subst e
          exact ⟨μ1, k, b, rfl, hg, e1, g2, fun _ => h⟩
        · rw [if_neg q] at h
          have e := Option.some.inj h
          subst e
          exact ⟨μ1, k, b, rfl, hg, e1, g2, fun w => absurd w q⟩
      · rw [if_neg e1] at h; cases h
    · cases h
  · cases h
theorem ldir_of {f : Option Res} {g : Mu → Option Res} {μ' : Mu} (h : ldir f g = some μ') :
    ∃ (μ1 : Mu) (b : Int), f = some (μ1, 0, b) ∧ g μ1 = some (μ', 0, b) ∧ gI b := by
  unfold ldir at h
  split at h
  · rename_i f9 μ1 a
    split at h
    · rename_i f8 μ2 b hg
      obtain ⟨⟨g1, g2⟩, h⟩ := og h
      by_cases e1 : a = b
      · rw [if_pos e1] at h
        have e := Option.some.inj h
        subst e; subst e1
        exact ⟨μ1, a, rfl, hg, g1⟩
      · rw [if_neg e1] at h; cases h
    · cases h
  · cases h
theorem cmpI_of {o b : Int} {μ' : Mu} {r : Res} (h : cmpI o b (some μ') = some μ') : i_2l b (some r) = some r ∧ l_eq o b (some r) none = some r := by
  unfold cmpI at h
  obtain ⟨g, h⟩ := og h
  obtain ⟨g1, h⟩ := og h
  refine ⟨by unfold i_2l; rw [if_pos g], ?_⟩
  unfold l_eq; rw [if_pos g1]
  split at h
  · rename_i e; rw [if_pos e]
  · cases h
theorem cmpL_of {o b : Int} {μ' : Mu} {r : Res} (h : cmpL o b (some μ') = some μ') : l_eq o b (some r) none = some r := by
  unfold cmpL at h
  obtain ⟨g1, h⟩ := og h
  unfold l_eq; rw [if_pos g1]
  split at h
  · rename_i e; rw [if_pos e]
  · cases h
theorem cmpZ_of {o b : Int} {μ' : Mu} {r : Res} (h : cmpZ o b (some μ') = some μ') : (b = 0 ∨ b = 1) ∧ l_eq o b (some r) none = some r := by
  unfold cmpZ at h
  obtain ⟨g, h⟩ := og h
  exact ⟨g, cmpL_of h⟩
theorem ieq_t {α : Type} {k : Int} {r : α} (g : gI k) : i_eq k k (some r) none = some r := by
  unfold i_eq
  rw [if_pos ⟨g, g⟩, if_pos rfl]
theorem ieq_y {α : Type} {k : Int} {A B : Option α} (g : gI k) (h : k = 0) : i_eq k 0 A B = A := by
  unfold i_eq
  rw [if_pos ⟨g, by decide⟩, if_pos h]
theorem ieq_n {α : Type} {k : Int} {A B : Option α} (g : gI k) (h : ¬ k = 0) : i_eq k 0 A B = B := by
  unfold i_eq
  rw [if_pos ⟨g, by decide⟩, if_neg h]
theorem rd_260 {μ : Mu} {r : Res} : rdI μ 260 1 0 (fun _ => some r) = some r := if_pos (by decide)
section KC
variable {X : kX} {md mdY : kM} {d d' rkY : Nat} {po : kPo} {cr sr pc : Nat} {l : List (Nat × Value)} {st As : List Value} {μ μ2 : Mu} {x : Int} {b n ci idx : Nat} {rf : Nat → Option Nat}
/-- the call of a method that returns -/
theorem K_callC {fY : Option Res} (hd : decode md.2.1 pc = .ok (.invokevirtual idx, 3)) (M : kMV md.1.cls idx mdY n ci) (hsk : SK[b]? = some (.inr (ci, rf))) (hn : As.length = n) (hst : (st.map fun v => v.category).sum ≤ 8) (hdd : d' + 1 ≤ d) (htab : md.2.2.2.2 = [])
    (hC : Cq X mdY d' rkY μ (.ref (X.1 + b) :: As) fY) (hf : fY = some (μ2, 0, x)) (kk : KJ X md d false po SK cr sr (pc + 3) l ((rvO rkY x).toList ++ st) μ2) {st1 : List Value} (hs1 : st1 = As.reverse ++ .ref (X.1 + b) :: st) : KJ X md d false po SK cr sr pc l st1 μ := by
  have h0 : cq ((μ2, 0, x) : Res) = 0 := rfl
  have hC2 := hC (μ2, 0, x) hf
  rw [h0] at hC2
  refine K_callV (As := As) (cr := cr) (sr := sr) (mcY := 0) (msY := 6 * 0) hd M hsk hn hst hdd htab hC2 (fun h => nomatch h) ?_ (fun e sk' μ' h => ?_) hs1
  · intro v sk' μ' h
    obtain ⟨h1, -, h3, h4⟩ := h
    rw [h1, h3, h4]
    exact kk
  · exact absurd h.2.1 (by intro w; cases w)
/-- the call of a helper of the law -/
theorem K_callCH {hh : List (Nat × Nat × Nat × Nat)} (hd : decode md.2.1 pc = .ok (.invokestatic idx, 3)) (M : kMSH md.1.cls idx mdY hh n) (hn : As.length = n) (hst : (st.map fun v => v.category).sum ≤ 8) (hdd : d' + 1 ≤ d)
    (hC : CtH X mdY hh d' SK false μ 1 6 As (poR 1 SK (μ2, 0, x))) (kk : KJ X md d false po SK cr sr (pc + 3) l (.int (iI x) :: st) μ2) {st1 : List Value} (hs1 : st1 = As.reverse ++ st) : KJ X md d false po SK (cr + 1) (sr + 6) pc l st1 μ := by
  refine K_callSH (As := As) (cr := cr) (sr := sr) (mcY := 1) (msY := 6) hd M hn hst hdd hC ?_ (fun e sk' μ' h => ?_) hs1
  · intro v sk' μ' h
    obtain ⟨h1, -, h3, h4⟩ := h
    rw [h1, h3, h4]
    exact kk
  · exact absurd h.2.1 (by intro w; cases w)
end KC
def lc_setMaximum (w1 : Int) (w2 : Int) (μ : Mu) : Option Mu := lcase (hp 0 [2, 1, 4, 0] (f_X10_setMaximum w1 w2 μ)) (fun μ => f_X11_setMaximum w1 w2 μ) cmpI
theorem mh_setMaximum : kMSH RL 136 mL_setMaximum hh_setMaximum 4 := ⟨inT2 161 (by decide +kernel) rfl, inT2 162 (by decide +kernel) rfl, inT2 163 (by decide +kernel) rfl, inT1 0 (by decide +kernel) rfl, by decide +kernel, by decide +kernel⟩
set_option maxRecDepth 100000 in
theorem k_setMaximum (X : kX) (po : kPo) (hL : X.2.2.2.2.1 < 2 ^ 31) (i : Int) (hi : 0 ≤ i ∧ i + 5 ≤ X.2.2.2.2.1) (n : Nat) (μ μ' : Mu) (h : lc_setMaximum (sw X (i + 1).toNat) (sw X (i + 2).toNat) μ = some μ') (kk : KJ X mL_law 9 false po SK n (6 * n) 2483 [(4, .int (iI i)), (0, .ref X.2.2.2.1), (1, .ref (X.1 + 0)), (2, .ref (X.1 + 248)), (3, .ref (X.1 + 260))] [] μ') : KJ X mL_law 9 false po SK (n + 1) (6 * n + 6) 200 [(4, .int (iI i)), (0, .ref X.2.2.2.1), (1, .ref (X.1 + 0)), (2, .ref (X.1 + 248)), (3, .ref (X.1 + 260))] [] μ := by
  generalize hw1 : sw X (i + 1).toNat = w1 at h
  generalize hw2 : sw X (i + 2).toNat = w2 at h
  unfold lc_setMaximum at h
  obtain ⟨μ1, k, b, hf, hg, ht, gk, hcmp⟩ := lcase_of (by exact Or.inl rfl) h
  refine K_aload_n (md := mL_law) (pc := 200) 2 (kTab_at (pc := 200) tL_law_1_ok 0 rfl) rfl ?_
  refine K_aload_n (md := mL_law) (pc := 201) 1 (kTab_at (pc := 201) tL_law_1_ok 1 rfl) rfl ?_
  refine K_iload (md := mL_law) (pc := 202) 0 (kTab_at (pc := 202) tL_law_1_ok 2 rfl) rfl ?_
  refine K_iconst (md := mL_law) (pc := 204) (x := 1) (kTab_at (pc := 204) tL_law_1_ok 3 rfl) rfl ?_
  refine K_iadd (md := mL_law) (pc := 205) (kTab_at (pc := 205) tL_law_1_ok 4 rfl) ?_
  refine K_sld (md := mL_law) (pc := 206) hL (by omega) (kTab_at (pc := 206) tL_law_1_ok 5 rfl) ?_
  rw [hw1]
  refine K_aload_n (md := mL_law) (pc := 207) 1 (kTab_at (pc := 207) tL_law_1_ok 6 rfl) rfl ?_
  refine K_iload (md := mL_law) (pc := 208) 0 (kTab_at (pc := 208) tL_law_1_ok 7 rfl) rfl ?_
  refine K_iconst (md := mL_law) (pc := 210) (x := 2) (kTab_at (pc := 210) tL_law_1_ok 8 rfl) rfl ?_
  refine K_iadd (md := mL_law) (pc := 211) (kTab_at (pc := 211) tL_law_1_ok 9 rfl) ?_
  refine K_sld (md := mL_law) (pc := 212) hL (by omega) (kTab_at (pc := 212) tL_law_1_ok 10 rfl) ?_
  rw [hw2]
  refine K_aload_n (md := mL_law) (pc := 213) 4 (kTab_at (pc := 213) tL_law_1_ok 11 rfl) rfl ?_
  refine K_callCH (md := mL_law) (pc := 214) (mdY := mL_setMaximum) (d' := 7) (cr := n) (sr := 6 * n) (μ2 := μ1) (x := k) (st := []) (kTab_at (pc := 214) tL_law_1_ok 12 rfl) mh_setMaximum rfl (Nat.le_of_ble_eq_true rfl) (by decide) (h_setMaximum X w1 w2 μ (μ1, 0, k) hf) ?_ rfl
  show KJ X mL_law 9 false po SK n (6 * n) 217 [(4, .int (iI i)), (0, .ref X.2.2.2.1), (1, .ref (X.1 + 0)), (2, .ref (X.1 + 248)), (3, .ref (X.1 + 260))] [.int (iI k)] μ1
  refine K_istore (md := mL_law) (pc := 217) (l' := (5, .int (iI k)) :: [(4, .int (iI i)), (0, .ref X.2.2.2.1), (1, .ref (X.1 + 0)), (2, .ref (X.1 + 248)), (3, .ref (X.1 + 260))]) (kTab_at (pc := 217) tL_law_1_ok 13 rfl) (Nat.le_of_ble_eq_true rfl) rfl ?_
  refine K_aload_n (md := mL_law) (pc := 219) 4 (kTab_at (pc := 219) tL_law_1_ok 14 rfl) rfl ?_
  refine K_aload_n (md := mL_law) (pc := 220) 2 (kTab_at (pc := 220) tL_law_1_ok 15 rfl) rfl ?_
  refine K_iload (md := mL_law) (pc := 221) 1 (kTab_at (pc := 221) tL_law_1_ok 16 rfl) rfl ?_
  refine K_iconst (md := mL_law) (pc := 223) (x := 1) (kTab_at (pc := 223) tL_law_1_ok 17 rfl) rfl ?_
  refine K_iadd (md := mL_law) (pc := 224) (kTab_at (pc := 224) tL_law_1_ok 18 rfl) ?_
  refine K_sld (md := mL_law) (pc := 225) hL (by omega) (kTab_at (pc := 225) tL_law_1_ok 19 rfl) ?_
  rw [hw1]
  refine K_aload_n (md := mL_law) (pc := 226) 2 (kTab_at (pc := 226) tL_law_1_ok 20 rfl) rfl ?_
  refine K_iload (md := mL_law) (pc := 227) 1 (kTab_at (pc := 227) tL_law_1_ok 21 rfl) rfl ?_
  refine K_iconst (md := mL_law) (pc := 229) (x := 2) (kTab_at (pc := 229) tL_law_1_ok 22 rfl) rfl ?_
  refine K_iadd (md := mL_law) (pc := 230) (kTab_at (pc := 230) tL_law_1_ok 23 rfl) ?_
  refine K_sld (md := mL_law) (pc := 231) hL (by omega) (kTab_at (pc := 231) tL_law_1_ok 24 rfl) ?_
  rw [hw2]
  refine K_callC (md := mL_law) (pc := 232) (d' := 2) (rkY := 1) (μ2 := μ') (x := b) (st := []) (b := 248) (kTab_at (pc := 232) tL_law_1_ok 25 rfl) mv_L_141 sk_248 rfl (Nat.le_of_ble_eq_true rfl) (by decide) rfl (c_X11_setMaximum X w1 w2 μ1) hg ?_ rfl
  show KJ X mL_law 9 false po SK n (6 * n) 235 ((5, .int (iI k)) :: [(4, .int (iI i)), (0, .ref X.2.2.2.1), (1, .ref (X.1 + 0)), (2, .ref (X.1 + 248)), (3, .ref (X.1 + 260))]) [.int (iI b)] μ'
  refine K_istore (md := mL_law) (pc := 235) (l' := (6, .int (iI b)) :: (5, .int (iI k)) :: [(4, .int (iI i)), (0, .ref X.2.2.2.1), (1, .ref (X.1 + 0)), (2, .ref (X.1 + 248)), (3, .ref (X.1 + 260))]) (kTab_at (pc := 235) tL_law_1_ok 26 rfl) (Nat.le_of_ble_eq_true rfl) rfl ?_
  refine K_aload_n (md := mL_law) (pc := 237) 5 (kTab_at (pc := 237) tL_law_1_ok 27 rfl) rfl ?_
  refine K_callC (md := mL_law) (pc := 238) (d' := 0) (rkY := 1) (μ2 := μ') (x := μ' 248 0) (st := []) (b := 248) (kTab_at (pc := 238) tL_law_1_ok 28 rfl) mv_L_142 sk_248 rfl (Nat.le_of_ble_eq_true rfl) (by decide) rfl (c_X11_thrown X μ') rfl ?_ rfl
  rw [ht]
  show KJ X mL_law 9 false po SK n (6 * n) 241 ((6, .int (iI b)) :: (5, .int (iI k)) :: [(4, .int (iI i)), (0, .ref X.2.2.2.1), (1, .ref (X.1 + 0)), (2, .ref (X.1 + 248)), (3, .ref (X.1 + 260))]) [.int (iI k)] μ'
  refine K_iload (md := mL_law) (pc := 241) 1 (kTab_at (pc := 241) tL_law_1_ok 29 rfl) rfl ?_
  refine K_icmp_eq (md := mL_law) (pc := 243) (r := (μ', 0, 0)) (A := some (μ', 0, 0)) (B := none) (tgt := 248) (kTab_at (pc := 243) tL_law_1_ok 30 rfl) rfl (ieq_t gk) (fun _ => ?_) (fun h => nomatch h)
  refine K_iload (md := mL_law) (pc := 248) 1 (kTab_at (pc := 248) tL_law_1_ok 33 rfl) rfl ?_
  by_cases hk : k = 0
  · refine K_if_ne (md := mL_law) (pc := 250) (r := (μ', 0, 0)) (A := none) (B := some (μ', 0, 0)) (tgt := 265) (kTab_at (pc := 250) tL_law_1_ok 34 rfl) rfl (ieq_y gk hk) (fun h => nomatch h) (fun _ => ?_)
    have hc := hcmp hk
    refine K_aload_n (md := mL_law) (pc := 253) 6 (kTab_at (pc := 253) tL_law_1_ok 35 rfl) rfl ?_
    refine K_iconst (md := mL_law) (pc := 254) (x := 0) (kTab_at (pc := 254) tL_law_1_ok 36 rfl) rfl ?_
    refine K_lald (md := mL_law) (pc := 255) (r := (μ', 0, 0)) (k0 := fun _ => some (μ', 0, 0)) (kTab_at (pc := 255) tL_law_1_ok 37 rfl) sk_260 (by decide) rd_260 (fun _ => ?_)
    refine K_iload (md := mL_law) (pc := 256) 0 (kTab_at (pc := 256) tL_law_1_ok 38 rfl) rfl ?_
    refine K_i2l (md := mL_law) (pc := 258) (r := (μ', 0, 0)) (k0 := some (μ', 0, 0)) (kTab_at (pc := 258) tL_law_1_ok 39 rfl) (cmpI_of hc).1 (fun _ => ?_)
    refine K_lcmp_eq (md := mL_law) (pc := 259) (r := (μ', 0, 0)) (A := some (μ', 0, 0)) (B := none) (tgt := 265) (kTab_at (pc := 259) tL_law_1_ok 40 rfl) (kTab_at (pc := 260) tL_law_1_ok 41 rfl) rfl (cmpI_of hc).2 (fun _ => ?_) (fun h => nomatch h)
    refine K_goto (md := mL_law) (pc := 265) (tgt := 2483) (kTab_at (pc := 265) tL_law_1_ok 44 rfl) rfl ?_
    exact KJ_sub (fun q hq => List.mem_cons_of_mem _ (List.mem_cons_of_mem _ hq)) kk
  · refine K_if_ne (md := mL_law) (pc := 250) (r := (μ', 0, 0)) (A := some (μ', 0, 0)) (B := none) (tgt := 265) (kTab_at (pc := 250) tL_law_1_ok 34 rfl) rfl (ieq_n gk hk) (fun _ => ?_) (fun h => nomatch h)
    refine K_goto (md := mL_law) (pc := 265) (tgt := 2483) (kTab_at (pc := 265) tL_law_1_ok 44 rfl) rfl ?_
    exact KJ_sub (fun q hq => List.mem_cons_of_mem _ (List.mem_cons_of_mem _ hq)) kk
def lc_set (w1 : Int) (w2 : Int) (μ : Mu) : Option Mu := lcase (hp 0 [2, 1, 4] (f_X10_set w1 w2 μ)) (fun μ => f_X11_set w1 w2 μ) cmpI
theorem mh_set : kMSH RL 145 mL_set hh_set 4 := ⟨inT3 114 (by decide +kernel) rfl, inT3 115 (by decide +kernel) rfl, inT3 116 (by decide +kernel) rfl, inT1 0 (by decide +kernel) rfl, by decide +kernel, by decide +kernel⟩
set_option maxRecDepth 100000 in
theorem k_set (X : kX) (po : kPo) (hL : X.2.2.2.2.1 < 2 ^ 31) (i : Int) (hi : 0 ≤ i ∧ i + 5 ≤ X.2.2.2.2.1) (n : Nat) (μ μ' : Mu) (h : lc_set (sw X (i + 1).toNat) (sw X (i + 2).toNat) μ = some μ') (kk : KJ X mL_law 9 false po SK n (6 * n) 2483 [(4, .int (iI i)), (0, .ref X.2.2.2.1), (1, .ref (X.1 + 0)), (2, .ref (X.1 + 248)), (3, .ref (X.1 + 260))] [] μ') : KJ X mL_law 9 false po SK (n + 1) (6 * n + 6) 268 [(4, .int (iI i)), (0, .ref X.2.2.2.1), (1, .ref (X.1 + 0)), (2, .ref (X.1 + 248)), (3, .ref (X.1 + 260))] [] μ := by
  generalize hw1 : sw X (i + 1).toNat = w1 at h
  generalize hw2 : sw X (i + 2).toNat = w2 at h
  unfold lc_set at h
  obtain ⟨μ1, k, b, hf, hg, ht, gk, hcmp⟩ := lcase_of (by exact Or.inl rfl) h
  refine K_aload_n (md := mL_law) (pc := 268) 2 (kTab_at (pc := 268) tL_law_2_ok 0 rfl) rfl ?_
  refine K_aload_n (md := mL_law) (pc := 269) 1 (kTab_at (pc := 269) tL_law_2_ok 1 rfl) rfl ?_
  refine K_iload (md := mL_law) (pc := 270) 0 (kTab_at (pc := 270) tL_law_2_ok 2 rfl) rfl ?_
  refine K_iconst (md := mL_law) (pc := 272) (x := 1) (kTab_at (pc := 272) tL_law_2_ok 3 rfl) rfl ?_
  refine K_iadd (md := mL_law) (pc := 273) (kTab_at (pc := 273) tL_law_2_ok 4 rfl) ?_
  refine K_sld (md := mL_law) (pc := 274) hL (by omega) (kTab_at (pc := 274) tL_law_2_ok 5 rfl) ?_
  rw [hw1]
  refine K_aload_n (md := mL_law) (pc := 275) 1 (kTab_at (pc := 275) tL_law_2_ok 6 rfl) rfl ?_
  refine K_iload (md := mL_law) (pc := 276) 0 (kTab_at (pc := 276) tL_law_2_ok 7 rfl) rfl ?_
  refine K_iconst (md := mL_law) (pc := 278) (x := 2) (kTab_at (pc := 278) tL_law_2_ok 8 rfl) rfl ?_
  refine K_iadd (md := mL_law) (pc := 279) (kTab_at (pc := 279) tL_law_2_ok 9 rfl) ?_
  refine K_sld (md := mL_law) (pc := 280) hL (by omega) (kTab_at (pc := 280) tL_law_2_ok 10 rfl) ?_
  rw [hw2]
  refine K_aload_n (md := mL_law) (pc := 281) 4 (kTab_at (pc := 281) tL_law_2_ok 11 rfl) rfl ?_
  refine K_callCH (md := mL_law) (pc := 282) (mdY := mL_set) (d' := 7) (cr := n) (sr := 6 * n) (μ2 := μ1) (x := k) (st := []) (kTab_at (pc := 282) tL_law_2_ok 12 rfl) mh_set rfl (Nat.le_of_ble_eq_true rfl) (by decide) (h_set X w1 w2 μ (μ1, 0, k) hf) ?_ rfl
  show KJ X mL_law 9 false po SK n (6 * n) 285 [(4, .int (iI i)), (0, .ref X.2.2.2.1), (1, .ref (X.1 + 0)), (2, .ref (X.1 + 248)), (3, .ref (X.1 + 260))] [.int (iI k)] μ1
  refine K_istore (md := mL_law) (pc := 285) (l' := (5, .int (iI k)) :: [(4, .int (iI i)), (0, .ref X.2.2.2.1), (1, .ref (X.1 + 0)), (2, .ref (X.1 + 248)), (3, .ref (X.1 + 260))]) (kTab_at (pc := 285) tL_law_2_ok 13 rfl) (Nat.le_of_ble_eq_true rfl) rfl ?_
  refine K_aload_n (md := mL_law) (pc := 287) 4 (kTab_at (pc := 287) tL_law_2_ok 14 rfl) rfl ?_
  refine K_aload_n (md := mL_law) (pc := 288) 2 (kTab_at (pc := 288) tL_law_2_ok 15 rfl) rfl ?_
  refine K_iload (md := mL_law) (pc := 289) 1 (kTab_at (pc := 289) tL_law_2_ok 16 rfl) rfl ?_
  refine K_iconst (md := mL_law) (pc := 291) (x := 1) (kTab_at (pc := 291) tL_law_2_ok 17 rfl) rfl ?_
  refine K_iadd (md := mL_law) (pc := 292) (kTab_at (pc := 292) tL_law_2_ok 18 rfl) ?_
  refine K_sld (md := mL_law) (pc := 293) hL (by omega) (kTab_at (pc := 293) tL_law_2_ok 19 rfl) ?_
  rw [hw1]
  refine K_aload_n (md := mL_law) (pc := 294) 2 (kTab_at (pc := 294) tL_law_2_ok 20 rfl) rfl ?_
  refine K_iload (md := mL_law) (pc := 295) 1 (kTab_at (pc := 295) tL_law_2_ok 21 rfl) rfl ?_
  refine K_iconst (md := mL_law) (pc := 297) (x := 2) (kTab_at (pc := 297) tL_law_2_ok 22 rfl) rfl ?_
  refine K_iadd (md := mL_law) (pc := 298) (kTab_at (pc := 298) tL_law_2_ok 23 rfl) ?_
  refine K_sld (md := mL_law) (pc := 299) hL (by omega) (kTab_at (pc := 299) tL_law_2_ok 24 rfl) ?_
  rw [hw2]
  refine K_callC (md := mL_law) (pc := 300) (d' := 2) (rkY := 1) (μ2 := μ') (x := b) (st := []) (b := 248) (kTab_at (pc := 300) tL_law_2_ok 25 rfl) mv_L_147 sk_248 rfl (Nat.le_of_ble_eq_true rfl) (by decide) rfl (c_X11_set X w1 w2 μ1) hg ?_ rfl
  show KJ X mL_law 9 false po SK n (6 * n) 303 ((5, .int (iI k)) :: [(4, .int (iI i)), (0, .ref X.2.2.2.1), (1, .ref (X.1 + 0)), (2, .ref (X.1 + 248)), (3, .ref (X.1 + 260))]) [.int (iI b)] μ'
  refine K_istore (md := mL_law) (pc := 303) (l' := (6, .int (iI b)) :: (5, .int (iI k)) :: [(4, .int (iI i)), (0, .ref X.2.2.2.1), (1, .ref (X.1 + 0)), (2, .ref (X.1 + 248)), (3, .ref (X.1 + 260))]) (kTab_at (pc := 303) tL_law_2_ok 26 rfl) (Nat.le_of_ble_eq_true rfl) rfl ?_
  refine K_aload_n (md := mL_law) (pc := 305) 5 (kTab_at (pc := 305) tL_law_2_ok 27 rfl) rfl ?_
  refine K_callC (md := mL_law) (pc := 306) (d' := 0) (rkY := 1) (μ2 := μ') (x := μ' 248 0) (st := []) (b := 248) (kTab_at (pc := 306) tL_law_2_ok 28 rfl) mv_L_142 sk_248 rfl (Nat.le_of_ble_eq_true rfl) (by decide) rfl (c_X11_thrown X μ') rfl ?_ rfl
  rw [ht]
  show KJ X mL_law 9 false po SK n (6 * n) 309 ((6, .int (iI b)) :: (5, .int (iI k)) :: [(4, .int (iI i)), (0, .ref X.2.2.2.1), (1, .ref (X.1 + 0)), (2, .ref (X.1 + 248)), (3, .ref (X.1 + 260))]) [.int (iI k)] μ'
  refine K_iload (md := mL_law) (pc := 309) 1 (kTab_at (pc := 309) tL_law_2_ok 29 rfl) rfl ?_
  refine K_icmp_eq (md := mL_law) (pc := 311) (r := (μ', 0, 0)) (A := some (μ', 0, 0)) (B := none) (tgt := 316) (kTab_at (pc := 311) tL_law_2_ok 30 rfl) rfl (ieq_t gk) (fun _ => ?_) (fun h => nomatch h)
  refine K_iload (md := mL_law) (pc := 316) 1 (kTab_at (pc := 316) tL_law_2_ok 33 rfl) rfl ?_
  by_cases hk : k = 0
  · refine K_if_ne (md := mL_law) (pc := 318) (r := (μ', 0, 0)) (A := none) (B := some (μ', 0, 0)) (tgt := 333) (kTab_at (pc := 318) tL_law_2_ok 34 rfl) rfl (ieq_y gk hk) (fun h => nomatch h) (fun _ => ?_)
    have hc := hcmp hk
    refine K_aload_n (md := mL_law) (pc := 321) 6 (kTab_at (pc := 321) tL_law_2_ok 35 rfl) rfl ?_
    refine K_iconst (md := mL_law) (pc := 322) (x := 0) (kTab_at (pc := 322) tL_law_2_ok 36 rfl) rfl ?_
    refine K_lald (md := mL_law) (pc := 323) (r := (μ', 0, 0)) (k0 := fun _ => some (μ', 0, 0)) (kTab_at (pc := 323) tL_law_2_ok 37 rfl) sk_260 (by decide) rd_260 (fun _ => ?_)
    refine K_iload (md := mL_law) (pc := 324) 0 (kTab_at (pc := 324) tL_law_2_ok 38 rfl) rfl ?_
    refine K_i2l (md := mL_law) (pc := 326) (r := (μ', 0, 0)) (k0 := some (μ', 0, 0)) (kTab_at (pc := 326) tL_law_2_ok 39 rfl) (cmpI_of hc).1 (fun _ => ?_)
    refine K_lcmp_eq (md := mL_law) (pc := 327) (r := (μ', 0, 0)) (A := some (μ', 0, 0)) (B := none) (tgt := 333) (kTab_at (pc := 327) tL_law_2_ok 40 rfl) (kTab_at (pc := 328) tL_law_2_ok 41 rfl) rfl (cmpI_of hc).2 (fun _ => ?_) (fun h => nomatch h)
    refine K_goto (md := mL_law) (pc := 333) (tgt := 2483) (kTab_at (pc := 333) tL_law_2_ok 44 rfl) rfl ?_
    exact KJ_sub (fun q hq => List.mem_cons_of_mem _ (List.mem_cons_of_mem _ hq)) kk
  · refine K_if_ne (md := mL_law) (pc := 318) (r := (μ', 0, 0)) (A := some (μ', 0, 0)) (B := none) (tgt := 333) (kTab_at (pc := 318) tL_law_2_ok 34 rfl) rfl (ieq_n gk hk) (fun _ => ?_) (fun h => nomatch h)
    refine K_goto (md := mL_law) (pc := 333) (tgt := 2483) (kTab_at (pc := 333) tL_law_2_ok 44 rfl) rfl ?_
    exact KJ_sub (fun q hq => List.mem_cons_of_mem _ (List.mem_cons_of_mem _ hq)) kk
def lc_addSeed (w1 : Int) (w2 : Int) (μ : Mu) : Option Mu := lcase (hp 0 [2, 1, 4, 0] (f_X10_addSeed w1 w2 μ)) (fun μ => f_X11_addSeed w1 w2 μ) cmpI
theorem mh_addSeed : kMSH RL 148 mL_addSeed hh_addSeed 4 := ⟨inT3 126 (by decide +kernel) rfl, inT3 127 (by decide +kernel) rfl, inT3 128 (by decide +kernel) rfl, inT1 0 (by decide +kernel) rfl, by decide +kernel, by decide +kernel⟩
set_option maxRecDepth 100000 in
theorem k_addSeed (X : kX) (po : kPo) (hL : X.2.2.2.2.1 < 2 ^ 31) (i : Int) (hi : 0 ≤ i ∧ i + 5 ≤ X.2.2.2.2.1) (n : Nat) (μ μ' : Mu) (h : lc_addSeed (sw X (i + 1).toNat) (sw X (i + 2).toNat) μ = some μ') (kk : KJ X mL_law 9 false po SK n (6 * n) 2483 [(4, .int (iI i)), (0, .ref X.2.2.2.1), (1, .ref (X.1 + 0)), (2, .ref (X.1 + 248)), (3, .ref (X.1 + 260))] [] μ') : KJ X mL_law 9 false po SK (n + 1) (6 * n + 6) 336 [(4, .int (iI i)), (0, .ref X.2.2.2.1), (1, .ref (X.1 + 0)), (2, .ref (X.1 + 248)), (3, .ref (X.1 + 260))] [] μ := by
  generalize hw1 : sw X (i + 1).toNat = w1 at h
  generalize hw2 : sw X (i + 2).toNat = w2 at h
  unfold lc_addSeed at h
  obtain ⟨μ1, k, b, hf, hg, ht, gk, hcmp⟩ := lcase_of (by exact Or.inl rfl) h
  refine K_aload_n (md := mL_law) (pc := 336) 2 (kTab_at (pc := 336) tL_law_3_ok 0 rfl) rfl ?_
  refine K_aload_n (md := mL_law) (pc := 337) 1 (kTab_at (pc := 337) tL_law_3_ok 1 rfl) rfl ?_
  refine K_iload (md := mL_law) (pc := 338) 0 (kTab_at (pc := 338) tL_law_3_ok 2 rfl) rfl ?_
  refine K_iconst (md := mL_law) (pc := 340) (x := 1) (kTab_at (pc := 340) tL_law_3_ok 3 rfl) rfl ?_
  refine K_iadd (md := mL_law) (pc := 341) (kTab_at (pc := 341) tL_law_3_ok 4 rfl) ?_
  refine K_sld (md := mL_law) (pc := 342) hL (by omega) (kTab_at (pc := 342) tL_law_3_ok 5 rfl) ?_
  rw [hw1]
  refine K_aload_n (md := mL_law) (pc := 343) 1 (kTab_at (pc := 343) tL_law_3_ok 6 rfl) rfl ?_
  refine K_iload (md := mL_law) (pc := 344) 0 (kTab_at (pc := 344) tL_law_3_ok 7 rfl) rfl ?_
  refine K_iconst (md := mL_law) (pc := 346) (x := 2) (kTab_at (pc := 346) tL_law_3_ok 8 rfl) rfl ?_
  refine K_iadd (md := mL_law) (pc := 347) (kTab_at (pc := 347) tL_law_3_ok 9 rfl) ?_
  refine K_sld (md := mL_law) (pc := 348) hL (by omega) (kTab_at (pc := 348) tL_law_3_ok 10 rfl) ?_
  rw [hw2]
  refine K_aload_n (md := mL_law) (pc := 349) 4 (kTab_at (pc := 349) tL_law_3_ok 11 rfl) rfl ?_
  refine K_callCH (md := mL_law) (pc := 350) (mdY := mL_addSeed) (d' := 7) (cr := n) (sr := 6 * n) (μ2 := μ1) (x := k) (st := []) (kTab_at (pc := 350) tL_law_3_ok 12 rfl) mh_addSeed rfl (Nat.le_of_ble_eq_true rfl) (by decide) (h_addSeed X w1 w2 μ (μ1, 0, k) hf) ?_ rfl
  show KJ X mL_law 9 false po SK n (6 * n) 353 [(4, .int (iI i)), (0, .ref X.2.2.2.1), (1, .ref (X.1 + 0)), (2, .ref (X.1 + 248)), (3, .ref (X.1 + 260))] [.int (iI k)] μ1
  refine K_istore (md := mL_law) (pc := 353) (l' := (5, .int (iI k)) :: [(4, .int (iI i)), (0, .ref X.2.2.2.1), (1, .ref (X.1 + 0)), (2, .ref (X.1 + 248)), (3, .ref (X.1 + 260))]) (kTab_at (pc := 353) tL_law_3_ok 13 rfl) (Nat.le_of_ble_eq_true rfl) rfl ?_
  refine K_aload_n (md := mL_law) (pc := 355) 4 (kTab_at (pc := 355) tL_law_3_ok 14 rfl) rfl ?_
  refine K_aload_n (md := mL_law) (pc := 356) 2 (kTab_at (pc := 356) tL_law_3_ok 15 rfl) rfl ?_
  refine K_iload (md := mL_law) (pc := 357) 1 (kTab_at (pc := 357) tL_law_3_ok 16 rfl) rfl ?_
  refine K_iconst (md := mL_law) (pc := 359) (x := 1) (kTab_at (pc := 359) tL_law_3_ok 17 rfl) rfl ?_
  refine K_iadd (md := mL_law) (pc := 360) (kTab_at (pc := 360) tL_law_3_ok 18 rfl) ?_
  refine K_sld (md := mL_law) (pc := 361) hL (by omega) (kTab_at (pc := 361) tL_law_3_ok 19 rfl) ?_
  rw [hw1]
  refine K_aload_n (md := mL_law) (pc := 362) 2 (kTab_at (pc := 362) tL_law_3_ok 20 rfl) rfl ?_
  refine K_iload (md := mL_law) (pc := 363) 1 (kTab_at (pc := 363) tL_law_3_ok 21 rfl) rfl ?_
  refine K_iconst (md := mL_law) (pc := 365) (x := 2) (kTab_at (pc := 365) tL_law_3_ok 22 rfl) rfl ?_
  refine K_iadd (md := mL_law) (pc := 366) (kTab_at (pc := 366) tL_law_3_ok 23 rfl) ?_
  refine K_sld (md := mL_law) (pc := 367) hL (by omega) (kTab_at (pc := 367) tL_law_3_ok 24 rfl) ?_
  rw [hw2]
  refine K_callC (md := mL_law) (pc := 368) (d' := 2) (rkY := 1) (μ2 := μ') (x := b) (st := []) (b := 248) (kTab_at (pc := 368) tL_law_3_ok 25 rfl) mv_L_150 sk_248 rfl (Nat.le_of_ble_eq_true rfl) (by decide) rfl (c_X11_addSeed X w1 w2 μ1) hg ?_ rfl
  show KJ X mL_law 9 false po SK n (6 * n) 371 ((5, .int (iI k)) :: [(4, .int (iI i)), (0, .ref X.2.2.2.1), (1, .ref (X.1 + 0)), (2, .ref (X.1 + 248)), (3, .ref (X.1 + 260))]) [.int (iI b)] μ'
  refine K_istore (md := mL_law) (pc := 371) (l' := (6, .int (iI b)) :: (5, .int (iI k)) :: [(4, .int (iI i)), (0, .ref X.2.2.2.1), (1, .ref (X.1 + 0)), (2, .ref (X.1 + 248)), (3, .ref (X.1 + 260))]) (kTab_at (pc := 371) tL_law_3_ok 26 rfl) (Nat.le_of_ble_eq_true rfl) rfl ?_
  refine K_aload_n (md := mL_law) (pc := 373) 5 (kTab_at (pc := 373) tL_law_3_ok 27 rfl) rfl ?_
  refine K_callC (md := mL_law) (pc := 374) (d' := 0) (rkY := 1) (μ2 := μ') (x := μ' 248 0) (st := []) (b := 248) (kTab_at (pc := 374) tL_law_3_ok 28 rfl) mv_L_142 sk_248 rfl (Nat.le_of_ble_eq_true rfl) (by decide) rfl (c_X11_thrown X μ') rfl ?_ rfl
  rw [ht]
  show KJ X mL_law 9 false po SK n (6 * n) 377 ((6, .int (iI b)) :: (5, .int (iI k)) :: [(4, .int (iI i)), (0, .ref X.2.2.2.1), (1, .ref (X.1 + 0)), (2, .ref (X.1 + 248)), (3, .ref (X.1 + 260))]) [.int (iI k)] μ'
  refine K_iload (md := mL_law) (pc := 377) 1 (kTab_at (pc := 377) tL_law_3_ok 29 rfl) rfl ?_
  refine K_icmp_eq (md := mL_law) (pc := 379) (r := (μ', 0, 0)) (A := some (μ', 0, 0)) (B := none) (tgt := 384) (kTab_at (pc := 379) tL_law_3_ok 30 rfl) rfl (ieq_t gk) (fun _ => ?_) (fun h => nomatch h)
  refine K_iload (md := mL_law) (pc := 384) 1 (kTab_at (pc := 384) tL_law_3_ok 33 rfl) rfl ?_
  by_cases hk : k = 0
  · refine K_if_ne (md := mL_law) (pc := 386) (r := (μ', 0, 0)) (A := none) (B := some (μ', 0, 0)) (tgt := 401) (kTab_at (pc := 386) tL_law_3_ok 34 rfl) rfl (ieq_y gk hk) (fun h => nomatch h) (fun _ => ?_)
    have hc := hcmp hk
    refine K_aload_n (md := mL_law) (pc := 389) 6 (kTab_at (pc := 389) tL_law_3_ok 35 rfl) rfl ?_
    refine K_iconst (md := mL_law) (pc := 390) (x := 0) (kTab_at (pc := 390) tL_law_3_ok 36 rfl) rfl ?_
    refine K_lald (md := mL_law) (pc := 391) (r := (μ', 0, 0)) (k0 := fun _ => some (μ', 0, 0)) (kTab_at (pc := 391) tL_law_3_ok 37 rfl) sk_260 (by decide) rd_260 (fun _ => ?_)
    refine K_iload (md := mL_law) (pc := 392) 0 (kTab_at (pc := 392) tL_law_3_ok 38 rfl) rfl ?_
    refine K_i2l (md := mL_law) (pc := 394) (r := (μ', 0, 0)) (k0 := some (μ', 0, 0)) (kTab_at (pc := 394) tL_law_3_ok 39 rfl) (cmpI_of hc).1 (fun _ => ?_)
    refine K_lcmp_eq (md := mL_law) (pc := 395) (r := (μ', 0, 0)) (A := some (μ', 0, 0)) (B := none) (tgt := 401) (kTab_at (pc := 395) tL_law_3_ok 40 rfl) (kTab_at (pc := 396) tL_law_3_ok 41 rfl) rfl (cmpI_of hc).2 (fun _ => ?_) (fun h => nomatch h)
    refine K_goto (md := mL_law) (pc := 401) (tgt := 2483) (kTab_at (pc := 401) tL_law_3_ok 44 rfl) rfl ?_
    exact KJ_sub (fun q hq => List.mem_cons_of_mem _ (List.mem_cons_of_mem _ hq)) kk
  · refine K_if_ne (md := mL_law) (pc := 386) (r := (μ', 0, 0)) (A := some (μ', 0, 0)) (B := none) (tgt := 401) (kTab_at (pc := 386) tL_law_3_ok 34 rfl) rfl (ieq_n gk hk) (fun _ => ?_) (fun h => nomatch h)
    refine K_goto (md := mL_law) (pc := 401) (tgt := 2483) (kTab_at (pc := 401) tL_law_3_ok 44 rfl) rfl ?_
    exact KJ_sub (fun q hq => List.mem_cons_of_mem _ (List.mem_cons_of_mem _ hq)) kk
def lc_markSeed (w1 : Int) (w2 : Int) (w3 : Int) (w4 : Int) (μ : Mu) : Option Mu := lcase (hp 0 [2, 1, 4, 0] (f_X10_markSeed w1 w2 w3 w4 μ)) (fun μ => f_X11_markSeed w1 w2 w3 w4 μ) cmpI
theorem mh_markSeed : kMSH RL 151 mL_markSeed hh_markSeed 6 := ⟨inT3 138 (by decide +kernel) rfl, inT3 139 (by decide +kernel) rfl, inT3 140 (by decide +kernel) rfl, inT1 0 (by decide +kernel) rfl, by decide +kernel, by decide +kernel⟩
set_option maxRecDepth 100000 in
theorem k_markSeed (X : kX) (po : kPo) (hL : X.2.2.2.2.1 < 2 ^ 31) (i : Int) (hi : 0 ≤ i ∧ i + 5 ≤ X.2.2.2.2.1) (n : Nat) (μ μ' : Mu) (h : lc_markSeed (sw X (i + 1).toNat) (sw X (i + 2).toNat) (sw X (i + 3).toNat) (sw X (i + 4).toNat) μ = some μ') (kk : KJ X mL_law 9 false po SK n (6 * n) 2483 [(4, .int (iI i)), (0, .ref X.2.2.2.1), (1, .ref (X.1 + 0)), (2, .ref (X.1 + 248)), (3, .ref (X.1 + 260))] [] μ') : KJ X mL_law 9 false po SK (n + 1) (6 * n + 6) 404 [(4, .int (iI i)), (0, .ref X.2.2.2.1), (1, .ref (X.1 + 0)), (2, .ref (X.1 + 248)), (3, .ref (X.1 + 260))] [] μ := by
  generalize hw1 : sw X (i + 1).toNat = w1 at h
  generalize hw2 : sw X (i + 2).toNat = w2 at h
  generalize hw3 : sw X (i + 3).toNat = w3 at h
  generalize hw4 : sw X (i + 4).toNat = w4 at h
  unfold lc_markSeed at h
  obtain ⟨μ1, k, b, hf, hg, ht, gk, hcmp⟩ := lcase_of (by exact Or.inl rfl) h
  refine K_aload_n (md := mL_law) (pc := 404) 2 (kTab_at (pc := 404) tL_law_4_ok 0 rfl) rfl ?_
  refine K_aload_n (md := mL_law) (pc := 405) 1 (kTab_at (pc := 405) tL_law_4_ok 1 rfl) rfl ?_
  refine K_iload (md := mL_law) (pc := 406) 0 (kTab_at (pc := 406) tL_law_4_ok 2 rfl) rfl ?_
  refine K_iconst (md := mL_law) (pc := 408) (x := 1) (kTab_at (pc := 408) tL_law_4_ok 3 rfl) rfl ?_
  refine K_iadd (md := mL_law) (pc := 409) (kTab_at (pc := 409) tL_law_4_ok 4 rfl) ?_
  refine K_sld (md := mL_law) (pc := 410) hL (by omega) (kTab_at (pc := 410) tL_law_4_ok 5 rfl) ?_
  rw [hw1]
  refine K_aload_n (md := mL_law) (pc := 411) 1 (kTab_at (pc := 411) tL_law_4_ok 6 rfl) rfl ?_
  refine K_iload (md := mL_law) (pc := 412) 0 (kTab_at (pc := 412) tL_law_4_ok 7 rfl) rfl ?_
  refine K_iconst (md := mL_law) (pc := 414) (x := 2) (kTab_at (pc := 414) tL_law_4_ok 8 rfl) rfl ?_
  refine K_iadd (md := mL_law) (pc := 415) (kTab_at (pc := 415) tL_law_4_ok 9 rfl) ?_
  refine K_sld (md := mL_law) (pc := 416) hL (by omega) (kTab_at (pc := 416) tL_law_4_ok 10 rfl) ?_
  rw [hw2]
  refine K_aload_n (md := mL_law) (pc := 417) 1 (kTab_at (pc := 417) tL_law_4_ok 11 rfl) rfl ?_
  refine K_iload (md := mL_law) (pc := 418) 0 (kTab_at (pc := 418) tL_law_4_ok 12 rfl) rfl ?_
  refine K_iconst (md := mL_law) (pc := 420) (x := 3) (kTab_at (pc := 420) tL_law_4_ok 13 rfl) rfl ?_
  refine K_iadd (md := mL_law) (pc := 421) (kTab_at (pc := 421) tL_law_4_ok 14 rfl) ?_
  refine K_sld (md := mL_law) (pc := 422) hL (by omega) (kTab_at (pc := 422) tL_law_4_ok 15 rfl) ?_
  rw [hw3]
  refine K_aload_n (md := mL_law) (pc := 423) 1 (kTab_at (pc := 423) tL_law_4_ok 16 rfl) rfl ?_
  refine K_iload (md := mL_law) (pc := 424) 0 (kTab_at (pc := 424) tL_law_4_ok 17 rfl) rfl ?_
  refine K_iconst (md := mL_law) (pc := 426) (x := 4) (kTab_at (pc := 426) tL_law_4_ok 18 rfl) rfl ?_
  refine K_iadd (md := mL_law) (pc := 427) (kTab_at (pc := 427) tL_law_4_ok 19 rfl) ?_
  refine K_sld (md := mL_law) (pc := 428) hL (by omega) (kTab_at (pc := 428) tL_law_4_ok 20 rfl) ?_
  rw [hw4]
  refine K_aload_n (md := mL_law) (pc := 429) 4 (kTab_at (pc := 429) tL_law_4_ok 21 rfl) rfl ?_
  refine K_callCH (md := mL_law) (pc := 430) (mdY := mL_markSeed) (d' := 7) (cr := n) (sr := 6 * n) (μ2 := μ1) (x := k) (st := []) (kTab_at (pc := 430) tL_law_4_ok 22 rfl) mh_markSeed rfl (Nat.le_of_ble_eq_true rfl) (by decide) (h_markSeed X w1 w2 w3 w4 μ (μ1, 0, k) hf) ?_ rfl
  show KJ X mL_law 9 false po SK n (6 * n) 433 [(4, .int (iI i)), (0, .ref X.2.2.2.1), (1, .ref (X.1 + 0)), (2, .ref (X.1 + 248)), (3, .ref (X.1 + 260))] [.int (iI k)] μ1
  refine K_istore (md := mL_law) (pc := 433) (l' := (5, .int (iI k)) :: [(4, .int (iI i)), (0, .ref X.2.2.2.1), (1, .ref (X.1 + 0)), (2, .ref (X.1 + 248)), (3, .ref (X.1 + 260))]) (kTab_at (pc := 433) tL_law_4_ok 23 rfl) (Nat.le_of_ble_eq_true rfl) rfl ?_
  refine K_aload_n (md := mL_law) (pc := 435) 4 (kTab_at (pc := 435) tL_law_4_ok 24 rfl) rfl ?_
  refine K_aload_n (md := mL_law) (pc := 436) 2 (kTab_at (pc := 436) tL_law_4_ok 25 rfl) rfl ?_
  refine K_iload (md := mL_law) (pc := 437) 1 (kTab_at (pc := 437) tL_law_4_ok 26 rfl) rfl ?_
  refine K_iconst (md := mL_law) (pc := 439) (x := 1) (kTab_at (pc := 439) tL_law_4_ok 27 rfl) rfl ?_
  refine K_iadd (md := mL_law) (pc := 440) (kTab_at (pc := 440) tL_law_4_ok 28 rfl) ?_
  refine K_sld (md := mL_law) (pc := 441) hL (by omega) (kTab_at (pc := 441) tL_law_4_ok 29 rfl) ?_
  rw [hw1]
  refine K_aload_n (md := mL_law) (pc := 442) 2 (kTab_at (pc := 442) tL_law_4_ok 30 rfl) rfl ?_
  refine K_iload (md := mL_law) (pc := 443) 1 (kTab_at (pc := 443) tL_law_4_ok 31 rfl) rfl ?_
  refine K_iconst (md := mL_law) (pc := 445) (x := 2) (kTab_at (pc := 445) tL_law_4_ok 32 rfl) rfl ?_
  refine K_iadd (md := mL_law) (pc := 446) (kTab_at (pc := 446) tL_law_4_ok 33 rfl) ?_
  refine K_sld (md := mL_law) (pc := 447) hL (by omega) (kTab_at (pc := 447) tL_law_4_ok 34 rfl) ?_
  rw [hw2]
  refine K_aload_n (md := mL_law) (pc := 448) 2 (kTab_at (pc := 448) tL_law_4_ok 35 rfl) rfl ?_
  refine K_iload (md := mL_law) (pc := 449) 1 (kTab_at (pc := 449) tL_law_4_ok 36 rfl) rfl ?_
  refine K_iconst (md := mL_law) (pc := 451) (x := 3) (kTab_at (pc := 451) tL_law_4_ok 37 rfl) rfl ?_
  refine K_iadd (md := mL_law) (pc := 452) (kTab_at (pc := 452) tL_law_4_ok 38 rfl) ?_
  refine K_sld (md := mL_law) (pc := 453) hL (by omega) (kTab_at (pc := 453) tL_law_4_ok 39 rfl) ?_
  rw [hw3]
  refine K_aload_n (md := mL_law) (pc := 454) 2 (kTab_at (pc := 454) tL_law_4_ok 40 rfl) rfl ?_
  refine K_iload (md := mL_law) (pc := 455) 1 (kTab_at (pc := 455) tL_law_4_ok 41 rfl) rfl ?_
  refine K_iconst (md := mL_law) (pc := 457) (x := 4) (kTab_at (pc := 457) tL_law_4_ok 42 rfl) rfl ?_
  refine K_iadd (md := mL_law) (pc := 458) (kTab_at (pc := 458) tL_law_4_ok 43 rfl) ?_
  refine K_sld (md := mL_law) (pc := 459) hL (by omega) (kTab_at (pc := 459) tL_law_4_ok 44 rfl) ?_
  rw [hw4]
  refine K_callC (md := mL_law) (pc := 460) (d' := 2) (rkY := 1) (μ2 := μ') (x := b) (st := []) (b := 248) (kTab_at (pc := 460) tL_law_4_ok 45 rfl) mv_L_154 sk_248 rfl (Nat.le_of_ble_eq_true rfl) (by decide) rfl (c_X11_markSeed X w1 w2 w3 w4 μ1) hg ?_ rfl
  show KJ X mL_law 9 false po SK n (6 * n) 463 ((5, .int (iI k)) :: [(4, .int (iI i)), (0, .ref X.2.2.2.1), (1, .ref (X.1 + 0)), (2, .ref (X.1 + 248)), (3, .ref (X.1 + 260))]) [.int (iI b)] μ'
  refine K_istore (md := mL_law) (pc := 463) (l' := (6, .int (iI b)) :: (5, .int (iI k)) :: [(4, .int (iI i)), (0, .ref X.2.2.2.1), (1, .ref (X.1 + 0)), (2, .ref (X.1 + 248)), (3, .ref (X.1 + 260))]) (kTab_at (pc := 463) tL_law_4_ok 46 rfl) (Nat.le_of_ble_eq_true rfl) rfl ?_
  refine K_aload_n (md := mL_law) (pc := 465) 5 (kTab_at (pc := 465) tL_law_4_ok 47 rfl) rfl ?_
  refine K_callC (md := mL_law) (pc := 466) (d' := 0) (rkY := 1) (μ2 := μ') (x := μ' 248 0) (st := []) (b := 248) (kTab_at (pc := 466) tL_law_4_ok 48 rfl) mv_L_142 sk_248 rfl (Nat.le_of_ble_eq_true rfl) (by decide) rfl (c_X11_thrown X μ') rfl ?_ rfl
  rw [ht]
  show KJ X mL_law 9 false po SK n (6 * n) 469 ((6, .int (iI b)) :: (5, .int (iI k)) :: [(4, .int (iI i)), (0, .ref X.2.2.2.1), (1, .ref (X.1 + 0)), (2, .ref (X.1 + 248)), (3, .ref (X.1 + 260))]) [.int (iI k)] μ'
  refine K_iload (md := mL_law) (pc := 469) 1 (kTab_at (pc := 469) tL_law_4_ok 49 rfl) rfl ?_
  refine K_icmp_eq (md := mL_law) (pc := 471) (r := (μ', 0, 0)) (A := some (μ', 0, 0)) (B := none) (tgt := 476) (kTab_at (pc := 471) tL_law_4_ok 50 rfl) rfl (ieq_t gk) (fun _ => ?_) (fun h => nomatch h)
  refine K_iload (md := mL_law) (pc := 476) 1 (kTab_at (pc := 476) tL_law_4_ok 53 rfl) rfl ?_
  by_cases hk : k = 0
  · refine K_if_ne (md := mL_law) (pc := 478) (r := (μ', 0, 0)) (A := none) (B := some (μ', 0, 0)) (tgt := 493) (kTab_at (pc := 478) tL_law_4_ok 54 rfl) rfl (ieq_y gk hk) (fun h => nomatch h) (fun _ => ?_)
    have hc := hcmp hk
    refine K_aload_n (md := mL_law) (pc := 481) 6 (kTab_at (pc := 481) tL_law_4_ok 55 rfl) rfl ?_
    refine K_iconst (md := mL_law) (pc := 482) (x := 0) (kTab_at (pc := 482) tL_law_4_ok 56 rfl) rfl ?_
    refine K_lald (md := mL_law) (pc := 483) (r := (μ', 0, 0)) (k0 := fun _ => some (μ', 0, 0)) (kTab_at (pc := 483) tL_law_4_ok 57 rfl) sk_260 (by decide) rd_260 (fun _ => ?_)
    refine K_iload (md := mL_law) (pc := 484) 0 (kTab_at (pc := 484) tL_law_4_ok 58 rfl) rfl ?_
    refine K_i2l (md := mL_law) (pc := 486) (r := (μ', 0, 0)) (k0 := some (μ', 0, 0)) (kTab_at (pc := 486) tL_law_4_ok 59 rfl) (cmpI_of hc).1 (fun _ => ?_)
    refine K_lcmp_eq (md := mL_law) (pc := 487) (r := (μ', 0, 0)) (A := some (μ', 0, 0)) (B := none) (tgt := 493) (kTab_at (pc := 487) tL_law_4_ok 60 rfl) (kTab_at (pc := 488) tL_law_4_ok 61 rfl) rfl (cmpI_of hc).2 (fun _ => ?_) (fun h => nomatch h)
    refine K_goto (md := mL_law) (pc := 493) (tgt := 2483) (kTab_at (pc := 493) tL_law_4_ok 64 rfl) rfl ?_
    exact KJ_sub (fun q hq => List.mem_cons_of_mem _ (List.mem_cons_of_mem _ hq)) kk
  · refine K_if_ne (md := mL_law) (pc := 478) (r := (μ', 0, 0)) (A := some (μ', 0, 0)) (B := none) (tgt := 493) (kTab_at (pc := 478) tL_law_4_ok 54 rfl) rfl (ieq_n gk hk) (fun _ => ?_) (fun h => nomatch h)
    refine K_goto (md := mL_law) (pc := 493) (tgt := 2483) (kTab_at (pc := 493) tL_law_4_ok 64 rfl) rfl ?_
    exact KJ_sub (fun q hq => List.mem_cons_of_mem _ (List.mem_cons_of_mem _ hq)) kk
def lc_correction (w1 : Int) (w2 : Int) (μ : Mu) : Option Mu := lcase (hp 0 [2] (f_X10_correction w1 w2 μ)) (fun μ => f_X11_correction w1 w2 μ) cmpI
theorem mh_correction : kMSH RL 155 mL_correction hh_correction 4 := ⟨inT3 163 (by decide +kernel) rfl, inT3 164 (by decide +kernel) rfl, inT3 165 (by decide +kernel) rfl, inT1 0 (by decide +kernel) rfl, by decide +kernel, by decide +kernel⟩
set_option maxRecDepth 100000 in
theorem k_correction (X : kX) (po : kPo) (hL : X.2.2.2.2.1 < 2 ^ 31) (i : Int) (hi : 0 ≤ i ∧ i + 5 ≤ X.2.2.2.2.1) (n : Nat) (μ μ' : Mu) (h : lc_correction (sw X (i + 1).toNat) (sw X (i + 2).toNat) μ = some μ') (kk : KJ X mL_law 9 false po SK n (6 * n) 2483 [(4, .int (iI i)), (0, .ref X.2.2.2.1), (1, .ref (X.1 + 0)), (2, .ref (X.1 + 248)), (3, .ref (X.1 + 260))] [] μ') : KJ X mL_law 9 false po SK (n + 1) (6 * n + 6) 496 [(4, .int (iI i)), (0, .ref X.2.2.2.1), (1, .ref (X.1 + 0)), (2, .ref (X.1 + 248)), (3, .ref (X.1 + 260))] [] μ := by
  generalize hw1 : sw X (i + 1).toNat = w1 at h
  generalize hw2 : sw X (i + 2).toNat = w2 at h
  unfold lc_correction at h
  obtain ⟨μ1, k, b, hf, hg, ht, gk, hcmp⟩ := lcase_of (by exact Or.inl rfl) h
  refine K_aload_n (md := mL_law) (pc := 496) 2 (kTab_at (pc := 496) tL_law_5_ok 0 rfl) rfl ?_
  refine K_aload_n (md := mL_law) (pc := 497) 1 (kTab_at (pc := 497) tL_law_5_ok 1 rfl) rfl ?_
  refine K_iload (md := mL_law) (pc := 498) 0 (kTab_at (pc := 498) tL_law_5_ok 2 rfl) rfl ?_
  refine K_iconst (md := mL_law) (pc := 500) (x := 1) (kTab_at (pc := 500) tL_law_5_ok 3 rfl) rfl ?_
  refine K_iadd (md := mL_law) (pc := 501) (kTab_at (pc := 501) tL_law_5_ok 4 rfl) ?_
  refine K_sld (md := mL_law) (pc := 502) hL (by omega) (kTab_at (pc := 502) tL_law_5_ok 5 rfl) ?_
  rw [hw1]
  refine K_aload_n (md := mL_law) (pc := 503) 1 (kTab_at (pc := 503) tL_law_5_ok 6 rfl) rfl ?_
  refine K_iload (md := mL_law) (pc := 504) 0 (kTab_at (pc := 504) tL_law_5_ok 7 rfl) rfl ?_
  refine K_iconst (md := mL_law) (pc := 506) (x := 2) (kTab_at (pc := 506) tL_law_5_ok 8 rfl) rfl ?_
  refine K_iadd (md := mL_law) (pc := 507) (kTab_at (pc := 507) tL_law_5_ok 9 rfl) ?_
  refine K_sld (md := mL_law) (pc := 508) hL (by omega) (kTab_at (pc := 508) tL_law_5_ok 10 rfl) ?_
  rw [hw2]
  refine K_aload_n (md := mL_law) (pc := 509) 4 (kTab_at (pc := 509) tL_law_5_ok 11 rfl) rfl ?_
  refine K_callCH (md := mL_law) (pc := 510) (mdY := mL_correction) (d' := 7) (cr := n) (sr := 6 * n) (μ2 := μ1) (x := k) (st := []) (kTab_at (pc := 510) tL_law_5_ok 12 rfl) mh_correction rfl (Nat.le_of_ble_eq_true rfl) (by decide) (h_correction X w1 w2 μ (μ1, 0, k) hf) ?_ rfl
  show KJ X mL_law 9 false po SK n (6 * n) 513 [(4, .int (iI i)), (0, .ref X.2.2.2.1), (1, .ref (X.1 + 0)), (2, .ref (X.1 + 248)), (3, .ref (X.1 + 260))] [.int (iI k)] μ1
  refine K_istore (md := mL_law) (pc := 513) (l' := (5, .int (iI k)) :: [(4, .int (iI i)), (0, .ref X.2.2.2.1), (1, .ref (X.1 + 0)), (2, .ref (X.1 + 248)), (3, .ref (X.1 + 260))]) (kTab_at (pc := 513) tL_law_5_ok 13 rfl) (Nat.le_of_ble_eq_true rfl) rfl ?_
  refine K_aload_n (md := mL_law) (pc := 515) 4 (kTab_at (pc := 515) tL_law_5_ok 14 rfl) rfl ?_
  refine K_aload_n (md := mL_law) (pc := 516) 2 (kTab_at (pc := 516) tL_law_5_ok 15 rfl) rfl ?_
  refine K_iload (md := mL_law) (pc := 517) 1 (kTab_at (pc := 517) tL_law_5_ok 16 rfl) rfl ?_
  refine K_iconst (md := mL_law) (pc := 519) (x := 1) (kTab_at (pc := 519) tL_law_5_ok 17 rfl) rfl ?_
  refine K_iadd (md := mL_law) (pc := 520) (kTab_at (pc := 520) tL_law_5_ok 18 rfl) ?_
  refine K_sld (md := mL_law) (pc := 521) hL (by omega) (kTab_at (pc := 521) tL_law_5_ok 19 rfl) ?_
  rw [hw1]
  refine K_aload_n (md := mL_law) (pc := 522) 2 (kTab_at (pc := 522) tL_law_5_ok 20 rfl) rfl ?_
  refine K_iload (md := mL_law) (pc := 523) 1 (kTab_at (pc := 523) tL_law_5_ok 21 rfl) rfl ?_
  refine K_iconst (md := mL_law) (pc := 525) (x := 2) (kTab_at (pc := 525) tL_law_5_ok 22 rfl) rfl ?_
  refine K_iadd (md := mL_law) (pc := 526) (kTab_at (pc := 526) tL_law_5_ok 23 rfl) ?_
  refine K_sld (md := mL_law) (pc := 527) hL (by omega) (kTab_at (pc := 527) tL_law_5_ok 24 rfl) ?_
  rw [hw2]
  refine K_callC (md := mL_law) (pc := 528) (d' := 3) (rkY := 1) (μ2 := μ') (x := b) (st := []) (b := 248) (kTab_at (pc := 528) tL_law_5_ok 25 rfl) mv_L_157 sk_248 rfl (Nat.le_of_ble_eq_true rfl) (by decide) rfl (c_X11_correction X w1 w2 μ1) hg ?_ rfl
  show KJ X mL_law 9 false po SK n (6 * n) 531 ((5, .int (iI k)) :: [(4, .int (iI i)), (0, .ref X.2.2.2.1), (1, .ref (X.1 + 0)), (2, .ref (X.1 + 248)), (3, .ref (X.1 + 260))]) [.int (iI b)] μ'
  refine K_istore (md := mL_law) (pc := 531) (l' := (6, .int (iI b)) :: (5, .int (iI k)) :: [(4, .int (iI i)), (0, .ref X.2.2.2.1), (1, .ref (X.1 + 0)), (2, .ref (X.1 + 248)), (3, .ref (X.1 + 260))]) (kTab_at (pc := 531) tL_law_5_ok 26 rfl) (Nat.le_of_ble_eq_true rfl) rfl ?_
  refine K_aload_n (md := mL_law) (pc := 533) 5 (kTab_at (pc := 533) tL_law_5_ok 27 rfl) rfl ?_
  refine K_callC (md := mL_law) (pc := 534) (d' := 0) (rkY := 1) (μ2 := μ') (x := μ' 248 0) (st := []) (b := 248) (kTab_at (pc := 534) tL_law_5_ok 28 rfl) mv_L_142 sk_248 rfl (Nat.le_of_ble_eq_true rfl) (by decide) rfl (c_X11_thrown X μ') rfl ?_ rfl
  rw [ht]
  show KJ X mL_law 9 false po SK n (6 * n) 537 ((6, .int (iI b)) :: (5, .int (iI k)) :: [(4, .int (iI i)), (0, .ref X.2.2.2.1), (1, .ref (X.1 + 0)), (2, .ref (X.1 + 248)), (3, .ref (X.1 + 260))]) [.int (iI k)] μ'
  refine K_iload (md := mL_law) (pc := 537) 1 (kTab_at (pc := 537) tL_law_5_ok 29 rfl) rfl ?_
  refine K_icmp_eq (md := mL_law) (pc := 539) (r := (μ', 0, 0)) (A := some (μ', 0, 0)) (B := none) (tgt := 544) (kTab_at (pc := 539) tL_law_5_ok 30 rfl) rfl (ieq_t gk) (fun _ => ?_) (fun h => nomatch h)
  refine K_iload (md := mL_law) (pc := 544) 1 (kTab_at (pc := 544) tL_law_5_ok 33 rfl) rfl ?_
  by_cases hk : k = 0
  · refine K_if_ne (md := mL_law) (pc := 546) (r := (μ', 0, 0)) (A := none) (B := some (μ', 0, 0)) (tgt := 561) (kTab_at (pc := 546) tL_law_5_ok 34 rfl) rfl (ieq_y gk hk) (fun h => nomatch h) (fun _ => ?_)
    have hc := hcmp hk
    refine K_aload_n (md := mL_law) (pc := 549) 6 (kTab_at (pc := 549) tL_law_5_ok 35 rfl) rfl ?_
    refine K_iconst (md := mL_law) (pc := 550) (x := 0) (kTab_at (pc := 550) tL_law_5_ok 36 rfl) rfl ?_
    refine K_lald (md := mL_law) (pc := 551) (r := (μ', 0, 0)) (k0 := fun _ => some (μ', 0, 0)) (kTab_at (pc := 551) tL_law_5_ok 37 rfl) sk_260 (by decide) rd_260 (fun _ => ?_)
    refine K_iload (md := mL_law) (pc := 552) 0 (kTab_at (pc := 552) tL_law_5_ok 38 rfl) rfl ?_
    refine K_i2l (md := mL_law) (pc := 554) (r := (μ', 0, 0)) (k0 := some (μ', 0, 0)) (kTab_at (pc := 554) tL_law_5_ok 39 rfl) (cmpI_of hc).1 (fun _ => ?_)
    refine K_lcmp_eq (md := mL_law) (pc := 555) (r := (μ', 0, 0)) (A := some (μ', 0, 0)) (B := none) (tgt := 561) (kTab_at (pc := 555) tL_law_5_ok 40 rfl) (kTab_at (pc := 556) tL_law_5_ok 41 rfl) rfl (cmpI_of hc).2 (fun _ => ?_) (fun h => nomatch h)
    refine K_goto (md := mL_law) (pc := 561) (tgt := 2483) (kTab_at (pc := 561) tL_law_5_ok 44 rfl) rfl ?_
    exact KJ_sub (fun q hq => List.mem_cons_of_mem _ (List.mem_cons_of_mem _ hq)) kk
  · refine K_if_ne (md := mL_law) (pc := 546) (r := (μ', 0, 0)) (A := some (μ', 0, 0)) (B := none) (tgt := 561) (kTab_at (pc := 546) tL_law_5_ok 34 rfl) rfl (ieq_n gk hk) (fun _ => ?_) (fun h => nomatch h)
    refine K_goto (md := mL_law) (pc := 561) (tgt := 2483) (kTab_at (pc := 561) tL_law_5_ok 44 rfl) rfl ?_
    exact KJ_sub (fun q hq => List.mem_cons_of_mem _ (List.mem_cons_of_mem _ hq)) kk
def lc_isSuspended (w1 : Int) (w2 : Int) (μ : Mu) : Option Mu := lcase (hp 1 [2] (f_X10_isSuspended w1 w2 μ)) (fun μ => f_X11_isSuspended w1 w2 μ) cmpZ
theorem mh_isSuspended : kMSH RL 158 mL_isSuspended hh_isSuspended 4 := ⟨inT3 177 (by decide +kernel) rfl, inT3 178 (by decide +kernel) rfl, inT3 179 (by decide +kernel) rfl, inT1 0 (by decide +kernel) rfl, by decide +kernel, by decide +kernel⟩
set_option maxRecDepth 100000 in
theorem k_isSuspended (X : kX) (po : kPo) (hL : X.2.2.2.2.1 < 2 ^ 31) (i : Int) (hi : 0 ≤ i ∧ i + 5 ≤ X.2.2.2.2.1) (n : Nat) (μ μ' : Mu) (h : lc_isSuspended (sw X (i + 1).toNat) (sw X (i + 2).toNat) μ = some μ') (kk : KJ X mL_law 9 false po SK n (6 * n) 2483 [(4, .int (iI i)), (0, .ref X.2.2.2.1), (1, .ref (X.1 + 0)), (2, .ref (X.1 + 248)), (3, .ref (X.1 + 260))] [] μ') : KJ X mL_law 9 false po SK (n + 1) (6 * n + 6) 564 [(4, .int (iI i)), (0, .ref X.2.2.2.1), (1, .ref (X.1 + 0)), (2, .ref (X.1 + 248)), (3, .ref (X.1 + 260))] [] μ := by
  generalize hw1 : sw X (i + 1).toNat = w1 at h
  generalize hw2 : sw X (i + 2).toNat = w2 at h
  unfold lc_isSuspended at h
  obtain ⟨μ1, k, b, hf, hg, ht, gk, hcmp⟩ := lcase_of (by exact Or.inr (Or.inl rfl)) h
  refine K_aload_n (md := mL_law) (pc := 564) 2 (kTab_at (pc := 564) tL_law_6_ok 0 rfl) rfl ?_
  refine K_aload_n (md := mL_law) (pc := 565) 1 (kTab_at (pc := 565) tL_law_6_ok 1 rfl) rfl ?_
  refine K_iload (md := mL_law) (pc := 566) 0 (kTab_at (pc := 566) tL_law_6_ok 2 rfl) rfl ?_
  refine K_iconst (md := mL_law) (pc := 568) (x := 1) (kTab_at (pc := 568) tL_law_6_ok 3 rfl) rfl ?_
  refine K_iadd (md := mL_law) (pc := 569) (kTab_at (pc := 569) tL_law_6_ok 4 rfl) ?_
  refine K_sld (md := mL_law) (pc := 570) hL (by omega) (kTab_at (pc := 570) tL_law_6_ok 5 rfl) ?_
  rw [hw1]
  refine K_aload_n (md := mL_law) (pc := 571) 1 (kTab_at (pc := 571) tL_law_6_ok 6 rfl) rfl ?_
  refine K_iload (md := mL_law) (pc := 572) 0 (kTab_at (pc := 572) tL_law_6_ok 7 rfl) rfl ?_
  refine K_iconst (md := mL_law) (pc := 574) (x := 2) (kTab_at (pc := 574) tL_law_6_ok 8 rfl) rfl ?_
  refine K_iadd (md := mL_law) (pc := 575) (kTab_at (pc := 575) tL_law_6_ok 9 rfl) ?_
  refine K_sld (md := mL_law) (pc := 576) hL (by omega) (kTab_at (pc := 576) tL_law_6_ok 10 rfl) ?_
  rw [hw2]
  refine K_aload_n (md := mL_law) (pc := 577) 4 (kTab_at (pc := 577) tL_law_6_ok 11 rfl) rfl ?_
  refine K_callCH (md := mL_law) (pc := 578) (mdY := mL_isSuspended) (d' := 7) (cr := n) (sr := 6 * n) (μ2 := μ1) (x := k) (st := []) (kTab_at (pc := 578) tL_law_6_ok 12 rfl) mh_isSuspended rfl (Nat.le_of_ble_eq_true rfl) (by decide) (h_isSuspended X w1 w2 μ (μ1, 0, k) hf) ?_ rfl
  show KJ X mL_law 9 false po SK n (6 * n) 581 [(4, .int (iI i)), (0, .ref X.2.2.2.1), (1, .ref (X.1 + 0)), (2, .ref (X.1 + 248)), (3, .ref (X.1 + 260))] [.int (iI k)] μ1
  refine K_istore (md := mL_law) (pc := 581) (l' := (5, .int (iI k)) :: [(4, .int (iI i)), (0, .ref X.2.2.2.1), (1, .ref (X.1 + 0)), (2, .ref (X.1 + 248)), (3, .ref (X.1 + 260))]) (kTab_at (pc := 581) tL_law_6_ok 13 rfl) (Nat.le_of_ble_eq_true rfl) rfl ?_
  refine K_aload_n (md := mL_law) (pc := 583) 4 (kTab_at (pc := 583) tL_law_6_ok 14 rfl) rfl ?_
  refine K_aload_n (md := mL_law) (pc := 584) 2 (kTab_at (pc := 584) tL_law_6_ok 15 rfl) rfl ?_
  refine K_iload (md := mL_law) (pc := 585) 1 (kTab_at (pc := 585) tL_law_6_ok 16 rfl) rfl ?_
  refine K_iconst (md := mL_law) (pc := 587) (x := 1) (kTab_at (pc := 587) tL_law_6_ok 17 rfl) rfl ?_
  refine K_iadd (md := mL_law) (pc := 588) (kTab_at (pc := 588) tL_law_6_ok 18 rfl) ?_
  refine K_sld (md := mL_law) (pc := 589) hL (by omega) (kTab_at (pc := 589) tL_law_6_ok 19 rfl) ?_
  rw [hw1]
  refine K_aload_n (md := mL_law) (pc := 590) 2 (kTab_at (pc := 590) tL_law_6_ok 20 rfl) rfl ?_
  refine K_iload (md := mL_law) (pc := 591) 1 (kTab_at (pc := 591) tL_law_6_ok 21 rfl) rfl ?_
  refine K_iconst (md := mL_law) (pc := 593) (x := 2) (kTab_at (pc := 593) tL_law_6_ok 22 rfl) rfl ?_
  refine K_iadd (md := mL_law) (pc := 594) (kTab_at (pc := 594) tL_law_6_ok 23 rfl) ?_
  refine K_sld (md := mL_law) (pc := 595) hL (by omega) (kTab_at (pc := 595) tL_law_6_ok 24 rfl) ?_
  rw [hw2]
  refine K_callC (md := mL_law) (pc := 596) (d' := 3) (rkY := 1) (μ2 := μ') (x := b) (st := []) (b := 248) (kTab_at (pc := 596) tL_law_6_ok 25 rfl) mv_L_160 sk_248 rfl (Nat.le_of_ble_eq_true rfl) (by decide) rfl (c_X11_isSuspended X w1 w2 μ1) hg ?_ rfl
  show KJ X mL_law 9 false po SK n (6 * n) 599 ((5, .int (iI k)) :: [(4, .int (iI i)), (0, .ref X.2.2.2.1), (1, .ref (X.1 + 0)), (2, .ref (X.1 + 248)), (3, .ref (X.1 + 260))]) [.int (iI b)] μ'
  refine K_istore (md := mL_law) (pc := 599) (l' := (6, .int (iI b)) :: (5, .int (iI k)) :: [(4, .int (iI i)), (0, .ref X.2.2.2.1), (1, .ref (X.1 + 0)), (2, .ref (X.1 + 248)), (3, .ref (X.1 + 260))]) (kTab_at (pc := 599) tL_law_6_ok 26 rfl) (Nat.le_of_ble_eq_true rfl) rfl ?_
  refine K_aload_n (md := mL_law) (pc := 601) 5 (kTab_at (pc := 601) tL_law_6_ok 27 rfl) rfl ?_
  refine K_callC (md := mL_law) (pc := 602) (d' := 0) (rkY := 1) (μ2 := μ') (x := μ' 248 0) (st := []) (b := 248) (kTab_at (pc := 602) tL_law_6_ok 28 rfl) mv_L_142 sk_248 rfl (Nat.le_of_ble_eq_true rfl) (by decide) rfl (c_X11_thrown X μ') rfl ?_ rfl
  rw [ht]
  show KJ X mL_law 9 false po SK n (6 * n) 605 ((6, .int (iI b)) :: (5, .int (iI k)) :: [(4, .int (iI i)), (0, .ref X.2.2.2.1), (1, .ref (X.1 + 0)), (2, .ref (X.1 + 248)), (3, .ref (X.1 + 260))]) [.int (iI k)] μ'
  refine K_iload (md := mL_law) (pc := 605) 1 (kTab_at (pc := 605) tL_law_6_ok 29 rfl) rfl ?_
  refine K_icmp_eq (md := mL_law) (pc := 607) (r := (μ', 0, 0)) (A := some (μ', 0, 0)) (B := none) (tgt := 612) (kTab_at (pc := 607) tL_law_6_ok 30 rfl) rfl (ieq_t gk) (fun _ => ?_) (fun h => nomatch h)
  refine K_iload (md := mL_law) (pc := 612) 1 (kTab_at (pc := 612) tL_law_6_ok 33 rfl) rfl ?_
  by_cases hk : k = 0
  · refine K_if_ne (md := mL_law) (pc := 614) (r := (μ', 0, 0)) (A := none) (B := some (μ', 0, 0)) (tgt := 636) (kTab_at (pc := 614) tL_law_6_ok 34 rfl) rfl (ieq_y gk hk) (fun h => nomatch h) (fun _ => ?_)
    have hc := hcmp hk
    refine K_aload_n (md := mL_law) (pc := 617) 6 (kTab_at (pc := 617) tL_law_6_ok 35 rfl) rfl ?_
    refine K_iconst (md := mL_law) (pc := 618) (x := 0) (kTab_at (pc := 618) tL_law_6_ok 36 rfl) rfl ?_
    refine K_lald (md := mL_law) (pc := 619) (r := (μ', 0, 0)) (k0 := fun _ => some (μ', 0, 0)) (kTab_at (pc := 619) tL_law_6_ok 37 rfl) sk_260 (by decide) rd_260 (fun _ => ?_)
    obtain ⟨gz, hl⟩ := cmpZ_of (r := (μ', 0, 0)) hc
    refine K_iload (md := mL_law) (pc := 620) 0 (kTab_at (pc := 620) tL_law_6_ok 38 rfl) rfl ?_
    rcases gz with rfl | rfl
    · refine K_if_eq (md := mL_law) (pc := 622) (r := (μ', 0, 0)) (A := some (μ', 0, 0)) (B := none) (tgt := 629) (kTab_at (pc := 622) tL_law_6_ok 39 rfl) rfl rfl (fun _ => ?_) (fun h => nomatch h)
      refine K_lconst (md := mL_law) (pc := 629) (x := 0) (kTab_at (pc := 629) tL_law_6_ok 42 rfl) rfl ?_
      refine K_lcmp_eq (md := mL_law) (pc := 630) (r := (μ', 0, 0)) (A := some (μ', 0, 0)) (B := none) (tgt := 636) (kTab_at (pc := 630) tL_law_6_ok 43 rfl) (kTab_at (pc := 631) tL_law_6_ok 44 rfl) rfl hl (fun _ => ?_) (fun h => nomatch h)
      refine K_goto (md := mL_law) (pc := 636) (tgt := 2483) (kTab_at (pc := 636) tL_law_6_ok 47 rfl) rfl ?_
      exact KJ_sub (fun q hq => List.mem_cons_of_mem _ (List.mem_cons_of_mem _ hq)) kk
    · refine K_if_eq (md := mL_law) (pc := 622) (r := (μ', 0, 0)) (A := none) (B := some (μ', 0, 0)) (tgt := 629) (kTab_at (pc := 622) tL_law_6_ok 39 rfl) rfl rfl (fun h => nomatch h) (fun _ => ?_)
      refine K_lconst (md := mL_law) (pc := 625) (x := 1) (kTab_at (pc := 625) tL_law_6_ok 40 rfl) rfl ?_
      refine K_goto (md := mL_law) (pc := 626) (tgt := 630) (kTab_at (pc := 626) tL_law_6_ok 41 rfl) rfl ?_
      refine K_lcmp_eq (md := mL_law) (pc := 630) (r := (μ', 0, 0)) (A := some (μ', 0, 0)) (B := none) (tgt := 636) (kTab_at (pc := 630) tL_law_6_ok 43 rfl) (kTab_at (pc := 631) tL_law_6_ok 44 rfl) rfl hl (fun _ => ?_) (fun h => nomatch h)
      refine K_goto (md := mL_law) (pc := 636) (tgt := 2483) (kTab_at (pc := 636) tL_law_6_ok 47 rfl) rfl ?_
      exact KJ_sub (fun q hq => List.mem_cons_of_mem _ (List.mem_cons_of_mem _ hq)) kk
  · refine K_if_ne (md := mL_law) (pc := 614) (r := (μ', 0, 0)) (A := some (μ', 0, 0)) (B := none) (tgt := 636) (kTab_at (pc := 614) tL_law_6_ok 34 rfl) rfl (ieq_n gk hk) (fun _ => ?_) (fun h => nomatch h)
    refine K_goto (md := mL_law) (pc := 636) (tgt := 2483) (kTab_at (pc := 636) tL_law_6_ok 47 rfl) rfl ?_
    exact KJ_sub (fun q hq => List.mem_cons_of_mem _ (List.mem_cons_of_mem _ hq)) kk
def lc_enter (w1 : Int) (w2 : Int) (w3 : Int) (w4 : Int) (μ : Mu) : Option Mu := lcase (hp 0 [2, 1, 4] (f_X10_enter w1 w2 w3 w4 μ)) (fun μ => f_X11_enter w1 w2 w3 w4 μ) cmpI
theorem mh_enter : kMSH RL 161 mL_enter hh_enter 6 := ⟨inT3 191 (by decide +kernel) rfl, inT3 192 (by decide +kernel) rfl, inT3 193 (by decide +kernel) rfl, inT1 0 (by decide +kernel) rfl, by decide +kernel, by decide +kernel⟩
set_option maxRecDepth 100000 in
theorem k_enter (X : kX) (po : kPo) (hL : X.2.2.2.2.1 < 2 ^ 31) (i : Int) (hi : 0 ≤ i ∧ i + 5 ≤ X.2.2.2.2.1) (n : Nat) (μ μ' : Mu) (h : lc_enter (sw X (i + 1).toNat) (sw X (i + 2).toNat) (sw X (i + 3).toNat) (sw X (i + 4).toNat) μ = some μ') (kk : KJ X mL_law 9 false po SK n (6 * n) 2483 [(4, .int (iI i)), (0, .ref X.2.2.2.1), (1, .ref (X.1 + 0)), (2, .ref (X.1 + 248)), (3, .ref (X.1 + 260))] [] μ') : KJ X mL_law 9 false po SK (n + 1) (6 * n + 6) 639 [(4, .int (iI i)), (0, .ref X.2.2.2.1), (1, .ref (X.1 + 0)), (2, .ref (X.1 + 248)), (3, .ref (X.1 + 260))] [] μ := by
  generalize hw1 : sw X (i + 1).toNat = w1 at h
  generalize hw2 : sw X (i + 2).toNat = w2 at h
  generalize hw3 : sw X (i + 3).toNat = w3 at h
  generalize hw4 : sw X (i + 4).toNat = w4 at h
  unfold lc_enter at h
  obtain ⟨μ1, k, b, hf, hg, ht, gk, hcmp⟩ := lcase_of (by exact Or.inl rfl) h
  refine K_aload_n (md := mL_law) (pc := 639) 2 (kTab_at (pc := 639) tL_law_7_ok 0 rfl) rfl ?_
  refine K_aload_n (md := mL_law) (pc := 640) 1 (kTab_at (pc := 640) tL_law_7_ok 1 rfl) rfl ?_
  refine K_iload (md := mL_law) (pc := 641) 0 (kTab_at (pc := 641) tL_law_7_ok 2 rfl) rfl ?_
  refine K_iconst (md := mL_law) (pc := 643) (x := 1) (kTab_at (pc := 643) tL_law_7_ok 3 rfl) rfl ?_
  refine K_iadd (md := mL_law) (pc := 644) (kTab_at (pc := 644) tL_law_7_ok 4 rfl) ?_
  refine K_sld (md := mL_law) (pc := 645) hL (by omega) (kTab_at (pc := 645) tL_law_7_ok 5 rfl) ?_
  rw [hw1]
  refine K_aload_n (md := mL_law) (pc := 646) 1 (kTab_at (pc := 646) tL_law_7_ok 6 rfl) rfl ?_
  refine K_iload (md := mL_law) (pc := 647) 0 (kTab_at (pc := 647) tL_law_7_ok 7 rfl) rfl ?_
  refine K_iconst (md := mL_law) (pc := 649) (x := 2) (kTab_at (pc := 649) tL_law_7_ok 8 rfl) rfl ?_
  refine K_iadd (md := mL_law) (pc := 650) (kTab_at (pc := 650) tL_law_7_ok 9 rfl) ?_
  refine K_sld (md := mL_law) (pc := 651) hL (by omega) (kTab_at (pc := 651) tL_law_7_ok 10 rfl) ?_
  rw [hw2]
  refine K_aload_n (md := mL_law) (pc := 652) 1 (kTab_at (pc := 652) tL_law_7_ok 11 rfl) rfl ?_
  refine K_iload (md := mL_law) (pc := 653) 0 (kTab_at (pc := 653) tL_law_7_ok 12 rfl) rfl ?_
  refine K_iconst (md := mL_law) (pc := 655) (x := 3) (kTab_at (pc := 655) tL_law_7_ok 13 rfl) rfl ?_
  refine K_iadd (md := mL_law) (pc := 656) (kTab_at (pc := 656) tL_law_7_ok 14 rfl) ?_
  refine K_sld (md := mL_law) (pc := 657) hL (by omega) (kTab_at (pc := 657) tL_law_7_ok 15 rfl) ?_
  rw [hw3]
  refine K_aload_n (md := mL_law) (pc := 658) 1 (kTab_at (pc := 658) tL_law_7_ok 16 rfl) rfl ?_
  refine K_iload (md := mL_law) (pc := 659) 0 (kTab_at (pc := 659) tL_law_7_ok 17 rfl) rfl ?_
  refine K_iconst (md := mL_law) (pc := 661) (x := 4) (kTab_at (pc := 661) tL_law_7_ok 18 rfl) rfl ?_
  refine K_iadd (md := mL_law) (pc := 662) (kTab_at (pc := 662) tL_law_7_ok 19 rfl) ?_
  refine K_sld (md := mL_law) (pc := 663) hL (by omega) (kTab_at (pc := 663) tL_law_7_ok 20 rfl) ?_
  rw [hw4]
  refine K_aload_n (md := mL_law) (pc := 664) 4 (kTab_at (pc := 664) tL_law_7_ok 21 rfl) rfl ?_
  refine K_callCH (md := mL_law) (pc := 665) (mdY := mL_enter) (d' := 7) (cr := n) (sr := 6 * n) (μ2 := μ1) (x := k) (st := []) (kTab_at (pc := 665) tL_law_7_ok 22 rfl) mh_enter rfl (Nat.le_of_ble_eq_true rfl) (by decide) (h_enter X w1 w2 w3 w4 μ (μ1, 0, k) hf) ?_ rfl
  show KJ X mL_law 9 false po SK n (6 * n) 668 [(4, .int (iI i)), (0, .ref X.2.2.2.1), (1, .ref (X.1 + 0)), (2, .ref (X.1 + 248)), (3, .ref (X.1 + 260))] [.int (iI k)] μ1
  refine K_istore (md := mL_law) (pc := 668) (l' := (5, .int (iI k)) :: [(4, .int (iI i)), (0, .ref X.2.2.2.1), (1, .ref (X.1 + 0)), (2, .ref (X.1 + 248)), (3, .ref (X.1 + 260))]) (kTab_at (pc := 668) tL_law_7_ok 23 rfl) (Nat.le_of_ble_eq_true rfl) rfl ?_
  refine K_aload_n (md := mL_law) (pc := 670) 4 (kTab_at (pc := 670) tL_law_7_ok 24 rfl) rfl ?_
  refine K_aload_n (md := mL_law) (pc := 671) 2 (kTab_at (pc := 671) tL_law_7_ok 25 rfl) rfl ?_
  refine K_iload (md := mL_law) (pc := 672) 1 (kTab_at (pc := 672) tL_law_7_ok 26 rfl) rfl ?_
  refine K_iconst (md := mL_law) (pc := 674) (x := 1) (kTab_at (pc := 674) tL_law_7_ok 27 rfl) rfl ?_
  refine K_iadd (md := mL_law) (pc := 675) (kTab_at (pc := 675) tL_law_7_ok 28 rfl) ?_
  refine K_sld (md := mL_law) (pc := 676) hL (by omega) (kTab_at (pc := 676) tL_law_7_ok 29 rfl) ?_
  rw [hw1]
  refine K_aload_n (md := mL_law) (pc := 677) 2 (kTab_at (pc := 677) tL_law_7_ok 30 rfl) rfl ?_
  refine K_iload (md := mL_law) (pc := 678) 1 (kTab_at (pc := 678) tL_law_7_ok 31 rfl) rfl ?_
  refine K_iconst (md := mL_law) (pc := 680) (x := 2) (kTab_at (pc := 680) tL_law_7_ok 32 rfl) rfl ?_
  refine K_iadd (md := mL_law) (pc := 681) (kTab_at (pc := 681) tL_law_7_ok 33 rfl) ?_
  refine K_sld (md := mL_law) (pc := 682) hL (by omega) (kTab_at (pc := 682) tL_law_7_ok 34 rfl) ?_
  rw [hw2]
  refine K_aload_n (md := mL_law) (pc := 683) 2 (kTab_at (pc := 683) tL_law_7_ok 35 rfl) rfl ?_
  refine K_iload (md := mL_law) (pc := 684) 1 (kTab_at (pc := 684) tL_law_7_ok 36 rfl) rfl ?_
  refine K_iconst (md := mL_law) (pc := 686) (x := 3) (kTab_at (pc := 686) tL_law_7_ok 37 rfl) rfl ?_
  refine K_iadd (md := mL_law) (pc := 687) (kTab_at (pc := 687) tL_law_7_ok 38 rfl) ?_
  refine K_sld (md := mL_law) (pc := 688) hL (by omega) (kTab_at (pc := 688) tL_law_7_ok 39 rfl) ?_
  rw [hw3]
  refine K_aload_n (md := mL_law) (pc := 689) 2 (kTab_at (pc := 689) tL_law_7_ok 40 rfl) rfl ?_
  refine K_iload (md := mL_law) (pc := 690) 1 (kTab_at (pc := 690) tL_law_7_ok 41 rfl) rfl ?_
  refine K_iconst (md := mL_law) (pc := 692) (x := 4) (kTab_at (pc := 692) tL_law_7_ok 42 rfl) rfl ?_
  refine K_iadd (md := mL_law) (pc := 693) (kTab_at (pc := 693) tL_law_7_ok 43 rfl) ?_
  refine K_sld (md := mL_law) (pc := 694) hL (by omega) (kTab_at (pc := 694) tL_law_7_ok 44 rfl) ?_
  rw [hw4]
  refine K_callC (md := mL_law) (pc := 695) (d' := 6) (rkY := 1) (μ2 := μ') (x := b) (st := []) (b := 248) (kTab_at (pc := 695) tL_law_7_ok 45 rfl) mv_L_163 sk_248 rfl (Nat.le_of_ble_eq_true rfl) (by decide) rfl (c_X11_enter X w1 w2 w3 w4 μ1) hg ?_ rfl
  show KJ X mL_law 9 false po SK n (6 * n) 698 ((5, .int (iI k)) :: [(4, .int (iI i)), (0, .ref X.2.2.2.1), (1, .ref (X.1 + 0)), (2, .ref (X.1 + 248)), (3, .ref (X.1 + 260))]) [.int (iI b)] μ'
  refine K_istore (md := mL_law) (pc := 698) (l' := (6, .int (iI b)) :: (5, .int (iI k)) :: [(4, .int (iI i)), (0, .ref X.2.2.2.1), (1, .ref (X.1 + 0)), (2, .ref (X.1 + 248)), (3, .ref (X.1 + 260))]) (kTab_at (pc := 698) tL_law_7_ok 46 rfl) (Nat.le_of_ble_eq_true rfl) rfl ?_
  refine K_aload_n (md := mL_law) (pc := 700) 5 (kTab_at (pc := 700) tL_law_7_ok 47 rfl) rfl ?_
  refine K_callC (md := mL_law) (pc := 701) (d' := 0) (rkY := 1) (μ2 := μ') (x := μ' 248 0) (st := []) (b := 248) (kTab_at (pc := 701) tL_law_7_ok 48 rfl) mv_L_142 sk_248 rfl (Nat.le_of_ble_eq_true rfl) (by decide) rfl (c_X11_thrown X μ') rfl ?_ rfl
  rw [ht]
  show KJ X mL_law 9 false po SK n (6 * n) 704 ((6, .int (iI b)) :: (5, .int (iI k)) :: [(4, .int (iI i)), (0, .ref X.2.2.2.1), (1, .ref (X.1 + 0)), (2, .ref (X.1 + 248)), (3, .ref (X.1 + 260))]) [.int (iI k)] μ'
  refine K_iload (md := mL_law) (pc := 704) 1 (kTab_at (pc := 704) tL_law_7_ok 49 rfl) rfl ?_
  refine K_icmp_eq (md := mL_law) (pc := 706) (r := (μ', 0, 0)) (A := some (μ', 0, 0)) (B := none) (tgt := 711) (kTab_at (pc := 706) tL_law_7_ok 50 rfl) rfl (ieq_t gk) (fun _ => ?_) (fun h => nomatch h)
  refine K_iload (md := mL_law) (pc := 711) 1 (kTab_at (pc := 711) tL_law_7_ok 53 rfl) rfl ?_
  by_cases hk : k = 0
  · refine K_if_ne (md := mL_law) (pc := 713) (r := (μ', 0, 0)) (A := none) (B := some (μ', 0, 0)) (tgt := 728) (kTab_at (pc := 713) tL_law_7_ok 54 rfl) rfl (ieq_y gk hk) (fun h => nomatch h) (fun _ => ?_)
    have hc := hcmp hk
    refine K_aload_n (md := mL_law) (pc := 716) 6 (kTab_at (pc := 716) tL_law_7_ok 55 rfl) rfl ?_
    refine K_iconst (md := mL_law) (pc := 717) (x := 0) (kTab_at (pc := 717) tL_law_7_ok 56 rfl) rfl ?_
    refine K_lald (md := mL_law) (pc := 718) (r := (μ', 0, 0)) (k0 := fun _ => some (μ', 0, 0)) (kTab_at (pc := 718) tL_law_7_ok 57 rfl) sk_260 (by decide) rd_260 (fun _ => ?_)
    refine K_iload (md := mL_law) (pc := 719) 0 (kTab_at (pc := 719) tL_law_7_ok 58 rfl) rfl ?_
    refine K_i2l (md := mL_law) (pc := 721) (r := (μ', 0, 0)) (k0 := some (μ', 0, 0)) (kTab_at (pc := 721) tL_law_7_ok 59 rfl) (cmpI_of hc).1 (fun _ => ?_)
    refine K_lcmp_eq (md := mL_law) (pc := 722) (r := (μ', 0, 0)) (A := some (μ', 0, 0)) (B := none) (tgt := 728) (kTab_at (pc := 722) tL_law_7_ok 60 rfl) (kTab_at (pc := 723) tL_law_7_ok 61 rfl) rfl (cmpI_of hc).2 (fun _ => ?_) (fun h => nomatch h)
    refine K_goto (md := mL_law) (pc := 728) (tgt := 2483) (kTab_at (pc := 728) tL_law_7_ok 64 rfl) rfl ?_
    exact KJ_sub (fun q hq => List.mem_cons_of_mem _ (List.mem_cons_of_mem _ hq)) kk
  · refine K_if_ne (md := mL_law) (pc := 713) (r := (μ', 0, 0)) (A := some (μ', 0, 0)) (B := none) (tgt := 728) (kTab_at (pc := 713) tL_law_7_ok 54 rfl) rfl (ieq_n gk hk) (fun _ => ?_) (fun h => nomatch h)
    refine K_goto (md := mL_law) (pc := 728) (tgt := 2483) (kTab_at (pc := 728) tL_law_7_ok 64 rfl) rfl ?_
    exact KJ_sub (fun q hq => List.mem_cons_of_mem _ (List.mem_cons_of_mem _ hq)) kk
def lc_append (w1 : Int) (μ : Mu) : Option Mu := lcase (hp 0 [1, 0] (f_X10_append w1 μ)) (fun μ => f_X11_append w1 μ) cmpI
theorem mh_append : kMSH RL 164 mL_append hh_append 3 := ⟨inT4 24 (by decide +kernel) rfl, inT4 25 (by decide +kernel) rfl, inT4 26 (by decide +kernel) rfl, inT1 0 (by decide +kernel) rfl, by decide +kernel, by decide +kernel⟩
set_option maxRecDepth 100000 in
theorem k_append (X : kX) (po : kPo) (hL : X.2.2.2.2.1 < 2 ^ 31) (i : Int) (hi : 0 ≤ i ∧ i + 5 ≤ X.2.2.2.2.1) (n : Nat) (μ μ' : Mu) (h : lc_append (sw X (i + 1).toNat) μ = some μ') (kk : KJ X mL_law 9 false po SK n (6 * n) 2483 [(4, .int (iI i)), (0, .ref X.2.2.2.1), (1, .ref (X.1 + 0)), (2, .ref (X.1 + 248)), (3, .ref (X.1 + 260))] [] μ') : KJ X mL_law 9 false po SK (n + 1) (6 * n + 6) 731 [(4, .int (iI i)), (0, .ref X.2.2.2.1), (1, .ref (X.1 + 0)), (2, .ref (X.1 + 248)), (3, .ref (X.1 + 260))] [] μ := by
  generalize hw1 : sw X (i + 1).toNat = w1 at h
  unfold lc_append at h
  obtain ⟨μ1, k, b, hf, hg, ht, gk, hcmp⟩ := lcase_of (by exact Or.inl rfl) h
  refine K_aload_n (md := mL_law) (pc := 731) 2 (kTab_at (pc := 731) tL_law_8_ok 0 rfl) rfl ?_
  refine K_aload_n (md := mL_law) (pc := 732) 1 (kTab_at (pc := 732) tL_law_8_ok 1 rfl) rfl ?_
  refine K_iload (md := mL_law) (pc := 733) 0 (kTab_at (pc := 733) tL_law_8_ok 2 rfl) rfl ?_
  refine K_iconst (md := mL_law) (pc := 735) (x := 1) (kTab_at (pc := 735) tL_law_8_ok 3 rfl) rfl ?_
  refine K_iadd (md := mL_law) (pc := 736) (kTab_at (pc := 736) tL_law_8_ok 4 rfl) ?_
  refine K_sld (md := mL_law) (pc := 737) hL (by omega) (kTab_at (pc := 737) tL_law_8_ok 5 rfl) ?_
  rw [hw1]
  refine K_aload_n (md := mL_law) (pc := 738) 4 (kTab_at (pc := 738) tL_law_8_ok 6 rfl) rfl ?_
  refine K_callCH (md := mL_law) (pc := 739) (mdY := mL_append) (d' := 7) (cr := n) (sr := 6 * n) (μ2 := μ1) (x := k) (st := []) (kTab_at (pc := 739) tL_law_8_ok 7 rfl) mh_append rfl (Nat.le_of_ble_eq_true rfl) (by decide) (h_append X w1 μ (μ1, 0, k) hf) ?_ rfl
  show KJ X mL_law 9 false po SK n (6 * n) 742 [(4, .int (iI i)), (0, .ref X.2.2.2.1), (1, .ref (X.1 + 0)), (2, .ref (X.1 + 248)), (3, .ref (X.1 + 260))] [.int (iI k)] μ1
  refine K_istore (md := mL_law) (pc := 742) (l' := (5, .int (iI k)) :: [(4, .int (iI i)), (0, .ref X.2.2.2.1), (1, .ref (X.1 + 0)), (2, .ref (X.1 + 248)), (3, .ref (X.1 + 260))]) (kTab_at (pc := 742) tL_law_8_ok 8 rfl) (Nat.le_of_ble_eq_true rfl) rfl ?_
  refine K_aload_n (md := mL_law) (pc := 744) 4 (kTab_at (pc := 744) tL_law_8_ok 9 rfl) rfl ?_
  refine K_aload_n (md := mL_law) (pc := 745) 2 (kTab_at (pc := 745) tL_law_8_ok 10 rfl) rfl ?_
  refine K_iload (md := mL_law) (pc := 746) 1 (kTab_at (pc := 746) tL_law_8_ok 11 rfl) rfl ?_
  refine K_iconst (md := mL_law) (pc := 748) (x := 1) (kTab_at (pc := 748) tL_law_8_ok 12 rfl) rfl ?_
  refine K_iadd (md := mL_law) (pc := 749) (kTab_at (pc := 749) tL_law_8_ok 13 rfl) ?_
  refine K_sld (md := mL_law) (pc := 750) hL (by omega) (kTab_at (pc := 750) tL_law_8_ok 14 rfl) ?_
  rw [hw1]
  refine K_callC (md := mL_law) (pc := 751) (d' := 1) (rkY := 1) (μ2 := μ') (x := b) (st := []) (b := 248) (kTab_at (pc := 751) tL_law_8_ok 15 rfl) mv_L_167 sk_248 rfl (Nat.le_of_ble_eq_true rfl) (by decide) rfl (c_X11_append X w1 μ1) hg ?_ rfl
  show KJ X mL_law 9 false po SK n (6 * n) 754 ((5, .int (iI k)) :: [(4, .int (iI i)), (0, .ref X.2.2.2.1), (1, .ref (X.1 + 0)), (2, .ref (X.1 + 248)), (3, .ref (X.1 + 260))]) [.int (iI b)] μ'
  refine K_istore (md := mL_law) (pc := 754) (l' := (6, .int (iI b)) :: (5, .int (iI k)) :: [(4, .int (iI i)), (0, .ref X.2.2.2.1), (1, .ref (X.1 + 0)), (2, .ref (X.1 + 248)), (3, .ref (X.1 + 260))]) (kTab_at (pc := 754) tL_law_8_ok 16 rfl) (Nat.le_of_ble_eq_true rfl) rfl ?_
  refine K_aload_n (md := mL_law) (pc := 756) 5 (kTab_at (pc := 756) tL_law_8_ok 17 rfl) rfl ?_
  refine K_callC (md := mL_law) (pc := 757) (d' := 0) (rkY := 1) (μ2 := μ') (x := μ' 248 0) (st := []) (b := 248) (kTab_at (pc := 757) tL_law_8_ok 18 rfl) mv_L_142 sk_248 rfl (Nat.le_of_ble_eq_true rfl) (by decide) rfl (c_X11_thrown X μ') rfl ?_ rfl
  rw [ht]
  show KJ X mL_law 9 false po SK n (6 * n) 760 ((6, .int (iI b)) :: (5, .int (iI k)) :: [(4, .int (iI i)), (0, .ref X.2.2.2.1), (1, .ref (X.1 + 0)), (2, .ref (X.1 + 248)), (3, .ref (X.1 + 260))]) [.int (iI k)] μ'
  refine K_iload (md := mL_law) (pc := 760) 1 (kTab_at (pc := 760) tL_law_8_ok 19 rfl) rfl ?_
  refine K_icmp_eq (md := mL_law) (pc := 762) (r := (μ', 0, 0)) (A := some (μ', 0, 0)) (B := none) (tgt := 767) (kTab_at (pc := 762) tL_law_8_ok 20 rfl) rfl (ieq_t gk) (fun _ => ?_) (fun h => nomatch h)
  refine K_iload (md := mL_law) (pc := 767) 1 (kTab_at (pc := 767) tL_law_8_ok 23 rfl) rfl ?_
  by_cases hk : k = 0
  · refine K_if_ne (md := mL_law) (pc := 769) (r := (μ', 0, 0)) (A := none) (B := some (μ', 0, 0)) (tgt := 784) (kTab_at (pc := 769) tL_law_8_ok 24 rfl) rfl (ieq_y gk hk) (fun h => nomatch h) (fun _ => ?_)
    have hc := hcmp hk
    refine K_aload_n (md := mL_law) (pc := 772) 6 (kTab_at (pc := 772) tL_law_8_ok 25 rfl) rfl ?_
    refine K_iconst (md := mL_law) (pc := 773) (x := 0) (kTab_at (pc := 773) tL_law_8_ok 26 rfl) rfl ?_
    refine K_lald (md := mL_law) (pc := 774) (r := (μ', 0, 0)) (k0 := fun _ => some (μ', 0, 0)) (kTab_at (pc := 774) tL_law_8_ok 27 rfl) sk_260 (by decide) rd_260 (fun _ => ?_)
    refine K_iload (md := mL_law) (pc := 775) 0 (kTab_at (pc := 775) tL_law_8_ok 28 rfl) rfl ?_
    refine K_i2l (md := mL_law) (pc := 777) (r := (μ', 0, 0)) (k0 := some (μ', 0, 0)) (kTab_at (pc := 777) tL_law_8_ok 29 rfl) (cmpI_of hc).1 (fun _ => ?_)
    refine K_lcmp_eq (md := mL_law) (pc := 778) (r := (μ', 0, 0)) (A := some (μ', 0, 0)) (B := none) (tgt := 784) (kTab_at (pc := 778) tL_law_8_ok 30 rfl) (kTab_at (pc := 779) tL_law_8_ok 31 rfl) rfl (cmpI_of hc).2 (fun _ => ?_) (fun h => nomatch h)
    refine K_goto (md := mL_law) (pc := 784) (tgt := 2483) (kTab_at (pc := 784) tL_law_8_ok 34 rfl) rfl ?_
    exact KJ_sub (fun q hq => List.mem_cons_of_mem _ (List.mem_cons_of_mem _ hq)) kk
  · refine K_if_ne (md := mL_law) (pc := 769) (r := (μ', 0, 0)) (A := some (μ', 0, 0)) (B := none) (tgt := 784) (kTab_at (pc := 769) tL_law_8_ok 24 rfl) rfl (ieq_n gk hk) (fun _ => ?_) (fun h => nomatch h)
    refine K_goto (md := mL_law) (pc := 784) (tgt := 2483) (kTab_at (pc := 784) tL_law_8_ok 34 rfl) rfl ?_
    exact KJ_sub (fun q hq => List.mem_cons_of_mem _ (List.mem_cons_of_mem _ hq)) kk
def lc_sheet  (μ : Mu) : Option Mu := lcase (hp 0 [1, 4] (f_X10_sheet  μ)) (fun μ => f_X11_sheet  μ) cmpI
theorem mh_sheet : kMSH RL 168 mL_sheet hh_sheet 2 := ⟨inT4 36 (by decide +kernel) rfl, inT4 37 (by decide +kernel) rfl, inT4 38 (by decide +kernel) rfl, inT1 0 (by decide +kernel) rfl, by decide +kernel, by decide +kernel⟩
set_option maxRecDepth 100000 in
theorem k_sheet (X : kX) (po : kPo) (hL : X.2.2.2.2.1 < 2 ^ 31) (i : Int) (hi : 0 ≤ i ∧ i + 5 ≤ X.2.2.2.2.1) (n : Nat) (μ μ' : Mu) (h : lc_sheet  μ = some μ') (kk : KJ X mL_law 9 false po SK n (6 * n) 2483 [(4, .int (iI i)), (0, .ref X.2.2.2.1), (1, .ref (X.1 + 0)), (2, .ref (X.1 + 248)), (3, .ref (X.1 + 260))] [] μ') : KJ X mL_law 9 false po SK (n + 1) (6 * n + 6) 787 [(4, .int (iI i)), (0, .ref X.2.2.2.1), (1, .ref (X.1 + 0)), (2, .ref (X.1 + 248)), (3, .ref (X.1 + 260))] [] μ := by
  unfold lc_sheet at h
  obtain ⟨μ1, k, b, hf, hg, ht, gk, hcmp⟩ := lcase_of (by exact Or.inl rfl) h
  refine K_aload_n (md := mL_law) (pc := 787) 2 (kTab_at (pc := 787) tL_law_9_ok 0 rfl) rfl ?_
  refine K_aload_n (md := mL_law) (pc := 788) 4 (kTab_at (pc := 788) tL_law_9_ok 1 rfl) rfl ?_
  refine K_callCH (md := mL_law) (pc := 789) (mdY := mL_sheet) (d' := 7) (cr := n) (sr := 6 * n) (μ2 := μ1) (x := k) (st := []) (kTab_at (pc := 789) tL_law_9_ok 2 rfl) mh_sheet rfl (Nat.le_of_ble_eq_true rfl) (by decide) (h_sheet X  μ (μ1, 0, k) hf) ?_ rfl
  show KJ X mL_law 9 false po SK n (6 * n) 792 [(4, .int (iI i)), (0, .ref X.2.2.2.1), (1, .ref (X.1 + 0)), (2, .ref (X.1 + 248)), (3, .ref (X.1 + 260))] [.int (iI k)] μ1
  refine K_istore (md := mL_law) (pc := 792) (l' := (5, .int (iI k)) :: [(4, .int (iI i)), (0, .ref X.2.2.2.1), (1, .ref (X.1 + 0)), (2, .ref (X.1 + 248)), (3, .ref (X.1 + 260))]) (kTab_at (pc := 792) tL_law_9_ok 3 rfl) (Nat.le_of_ble_eq_true rfl) rfl ?_
  refine K_aload_n (md := mL_law) (pc := 794) 4 (kTab_at (pc := 794) tL_law_9_ok 4 rfl) rfl ?_
  refine K_callC (md := mL_law) (pc := 795) (d' := 6) (rkY := 1) (μ2 := μ') (x := b) (st := []) (b := 248) (kTab_at (pc := 795) tL_law_9_ok 5 rfl) mv_L_171 sk_248 rfl (Nat.le_of_ble_eq_true rfl) (by decide) rfl (c_X11_sheet X  μ1) hg ?_ rfl
  show KJ X mL_law 9 false po SK n (6 * n) 798 ((5, .int (iI k)) :: [(4, .int (iI i)), (0, .ref X.2.2.2.1), (1, .ref (X.1 + 0)), (2, .ref (X.1 + 248)), (3, .ref (X.1 + 260))]) [.int (iI b)] μ'
  refine K_istore (md := mL_law) (pc := 798) (l' := (6, .int (iI b)) :: (5, .int (iI k)) :: [(4, .int (iI i)), (0, .ref X.2.2.2.1), (1, .ref (X.1 + 0)), (2, .ref (X.1 + 248)), (3, .ref (X.1 + 260))]) (kTab_at (pc := 798) tL_law_9_ok 6 rfl) (Nat.le_of_ble_eq_true rfl) rfl ?_
  refine K_aload_n (md := mL_law) (pc := 800) 5 (kTab_at (pc := 800) tL_law_9_ok 7 rfl) rfl ?_
  refine K_callC (md := mL_law) (pc := 801) (d' := 0) (rkY := 1) (μ2 := μ') (x := μ' 248 0) (st := []) (b := 248) (kTab_at (pc := 801) tL_law_9_ok 8 rfl) mv_L_142 sk_248 rfl (Nat.le_of_ble_eq_true rfl) (by decide) rfl (c_X11_thrown X μ') rfl ?_ rfl
  rw [ht]
  show KJ X mL_law 9 false po SK n (6 * n) 804 ((6, .int (iI b)) :: (5, .int (iI k)) :: [(4, .int (iI i)), (0, .ref X.2.2.2.1), (1, .ref (X.1 + 0)), (2, .ref (X.1 + 248)), (3, .ref (X.1 + 260))]) [.int (iI k)] μ'
  refine K_iload (md := mL_law) (pc := 804) 1 (kTab_at (pc := 804) tL_law_9_ok 9 rfl) rfl ?_
  refine K_icmp_eq (md := mL_law) (pc := 806) (r := (μ', 0, 0)) (A := some (μ', 0, 0)) (B := none) (tgt := 811) (kTab_at (pc := 806) tL_law_9_ok 10 rfl) rfl (ieq_t gk) (fun _ => ?_) (fun h => nomatch h)
  refine K_iload (md := mL_law) (pc := 811) 1 (kTab_at (pc := 811) tL_law_9_ok 13 rfl) rfl ?_
  by_cases hk : k = 0
  · refine K_if_ne (md := mL_law) (pc := 813) (r := (μ', 0, 0)) (A := none) (B := some (μ', 0, 0)) (tgt := 828) (kTab_at (pc := 813) tL_law_9_ok 14 rfl) rfl (ieq_y gk hk) (fun h => nomatch h) (fun _ => ?_)
    have hc := hcmp hk
    refine K_aload_n (md := mL_law) (pc := 816) 6 (kTab_at (pc := 816) tL_law_9_ok 15 rfl) rfl ?_
    refine K_iconst (md := mL_law) (pc := 817) (x := 0) (kTab_at (pc := 817) tL_law_9_ok 16 rfl) rfl ?_
    refine K_lald (md := mL_law) (pc := 818) (r := (μ', 0, 0)) (k0 := fun _ => some (μ', 0, 0)) (kTab_at (pc := 818) tL_law_9_ok 17 rfl) sk_260 (by decide) rd_260 (fun _ => ?_)
    refine K_iload (md := mL_law) (pc := 819) 0 (kTab_at (pc := 819) tL_law_9_ok 18 rfl) rfl ?_
    refine K_i2l (md := mL_law) (pc := 821) (r := (μ', 0, 0)) (k0 := some (μ', 0, 0)) (kTab_at (pc := 821) tL_law_9_ok 19 rfl) (cmpI_of hc).1 (fun _ => ?_)
    refine K_lcmp_eq (md := mL_law) (pc := 822) (r := (μ', 0, 0)) (A := some (μ', 0, 0)) (B := none) (tgt := 828) (kTab_at (pc := 822) tL_law_9_ok 20 rfl) (kTab_at (pc := 823) tL_law_9_ok 21 rfl) rfl (cmpI_of hc).2 (fun _ => ?_) (fun h => nomatch h)
    refine K_goto (md := mL_law) (pc := 828) (tgt := 2483) (kTab_at (pc := 828) tL_law_9_ok 24 rfl) rfl ?_
    exact KJ_sub (fun q hq => List.mem_cons_of_mem _ (List.mem_cons_of_mem _ hq)) kk
  · refine K_if_ne (md := mL_law) (pc := 813) (r := (μ', 0, 0)) (A := some (μ', 0, 0)) (B := none) (tgt := 828) (kTab_at (pc := 813) tL_law_9_ok 14 rfl) rfl (ieq_n gk hk) (fun _ => ?_) (fun h => nomatch h)
    refine K_goto (md := mL_law) (pc := 828) (tgt := 2483) (kTab_at (pc := 828) tL_law_9_ok 24 rfl) rfl ?_
    exact KJ_sub (fun q hq => List.mem_cons_of_mem _ (List.mem_cons_of_mem _ hq)) kk
def lc_errorPosition  (μ : Mu) : Option Mu := ldir (f_X10_errorPosition  μ) (fun μ => f_X11_errorPosition  μ)
set_option maxRecDepth 100000 in
theorem k_errorPosition (X : kX) (po : kPo) (hL : X.2.2.2.2.1 < 2 ^ 31) (i : Int) (hi : 0 ≤ i ∧ i + 5 ≤ X.2.2.2.2.1) (n : Nat) (μ μ' : Mu) (h : lc_errorPosition  μ = some μ') (kk : KJ X mL_law 9 false po SK n (6 * n) 2483 [(4, .int (iI i)), (0, .ref X.2.2.2.1), (1, .ref (X.1 + 0)), (2, .ref (X.1 + 248)), (3, .ref (X.1 + 260))] [] μ') : KJ X mL_law 9 false po SK (n + 1) (6 * n + 6) 831 [(4, .int (iI i)), (0, .ref X.2.2.2.1), (1, .ref (X.1 + 0)), (2, .ref (X.1 + 248)), (3, .ref (X.1 + 260))] [] μ := by
  unfold lc_errorPosition at h
  obtain ⟨μ1, b, hf, hg, gb⟩ := ldir_of h
  refine KJ_less (cr' := n) (sr' := 6 * n) (by omega) (by omega) ?_
  refine K_aload_n (md := mL_law) (pc := 831) 2 (kTab_at (pc := 831) tL_law_10_ok 0 rfl) rfl ?_
  refine K_callC (md := mL_law) (pc := 832) (d' := 0) (rkY := 1) (μ2 := μ1) (x := b) (st := []) (b := 0) (kTab_at (pc := 832) tL_law_10_ok 1 rfl) mv_L_172 sk_0 rfl (Nat.le_of_ble_eq_true rfl) (by decide) rfl (c_X10_errorPosition X μ) hf ?_ rfl
  show KJ X mL_law 9 false po SK n (6 * n) 835 [(4, .int (iI i)), (0, .ref X.2.2.2.1), (1, .ref (X.1 + 0)), (2, .ref (X.1 + 248)), (3, .ref (X.1 + 260))] [.int (iI b)] μ1
  refine K_aload_n (md := mL_law) (pc := 835) 3 (kTab_at (pc := 835) tL_law_10_ok 2 rfl) rfl ?_
  refine K_callC (md := mL_law) (pc := 836) (d' := 0) (rkY := 1) (μ2 := μ') (x := b) (st := [.int (iI b)]) (b := 248) (kTab_at (pc := 836) tL_law_10_ok 3 rfl) mv_L_175 sk_248 rfl (Nat.le_of_ble_eq_true rfl) (by decide) rfl (c_X11_errorPosition X μ1) hg ?_ rfl
  show KJ X mL_law 9 false po SK n (6 * n) 839 [(4, .int (iI i)), (0, .ref X.2.2.2.1), (1, .ref (X.1 + 0)), (2, .ref (X.1 + 248)), (3, .ref (X.1 + 260))] [.int (iI b), .int (iI b)] μ'
  refine K_icmp_eq (md := mL_law) (pc := 839) (r := (μ', 0, 0)) (A := some (μ', 0, 0)) (B := none) (tgt := 2483) (kTab_at (pc := 839) tL_law_10_ok 4 rfl) rfl (ieq_t gb) (fun _ => ?_) (fun h => nomatch h)
  exact kk
def lc_entry (w1 : Int) (w2 : Int) (w3 : Int) (w4 : Int) (μ : Mu) : Option Mu := lcase (hp 0 [2, 5, 1] (f_X10_entry w1 w2 w3 w4 μ)) (fun μ => f_X11_entry w1 w2 w3 w4 μ) cmpI
theorem mh_entry : kMSH RL 176 mL_entry hh_entry 6 := ⟨inT4 70 (by decide +kernel) rfl, inT4 71 (by decide +kernel) rfl, inT4 72 (by decide +kernel) rfl, inT1 0 (by decide +kernel) rfl, by decide +kernel, by decide +kernel⟩
set_option maxRecDepth 100000 in
theorem k_entry (X : kX) (po : kPo) (hL : X.2.2.2.2.1 < 2 ^ 31) (i : Int) (hi : 0 ≤ i ∧ i + 5 ≤ X.2.2.2.2.1) (n : Nat) (μ μ' : Mu) (h : lc_entry (sw X (i + 1).toNat) (sw X (i + 2).toNat) (sw X (i + 3).toNat) (sw X (i + 4).toNat) μ = some μ') (kk : KJ X mL_law 9 false po SK n (6 * n) 2483 [(4, .int (iI i)), (0, .ref X.2.2.2.1), (1, .ref (X.1 + 0)), (2, .ref (X.1 + 248)), (3, .ref (X.1 + 260))] [] μ') : KJ X mL_law 9 false po SK (n + 1) (6 * n + 6) 844 [(4, .int (iI i)), (0, .ref X.2.2.2.1), (1, .ref (X.1 + 0)), (2, .ref (X.1 + 248)), (3, .ref (X.1 + 260))] [] μ := by
  generalize hw1 : sw X (i + 1).toNat = w1 at h
  generalize hw2 : sw X (i + 2).toNat = w2 at h
  generalize hw3 : sw X (i + 3).toNat = w3 at h
  generalize hw4 : sw X (i + 4).toNat = w4 at h
  unfold lc_entry at h
  obtain ⟨μ1, k, b, hf, hg, ht, gk, hcmp⟩ := lcase_of (by exact Or.inl rfl) h
  refine K_aload_n (md := mL_law) (pc := 844) 2 (kTab_at (pc := 844) tL_law_11_ok 0 rfl) rfl ?_
  refine K_aload_n (md := mL_law) (pc := 845) 1 (kTab_at (pc := 845) tL_law_11_ok 1 rfl) rfl ?_
  refine K_iload (md := mL_law) (pc := 846) 0 (kTab_at (pc := 846) tL_law_11_ok 2 rfl) rfl ?_
  refine K_iconst (md := mL_law) (pc := 848) (x := 1) (kTab_at (pc := 848) tL_law_11_ok 3 rfl) rfl ?_
  refine K_iadd (md := mL_law) (pc := 849) (kTab_at (pc := 849) tL_law_11_ok 4 rfl) ?_
  refine K_sld (md := mL_law) (pc := 850) hL (by omega) (kTab_at (pc := 850) tL_law_11_ok 5 rfl) ?_
  rw [hw1]
  refine K_aload_n (md := mL_law) (pc := 851) 1 (kTab_at (pc := 851) tL_law_11_ok 6 rfl) rfl ?_
  refine K_iload (md := mL_law) (pc := 852) 0 (kTab_at (pc := 852) tL_law_11_ok 7 rfl) rfl ?_
  refine K_iconst (md := mL_law) (pc := 854) (x := 2) (kTab_at (pc := 854) tL_law_11_ok 8 rfl) rfl ?_
  refine K_iadd (md := mL_law) (pc := 855) (kTab_at (pc := 855) tL_law_11_ok 9 rfl) ?_
  refine K_sld (md := mL_law) (pc := 856) hL (by omega) (kTab_at (pc := 856) tL_law_11_ok 10 rfl) ?_
  rw [hw2]
  refine K_aload_n (md := mL_law) (pc := 857) 1 (kTab_at (pc := 857) tL_law_11_ok 11 rfl) rfl ?_
  refine K_iload (md := mL_law) (pc := 858) 0 (kTab_at (pc := 858) tL_law_11_ok 12 rfl) rfl ?_
  refine K_iconst (md := mL_law) (pc := 860) (x := 3) (kTab_at (pc := 860) tL_law_11_ok 13 rfl) rfl ?_
  refine K_iadd (md := mL_law) (pc := 861) (kTab_at (pc := 861) tL_law_11_ok 14 rfl) ?_
  refine K_sld (md := mL_law) (pc := 862) hL (by omega) (kTab_at (pc := 862) tL_law_11_ok 15 rfl) ?_
  rw [hw3]
  refine K_aload_n (md := mL_law) (pc := 863) 1 (kTab_at (pc := 863) tL_law_11_ok 16 rfl) rfl ?_
  refine K_iload (md := mL_law) (pc := 864) 0 (kTab_at (pc := 864) tL_law_11_ok 17 rfl) rfl ?_
  refine K_iconst (md := mL_law) (pc := 866) (x := 4) (kTab_at (pc := 866) tL_law_11_ok 18 rfl) rfl ?_
  refine K_iadd (md := mL_law) (pc := 867) (kTab_at (pc := 867) tL_law_11_ok 19 rfl) ?_
  refine K_sld (md := mL_law) (pc := 868) hL (by omega) (kTab_at (pc := 868) tL_law_11_ok 20 rfl) ?_
  rw [hw4]
  refine K_aload_n (md := mL_law) (pc := 869) 4 (kTab_at (pc := 869) tL_law_11_ok 21 rfl) rfl ?_
  refine K_callCH (md := mL_law) (pc := 870) (mdY := mL_entry) (d' := 7) (cr := n) (sr := 6 * n) (μ2 := μ1) (x := k) (st := []) (kTab_at (pc := 870) tL_law_11_ok 22 rfl) mh_entry rfl (Nat.le_of_ble_eq_true rfl) (by decide) (h_entry X w1 w2 w3 w4 μ (μ1, 0, k) hf) ?_ rfl
  show KJ X mL_law 9 false po SK n (6 * n) 873 [(4, .int (iI i)), (0, .ref X.2.2.2.1), (1, .ref (X.1 + 0)), (2, .ref (X.1 + 248)), (3, .ref (X.1 + 260))] [.int (iI k)] μ1
  refine K_istore (md := mL_law) (pc := 873) (l' := (5, .int (iI k)) :: [(4, .int (iI i)), (0, .ref X.2.2.2.1), (1, .ref (X.1 + 0)), (2, .ref (X.1 + 248)), (3, .ref (X.1 + 260))]) (kTab_at (pc := 873) tL_law_11_ok 23 rfl) (Nat.le_of_ble_eq_true rfl) rfl ?_
  refine K_aload_n (md := mL_law) (pc := 875) 4 (kTab_at (pc := 875) tL_law_11_ok 24 rfl) rfl ?_
  refine K_aload_n (md := mL_law) (pc := 876) 2 (kTab_at (pc := 876) tL_law_11_ok 25 rfl) rfl ?_
  refine K_iload (md := mL_law) (pc := 877) 1 (kTab_at (pc := 877) tL_law_11_ok 26 rfl) rfl ?_
  refine K_iconst (md := mL_law) (pc := 879) (x := 1) (kTab_at (pc := 879) tL_law_11_ok 27 rfl) rfl ?_
  refine K_iadd (md := mL_law) (pc := 880) (kTab_at (pc := 880) tL_law_11_ok 28 rfl) ?_
  refine K_sld (md := mL_law) (pc := 881) hL (by omega) (kTab_at (pc := 881) tL_law_11_ok 29 rfl) ?_
  rw [hw1]
  refine K_aload_n (md := mL_law) (pc := 882) 2 (kTab_at (pc := 882) tL_law_11_ok 30 rfl) rfl ?_
  refine K_iload (md := mL_law) (pc := 883) 1 (kTab_at (pc := 883) tL_law_11_ok 31 rfl) rfl ?_
  refine K_iconst (md := mL_law) (pc := 885) (x := 2) (kTab_at (pc := 885) tL_law_11_ok 32 rfl) rfl ?_
  refine K_iadd (md := mL_law) (pc := 886) (kTab_at (pc := 886) tL_law_11_ok 33 rfl) ?_
  refine K_sld (md := mL_law) (pc := 887) hL (by omega) (kTab_at (pc := 887) tL_law_11_ok 34 rfl) ?_
  rw [hw2]
  refine K_aload_n (md := mL_law) (pc := 888) 2 (kTab_at (pc := 888) tL_law_11_ok 35 rfl) rfl ?_
  refine K_iload (md := mL_law) (pc := 889) 1 (kTab_at (pc := 889) tL_law_11_ok 36 rfl) rfl ?_
  refine K_iconst (md := mL_law) (pc := 891) (x := 3) (kTab_at (pc := 891) tL_law_11_ok 37 rfl) rfl ?_
  refine K_iadd (md := mL_law) (pc := 892) (kTab_at (pc := 892) tL_law_11_ok 38 rfl) ?_
  refine K_sld (md := mL_law) (pc := 893) hL (by omega) (kTab_at (pc := 893) tL_law_11_ok 39 rfl) ?_
  rw [hw3]
  refine K_aload_n (md := mL_law) (pc := 894) 2 (kTab_at (pc := 894) tL_law_11_ok 40 rfl) rfl ?_
  refine K_iload (md := mL_law) (pc := 895) 1 (kTab_at (pc := 895) tL_law_11_ok 41 rfl) rfl ?_
  refine K_iconst (md := mL_law) (pc := 897) (x := 4) (kTab_at (pc := 897) tL_law_11_ok 42 rfl) rfl ?_
  refine K_iadd (md := mL_law) (pc := 898) (kTab_at (pc := 898) tL_law_11_ok 43 rfl) ?_
  refine K_sld (md := mL_law) (pc := 899) hL (by omega) (kTab_at (pc := 899) tL_law_11_ok 44 rfl) ?_
  rw [hw4]
  refine K_callC (md := mL_law) (pc := 900) (d' := 4) (rkY := 1) (μ2 := μ') (x := b) (st := []) (b := 248) (kTab_at (pc := 900) tL_law_11_ok 45 rfl) mv_L_178 sk_248 rfl (Nat.le_of_ble_eq_true rfl) (by decide) rfl (c_X11_entry X w1 w2 w3 w4 μ1) hg ?_ rfl
  show KJ X mL_law 9 false po SK n (6 * n) 903 ((5, .int (iI k)) :: [(4, .int (iI i)), (0, .ref X.2.2.2.1), (1, .ref (X.1 + 0)), (2, .ref (X.1 + 248)), (3, .ref (X.1 + 260))]) [.int (iI b)] μ'
  refine K_istore (md := mL_law) (pc := 903) (l' := (6, .int (iI b)) :: (5, .int (iI k)) :: [(4, .int (iI i)), (0, .ref X.2.2.2.1), (1, .ref (X.1 + 0)), (2, .ref (X.1 + 248)), (3, .ref (X.1 + 260))]) (kTab_at (pc := 903) tL_law_11_ok 46 rfl) (Nat.le_of_ble_eq_true rfl) rfl ?_
  refine K_aload_n (md := mL_law) (pc := 905) 5 (kTab_at (pc := 905) tL_law_11_ok 47 rfl) rfl ?_
  refine K_callC (md := mL_law) (pc := 906) (d' := 0) (rkY := 1) (μ2 := μ') (x := μ' 248 0) (st := []) (b := 248) (kTab_at (pc := 906) tL_law_11_ok 48 rfl) mv_L_142 sk_248 rfl (Nat.le_of_ble_eq_true rfl) (by decide) rfl (c_X11_thrown X μ') rfl ?_ rfl
  rw [ht]
  show KJ X mL_law 9 false po SK n (6 * n) 909 ((6, .int (iI b)) :: (5, .int (iI k)) :: [(4, .int (iI i)), (0, .ref X.2.2.2.1), (1, .ref (X.1 + 0)), (2, .ref (X.1 + 248)), (3, .ref (X.1 + 260))]) [.int (iI k)] μ'
  refine K_iload (md := mL_law) (pc := 909) 1 (kTab_at (pc := 909) tL_law_11_ok 49 rfl) rfl ?_
  refine K_icmp_eq (md := mL_law) (pc := 911) (r := (μ', 0, 0)) (A := some (μ', 0, 0)) (B := none) (tgt := 916) (kTab_at (pc := 911) tL_law_11_ok 50 rfl) rfl (ieq_t gk) (fun _ => ?_) (fun h => nomatch h)
  refine K_iload (md := mL_law) (pc := 916) 1 (kTab_at (pc := 916) tL_law_11_ok 53 rfl) rfl ?_
  by_cases hk : k = 0
  · refine K_if_ne (md := mL_law) (pc := 918) (r := (μ', 0, 0)) (A := none) (B := some (μ', 0, 0)) (tgt := 933) (kTab_at (pc := 918) tL_law_11_ok 54 rfl) rfl (ieq_y gk hk) (fun h => nomatch h) (fun _ => ?_)
    have hc := hcmp hk
    refine K_aload_n (md := mL_law) (pc := 921) 6 (kTab_at (pc := 921) tL_law_11_ok 55 rfl) rfl ?_
    refine K_iconst (md := mL_law) (pc := 922) (x := 0) (kTab_at (pc := 922) tL_law_11_ok 56 rfl) rfl ?_
    refine K_lald (md := mL_law) (pc := 923) (r := (μ', 0, 0)) (k0 := fun _ => some (μ', 0, 0)) (kTab_at (pc := 923) tL_law_11_ok 57 rfl) sk_260 (by decide) rd_260 (fun _ => ?_)
    refine K_iload (md := mL_law) (pc := 924) 0 (kTab_at (pc := 924) tL_law_11_ok 58 rfl) rfl ?_
    refine K_i2l (md := mL_law) (pc := 926) (r := (μ', 0, 0)) (k0 := some (μ', 0, 0)) (kTab_at (pc := 926) tL_law_11_ok 59 rfl) (cmpI_of hc).1 (fun _ => ?_)
    refine K_lcmp_eq (md := mL_law) (pc := 927) (r := (μ', 0, 0)) (A := some (μ', 0, 0)) (B := none) (tgt := 933) (kTab_at (pc := 927) tL_law_11_ok 60 rfl) (kTab_at (pc := 928) tL_law_11_ok 61 rfl) rfl (cmpI_of hc).2 (fun _ => ?_) (fun h => nomatch h)
    refine K_goto (md := mL_law) (pc := 933) (tgt := 2483) (kTab_at (pc := 933) tL_law_11_ok 64 rfl) rfl ?_
    exact KJ_sub (fun q hq => List.mem_cons_of_mem _ (List.mem_cons_of_mem _ hq)) kk
  · refine K_if_ne (md := mL_law) (pc := 918) (r := (μ', 0, 0)) (A := some (μ', 0, 0)) (B := none) (tgt := 933) (kTab_at (pc := 918) tL_law_11_ok 54 rfl) rfl (ieq_n gk hk) (fun _ => ?_) (fun h => nomatch h)
    refine K_goto (md := mL_law) (pc := 933) (tgt := 2483) (kTab_at (pc := 933) tL_law_11_ok 64 rfl) rfl ?_
    exact KJ_sub (fun q hq => List.mem_cons_of_mem _ (List.mem_cons_of_mem _ hq)) kk
def lc_script (w1 : Int) (w2 : Int) (w3 : Int) (μ : Mu) : Option Mu := lcase (hp 0 [2, 1] (f_X10_script w1 w2 w3 μ)) (fun μ => f_X11_script w1 w2 w3 μ) cmpI
theorem mh_script : kMSH RL 179 mL_script hh_script 5 := ⟨inT4 96 (by decide +kernel) rfl, inT4 97 (by decide +kernel) rfl, inT4 98 (by decide +kernel) rfl, inT1 0 (by decide +kernel) rfl, by decide +kernel, by decide +kernel⟩
set_option maxRecDepth 100000 in
theorem k_script (X : kX) (po : kPo) (hL : X.2.2.2.2.1 < 2 ^ 31) (i : Int) (hi : 0 ≤ i ∧ i + 5 ≤ X.2.2.2.2.1) (n : Nat) (μ μ' : Mu) (h : lc_script (sw X (i + 1).toNat) (sw X (i + 2).toNat) (sw X (i + 3).toNat) μ = some μ') (kk : KJ X mL_law 9 false po SK n (6 * n) 2483 [(4, .int (iI i)), (0, .ref X.2.2.2.1), (1, .ref (X.1 + 0)), (2, .ref (X.1 + 248)), (3, .ref (X.1 + 260))] [] μ') : KJ X mL_law 9 false po SK (n + 1) (6 * n + 6) 936 [(4, .int (iI i)), (0, .ref X.2.2.2.1), (1, .ref (X.1 + 0)), (2, .ref (X.1 + 248)), (3, .ref (X.1 + 260))] [] μ := by
  generalize hw1 : sw X (i + 1).toNat = w1 at h
  generalize hw2 : sw X (i + 2).toNat = w2 at h
  generalize hw3 : sw X (i + 3).toNat = w3 at h
  unfold lc_script at h
  obtain ⟨μ1, k, b, hf, hg, ht, gk, hcmp⟩ := lcase_of (by exact Or.inl rfl) h
  refine K_aload_n (md := mL_law) (pc := 936) 2 (kTab_at (pc := 936) tL_law_12_ok 0 rfl) rfl ?_
  refine K_aload_n (md := mL_law) (pc := 937) 1 (kTab_at (pc := 937) tL_law_12_ok 1 rfl) rfl ?_
  refine K_iload (md := mL_law) (pc := 938) 0 (kTab_at (pc := 938) tL_law_12_ok 2 rfl) rfl ?_
  refine K_iconst (md := mL_law) (pc := 940) (x := 1) (kTab_at (pc := 940) tL_law_12_ok 3 rfl) rfl ?_
  refine K_iadd (md := mL_law) (pc := 941) (kTab_at (pc := 941) tL_law_12_ok 4 rfl) ?_
  refine K_sld (md := mL_law) (pc := 942) hL (by omega) (kTab_at (pc := 942) tL_law_12_ok 5 rfl) ?_
  rw [hw1]
  refine K_aload_n (md := mL_law) (pc := 943) 1 (kTab_at (pc := 943) tL_law_12_ok 6 rfl) rfl ?_
  refine K_iload (md := mL_law) (pc := 944) 0 (kTab_at (pc := 944) tL_law_12_ok 7 rfl) rfl ?_
  refine K_iconst (md := mL_law) (pc := 946) (x := 2) (kTab_at (pc := 946) tL_law_12_ok 8 rfl) rfl ?_
  refine K_iadd (md := mL_law) (pc := 947) (kTab_at (pc := 947) tL_law_12_ok 9 rfl) ?_
  refine K_sld (md := mL_law) (pc := 948) hL (by omega) (kTab_at (pc := 948) tL_law_12_ok 10 rfl) ?_
  rw [hw2]
  refine K_aload_n (md := mL_law) (pc := 949) 1 (kTab_at (pc := 949) tL_law_12_ok 11 rfl) rfl ?_
  refine K_iload (md := mL_law) (pc := 950) 0 (kTab_at (pc := 950) tL_law_12_ok 12 rfl) rfl ?_
  refine K_iconst (md := mL_law) (pc := 952) (x := 3) (kTab_at (pc := 952) tL_law_12_ok 13 rfl) rfl ?_
  refine K_iadd (md := mL_law) (pc := 953) (kTab_at (pc := 953) tL_law_12_ok 14 rfl) ?_
  refine K_sld (md := mL_law) (pc := 954) hL (by omega) (kTab_at (pc := 954) tL_law_12_ok 15 rfl) ?_
  rw [hw3]
  refine K_aload_n (md := mL_law) (pc := 955) 4 (kTab_at (pc := 955) tL_law_12_ok 16 rfl) rfl ?_
  refine K_callCH (md := mL_law) (pc := 956) (mdY := mL_script) (d' := 7) (cr := n) (sr := 6 * n) (μ2 := μ1) (x := k) (st := []) (kTab_at (pc := 956) tL_law_12_ok 17 rfl) mh_script rfl (Nat.le_of_ble_eq_true rfl) (by decide) (h_script X w1 w2 w3 μ (μ1, 0, k) hf) ?_ rfl
  show KJ X mL_law 9 false po SK n (6 * n) 959 [(4, .int (iI i)), (0, .ref X.2.2.2.1), (1, .ref (X.1 + 0)), (2, .ref (X.1 + 248)), (3, .ref (X.1 + 260))] [.int (iI k)] μ1
  refine K_istore (md := mL_law) (pc := 959) (l' := (5, .int (iI k)) :: [(4, .int (iI i)), (0, .ref X.2.2.2.1), (1, .ref (X.1 + 0)), (2, .ref (X.1 + 248)), (3, .ref (X.1 + 260))]) (kTab_at (pc := 959) tL_law_12_ok 18 rfl) (Nat.le_of_ble_eq_true rfl) rfl ?_
  refine K_aload_n (md := mL_law) (pc := 961) 4 (kTab_at (pc := 961) tL_law_12_ok 19 rfl) rfl ?_
  refine K_aload_n (md := mL_law) (pc := 962) 2 (kTab_at (pc := 962) tL_law_12_ok 20 rfl) rfl ?_
  refine K_iload (md := mL_law) (pc := 963) 1 (kTab_at (pc := 963) tL_law_12_ok 21 rfl) rfl ?_
  refine K_iconst (md := mL_law) (pc := 965) (x := 1) (kTab_at (pc := 965) tL_law_12_ok 22 rfl) rfl ?_
  refine K_iadd (md := mL_law) (pc := 966) (kTab_at (pc := 966) tL_law_12_ok 23 rfl) ?_
  refine K_sld (md := mL_law) (pc := 967) hL (by omega) (kTab_at (pc := 967) tL_law_12_ok 24 rfl) ?_
  rw [hw1]
  refine K_aload_n (md := mL_law) (pc := 968) 2 (kTab_at (pc := 968) tL_law_12_ok 25 rfl) rfl ?_
  refine K_iload (md := mL_law) (pc := 969) 1 (kTab_at (pc := 969) tL_law_12_ok 26 rfl) rfl ?_
  refine K_iconst (md := mL_law) (pc := 971) (x := 2) (kTab_at (pc := 971) tL_law_12_ok 27 rfl) rfl ?_
  refine K_iadd (md := mL_law) (pc := 972) (kTab_at (pc := 972) tL_law_12_ok 28 rfl) ?_
  refine K_sld (md := mL_law) (pc := 973) hL (by omega) (kTab_at (pc := 973) tL_law_12_ok 29 rfl) ?_
  rw [hw2]
  refine K_aload_n (md := mL_law) (pc := 974) 2 (kTab_at (pc := 974) tL_law_12_ok 30 rfl) rfl ?_
  refine K_iload (md := mL_law) (pc := 975) 1 (kTab_at (pc := 975) tL_law_12_ok 31 rfl) rfl ?_
  refine K_iconst (md := mL_law) (pc := 977) (x := 3) (kTab_at (pc := 977) tL_law_12_ok 32 rfl) rfl ?_
  refine K_iadd (md := mL_law) (pc := 978) (kTab_at (pc := 978) tL_law_12_ok 33 rfl) ?_
  refine K_sld (md := mL_law) (pc := 979) hL (by omega) (kTab_at (pc := 979) tL_law_12_ok 34 rfl) ?_
  rw [hw3]
  refine K_callC (md := mL_law) (pc := 980) (d' := 6) (rkY := 1) (μ2 := μ') (x := b) (st := []) (b := 248) (kTab_at (pc := 980) tL_law_12_ok 35 rfl) mv_L_182 sk_248 rfl (Nat.le_of_ble_eq_true rfl) (by decide) rfl (c_X11_script X w1 w2 w3 μ1) hg ?_ rfl
  show KJ X mL_law 9 false po SK n (6 * n) 983 ((5, .int (iI k)) :: [(4, .int (iI i)), (0, .ref X.2.2.2.1), (1, .ref (X.1 + 0)), (2, .ref (X.1 + 248)), (3, .ref (X.1 + 260))]) [.int (iI b)] μ'
  refine K_istore (md := mL_law) (pc := 983) (l' := (6, .int (iI b)) :: (5, .int (iI k)) :: [(4, .int (iI i)), (0, .ref X.2.2.2.1), (1, .ref (X.1 + 0)), (2, .ref (X.1 + 248)), (3, .ref (X.1 + 260))]) (kTab_at (pc := 983) tL_law_12_ok 36 rfl) (Nat.le_of_ble_eq_true rfl) rfl ?_
  refine K_aload_n (md := mL_law) (pc := 985) 5 (kTab_at (pc := 985) tL_law_12_ok 37 rfl) rfl ?_
  refine K_callC (md := mL_law) (pc := 986) (d' := 0) (rkY := 1) (μ2 := μ') (x := μ' 248 0) (st := []) (b := 248) (kTab_at (pc := 986) tL_law_12_ok 38 rfl) mv_L_142 sk_248 rfl (Nat.le_of_ble_eq_true rfl) (by decide) rfl (c_X11_thrown X μ') rfl ?_ rfl
  rw [ht]
  show KJ X mL_law 9 false po SK n (6 * n) 989 ((6, .int (iI b)) :: (5, .int (iI k)) :: [(4, .int (iI i)), (0, .ref X.2.2.2.1), (1, .ref (X.1 + 0)), (2, .ref (X.1 + 248)), (3, .ref (X.1 + 260))]) [.int (iI k)] μ'
  refine K_iload (md := mL_law) (pc := 989) 1 (kTab_at (pc := 989) tL_law_12_ok 39 rfl) rfl ?_
  refine K_icmp_eq (md := mL_law) (pc := 991) (r := (μ', 0, 0)) (A := some (μ', 0, 0)) (B := none) (tgt := 996) (kTab_at (pc := 991) tL_law_12_ok 40 rfl) rfl (ieq_t gk) (fun _ => ?_) (fun h => nomatch h)
  refine K_iload (md := mL_law) (pc := 996) 1 (kTab_at (pc := 996) tL_law_12_ok 43 rfl) rfl ?_
  by_cases hk : k = 0
  · refine K_if_ne (md := mL_law) (pc := 998) (r := (μ', 0, 0)) (A := none) (B := some (μ', 0, 0)) (tgt := 1013) (kTab_at (pc := 998) tL_law_12_ok 44 rfl) rfl (ieq_y gk hk) (fun h => nomatch h) (fun _ => ?_)
    have hc := hcmp hk
    refine K_aload_n (md := mL_law) (pc := 1001) 6 (kTab_at (pc := 1001) tL_law_12_ok 45 rfl) rfl ?_
    refine K_iconst (md := mL_law) (pc := 1002) (x := 0) (kTab_at (pc := 1002) tL_law_12_ok 46 rfl) rfl ?_
    refine K_lald (md := mL_law) (pc := 1003) (r := (μ', 0, 0)) (k0 := fun _ => some (μ', 0, 0)) (kTab_at (pc := 1003) tL_law_12_ok 47 rfl) sk_260 (by decide) rd_260 (fun _ => ?_)
    refine K_iload (md := mL_law) (pc := 1004) 0 (kTab_at (pc := 1004) tL_law_12_ok 48 rfl) rfl ?_
    refine K_i2l (md := mL_law) (pc := 1006) (r := (μ', 0, 0)) (k0 := some (μ', 0, 0)) (kTab_at (pc := 1006) tL_law_12_ok 49 rfl) (cmpI_of hc).1 (fun _ => ?_)
    refine K_lcmp_eq (md := mL_law) (pc := 1007) (r := (μ', 0, 0)) (A := some (μ', 0, 0)) (B := none) (tgt := 1013) (kTab_at (pc := 1007) tL_law_12_ok 50 rfl) (kTab_at (pc := 1008) tL_law_12_ok 51 rfl) rfl (cmpI_of hc).2 (fun _ => ?_) (fun h => nomatch h)
    refine K_goto (md := mL_law) (pc := 1013) (tgt := 2483) (kTab_at (pc := 1013) tL_law_12_ok 54 rfl) rfl ?_
    exact KJ_sub (fun q hq => List.mem_cons_of_mem _ (List.mem_cons_of_mem _ hq)) kk
  · refine K_if_ne (md := mL_law) (pc := 998) (r := (μ', 0, 0)) (A := some (μ', 0, 0)) (B := none) (tgt := 1013) (kTab_at (pc := 998) tL_law_12_ok 44 rfl) rfl (ieq_n gk hk) (fun _ => ?_) (fun h => nomatch h)
    refine K_goto (md := mL_law) (pc := 1013) (tgt := 2483) (kTab_at (pc := 1013) tL_law_12_ok 54 rfl) rfl ?_
    exact KJ_sub (fun q hq => List.mem_cons_of_mem _ (List.mem_cons_of_mem _ hq)) kk
def lc_excuse (w1 : Int) (w2 : Int) (w3 : Int) (μ : Mu) : Option Mu := lcase (hp 1 [2, 4, 0] (f_X10_excuse w1 w2 (if w3 = 0 then 0 else 1) μ)) (fun μ => f_X11_excuse w1 w2 (if w3 = 0 then 0 else 1) μ) cmpZ
theorem mh_excuse : kMSH RL 183 mL_excuse hh_excuse 5 := ⟨inT4 117 (by decide +kernel) rfl, inT4 118 (by decide +kernel) rfl, inT4 119 (by decide +kernel) rfl, inT1 0 (by decide +kernel) rfl, by decide +kernel, by decide +kernel⟩
set_option maxRecDepth 100000 in
theorem k_excuse (X : kX) (po : kPo) (hL : X.2.2.2.2.1 < 2 ^ 31) (i : Int) (hi : 0 ≤ i ∧ i + 5 ≤ X.2.2.2.2.1) (n : Nat) (μ μ' : Mu) (h : lc_excuse (sw X (i + 1).toNat) (sw X (i + 2).toNat) (sw X (i + 3).toNat) μ = some μ') (kk : KJ X mL_law 9 false po SK n (6 * n) 2483 [(4, .int (iI i)), (0, .ref X.2.2.2.1), (1, .ref (X.1 + 0)), (2, .ref (X.1 + 248)), (3, .ref (X.1 + 260))] [] μ') : KJ X mL_law 9 false po SK (n + 1) (6 * n + 6) 1016 [(4, .int (iI i)), (0, .ref X.2.2.2.1), (1, .ref (X.1 + 0)), (2, .ref (X.1 + 248)), (3, .ref (X.1 + 260))] [] μ := by
  generalize hw1 : sw X (i + 1).toNat = w1 at h
  generalize hw2 : sw X (i + 2).toNat = w2 at h
  generalize hw3 : sw X (i + 3).toNat = w3 at h
  unfold lc_excuse at h
  have gw3 : gI w3 := hw3 ▸ sw_gI X _
  obtain ⟨μ1, k, b, hf, hg, ht, gk, hcmp⟩ := lcase_of (by exact Or.inr (Or.inl rfl)) h
  refine K_aload_n (md := mL_law) (pc := 1016) 2 (kTab_at (pc := 1016) tL_law_13_ok 0 rfl) rfl ?_
  refine K_aload_n (md := mL_law) (pc := 1017) 1 (kTab_at (pc := 1017) tL_law_13_ok 1 rfl) rfl ?_
  refine K_iload (md := mL_law) (pc := 1018) 0 (kTab_at (pc := 1018) tL_law_13_ok 2 rfl) rfl ?_
  refine K_iconst (md := mL_law) (pc := 1020) (x := 1) (kTab_at (pc := 1020) tL_law_13_ok 3 rfl) rfl ?_
  refine K_iadd (md := mL_law) (pc := 1021) (kTab_at (pc := 1021) tL_law_13_ok 4 rfl) ?_
  refine K_sld (md := mL_law) (pc := 1022) hL (by omega) (kTab_at (pc := 1022) tL_law_13_ok 5 rfl) ?_
  rw [hw1]
  refine K_aload_n (md := mL_law) (pc := 1023) 1 (kTab_at (pc := 1023) tL_law_13_ok 6 rfl) rfl ?_
  refine K_iload (md := mL_law) (pc := 1024) 0 (kTab_at (pc := 1024) tL_law_13_ok 7 rfl) rfl ?_
  refine K_iconst (md := mL_law) (pc := 1026) (x := 2) (kTab_at (pc := 1026) tL_law_13_ok 8 rfl) rfl ?_
  refine K_iadd (md := mL_law) (pc := 1027) (kTab_at (pc := 1027) tL_law_13_ok 9 rfl) ?_
  refine K_sld (md := mL_law) (pc := 1028) hL (by omega) (kTab_at (pc := 1028) tL_law_13_ok 10 rfl) ?_
  rw [hw2]
  refine K_aload_n (md := mL_law) (pc := 1029) 1 (kTab_at (pc := 1029) tL_law_13_ok 11 rfl) rfl ?_
  refine K_iload (md := mL_law) (pc := 1030) 0 (kTab_at (pc := 1030) tL_law_13_ok 12 rfl) rfl ?_
  refine K_iconst (md := mL_law) (pc := 1032) (x := 3) (kTab_at (pc := 1032) tL_law_13_ok 13 rfl) rfl ?_
  refine K_iadd (md := mL_law) (pc := 1033) (kTab_at (pc := 1033) tL_law_13_ok 14 rfl) ?_
  refine K_sld (md := mL_law) (pc := 1034) hL (by omega) (kTab_at (pc := 1034) tL_law_13_ok 15 rfl) ?_
  rw [hw3]
  suffices kZ : KJ X mL_law 9 false po SK (n + 1) (6 * n + 6) 1043 ([(4, .int (iI i)), (0, .ref X.2.2.2.1), (1, .ref (X.1 + 0)), (2, .ref (X.1 + 248)), (3, .ref (X.1 + 260))]) (.int (iI (if w3 = 0 then 0 else 1)) :: [.int (iI w2), .int (iI w1), .ref (X.1 + 0)]) μ by
    by_cases hz : w3 = 0
    · refine K_if_eq (md := mL_law) (pc := 1035) (r := (μ', 0, 0)) (A := some (μ', 0, 0)) (B := none) (tgt := 1042) (kTab_at (pc := 1035) tL_law_13_ok 16 rfl) rfl (ieq_y gw3 hz) (fun _ => ?_) (fun h => nomatch h)
      rw [if_pos hz] at kZ
      exact K_iconst (md := mL_law) (pc := 1042) (x := 0) (kTab_at (pc := 1042) tL_law_13_ok 19 rfl) rfl kZ
    · refine K_if_eq (md := mL_law) (pc := 1035) (r := (μ', 0, 0)) (A := none) (B := some (μ', 0, 0)) (tgt := 1042) (kTab_at (pc := 1035) tL_law_13_ok 16 rfl) rfl (ieq_n gw3 hz) (fun h => nomatch h) (fun _ => ?_)
      rw [if_neg hz] at kZ
      refine K_iconst (md := mL_law) (pc := 1038) (x := 1) (kTab_at (pc := 1038) tL_law_13_ok 17 rfl) rfl ?_
      exact K_goto (md := mL_law) (pc := 1039) (tgt := 1043) (kTab_at (pc := 1039) tL_law_13_ok 18 rfl) rfl kZ
  refine K_aload_n (md := mL_law) (pc := 1043) 4 (kTab_at (pc := 1043) tL_law_13_ok 20 rfl) rfl ?_
  refine K_callCH (md := mL_law) (pc := 1044) (mdY := mL_excuse) (d' := 7) (cr := n) (sr := 6 * n) (μ2 := μ1) (x := k) (st := []) (kTab_at (pc := 1044) tL_law_13_ok 21 rfl) mh_excuse rfl (Nat.le_of_ble_eq_true rfl) (by decide) (h_excuse X w1 w2 (if w3 = 0 then 0 else 1) μ (μ1, 0, k) hf) ?_ rfl
  show KJ X mL_law 9 false po SK n (6 * n) 1047 [(4, .int (iI i)), (0, .ref X.2.2.2.1), (1, .ref (X.1 + 0)), (2, .ref (X.1 + 248)), (3, .ref (X.1 + 260))] [.int (iI k)] μ1
  refine K_istore (md := mL_law) (pc := 1047) (l' := (5, .int (iI k)) :: [(4, .int (iI i)), (0, .ref X.2.2.2.1), (1, .ref (X.1 + 0)), (2, .ref (X.1 + 248)), (3, .ref (X.1 + 260))]) (kTab_at (pc := 1047) tL_law_13_ok 22 rfl) (Nat.le_of_ble_eq_true rfl) rfl ?_
  refine K_aload_n (md := mL_law) (pc := 1049) 4 (kTab_at (pc := 1049) tL_law_13_ok 23 rfl) rfl ?_
  refine K_aload_n (md := mL_law) (pc := 1050) 2 (kTab_at (pc := 1050) tL_law_13_ok 24 rfl) rfl ?_
  refine K_iload (md := mL_law) (pc := 1051) 1 (kTab_at (pc := 1051) tL_law_13_ok 25 rfl) rfl ?_
  refine K_iconst (md := mL_law) (pc := 1053) (x := 1) (kTab_at (pc := 1053) tL_law_13_ok 26 rfl) rfl ?_
  refine K_iadd (md := mL_law) (pc := 1054) (kTab_at (pc := 1054) tL_law_13_ok 27 rfl) ?_
  refine K_sld (md := mL_law) (pc := 1055) hL (by omega) (kTab_at (pc := 1055) tL_law_13_ok 28 rfl) ?_
  rw [hw1]
  refine K_aload_n (md := mL_law) (pc := 1056) 2 (kTab_at (pc := 1056) tL_law_13_ok 29 rfl) rfl ?_
  refine K_iload (md := mL_law) (pc := 1057) 1 (kTab_at (pc := 1057) tL_law_13_ok 30 rfl) rfl ?_
  refine K_iconst (md := mL_law) (pc := 1059) (x := 2) (kTab_at (pc := 1059) tL_law_13_ok 31 rfl) rfl ?_
  refine K_iadd (md := mL_law) (pc := 1060) (kTab_at (pc := 1060) tL_law_13_ok 32 rfl) ?_
  refine K_sld (md := mL_law) (pc := 1061) hL (by omega) (kTab_at (pc := 1061) tL_law_13_ok 33 rfl) ?_
  rw [hw2]
  refine K_aload_n (md := mL_law) (pc := 1062) 2 (kTab_at (pc := 1062) tL_law_13_ok 34 rfl) rfl ?_
  refine K_iload (md := mL_law) (pc := 1063) 1 (kTab_at (pc := 1063) tL_law_13_ok 35 rfl) rfl ?_
  refine K_iconst (md := mL_law) (pc := 1065) (x := 3) (kTab_at (pc := 1065) tL_law_13_ok 36 rfl) rfl ?_
  refine K_iadd (md := mL_law) (pc := 1066) (kTab_at (pc := 1066) tL_law_13_ok 37 rfl) ?_
  refine K_sld (md := mL_law) (pc := 1067) hL (by omega) (kTab_at (pc := 1067) tL_law_13_ok 38 rfl) ?_
  rw [hw3]
  suffices kZ : KJ X mL_law 9 false po SK n (6 * n) 1076 ((5, .int (iI k)) :: [(4, .int (iI i)), (0, .ref X.2.2.2.1), (1, .ref (X.1 + 0)), (2, .ref (X.1 + 248)), (3, .ref (X.1 + 260))]) (.int (iI (if w3 = 0 then 0 else 1)) :: [.int (iI w2), .int (iI w1), .ref (X.1 + 248)]) μ1 by
    by_cases hz : w3 = 0
    · refine K_if_eq (md := mL_law) (pc := 1068) (r := (μ', 0, 0)) (A := some (μ', 0, 0)) (B := none) (tgt := 1075) (kTab_at (pc := 1068) tL_law_13_ok 39 rfl) rfl (ieq_y gw3 hz) (fun _ => ?_) (fun h => nomatch h)
      rw [if_pos hz] at kZ
      exact K_iconst (md := mL_law) (pc := 1075) (x := 0) (kTab_at (pc := 1075) tL_law_13_ok 42 rfl) rfl kZ
    · refine K_if_eq (md := mL_law) (pc := 1068) (r := (μ', 0, 0)) (A := none) (B := some (μ', 0, 0)) (tgt := 1075) (kTab_at (pc := 1068) tL_law_13_ok 39 rfl) rfl (ieq_n gw3 hz) (fun h => nomatch h) (fun _ => ?_)
      rw [if_neg hz] at kZ
      refine K_iconst (md := mL_law) (pc := 1071) (x := 1) (kTab_at (pc := 1071) tL_law_13_ok 40 rfl) rfl ?_
      exact K_goto (md := mL_law) (pc := 1072) (tgt := 1076) (kTab_at (pc := 1072) tL_law_13_ok 41 rfl) rfl kZ
  refine K_callC (md := mL_law) (pc := 1076) (d' := 3) (rkY := 1) (μ2 := μ') (x := b) (st := []) (b := 248) (kTab_at (pc := 1076) tL_law_13_ok 43 rfl) mv_L_186 sk_248 rfl (Nat.le_of_ble_eq_true rfl) (by decide) rfl (c_X11_excuse X w1 w2 (if w3 = 0 then 0 else 1) μ1) hg ?_ rfl
  show KJ X mL_law 9 false po SK n (6 * n) 1079 ((5, .int (iI k)) :: [(4, .int (iI i)), (0, .ref X.2.2.2.1), (1, .ref (X.1 + 0)), (2, .ref (X.1 + 248)), (3, .ref (X.1 + 260))]) [.int (iI b)] μ'
  refine K_istore (md := mL_law) (pc := 1079) (l' := (6, .int (iI b)) :: (5, .int (iI k)) :: [(4, .int (iI i)), (0, .ref X.2.2.2.1), (1, .ref (X.1 + 0)), (2, .ref (X.1 + 248)), (3, .ref (X.1 + 260))]) (kTab_at (pc := 1079) tL_law_13_ok 44 rfl) (Nat.le_of_ble_eq_true rfl) rfl ?_
  refine K_aload_n (md := mL_law) (pc := 1081) 5 (kTab_at (pc := 1081) tL_law_13_ok 45 rfl) rfl ?_
  refine K_callC (md := mL_law) (pc := 1082) (d' := 0) (rkY := 1) (μ2 := μ') (x := μ' 248 0) (st := []) (b := 248) (kTab_at (pc := 1082) tL_law_13_ok 46 rfl) mv_L_142 sk_248 rfl (Nat.le_of_ble_eq_true rfl) (by decide) rfl (c_X11_thrown X μ') rfl ?_ rfl
  rw [ht]
  show KJ X mL_law 9 false po SK n (6 * n) 1085 ((6, .int (iI b)) :: (5, .int (iI k)) :: [(4, .int (iI i)), (0, .ref X.2.2.2.1), (1, .ref (X.1 + 0)), (2, .ref (X.1 + 248)), (3, .ref (X.1 + 260))]) [.int (iI k)] μ'
  refine K_iload (md := mL_law) (pc := 1085) 1 (kTab_at (pc := 1085) tL_law_13_ok 47 rfl) rfl ?_
  refine K_icmp_eq (md := mL_law) (pc := 1087) (r := (μ', 0, 0)) (A := some (μ', 0, 0)) (B := none) (tgt := 1092) (kTab_at (pc := 1087) tL_law_13_ok 48 rfl) rfl (ieq_t gk) (fun _ => ?_) (fun h => nomatch h)
  refine K_iload (md := mL_law) (pc := 1092) 1 (kTab_at (pc := 1092) tL_law_13_ok 51 rfl) rfl ?_
  by_cases hk : k = 0
  · refine K_if_ne (md := mL_law) (pc := 1094) (r := (μ', 0, 0)) (A := none) (B := some (μ', 0, 0)) (tgt := 1116) (kTab_at (pc := 1094) tL_law_13_ok 52 rfl) rfl (ieq_y gk hk) (fun h => nomatch h) (fun _ => ?_)
    have hc := hcmp hk
    refine K_aload_n (md := mL_law) (pc := 1097) 6 (kTab_at (pc := 1097) tL_law_13_ok 53 rfl) rfl ?_
    refine K_iconst (md := mL_law) (pc := 1098) (x := 0) (kTab_at (pc := 1098) tL_law_13_ok 54 rfl) rfl ?_
    refine K_lald (md := mL_law) (pc := 1099) (r := (μ', 0, 0)) (k0 := fun _ => some (μ', 0, 0)) (kTab_at (pc := 1099) tL_law_13_ok 55 rfl) sk_260 (by decide) rd_260 (fun _ => ?_)
    obtain ⟨gz, hl⟩ := cmpZ_of (r := (μ', 0, 0)) hc
    refine K_iload (md := mL_law) (pc := 1100) 0 (kTab_at (pc := 1100) tL_law_13_ok 56 rfl) rfl ?_
    rcases gz with rfl | rfl
    · refine K_if_eq (md := mL_law) (pc := 1102) (r := (μ', 0, 0)) (A := some (μ', 0, 0)) (B := none) (tgt := 1109) (kTab_at (pc := 1102) tL_law_13_ok 57 rfl) rfl rfl (fun _ => ?_) (fun h => nomatch h)
      refine K_lconst (md := mL_law) (pc := 1109) (x := 0) (kTab_at (pc := 1109) tL_law_13_ok 60 rfl) rfl ?_
      refine K_lcmp_eq (md := mL_law) (pc := 1110) (r := (μ', 0, 0)) (A := some (μ', 0, 0)) (B := none) (tgt := 1116) (kTab_at (pc := 1110) tL_law_13_ok 61 rfl) (kTab_at (pc := 1111) tL_law_13_ok 62 rfl) rfl hl (fun _ => ?_) (fun h => nomatch h)
      refine K_goto (md := mL_law) (pc := 1116) (tgt := 2483) (kTab_at (pc := 1116) tL_law_13_ok 65 rfl) rfl ?_
      exact KJ_sub (fun q hq => List.mem_cons_of_mem _ (List.mem_cons_of_mem _ hq)) kk
    · refine K_if_eq (md := mL_law) (pc := 1102) (r := (μ', 0, 0)) (A := none) (B := some (μ', 0, 0)) (tgt := 1109) (kTab_at (pc := 1102) tL_law_13_ok 57 rfl) rfl rfl (fun h => nomatch h) (fun _ => ?_)
      refine K_lconst (md := mL_law) (pc := 1105) (x := 1) (kTab_at (pc := 1105) tL_law_13_ok 58 rfl) rfl ?_
      refine K_goto (md := mL_law) (pc := 1106) (tgt := 1110) (kTab_at (pc := 1106) tL_law_13_ok 59 rfl) rfl ?_
      refine K_lcmp_eq (md := mL_law) (pc := 1110) (r := (μ', 0, 0)) (A := some (μ', 0, 0)) (B := none) (tgt := 1116) (kTab_at (pc := 1110) tL_law_13_ok 61 rfl) (kTab_at (pc := 1111) tL_law_13_ok 62 rfl) rfl hl (fun _ => ?_) (fun h => nomatch h)
      refine K_goto (md := mL_law) (pc := 1116) (tgt := 2483) (kTab_at (pc := 1116) tL_law_13_ok 65 rfl) rfl ?_
      exact KJ_sub (fun q hq => List.mem_cons_of_mem _ (List.mem_cons_of_mem _ hq)) kk
  · refine K_if_ne (md := mL_law) (pc := 1094) (r := (μ', 0, 0)) (A := some (μ', 0, 0)) (B := none) (tgt := 1116) (kTab_at (pc := 1094) tL_law_13_ok 52 rfl) rfl (ieq_n gk hk) (fun _ => ?_) (fun h => nomatch h)
    refine K_goto (md := mL_law) (pc := 1116) (tgt := 2483) (kTab_at (pc := 1116) tL_law_13_ok 65 rfl) rfl ?_
    exact KJ_sub (fun q hq => List.mem_cons_of_mem _ (List.mem_cons_of_mem _ hq)) kk
def lc_raise (w1 : Int) (w2 : Int) (μ : Mu) : Option Mu := lcase (hp 0 [2, 1, 4] (f_X10_raise w1 w2 μ)) (fun μ => f_X11_raise w1 w2 μ) cmpI
theorem mh_raise : kMSH RL 187 mL_raise hh_raise 4 := ⟨inT4 135 (by decide +kernel) rfl, inT4 136 (by decide +kernel) rfl, inT4 137 (by decide +kernel) rfl, inT1 0 (by decide +kernel) rfl, by decide +kernel, by decide +kernel⟩
set_option maxRecDepth 100000 in
theorem k_raise (X : kX) (po : kPo) (hL : X.2.2.2.2.1 < 2 ^ 31) (i : Int) (hi : 0 ≤ i ∧ i + 5 ≤ X.2.2.2.2.1) (n : Nat) (μ μ' : Mu) (h : lc_raise (sw X (i + 1).toNat) (sw X (i + 2).toNat) μ = some μ') (kk : KJ X mL_law 9 false po SK n (6 * n) 2483 [(4, .int (iI i)), (0, .ref X.2.2.2.1), (1, .ref (X.1 + 0)), (2, .ref (X.1 + 248)), (3, .ref (X.1 + 260))] [] μ') : KJ X mL_law 9 false po SK (n + 1) (6 * n + 6) 1119 [(4, .int (iI i)), (0, .ref X.2.2.2.1), (1, .ref (X.1 + 0)), (2, .ref (X.1 + 248)), (3, .ref (X.1 + 260))] [] μ := by
  generalize hw1 : sw X (i + 1).toNat = w1 at h
  generalize hw2 : sw X (i + 2).toNat = w2 at h
  unfold lc_raise at h
  obtain ⟨μ1, k, b, hf, hg, ht, gk, hcmp⟩ := lcase_of (by exact Or.inl rfl) h
  refine K_aload_n (md := mL_law) (pc := 1119) 2 (kTab_at (pc := 1119) tL_law_14_ok 0 rfl) rfl ?_
  refine K_aload_n (md := mL_law) (pc := 1120) 1 (kTab_at (pc := 1120) tL_law_14_ok 1 rfl) rfl ?_
  refine K_iload (md := mL_law) (pc := 1121) 0 (kTab_at (pc := 1121) tL_law_14_ok 2 rfl) rfl ?_
  refine K_iconst (md := mL_law) (pc := 1123) (x := 1) (kTab_at (pc := 1123) tL_law_14_ok 3 rfl) rfl ?_
  refine K_iadd (md := mL_law) (pc := 1124) (kTab_at (pc := 1124) tL_law_14_ok 4 rfl) ?_
  refine K_sld (md := mL_law) (pc := 1125) hL (by omega) (kTab_at (pc := 1125) tL_law_14_ok 5 rfl) ?_
  rw [hw1]
  refine K_aload_n (md := mL_law) (pc := 1126) 1 (kTab_at (pc := 1126) tL_law_14_ok 6 rfl) rfl ?_
  refine K_iload (md := mL_law) (pc := 1127) 0 (kTab_at (pc := 1127) tL_law_14_ok 7 rfl) rfl ?_
  refine K_iconst (md := mL_law) (pc := 1129) (x := 2) (kTab_at (pc := 1129) tL_law_14_ok 8 rfl) rfl ?_
  refine K_iadd (md := mL_law) (pc := 1130) (kTab_at (pc := 1130) tL_law_14_ok 9 rfl) ?_
  refine K_sld (md := mL_law) (pc := 1131) hL (by omega) (kTab_at (pc := 1131) tL_law_14_ok 10 rfl) ?_
  rw [hw2]
  refine K_aload_n (md := mL_law) (pc := 1132) 4 (kTab_at (pc := 1132) tL_law_14_ok 11 rfl) rfl ?_
  refine K_callCH (md := mL_law) (pc := 1133) (mdY := mL_raise) (d' := 7) (cr := n) (sr := 6 * n) (μ2 := μ1) (x := k) (st := []) (kTab_at (pc := 1133) tL_law_14_ok 12 rfl) mh_raise rfl (Nat.le_of_ble_eq_true rfl) (by decide) (h_raise X w1 w2 μ (μ1, 0, k) hf) ?_ rfl
  show KJ X mL_law 9 false po SK n (6 * n) 1136 [(4, .int (iI i)), (0, .ref X.2.2.2.1), (1, .ref (X.1 + 0)), (2, .ref (X.1 + 248)), (3, .ref (X.1 + 260))] [.int (iI k)] μ1
  refine K_istore (md := mL_law) (pc := 1136) (l' := (5, .int (iI k)) :: [(4, .int (iI i)), (0, .ref X.2.2.2.1), (1, .ref (X.1 + 0)), (2, .ref (X.1 + 248)), (3, .ref (X.1 + 260))]) (kTab_at (pc := 1136) tL_law_14_ok 13 rfl) (Nat.le_of_ble_eq_true rfl) rfl ?_
  refine K_aload_n (md := mL_law) (pc := 1138) 4 (kTab_at (pc := 1138) tL_law_14_ok 14 rfl) rfl ?_
  refine K_aload_n (md := mL_law) (pc := 1139) 2 (kTab_at (pc := 1139) tL_law_14_ok 15 rfl) rfl ?_
  refine K_iload (md := mL_law) (pc := 1140) 1 (kTab_at (pc := 1140) tL_law_14_ok 16 rfl) rfl ?_
  refine K_iconst (md := mL_law) (pc := 1142) (x := 1) (kTab_at (pc := 1142) tL_law_14_ok 17 rfl) rfl ?_
  refine K_iadd (md := mL_law) (pc := 1143) (kTab_at (pc := 1143) tL_law_14_ok 18 rfl) ?_
  refine K_sld (md := mL_law) (pc := 1144) hL (by omega) (kTab_at (pc := 1144) tL_law_14_ok 19 rfl) ?_
  rw [hw1]
  refine K_aload_n (md := mL_law) (pc := 1145) 2 (kTab_at (pc := 1145) tL_law_14_ok 20 rfl) rfl ?_
  refine K_iload (md := mL_law) (pc := 1146) 1 (kTab_at (pc := 1146) tL_law_14_ok 21 rfl) rfl ?_
  refine K_iconst (md := mL_law) (pc := 1148) (x := 2) (kTab_at (pc := 1148) tL_law_14_ok 22 rfl) rfl ?_
  refine K_iadd (md := mL_law) (pc := 1149) (kTab_at (pc := 1149) tL_law_14_ok 23 rfl) ?_
  refine K_sld (md := mL_law) (pc := 1150) hL (by omega) (kTab_at (pc := 1150) tL_law_14_ok 24 rfl) ?_
  rw [hw2]
  refine K_callC (md := mL_law) (pc := 1151) (d' := 2) (rkY := 1) (μ2 := μ') (x := b) (st := []) (b := 248) (kTab_at (pc := 1151) tL_law_14_ok 25 rfl) mv_L_189 sk_248 rfl (Nat.le_of_ble_eq_true rfl) (by decide) rfl (c_X11_raise X w1 w2 μ1) hg ?_ rfl
  show KJ X mL_law 9 false po SK n (6 * n) 1154 ((5, .int (iI k)) :: [(4, .int (iI i)), (0, .ref X.2.2.2.1), (1, .ref (X.1 + 0)), (2, .ref (X.1 + 248)), (3, .ref (X.1 + 260))]) [.int (iI b)] μ'
  refine K_istore (md := mL_law) (pc := 1154) (l' := (6, .int (iI b)) :: (5, .int (iI k)) :: [(4, .int (iI i)), (0, .ref X.2.2.2.1), (1, .ref (X.1 + 0)), (2, .ref (X.1 + 248)), (3, .ref (X.1 + 260))]) (kTab_at (pc := 1154) tL_law_14_ok 26 rfl) (Nat.le_of_ble_eq_true rfl) rfl ?_
  refine K_aload_n (md := mL_law) (pc := 1156) 5 (kTab_at (pc := 1156) tL_law_14_ok 27 rfl) rfl ?_
  refine K_callC (md := mL_law) (pc := 1157) (d' := 0) (rkY := 1) (μ2 := μ') (x := μ' 248 0) (st := []) (b := 248) (kTab_at (pc := 1157) tL_law_14_ok 28 rfl) mv_L_142 sk_248 rfl (Nat.le_of_ble_eq_true rfl) (by decide) rfl (c_X11_thrown X μ') rfl ?_ rfl
  rw [ht]
  show KJ X mL_law 9 false po SK n (6 * n) 1160 ((6, .int (iI b)) :: (5, .int (iI k)) :: [(4, .int (iI i)), (0, .ref X.2.2.2.1), (1, .ref (X.1 + 0)), (2, .ref (X.1 + 248)), (3, .ref (X.1 + 260))]) [.int (iI k)] μ'
  refine K_iload (md := mL_law) (pc := 1160) 1 (kTab_at (pc := 1160) tL_law_14_ok 29 rfl) rfl ?_
  refine K_icmp_eq (md := mL_law) (pc := 1162) (r := (μ', 0, 0)) (A := some (μ', 0, 0)) (B := none) (tgt := 1167) (kTab_at (pc := 1162) tL_law_14_ok 30 rfl) rfl (ieq_t gk) (fun _ => ?_) (fun h => nomatch h)
  refine K_iload (md := mL_law) (pc := 1167) 1 (kTab_at (pc := 1167) tL_law_14_ok 33 rfl) rfl ?_
  by_cases hk : k = 0
  · refine K_if_ne (md := mL_law) (pc := 1169) (r := (μ', 0, 0)) (A := none) (B := some (μ', 0, 0)) (tgt := 1184) (kTab_at (pc := 1169) tL_law_14_ok 34 rfl) rfl (ieq_y gk hk) (fun h => nomatch h) (fun _ => ?_)
    have hc := hcmp hk
    refine K_aload_n (md := mL_law) (pc := 1172) 6 (kTab_at (pc := 1172) tL_law_14_ok 35 rfl) rfl ?_
    refine K_iconst (md := mL_law) (pc := 1173) (x := 0) (kTab_at (pc := 1173) tL_law_14_ok 36 rfl) rfl ?_
    refine K_lald (md := mL_law) (pc := 1174) (r := (μ', 0, 0)) (k0 := fun _ => some (μ', 0, 0)) (kTab_at (pc := 1174) tL_law_14_ok 37 rfl) sk_260 (by decide) rd_260 (fun _ => ?_)
    refine K_iload (md := mL_law) (pc := 1175) 0 (kTab_at (pc := 1175) tL_law_14_ok 38 rfl) rfl ?_
    refine K_i2l (md := mL_law) (pc := 1177) (r := (μ', 0, 0)) (k0 := some (μ', 0, 0)) (kTab_at (pc := 1177) tL_law_14_ok 39 rfl) (cmpI_of hc).1 (fun _ => ?_)
    refine K_lcmp_eq (md := mL_law) (pc := 1178) (r := (μ', 0, 0)) (A := some (μ', 0, 0)) (B := none) (tgt := 1184) (kTab_at (pc := 1178) tL_law_14_ok 40 rfl) (kTab_at (pc := 1179) tL_law_14_ok 41 rfl) rfl (cmpI_of hc).2 (fun _ => ?_) (fun h => nomatch h)
    refine K_goto (md := mL_law) (pc := 1184) (tgt := 2483) (kTab_at (pc := 1184) tL_law_14_ok 44 rfl) rfl ?_
    exact KJ_sub (fun q hq => List.mem_cons_of_mem _ (List.mem_cons_of_mem _ hq)) kk
  · refine K_if_ne (md := mL_law) (pc := 1169) (r := (μ', 0, 0)) (A := some (μ', 0, 0)) (B := none) (tgt := 1184) (kTab_at (pc := 1169) tL_law_14_ok 34 rfl) rfl (ieq_n gk hk) (fun _ => ?_) (fun h => nomatch h)
    refine K_goto (md := mL_law) (pc := 1184) (tgt := 2483) (kTab_at (pc := 1184) tL_law_14_ok 44 rfl) rfl ?_
    exact KJ_sub (fun q hq => List.mem_cons_of_mem _ (List.mem_cons_of_mem _ hq)) kk
def lc_setPoint (w1 : Int) (w2 : Int) (μ : Mu) : Option Mu := lcase (hp 0 [1, 4, 0] (f_X10_setPoint w1 w2 μ)) (fun μ => f_X11_setPoint w1 w2 μ) cmpI
theorem mh_setPoint : kMSH RL 190 mL_setPoint hh_setPoint 4 := ⟨inT4 142 (by decide +kernel) rfl, inT4 143 (by decide +kernel) rfl, inT4 144 (by decide +kernel) rfl, inT1 0 (by decide +kernel) rfl, by decide +kernel, by decide +kernel⟩
set_option maxRecDepth 100000 in
theorem k_setPoint (X : kX) (po : kPo) (hL : X.2.2.2.2.1 < 2 ^ 31) (i : Int) (hi : 0 ≤ i ∧ i + 5 ≤ X.2.2.2.2.1) (n : Nat) (μ μ' : Mu) (h : lc_setPoint (sw X (i + 1).toNat) (sw X (i + 2).toNat) μ = some μ') (kk : KJ X mL_law 9 false po SK n (6 * n) 2483 [(4, .int (iI i)), (0, .ref X.2.2.2.1), (1, .ref (X.1 + 0)), (2, .ref (X.1 + 248)), (3, .ref (X.1 + 260))] [] μ') : KJ X mL_law 9 false po SK (n + 1) (6 * n + 6) 1187 [(4, .int (iI i)), (0, .ref X.2.2.2.1), (1, .ref (X.1 + 0)), (2, .ref (X.1 + 248)), (3, .ref (X.1 + 260))] [] μ := by
  generalize hw1 : sw X (i + 1).toNat = w1 at h
  generalize hw2 : sw X (i + 2).toNat = w2 at h
  unfold lc_setPoint at h
  obtain ⟨μ1, k, b, hf, hg, ht, gk, hcmp⟩ := lcase_of (by exact Or.inl rfl) h
  refine K_aload_n (md := mL_law) (pc := 1187) 2 (kTab_at (pc := 1187) tL_law_15_ok 0 rfl) rfl ?_
  refine K_aload_n (md := mL_law) (pc := 1188) 1 (kTab_at (pc := 1188) tL_law_15_ok 1 rfl) rfl ?_
  refine K_iload (md := mL_law) (pc := 1189) 0 (kTab_at (pc := 1189) tL_law_15_ok 2 rfl) rfl ?_
  refine K_iconst (md := mL_law) (pc := 1191) (x := 1) (kTab_at (pc := 1191) tL_law_15_ok 3 rfl) rfl ?_
  refine K_iadd (md := mL_law) (pc := 1192) (kTab_at (pc := 1192) tL_law_15_ok 4 rfl) ?_
  refine K_sld (md := mL_law) (pc := 1193) hL (by omega) (kTab_at (pc := 1193) tL_law_15_ok 5 rfl) ?_
  rw [hw1]
  refine K_aload_n (md := mL_law) (pc := 1194) 1 (kTab_at (pc := 1194) tL_law_15_ok 6 rfl) rfl ?_
  refine K_iload (md := mL_law) (pc := 1195) 0 (kTab_at (pc := 1195) tL_law_15_ok 7 rfl) rfl ?_
  refine K_iconst (md := mL_law) (pc := 1197) (x := 2) (kTab_at (pc := 1197) tL_law_15_ok 8 rfl) rfl ?_
  refine K_iadd (md := mL_law) (pc := 1198) (kTab_at (pc := 1198) tL_law_15_ok 9 rfl) ?_
  refine K_sld (md := mL_law) (pc := 1199) hL (by omega) (kTab_at (pc := 1199) tL_law_15_ok 10 rfl) ?_
  rw [hw2]
  refine K_aload_n (md := mL_law) (pc := 1200) 4 (kTab_at (pc := 1200) tL_law_15_ok 11 rfl) rfl ?_
  refine K_callCH (md := mL_law) (pc := 1201) (mdY := mL_setPoint) (d' := 7) (cr := n) (sr := 6 * n) (μ2 := μ1) (x := k) (st := []) (kTab_at (pc := 1201) tL_law_15_ok 12 rfl) mh_setPoint rfl (Nat.le_of_ble_eq_true rfl) (by decide) (h_setPoint X w1 w2 μ (μ1, 0, k) hf) ?_ rfl
  show KJ X mL_law 9 false po SK n (6 * n) 1204 [(4, .int (iI i)), (0, .ref X.2.2.2.1), (1, .ref (X.1 + 0)), (2, .ref (X.1 + 248)), (3, .ref (X.1 + 260))] [.int (iI k)] μ1
  refine K_istore (md := mL_law) (pc := 1204) (l' := (5, .int (iI k)) :: [(4, .int (iI i)), (0, .ref X.2.2.2.1), (1, .ref (X.1 + 0)), (2, .ref (X.1 + 248)), (3, .ref (X.1 + 260))]) (kTab_at (pc := 1204) tL_law_15_ok 13 rfl) (Nat.le_of_ble_eq_true rfl) rfl ?_
  refine K_aload_n (md := mL_law) (pc := 1206) 4 (kTab_at (pc := 1206) tL_law_15_ok 14 rfl) rfl ?_
  refine K_aload_n (md := mL_law) (pc := 1207) 2 (kTab_at (pc := 1207) tL_law_15_ok 15 rfl) rfl ?_
  refine K_iload (md := mL_law) (pc := 1208) 1 (kTab_at (pc := 1208) tL_law_15_ok 16 rfl) rfl ?_
  refine K_iconst (md := mL_law) (pc := 1210) (x := 1) (kTab_at (pc := 1210) tL_law_15_ok 17 rfl) rfl ?_
  refine K_iadd (md := mL_law) (pc := 1211) (kTab_at (pc := 1211) tL_law_15_ok 18 rfl) ?_
  refine K_sld (md := mL_law) (pc := 1212) hL (by omega) (kTab_at (pc := 1212) tL_law_15_ok 19 rfl) ?_
  rw [hw1]
  refine K_aload_n (md := mL_law) (pc := 1213) 2 (kTab_at (pc := 1213) tL_law_15_ok 20 rfl) rfl ?_
  refine K_iload (md := mL_law) (pc := 1214) 1 (kTab_at (pc := 1214) tL_law_15_ok 21 rfl) rfl ?_
  refine K_iconst (md := mL_law) (pc := 1216) (x := 2) (kTab_at (pc := 1216) tL_law_15_ok 22 rfl) rfl ?_
  refine K_iadd (md := mL_law) (pc := 1217) (kTab_at (pc := 1217) tL_law_15_ok 23 rfl) ?_
  refine K_sld (md := mL_law) (pc := 1218) hL (by omega) (kTab_at (pc := 1218) tL_law_15_ok 24 rfl) ?_
  rw [hw2]
  refine K_callC (md := mL_law) (pc := 1219) (d' := 2) (rkY := 1) (μ2 := μ') (x := b) (st := []) (b := 248) (kTab_at (pc := 1219) tL_law_15_ok 25 rfl) mv_L_192 sk_248 rfl (Nat.le_of_ble_eq_true rfl) (by decide) rfl (c_X11_setPoint X w1 w2 μ1) hg ?_ rfl
  show KJ X mL_law 9 false po SK n (6 * n) 1222 ((5, .int (iI k)) :: [(4, .int (iI i)), (0, .ref X.2.2.2.1), (1, .ref (X.1 + 0)), (2, .ref (X.1 + 248)), (3, .ref (X.1 + 260))]) [.int (iI b)] μ'
  refine K_istore (md := mL_law) (pc := 1222) (l' := (6, .int (iI b)) :: (5, .int (iI k)) :: [(4, .int (iI i)), (0, .ref X.2.2.2.1), (1, .ref (X.1 + 0)), (2, .ref (X.1 + 248)), (3, .ref (X.1 + 260))]) (kTab_at (pc := 1222) tL_law_15_ok 26 rfl) (Nat.le_of_ble_eq_true rfl) rfl ?_
  refine K_aload_n (md := mL_law) (pc := 1224) 5 (kTab_at (pc := 1224) tL_law_15_ok 27 rfl) rfl ?_
  refine K_callC (md := mL_law) (pc := 1225) (d' := 0) (rkY := 1) (μ2 := μ') (x := μ' 248 0) (st := []) (b := 248) (kTab_at (pc := 1225) tL_law_15_ok 28 rfl) mv_L_142 sk_248 rfl (Nat.le_of_ble_eq_true rfl) (by decide) rfl (c_X11_thrown X μ') rfl ?_ rfl
  rw [ht]
  show KJ X mL_law 9 false po SK n (6 * n) 1228 ((6, .int (iI b)) :: (5, .int (iI k)) :: [(4, .int (iI i)), (0, .ref X.2.2.2.1), (1, .ref (X.1 + 0)), (2, .ref (X.1 + 248)), (3, .ref (X.1 + 260))]) [.int (iI k)] μ'
  refine K_iload (md := mL_law) (pc := 1228) 1 (kTab_at (pc := 1228) tL_law_15_ok 29 rfl) rfl ?_
  refine K_icmp_eq (md := mL_law) (pc := 1230) (r := (μ', 0, 0)) (A := some (μ', 0, 0)) (B := none) (tgt := 1235) (kTab_at (pc := 1230) tL_law_15_ok 30 rfl) rfl (ieq_t gk) (fun _ => ?_) (fun h => nomatch h)
  refine K_iload (md := mL_law) (pc := 1235) 1 (kTab_at (pc := 1235) tL_law_15_ok 33 rfl) rfl ?_
  by_cases hk : k = 0
  · refine K_if_ne (md := mL_law) (pc := 1237) (r := (μ', 0, 0)) (A := none) (B := some (μ', 0, 0)) (tgt := 1252) (kTab_at (pc := 1237) tL_law_15_ok 34 rfl) rfl (ieq_y gk hk) (fun h => nomatch h) (fun _ => ?_)
    have hc := hcmp hk
    refine K_aload_n (md := mL_law) (pc := 1240) 6 (kTab_at (pc := 1240) tL_law_15_ok 35 rfl) rfl ?_
    refine K_iconst (md := mL_law) (pc := 1241) (x := 0) (kTab_at (pc := 1241) tL_law_15_ok 36 rfl) rfl ?_
    refine K_lald (md := mL_law) (pc := 1242) (r := (μ', 0, 0)) (k0 := fun _ => some (μ', 0, 0)) (kTab_at (pc := 1242) tL_law_15_ok 37 rfl) sk_260 (by decide) rd_260 (fun _ => ?_)
    refine K_iload (md := mL_law) (pc := 1243) 0 (kTab_at (pc := 1243) tL_law_15_ok 38 rfl) rfl ?_
    refine K_i2l (md := mL_law) (pc := 1245) (r := (μ', 0, 0)) (k0 := some (μ', 0, 0)) (kTab_at (pc := 1245) tL_law_15_ok 39 rfl) (cmpI_of hc).1 (fun _ => ?_)
    refine K_lcmp_eq (md := mL_law) (pc := 1246) (r := (μ', 0, 0)) (A := some (μ', 0, 0)) (B := none) (tgt := 1252) (kTab_at (pc := 1246) tL_law_15_ok 40 rfl) (kTab_at (pc := 1247) tL_law_15_ok 41 rfl) rfl (cmpI_of hc).2 (fun _ => ?_) (fun h => nomatch h)
    refine K_goto (md := mL_law) (pc := 1252) (tgt := 2483) (kTab_at (pc := 1252) tL_law_15_ok 44 rfl) rfl ?_
    exact KJ_sub (fun q hq => List.mem_cons_of_mem _ (List.mem_cons_of_mem _ hq)) kk
  · refine K_if_ne (md := mL_law) (pc := 1237) (r := (μ', 0, 0)) (A := some (μ', 0, 0)) (B := none) (tgt := 1252) (kTab_at (pc := 1237) tL_law_15_ok 34 rfl) rfl (ieq_n gk hk) (fun _ => ?_) (fun h => nomatch h)
    refine K_goto (md := mL_law) (pc := 1252) (tgt := 2483) (kTab_at (pc := 1252) tL_law_15_ok 44 rfl) rfl ?_
    exact KJ_sub (fun q hq => List.mem_cons_of_mem _ (List.mem_cons_of_mem _ hq)) kk
def lc_removePoint (w1 : Int) (μ : Mu) : Option Mu := lcase (hp 0 [4, 5] (f_X10_removePoint w1 μ)) (fun μ => f_X11_removePoint w1 μ) cmpI
theorem mh_removePoint : kMSH RL 193 mL_removePoint hh_removePoint 3 := ⟨inT4 159 (by decide +kernel) rfl, inT4 160 (by decide +kernel) rfl, inT4 161 (by decide +kernel) rfl, inT1 0 (by decide +kernel) rfl, by decide +kernel, by decide +kernel⟩
set_option maxRecDepth 100000 in
theorem k_removePoint (X : kX) (po : kPo) (hL : X.2.2.2.2.1 < 2 ^ 31) (i : Int) (hi : 0 ≤ i ∧ i + 5 ≤ X.2.2.2.2.1) (n : Nat) (μ μ' : Mu) (h : lc_removePoint (sw X (i + 1).toNat) μ = some μ') (kk : KJ X mL_law 9 false po SK n (6 * n) 2483 [(4, .int (iI i)), (0, .ref X.2.2.2.1), (1, .ref (X.1 + 0)), (2, .ref (X.1 + 248)), (3, .ref (X.1 + 260))] [] μ') : KJ X mL_law 9 false po SK (n + 1) (6 * n + 6) 1255 [(4, .int (iI i)), (0, .ref X.2.2.2.1), (1, .ref (X.1 + 0)), (2, .ref (X.1 + 248)), (3, .ref (X.1 + 260))] [] μ := by
  generalize hw1 : sw X (i + 1).toNat = w1 at h
  unfold lc_removePoint at h
  obtain ⟨μ1, k, b, hf, hg, ht, gk, hcmp⟩ := lcase_of (by exact Or.inl rfl) h
  refine K_aload_n (md := mL_law) (pc := 1255) 2 (kTab_at (pc := 1255) tL_law_16_ok 0 rfl) rfl ?_
  refine K_aload_n (md := mL_law) (pc := 1256) 1 (kTab_at (pc := 1256) tL_law_16_ok 1 rfl) rfl ?_
  refine K_iload (md := mL_law) (pc := 1257) 0 (kTab_at (pc := 1257) tL_law_16_ok 2 rfl) rfl ?_
  refine K_iconst (md := mL_law) (pc := 1259) (x := 1) (kTab_at (pc := 1259) tL_law_16_ok 3 rfl) rfl ?_
  refine K_iadd (md := mL_law) (pc := 1260) (kTab_at (pc := 1260) tL_law_16_ok 4 rfl) ?_
  refine K_sld (md := mL_law) (pc := 1261) hL (by omega) (kTab_at (pc := 1261) tL_law_16_ok 5 rfl) ?_
  rw [hw1]
  refine K_aload_n (md := mL_law) (pc := 1262) 4 (kTab_at (pc := 1262) tL_law_16_ok 6 rfl) rfl ?_
  refine K_callCH (md := mL_law) (pc := 1263) (mdY := mL_removePoint) (d' := 7) (cr := n) (sr := 6 * n) (μ2 := μ1) (x := k) (st := []) (kTab_at (pc := 1263) tL_law_16_ok 7 rfl) mh_removePoint rfl (Nat.le_of_ble_eq_true rfl) (by decide) (h_removePoint X w1 μ (μ1, 0, k) hf) ?_ rfl
  show KJ X mL_law 9 false po SK n (6 * n) 1266 [(4, .int (iI i)), (0, .ref X.2.2.2.1), (1, .ref (X.1 + 0)), (2, .ref (X.1 + 248)), (3, .ref (X.1 + 260))] [.int (iI k)] μ1
  refine K_istore (md := mL_law) (pc := 1266) (l' := (5, .int (iI k)) :: [(4, .int (iI i)), (0, .ref X.2.2.2.1), (1, .ref (X.1 + 0)), (2, .ref (X.1 + 248)), (3, .ref (X.1 + 260))]) (kTab_at (pc := 1266) tL_law_16_ok 8 rfl) (Nat.le_of_ble_eq_true rfl) rfl ?_
  refine K_aload_n (md := mL_law) (pc := 1268) 4 (kTab_at (pc := 1268) tL_law_16_ok 9 rfl) rfl ?_
  refine K_aload_n (md := mL_law) (pc := 1269) 2 (kTab_at (pc := 1269) tL_law_16_ok 10 rfl) rfl ?_
  refine K_iload (md := mL_law) (pc := 1270) 1 (kTab_at (pc := 1270) tL_law_16_ok 11 rfl) rfl ?_
  refine K_iconst (md := mL_law) (pc := 1272) (x := 1) (kTab_at (pc := 1272) tL_law_16_ok 12 rfl) rfl ?_
  refine K_iadd (md := mL_law) (pc := 1273) (kTab_at (pc := 1273) tL_law_16_ok 13 rfl) ?_
  refine K_sld (md := mL_law) (pc := 1274) hL (by omega) (kTab_at (pc := 1274) tL_law_16_ok 14 rfl) ?_
  rw [hw1]
  refine K_callC (md := mL_law) (pc := 1275) (d' := 2) (rkY := 1) (μ2 := μ') (x := b) (st := []) (b := 248) (kTab_at (pc := 1275) tL_law_16_ok 15 rfl) mv_L_195 sk_248 rfl (Nat.le_of_ble_eq_true rfl) (by decide) rfl (c_X11_removePoint X w1 μ1) hg ?_ rfl
  show KJ X mL_law 9 false po SK n (6 * n) 1278 ((5, .int (iI k)) :: [(4, .int (iI i)), (0, .ref X.2.2.2.1), (1, .ref (X.1 + 0)), (2, .ref (X.1 + 248)), (3, .ref (X.1 + 260))]) [.int (iI b)] μ'
  refine K_istore (md := mL_law) (pc := 1278) (l' := (6, .int (iI b)) :: (5, .int (iI k)) :: [(4, .int (iI i)), (0, .ref X.2.2.2.1), (1, .ref (X.1 + 0)), (2, .ref (X.1 + 248)), (3, .ref (X.1 + 260))]) (kTab_at (pc := 1278) tL_law_16_ok 16 rfl) (Nat.le_of_ble_eq_true rfl) rfl ?_
  refine K_aload_n (md := mL_law) (pc := 1280) 5 (kTab_at (pc := 1280) tL_law_16_ok 17 rfl) rfl ?_
  refine K_callC (md := mL_law) (pc := 1281) (d' := 0) (rkY := 1) (μ2 := μ') (x := μ' 248 0) (st := []) (b := 248) (kTab_at (pc := 1281) tL_law_16_ok 18 rfl) mv_L_142 sk_248 rfl (Nat.le_of_ble_eq_true rfl) (by decide) rfl (c_X11_thrown X μ') rfl ?_ rfl
  rw [ht]
  show KJ X mL_law 9 false po SK n (6 * n) 1284 ((6, .int (iI b)) :: (5, .int (iI k)) :: [(4, .int (iI i)), (0, .ref X.2.2.2.1), (1, .ref (X.1 + 0)), (2, .ref (X.1 + 248)), (3, .ref (X.1 + 260))]) [.int (iI k)] μ'
  refine K_iload (md := mL_law) (pc := 1284) 1 (kTab_at (pc := 1284) tL_law_16_ok 19 rfl) rfl ?_
  refine K_icmp_eq (md := mL_law) (pc := 1286) (r := (μ', 0, 0)) (A := some (μ', 0, 0)) (B := none) (tgt := 1291) (kTab_at (pc := 1286) tL_law_16_ok 20 rfl) rfl (ieq_t gk) (fun _ => ?_) (fun h => nomatch h)
  refine K_iload (md := mL_law) (pc := 1291) 1 (kTab_at (pc := 1291) tL_law_16_ok 23 rfl) rfl ?_
  by_cases hk : k = 0
  · refine K_if_ne (md := mL_law) (pc := 1293) (r := (μ', 0, 0)) (A := none) (B := some (μ', 0, 0)) (tgt := 1308) (kTab_at (pc := 1293) tL_law_16_ok 24 rfl) rfl (ieq_y gk hk) (fun h => nomatch h) (fun _ => ?_)
    have hc := hcmp hk
    refine K_aload_n (md := mL_law) (pc := 1296) 6 (kTab_at (pc := 1296) tL_law_16_ok 25 rfl) rfl ?_
    refine K_iconst (md := mL_law) (pc := 1297) (x := 0) (kTab_at (pc := 1297) tL_law_16_ok 26 rfl) rfl ?_
    refine K_lald (md := mL_law) (pc := 1298) (r := (μ', 0, 0)) (k0 := fun _ => some (μ', 0, 0)) (kTab_at (pc := 1298) tL_law_16_ok 27 rfl) sk_260 (by decide) rd_260 (fun _ => ?_)
    refine K_iload (md := mL_law) (pc := 1299) 0 (kTab_at (pc := 1299) tL_law_16_ok 28 rfl) rfl ?_
    refine K_i2l (md := mL_law) (pc := 1301) (r := (μ', 0, 0)) (k0 := some (μ', 0, 0)) (kTab_at (pc := 1301) tL_law_16_ok 29 rfl) (cmpI_of hc).1 (fun _ => ?_)
    refine K_lcmp_eq (md := mL_law) (pc := 1302) (r := (μ', 0, 0)) (A := some (μ', 0, 0)) (B := none) (tgt := 1308) (kTab_at (pc := 1302) tL_law_16_ok 30 rfl) (kTab_at (pc := 1303) tL_law_16_ok 31 rfl) rfl (cmpI_of hc).2 (fun _ => ?_) (fun h => nomatch h)
    refine K_goto (md := mL_law) (pc := 1308) (tgt := 2483) (kTab_at (pc := 1308) tL_law_16_ok 34 rfl) rfl ?_
    exact KJ_sub (fun q hq => List.mem_cons_of_mem _ (List.mem_cons_of_mem _ hq)) kk
  · refine K_if_ne (md := mL_law) (pc := 1293) (r := (μ', 0, 0)) (A := some (μ', 0, 0)) (B := none) (tgt := 1308) (kTab_at (pc := 1293) tL_law_16_ok 24 rfl) rfl (ieq_n gk hk) (fun _ => ?_) (fun h => nomatch h)
    refine K_goto (md := mL_law) (pc := 1308) (tgt := 2483) (kTab_at (pc := 1308) tL_law_16_ok 34 rfl) rfl ?_
    exact KJ_sub (fun q hq => List.mem_cons_of_mem _ (List.mem_cons_of_mem _ hq)) kk
def lc_curve (w1 : Int) (μ : Mu) : Option Mu := lcase (hp 0 [1] (f_X10_curve w1 μ)) (fun μ => f_X11_curve w1 μ) cmpI
theorem mh_curve : kMSH RL 196 mL_curve hh_curve 3 := ⟨inT4 171 (by decide +kernel) rfl, inT4 172 (by decide +kernel) rfl, inT4 173 (by decide +kernel) rfl, inT1 0 (by decide +kernel) rfl, by decide +kernel, by decide +kernel⟩
set_option maxRecDepth 100000 in
theorem k_curve (X : kX) (po : kPo) (hL : X.2.2.2.2.1 < 2 ^ 31) (i : Int) (hi : 0 ≤ i ∧ i + 5 ≤ X.2.2.2.2.1) (n : Nat) (μ μ' : Mu) (h : lc_curve (sw X (i + 1).toNat) μ = some μ') (kk : KJ X mL_law 9 false po SK n (6 * n) 2483 [(4, .int (iI i)), (0, .ref X.2.2.2.1), (1, .ref (X.1 + 0)), (2, .ref (X.1 + 248)), (3, .ref (X.1 + 260))] [] μ') : KJ X mL_law 9 false po SK (n + 1) (6 * n + 6) 1311 [(4, .int (iI i)), (0, .ref X.2.2.2.1), (1, .ref (X.1 + 0)), (2, .ref (X.1 + 248)), (3, .ref (X.1 + 260))] [] μ := by
  generalize hw1 : sw X (i + 1).toNat = w1 at h
  unfold lc_curve at h
  obtain ⟨μ1, k, b, hf, hg, ht, gk, hcmp⟩ := lcase_of (by exact Or.inl rfl) h
  refine K_aload_n (md := mL_law) (pc := 1311) 2 (kTab_at (pc := 1311) tL_law_17_ok 0 rfl) rfl ?_
  refine K_aload_n (md := mL_law) (pc := 1312) 1 (kTab_at (pc := 1312) tL_law_17_ok 1 rfl) rfl ?_
  refine K_iload (md := mL_law) (pc := 1313) 0 (kTab_at (pc := 1313) tL_law_17_ok 2 rfl) rfl ?_
  refine K_iconst (md := mL_law) (pc := 1315) (x := 1) (kTab_at (pc := 1315) tL_law_17_ok 3 rfl) rfl ?_
  refine K_iadd (md := mL_law) (pc := 1316) (kTab_at (pc := 1316) tL_law_17_ok 4 rfl) ?_
  refine K_sld (md := mL_law) (pc := 1317) hL (by omega) (kTab_at (pc := 1317) tL_law_17_ok 5 rfl) ?_
  rw [hw1]
  refine K_aload_n (md := mL_law) (pc := 1318) 4 (kTab_at (pc := 1318) tL_law_17_ok 6 rfl) rfl ?_
  refine K_callCH (md := mL_law) (pc := 1319) (mdY := mL_curve) (d' := 7) (cr := n) (sr := 6 * n) (μ2 := μ1) (x := k) (st := []) (kTab_at (pc := 1319) tL_law_17_ok 7 rfl) mh_curve rfl (Nat.le_of_ble_eq_true rfl) (by decide) (h_curve X w1 μ (μ1, 0, k) hf) ?_ rfl
  show KJ X mL_law 9 false po SK n (6 * n) 1322 [(4, .int (iI i)), (0, .ref X.2.2.2.1), (1, .ref (X.1 + 0)), (2, .ref (X.1 + 248)), (3, .ref (X.1 + 260))] [.int (iI k)] μ1
  refine K_istore (md := mL_law) (pc := 1322) (l' := (5, .int (iI k)) :: [(4, .int (iI i)), (0, .ref X.2.2.2.1), (1, .ref (X.1 + 0)), (2, .ref (X.1 + 248)), (3, .ref (X.1 + 260))]) (kTab_at (pc := 1322) tL_law_17_ok 8 rfl) (Nat.le_of_ble_eq_true rfl) rfl ?_
  refine K_aload_n (md := mL_law) (pc := 1324) 4 (kTab_at (pc := 1324) tL_law_17_ok 9 rfl) rfl ?_
  refine K_aload_n (md := mL_law) (pc := 1325) 2 (kTab_at (pc := 1325) tL_law_17_ok 10 rfl) rfl ?_
  refine K_iload (md := mL_law) (pc := 1326) 1 (kTab_at (pc := 1326) tL_law_17_ok 11 rfl) rfl ?_
  refine K_iconst (md := mL_law) (pc := 1328) (x := 1) (kTab_at (pc := 1328) tL_law_17_ok 12 rfl) rfl ?_
  refine K_iadd (md := mL_law) (pc := 1329) (kTab_at (pc := 1329) tL_law_17_ok 13 rfl) ?_
  refine K_sld (md := mL_law) (pc := 1330) hL (by omega) (kTab_at (pc := 1330) tL_law_17_ok 14 rfl) ?_
  rw [hw1]
  refine K_callC (md := mL_law) (pc := 1331) (d' := 2) (rkY := 1) (μ2 := μ') (x := b) (st := []) (b := 248) (kTab_at (pc := 1331) tL_law_17_ok 15 rfl) mv_L_198 sk_248 rfl (Nat.le_of_ble_eq_true rfl) (by decide) rfl (c_X11_curve X w1 μ1) hg ?_ rfl
  show KJ X mL_law 9 false po SK n (6 * n) 1334 ((5, .int (iI k)) :: [(4, .int (iI i)), (0, .ref X.2.2.2.1), (1, .ref (X.1 + 0)), (2, .ref (X.1 + 248)), (3, .ref (X.1 + 260))]) [.int (iI b)] μ'
  refine K_istore (md := mL_law) (pc := 1334) (l' := (6, .int (iI b)) :: (5, .int (iI k)) :: [(4, .int (iI i)), (0, .ref X.2.2.2.1), (1, .ref (X.1 + 0)), (2, .ref (X.1 + 248)), (3, .ref (X.1 + 260))]) (kTab_at (pc := 1334) tL_law_17_ok 16 rfl) (Nat.le_of_ble_eq_true rfl) rfl ?_
  refine K_aload_n (md := mL_law) (pc := 1336) 5 (kTab_at (pc := 1336) tL_law_17_ok 17 rfl) rfl ?_
  refine K_callC (md := mL_law) (pc := 1337) (d' := 0) (rkY := 1) (μ2 := μ') (x := μ' 248 0) (st := []) (b := 248) (kTab_at (pc := 1337) tL_law_17_ok 18 rfl) mv_L_142 sk_248 rfl (Nat.le_of_ble_eq_true rfl) (by decide) rfl (c_X11_thrown X μ') rfl ?_ rfl
  rw [ht]
  show KJ X mL_law 9 false po SK n (6 * n) 1340 ((6, .int (iI b)) :: (5, .int (iI k)) :: [(4, .int (iI i)), (0, .ref X.2.2.2.1), (1, .ref (X.1 + 0)), (2, .ref (X.1 + 248)), (3, .ref (X.1 + 260))]) [.int (iI k)] μ'
  refine K_iload (md := mL_law) (pc := 1340) 1 (kTab_at (pc := 1340) tL_law_17_ok 19 rfl) rfl ?_
  refine K_icmp_eq (md := mL_law) (pc := 1342) (r := (μ', 0, 0)) (A := some (μ', 0, 0)) (B := none) (tgt := 1347) (kTab_at (pc := 1342) tL_law_17_ok 20 rfl) rfl (ieq_t gk) (fun _ => ?_) (fun h => nomatch h)
  refine K_iload (md := mL_law) (pc := 1347) 1 (kTab_at (pc := 1347) tL_law_17_ok 23 rfl) rfl ?_
  by_cases hk : k = 0
  · refine K_if_ne (md := mL_law) (pc := 1349) (r := (μ', 0, 0)) (A := none) (B := some (μ', 0, 0)) (tgt := 1364) (kTab_at (pc := 1349) tL_law_17_ok 24 rfl) rfl (ieq_y gk hk) (fun h => nomatch h) (fun _ => ?_)
    have hc := hcmp hk
    refine K_aload_n (md := mL_law) (pc := 1352) 6 (kTab_at (pc := 1352) tL_law_17_ok 25 rfl) rfl ?_
    refine K_iconst (md := mL_law) (pc := 1353) (x := 0) (kTab_at (pc := 1353) tL_law_17_ok 26 rfl) rfl ?_
    refine K_lald (md := mL_law) (pc := 1354) (r := (μ', 0, 0)) (k0 := fun _ => some (μ', 0, 0)) (kTab_at (pc := 1354) tL_law_17_ok 27 rfl) sk_260 (by decide) rd_260 (fun _ => ?_)
    refine K_iload (md := mL_law) (pc := 1355) 0 (kTab_at (pc := 1355) tL_law_17_ok 28 rfl) rfl ?_
    refine K_i2l (md := mL_law) (pc := 1357) (r := (μ', 0, 0)) (k0 := some (μ', 0, 0)) (kTab_at (pc := 1357) tL_law_17_ok 29 rfl) (cmpI_of hc).1 (fun _ => ?_)
    refine K_lcmp_eq (md := mL_law) (pc := 1358) (r := (μ', 0, 0)) (A := some (μ', 0, 0)) (B := none) (tgt := 1364) (kTab_at (pc := 1358) tL_law_17_ok 30 rfl) (kTab_at (pc := 1359) tL_law_17_ok 31 rfl) rfl (cmpI_of hc).2 (fun _ => ?_) (fun h => nomatch h)
    refine K_goto (md := mL_law) (pc := 1364) (tgt := 2483) (kTab_at (pc := 1364) tL_law_17_ok 34 rfl) rfl ?_
    exact KJ_sub (fun q hq => List.mem_cons_of_mem _ (List.mem_cons_of_mem _ hq)) kk
  · refine K_if_ne (md := mL_law) (pc := 1349) (r := (μ', 0, 0)) (A := some (μ', 0, 0)) (B := none) (tgt := 1364) (kTab_at (pc := 1349) tL_law_17_ok 24 rfl) rfl (ieq_n gk hk) (fun _ => ?_) (fun h => nomatch h)
    refine K_goto (md := mL_law) (pc := 1364) (tgt := 2483) (kTab_at (pc := 1364) tL_law_17_ok 34 rfl) rfl ?_
    exact KJ_sub (fun q hq => List.mem_cons_of_mem _ (List.mem_cons_of_mem _ hq)) kk
def lc_setBoundary (w1 : Int) (w2 : Int) (μ : Mu) : Option Mu := lcase (hp 0 [2, 1, 4] (f_X10_setBoundary w1 w2 μ)) (fun μ => f_X11_setBoundary w1 w2 μ) cmpI
theorem mh_setBoundary : kMSH RL 199 mL_setBoundary hh_setBoundary 4 := ⟨inT4 197 (by decide +kernel) rfl, inT4 198 (by decide +kernel) rfl, inT4 199 (by decide +kernel) rfl, inT1 0 (by decide +kernel) rfl, by decide +kernel, by decide +kernel⟩
set_option maxRecDepth 100000 in
theorem k_setBoundary (X : kX) (po : kPo) (hL : X.2.2.2.2.1 < 2 ^ 31) (i : Int) (hi : 0 ≤ i ∧ i + 5 ≤ X.2.2.2.2.1) (n : Nat) (μ μ' : Mu) (h : lc_setBoundary (sw X (i + 1).toNat) (sw X (i + 2).toNat) μ = some μ') (kk : KJ X mL_law 9 false po SK n (6 * n) 2483 [(4, .int (iI i)), (0, .ref X.2.2.2.1), (1, .ref (X.1 + 0)), (2, .ref (X.1 + 248)), (3, .ref (X.1 + 260))] [] μ') : KJ X mL_law 9 false po SK (n + 1) (6 * n + 6) 1367 [(4, .int (iI i)), (0, .ref X.2.2.2.1), (1, .ref (X.1 + 0)), (2, .ref (X.1 + 248)), (3, .ref (X.1 + 260))] [] μ := by
  generalize hw1 : sw X (i + 1).toNat = w1 at h
  generalize hw2 : sw X (i + 2).toNat = w2 at h
  unfold lc_setBoundary at h
  obtain ⟨μ1, k, b, hf, hg, ht, gk, hcmp⟩ := lcase_of (by exact Or.inl rfl) h
  refine K_aload_n (md := mL_law) (pc := 1367) 2 (kTab_at (pc := 1367) tL_law_18_ok 0 rfl) rfl ?_
  refine K_aload_n (md := mL_law) (pc := 1368) 1 (kTab_at (pc := 1368) tL_law_18_ok 1 rfl) rfl ?_
  refine K_iload (md := mL_law) (pc := 1369) 0 (kTab_at (pc := 1369) tL_law_18_ok 2 rfl) rfl ?_
  refine K_iconst (md := mL_law) (pc := 1371) (x := 1) (kTab_at (pc := 1371) tL_law_18_ok 3 rfl) rfl ?_
  refine K_iadd (md := mL_law) (pc := 1372) (kTab_at (pc := 1372) tL_law_18_ok 4 rfl) ?_
  refine K_sld (md := mL_law) (pc := 1373) hL (by omega) (kTab_at (pc := 1373) tL_law_18_ok 5 rfl) ?_
  rw [hw1]
  refine K_aload_n (md := mL_law) (pc := 1374) 1 (kTab_at (pc := 1374) tL_law_18_ok 6 rfl) rfl ?_
  refine K_iload (md := mL_law) (pc := 1375) 0 (kTab_at (pc := 1375) tL_law_18_ok 7 rfl) rfl ?_
  refine K_iconst (md := mL_law) (pc := 1377) (x := 2) (kTab_at (pc := 1377) tL_law_18_ok 8 rfl) rfl ?_
  refine K_iadd (md := mL_law) (pc := 1378) (kTab_at (pc := 1378) tL_law_18_ok 9 rfl) ?_
  refine K_sld (md := mL_law) (pc := 1379) hL (by omega) (kTab_at (pc := 1379) tL_law_18_ok 10 rfl) ?_
  rw [hw2]
  refine K_aload_n (md := mL_law) (pc := 1380) 4 (kTab_at (pc := 1380) tL_law_18_ok 11 rfl) rfl ?_
  refine K_callCH (md := mL_law) (pc := 1381) (mdY := mL_setBoundary) (d' := 7) (cr := n) (sr := 6 * n) (μ2 := μ1) (x := k) (st := []) (kTab_at (pc := 1381) tL_law_18_ok 12 rfl) mh_setBoundary rfl (Nat.le_of_ble_eq_true rfl) (by decide) (h_setBoundary X w1 w2 μ (μ1, 0, k) hf) ?_ rfl
  show KJ X mL_law 9 false po SK n (6 * n) 1384 [(4, .int (iI i)), (0, .ref X.2.2.2.1), (1, .ref (X.1 + 0)), (2, .ref (X.1 + 248)), (3, .ref (X.1 + 260))] [.int (iI k)] μ1
  refine K_istore (md := mL_law) (pc := 1384) (l' := (5, .int (iI k)) :: [(4, .int (iI i)), (0, .ref X.2.2.2.1), (1, .ref (X.1 + 0)), (2, .ref (X.1 + 248)), (3, .ref (X.1 + 260))]) (kTab_at (pc := 1384) tL_law_18_ok 13 rfl) (Nat.le_of_ble_eq_true rfl) rfl ?_
  refine K_aload_n (md := mL_law) (pc := 1386) 4 (kTab_at (pc := 1386) tL_law_18_ok 14 rfl) rfl ?_
  refine K_aload_n (md := mL_law) (pc := 1387) 2 (kTab_at (pc := 1387) tL_law_18_ok 15 rfl) rfl ?_
  refine K_iload (md := mL_law) (pc := 1388) 1 (kTab_at (pc := 1388) tL_law_18_ok 16 rfl) rfl ?_
  refine K_iconst (md := mL_law) (pc := 1390) (x := 1) (kTab_at (pc := 1390) tL_law_18_ok 17 rfl) rfl ?_
  refine K_iadd (md := mL_law) (pc := 1391) (kTab_at (pc := 1391) tL_law_18_ok 18 rfl) ?_
  refine K_sld (md := mL_law) (pc := 1392) hL (by omega) (kTab_at (pc := 1392) tL_law_18_ok 19 rfl) ?_
  rw [hw1]
  refine K_aload_n (md := mL_law) (pc := 1393) 2 (kTab_at (pc := 1393) tL_law_18_ok 20 rfl) rfl ?_
  refine K_iload (md := mL_law) (pc := 1394) 1 (kTab_at (pc := 1394) tL_law_18_ok 21 rfl) rfl ?_
  refine K_iconst (md := mL_law) (pc := 1396) (x := 2) (kTab_at (pc := 1396) tL_law_18_ok 22 rfl) rfl ?_
  refine K_iadd (md := mL_law) (pc := 1397) (kTab_at (pc := 1397) tL_law_18_ok 23 rfl) ?_
  refine K_sld (md := mL_law) (pc := 1398) hL (by omega) (kTab_at (pc := 1398) tL_law_18_ok 24 rfl) ?_
  rw [hw2]
  refine K_callC (md := mL_law) (pc := 1399) (d' := 2) (rkY := 1) (μ2 := μ') (x := b) (st := []) (b := 248) (kTab_at (pc := 1399) tL_law_18_ok 25 rfl) mv_L_201 sk_248 rfl (Nat.le_of_ble_eq_true rfl) (by decide) rfl (c_X11_setBoundary X w1 w2 μ1) hg ?_ rfl
  show KJ X mL_law 9 false po SK n (6 * n) 1402 ((5, .int (iI k)) :: [(4, .int (iI i)), (0, .ref X.2.2.2.1), (1, .ref (X.1 + 0)), (2, .ref (X.1 + 248)), (3, .ref (X.1 + 260))]) [.int (iI b)] μ'
  refine K_istore (md := mL_law) (pc := 1402) (l' := (6, .int (iI b)) :: (5, .int (iI k)) :: [(4, .int (iI i)), (0, .ref X.2.2.2.1), (1, .ref (X.1 + 0)), (2, .ref (X.1 + 248)), (3, .ref (X.1 + 260))]) (kTab_at (pc := 1402) tL_law_18_ok 26 rfl) (Nat.le_of_ble_eq_true rfl) rfl ?_
  refine K_aload_n (md := mL_law) (pc := 1404) 5 (kTab_at (pc := 1404) tL_law_18_ok 27 rfl) rfl ?_
  refine K_callC (md := mL_law) (pc := 1405) (d' := 0) (rkY := 1) (μ2 := μ') (x := μ' 248 0) (st := []) (b := 248) (kTab_at (pc := 1405) tL_law_18_ok 28 rfl) mv_L_142 sk_248 rfl (Nat.le_of_ble_eq_true rfl) (by decide) rfl (c_X11_thrown X μ') rfl ?_ rfl
  rw [ht]
  show KJ X mL_law 9 false po SK n (6 * n) 1408 ((6, .int (iI b)) :: (5, .int (iI k)) :: [(4, .int (iI i)), (0, .ref X.2.2.2.1), (1, .ref (X.1 + 0)), (2, .ref (X.1 + 248)), (3, .ref (X.1 + 260))]) [.int (iI k)] μ'
  refine K_iload (md := mL_law) (pc := 1408) 1 (kTab_at (pc := 1408) tL_law_18_ok 29 rfl) rfl ?_
  refine K_icmp_eq (md := mL_law) (pc := 1410) (r := (μ', 0, 0)) (A := some (μ', 0, 0)) (B := none) (tgt := 1415) (kTab_at (pc := 1410) tL_law_18_ok 30 rfl) rfl (ieq_t gk) (fun _ => ?_) (fun h => nomatch h)
  refine K_iload (md := mL_law) (pc := 1415) 1 (kTab_at (pc := 1415) tL_law_18_ok 33 rfl) rfl ?_
  by_cases hk : k = 0
  · refine K_if_ne (md := mL_law) (pc := 1417) (r := (μ', 0, 0)) (A := none) (B := some (μ', 0, 0)) (tgt := 1432) (kTab_at (pc := 1417) tL_law_18_ok 34 rfl) rfl (ieq_y gk hk) (fun h => nomatch h) (fun _ => ?_)
    have hc := hcmp hk
    refine K_aload_n (md := mL_law) (pc := 1420) 6 (kTab_at (pc := 1420) tL_law_18_ok 35 rfl) rfl ?_
    refine K_iconst (md := mL_law) (pc := 1421) (x := 0) (kTab_at (pc := 1421) tL_law_18_ok 36 rfl) rfl ?_
    refine K_lald (md := mL_law) (pc := 1422) (r := (μ', 0, 0)) (k0 := fun _ => some (μ', 0, 0)) (kTab_at (pc := 1422) tL_law_18_ok 37 rfl) sk_260 (by decide) rd_260 (fun _ => ?_)
    refine K_iload (md := mL_law) (pc := 1423) 0 (kTab_at (pc := 1423) tL_law_18_ok 38 rfl) rfl ?_
    refine K_i2l (md := mL_law) (pc := 1425) (r := (μ', 0, 0)) (k0 := some (μ', 0, 0)) (kTab_at (pc := 1425) tL_law_18_ok 39 rfl) (cmpI_of hc).1 (fun _ => ?_)
    refine K_lcmp_eq (md := mL_law) (pc := 1426) (r := (μ', 0, 0)) (A := some (μ', 0, 0)) (B := none) (tgt := 1432) (kTab_at (pc := 1426) tL_law_18_ok 40 rfl) (kTab_at (pc := 1427) tL_law_18_ok 41 rfl) rfl (cmpI_of hc).2 (fun _ => ?_) (fun h => nomatch h)
    refine K_goto (md := mL_law) (pc := 1432) (tgt := 2483) (kTab_at (pc := 1432) tL_law_18_ok 44 rfl) rfl ?_
    exact KJ_sub (fun q hq => List.mem_cons_of_mem _ (List.mem_cons_of_mem _ hq)) kk
  · refine K_if_ne (md := mL_law) (pc := 1417) (r := (μ', 0, 0)) (A := some (μ', 0, 0)) (B := none) (tgt := 1432) (kTab_at (pc := 1417) tL_law_18_ok 34 rfl) rfl (ieq_n gk hk) (fun _ => ?_) (fun h => nomatch h)
    refine K_goto (md := mL_law) (pc := 1432) (tgt := 2483) (kTab_at (pc := 1432) tL_law_18_ok 44 rfl) rfl ?_
    exact KJ_sub (fun q hq => List.mem_cons_of_mem _ (List.mem_cons_of_mem _ hq)) kk
def lc_result (w1 : Int) (w2 : Int) (μ : Mu) : Option Mu := lcase (hp 2 [2, 1, 5] (f_X10_result w1 w2 μ)) (fun μ => f_X11_result w1 w2 μ) cmpL
theorem mh_result : kMSH RL 202 mL_result hh_result 4 := ⟨inT4 205 (by decide +kernel) rfl, inT4 206 (by decide +kernel) rfl, inT4 207 (by decide +kernel) rfl, inT1 0 (by decide +kernel) rfl, by decide +kernel, by decide +kernel⟩
set_option maxRecDepth 100000 in
theorem k_result (X : kX) (po : kPo) (hL : X.2.2.2.2.1 < 2 ^ 31) (i : Int) (hi : 0 ≤ i ∧ i + 5 ≤ X.2.2.2.2.1) (n : Nat) (μ μ' : Mu) (h : lc_result (sw X (i + 1).toNat) (sw X (i + 2).toNat) μ = some μ') (kk : KJ X mL_law 9 false po SK n (6 * n) 2483 [(4, .int (iI i)), (0, .ref X.2.2.2.1), (1, .ref (X.1 + 0)), (2, .ref (X.1 + 248)), (3, .ref (X.1 + 260))] [] μ') : KJ X mL_law 9 false po SK (n + 1) (6 * n + 6) 1435 [(4, .int (iI i)), (0, .ref X.2.2.2.1), (1, .ref (X.1 + 0)), (2, .ref (X.1 + 248)), (3, .ref (X.1 + 260))] [] μ := by
  generalize hw1 : sw X (i + 1).toNat = w1 at h
  generalize hw2 : sw X (i + 2).toNat = w2 at h
  unfold lc_result at h
  obtain ⟨μ1, k, b, hf, hg, ht, gk, hcmp⟩ := lcase_of (by exact Or.inr (Or.inr rfl)) h
  refine K_aload_n (md := mL_law) (pc := 1435) 2 (kTab_at (pc := 1435) tL_law_19_ok 0 rfl) rfl ?_
  refine K_aload_n (md := mL_law) (pc := 1436) 1 (kTab_at (pc := 1436) tL_law_19_ok 1 rfl) rfl ?_
  refine K_iload (md := mL_law) (pc := 1437) 0 (kTab_at (pc := 1437) tL_law_19_ok 2 rfl) rfl ?_
  refine K_iconst (md := mL_law) (pc := 1439) (x := 1) (kTab_at (pc := 1439) tL_law_19_ok 3 rfl) rfl ?_
  refine K_iadd (md := mL_law) (pc := 1440) (kTab_at (pc := 1440) tL_law_19_ok 4 rfl) ?_
  refine K_sld (md := mL_law) (pc := 1441) hL (by omega) (kTab_at (pc := 1441) tL_law_19_ok 5 rfl) ?_
  rw [hw1]
  refine K_aload_n (md := mL_law) (pc := 1442) 1 (kTab_at (pc := 1442) tL_law_19_ok 6 rfl) rfl ?_
  refine K_iload (md := mL_law) (pc := 1443) 0 (kTab_at (pc := 1443) tL_law_19_ok 7 rfl) rfl ?_
  refine K_iconst (md := mL_law) (pc := 1445) (x := 2) (kTab_at (pc := 1445) tL_law_19_ok 8 rfl) rfl ?_
  refine K_iadd (md := mL_law) (pc := 1446) (kTab_at (pc := 1446) tL_law_19_ok 9 rfl) ?_
  refine K_sld (md := mL_law) (pc := 1447) hL (by omega) (kTab_at (pc := 1447) tL_law_19_ok 10 rfl) ?_
  rw [hw2]
  refine K_aload_n (md := mL_law) (pc := 1448) 4 (kTab_at (pc := 1448) tL_law_19_ok 11 rfl) rfl ?_
  refine K_callCH (md := mL_law) (pc := 1449) (mdY := mL_result) (d' := 7) (cr := n) (sr := 6 * n) (μ2 := μ1) (x := k) (st := []) (kTab_at (pc := 1449) tL_law_19_ok 12 rfl) mh_result rfl (Nat.le_of_ble_eq_true rfl) (by decide) (h_result X w1 w2 μ (μ1, 0, k) hf) ?_ rfl
  show KJ X mL_law 9 false po SK n (6 * n) 1452 [(4, .int (iI i)), (0, .ref X.2.2.2.1), (1, .ref (X.1 + 0)), (2, .ref (X.1 + 248)), (3, .ref (X.1 + 260))] [.int (iI k)] μ1
  refine K_istore (md := mL_law) (pc := 1452) (l' := (5, .int (iI k)) :: [(4, .int (iI i)), (0, .ref X.2.2.2.1), (1, .ref (X.1 + 0)), (2, .ref (X.1 + 248)), (3, .ref (X.1 + 260))]) (kTab_at (pc := 1452) tL_law_19_ok 13 rfl) (Nat.le_of_ble_eq_true rfl) rfl ?_
  refine K_aload_n (md := mL_law) (pc := 1454) 4 (kTab_at (pc := 1454) tL_law_19_ok 14 rfl) rfl ?_
  refine K_aload_n (md := mL_law) (pc := 1455) 2 (kTab_at (pc := 1455) tL_law_19_ok 15 rfl) rfl ?_
  refine K_iload (md := mL_law) (pc := 1456) 1 (kTab_at (pc := 1456) tL_law_19_ok 16 rfl) rfl ?_
  refine K_iconst (md := mL_law) (pc := 1458) (x := 1) (kTab_at (pc := 1458) tL_law_19_ok 17 rfl) rfl ?_
  refine K_iadd (md := mL_law) (pc := 1459) (kTab_at (pc := 1459) tL_law_19_ok 18 rfl) ?_
  refine K_sld (md := mL_law) (pc := 1460) hL (by omega) (kTab_at (pc := 1460) tL_law_19_ok 19 rfl) ?_
  rw [hw1]
  refine K_aload_n (md := mL_law) (pc := 1461) 2 (kTab_at (pc := 1461) tL_law_19_ok 20 rfl) rfl ?_
  refine K_iload (md := mL_law) (pc := 1462) 1 (kTab_at (pc := 1462) tL_law_19_ok 21 rfl) rfl ?_
  refine K_iconst (md := mL_law) (pc := 1464) (x := 2) (kTab_at (pc := 1464) tL_law_19_ok 22 rfl) rfl ?_
  refine K_iadd (md := mL_law) (pc := 1465) (kTab_at (pc := 1465) tL_law_19_ok 23 rfl) ?_
  refine K_sld (md := mL_law) (pc := 1466) hL (by omega) (kTab_at (pc := 1466) tL_law_19_ok 24 rfl) ?_
  rw [hw2]
  refine K_callC (md := mL_law) (pc := 1467) (d' := 7) (rkY := 2) (μ2 := μ') (x := b) (st := []) (b := 248) (kTab_at (pc := 1467) tL_law_19_ok 25 rfl) mv_L_204 sk_248 rfl (Nat.le_of_ble_eq_true rfl) (by decide) rfl (c_X11_result X w1 w2 μ1) hg ?_ rfl
  show KJ X mL_law 9 false po SK n (6 * n) 1470 ((5, .int (iI k)) :: [(4, .int (iI i)), (0, .ref X.2.2.2.1), (1, .ref (X.1 + 0)), (2, .ref (X.1 + 248)), (3, .ref (X.1 + 260))]) [.long (iL b)] μ'
  refine K_lstore (md := mL_law) (pc := 1470) (l' := (6, .long (iL b)) :: (5, .int (iI k)) :: [(4, .int (iI i)), (0, .ref X.2.2.2.1), (1, .ref (X.1 + 0)), (2, .ref (X.1 + 248)), (3, .ref (X.1 + 260))]) (kTab_at (pc := 1470) tL_law_19_ok 26 rfl) (Nat.le_of_ble_eq_true rfl) rfl ?_
  refine K_aload_n (md := mL_law) (pc := 1472) 5 (kTab_at (pc := 1472) tL_law_19_ok 27 rfl) rfl ?_
  refine K_callC (md := mL_law) (pc := 1473) (d' := 0) (rkY := 1) (μ2 := μ') (x := μ' 248 0) (st := []) (b := 248) (kTab_at (pc := 1473) tL_law_19_ok 28 rfl) mv_L_142 sk_248 rfl (Nat.le_of_ble_eq_true rfl) (by decide) rfl (c_X11_thrown X μ') rfl ?_ rfl
  rw [ht]
  show KJ X mL_law 9 false po SK n (6 * n) 1476 ((6, .long (iL b)) :: (5, .int (iI k)) :: [(4, .int (iI i)), (0, .ref X.2.2.2.1), (1, .ref (X.1 + 0)), (2, .ref (X.1 + 248)), (3, .ref (X.1 + 260))]) [.int (iI k)] μ'
  refine K_iload (md := mL_law) (pc := 1476) 1 (kTab_at (pc := 1476) tL_law_19_ok 29 rfl) rfl ?_
  refine K_icmp_eq (md := mL_law) (pc := 1478) (r := (μ', 0, 0)) (A := some (μ', 0, 0)) (B := none) (tgt := 1483) (kTab_at (pc := 1478) tL_law_19_ok 30 rfl) rfl (ieq_t gk) (fun _ => ?_) (fun h => nomatch h)
  refine K_iload (md := mL_law) (pc := 1483) 1 (kTab_at (pc := 1483) tL_law_19_ok 33 rfl) rfl ?_
  by_cases hk : k = 0
  · refine K_if_ne (md := mL_law) (pc := 1485) (r := (μ', 0, 0)) (A := none) (B := some (μ', 0, 0)) (tgt := 1499) (kTab_at (pc := 1485) tL_law_19_ok 34 rfl) rfl (ieq_y gk hk) (fun h => nomatch h) (fun _ => ?_)
    have hc := hcmp hk
    refine K_aload_n (md := mL_law) (pc := 1488) 6 (kTab_at (pc := 1488) tL_law_19_ok 35 rfl) rfl ?_
    refine K_iconst (md := mL_law) (pc := 1489) (x := 0) (kTab_at (pc := 1489) tL_law_19_ok 36 rfl) rfl ?_
    refine K_lald (md := mL_law) (pc := 1490) (r := (μ', 0, 0)) (k0 := fun _ => some (μ', 0, 0)) (kTab_at (pc := 1490) tL_law_19_ok 37 rfl) sk_260 (by decide) rd_260 (fun _ => ?_)
    refine K_lload (md := mL_law) (pc := 1491) 0 (kTab_at (pc := 1491) tL_law_19_ok 38 rfl) rfl ?_
    refine K_lcmp_eq (md := mL_law) (pc := 1493) (r := (μ', 0, 0)) (A := some (μ', 0, 0)) (B := none) (tgt := 1499) (kTab_at (pc := 1493) tL_law_19_ok 39 rfl) (kTab_at (pc := 1494) tL_law_19_ok 40 rfl) rfl (cmpL_of hc) (fun _ => ?_) (fun h => nomatch h)
    refine K_goto (md := mL_law) (pc := 1499) (tgt := 2483) (kTab_at (pc := 1499) tL_law_19_ok 43 rfl) rfl ?_
    exact KJ_sub (fun q hq => List.mem_cons_of_mem _ (List.mem_cons_of_mem _ hq)) kk
  · refine K_if_ne (md := mL_law) (pc := 1485) (r := (μ', 0, 0)) (A := some (μ', 0, 0)) (B := none) (tgt := 1499) (kTab_at (pc := 1485) tL_law_19_ok 34 rfl) rfl (ieq_n gk hk) (fun _ => ?_) (fun h => nomatch h)
    refine K_goto (md := mL_law) (pc := 1499) (tgt := 2483) (kTab_at (pc := 1499) tL_law_19_ok 43 rfl) rfl ?_
    exact KJ_sub (fun q hq => List.mem_cons_of_mem _ (List.mem_cons_of_mem _ hq)) kk
def lc_recount (w1 : Int) (μ : Mu) : Option Mu := lcase (hp 0 [2] (f_X10_recount w1 μ)) (fun μ => f_X11_recount w1 μ) cmpI
theorem mh_recount : kMSH RL 205 mL_recount hh_recount 3 := ⟨inT5 12 (by decide +kernel) rfl, inT5 13 (by decide +kernel) rfl, inT5 14 (by decide +kernel) rfl, inT1 0 (by decide +kernel) rfl, by decide +kernel, by decide +kernel⟩
set_option maxRecDepth 100000 in
theorem k_recount (X : kX) (po : kPo) (hL : X.2.2.2.2.1 < 2 ^ 31) (i : Int) (hi : 0 ≤ i ∧ i + 5 ≤ X.2.2.2.2.1) (n : Nat) (μ μ' : Mu) (h : lc_recount (sw X (i + 1).toNat) μ = some μ') (kk : KJ X mL_law 9 false po SK n (6 * n) 2483 [(4, .int (iI i)), (0, .ref X.2.2.2.1), (1, .ref (X.1 + 0)), (2, .ref (X.1 + 248)), (3, .ref (X.1 + 260))] [] μ') : KJ X mL_law 9 false po SK (n + 1) (6 * n + 6) 1502 [(4, .int (iI i)), (0, .ref X.2.2.2.1), (1, .ref (X.1 + 0)), (2, .ref (X.1 + 248)), (3, .ref (X.1 + 260))] [] μ := by
  generalize hw1 : sw X (i + 1).toNat = w1 at h
  unfold lc_recount at h
  obtain ⟨μ1, k, b, hf, hg, ht, gk, hcmp⟩ := lcase_of (by exact Or.inl rfl) h
  refine K_aload_n (md := mL_law) (pc := 1502) 2 (kTab_at (pc := 1502) tL_law_20_ok 0 rfl) rfl ?_
  refine K_aload_n (md := mL_law) (pc := 1503) 1 (kTab_at (pc := 1503) tL_law_20_ok 1 rfl) rfl ?_
  refine K_iload (md := mL_law) (pc := 1504) 0 (kTab_at (pc := 1504) tL_law_20_ok 2 rfl) rfl ?_
  refine K_iconst (md := mL_law) (pc := 1506) (x := 1) (kTab_at (pc := 1506) tL_law_20_ok 3 rfl) rfl ?_
  refine K_iadd (md := mL_law) (pc := 1507) (kTab_at (pc := 1507) tL_law_20_ok 4 rfl) ?_
  refine K_sld (md := mL_law) (pc := 1508) hL (by omega) (kTab_at (pc := 1508) tL_law_20_ok 5 rfl) ?_
  rw [hw1]
  refine K_aload_n (md := mL_law) (pc := 1509) 4 (kTab_at (pc := 1509) tL_law_20_ok 6 rfl) rfl ?_
  refine K_callCH (md := mL_law) (pc := 1510) (mdY := mL_recount) (d' := 7) (cr := n) (sr := 6 * n) (μ2 := μ1) (x := k) (st := []) (kTab_at (pc := 1510) tL_law_20_ok 7 rfl) mh_recount rfl (Nat.le_of_ble_eq_true rfl) (by decide) (h_recount X w1 μ (μ1, 0, k) hf) ?_ rfl
  show KJ X mL_law 9 false po SK n (6 * n) 1513 [(4, .int (iI i)), (0, .ref X.2.2.2.1), (1, .ref (X.1 + 0)), (2, .ref (X.1 + 248)), (3, .ref (X.1 + 260))] [.int (iI k)] μ1
  refine K_istore (md := mL_law) (pc := 1513) (l' := (5, .int (iI k)) :: [(4, .int (iI i)), (0, .ref X.2.2.2.1), (1, .ref (X.1 + 0)), (2, .ref (X.1 + 248)), (3, .ref (X.1 + 260))]) (kTab_at (pc := 1513) tL_law_20_ok 8 rfl) (Nat.le_of_ble_eq_true rfl) rfl ?_
  refine K_aload_n (md := mL_law) (pc := 1515) 4 (kTab_at (pc := 1515) tL_law_20_ok 9 rfl) rfl ?_
  refine K_aload_n (md := mL_law) (pc := 1516) 2 (kTab_at (pc := 1516) tL_law_20_ok 10 rfl) rfl ?_
  refine K_iload (md := mL_law) (pc := 1517) 1 (kTab_at (pc := 1517) tL_law_20_ok 11 rfl) rfl ?_
  refine K_iconst (md := mL_law) (pc := 1519) (x := 1) (kTab_at (pc := 1519) tL_law_20_ok 12 rfl) rfl ?_
  refine K_iadd (md := mL_law) (pc := 1520) (kTab_at (pc := 1520) tL_law_20_ok 13 rfl) ?_
  refine K_sld (md := mL_law) (pc := 1521) hL (by omega) (kTab_at (pc := 1521) tL_law_20_ok 14 rfl) ?_
  rw [hw1]
  refine K_callC (md := mL_law) (pc := 1522) (d' := 6) (rkY := 1) (μ2 := μ') (x := b) (st := []) (b := 248) (kTab_at (pc := 1522) tL_law_20_ok 15 rfl) mv_L_207 sk_248 rfl (Nat.le_of_ble_eq_true rfl) (by decide) rfl (c_X11_recount X w1 μ1) hg ?_ rfl
  show KJ X mL_law 9 false po SK n (6 * n) 1525 ((5, .int (iI k)) :: [(4, .int (iI i)), (0, .ref X.2.2.2.1), (1, .ref (X.1 + 0)), (2, .ref (X.1 + 248)), (3, .ref (X.1 + 260))]) [.int (iI b)] μ'
  refine K_istore (md := mL_law) (pc := 1525) (l' := (6, .int (iI b)) :: (5, .int (iI k)) :: [(4, .int (iI i)), (0, .ref X.2.2.2.1), (1, .ref (X.1 + 0)), (2, .ref (X.1 + 248)), (3, .ref (X.1 + 260))]) (kTab_at (pc := 1525) tL_law_20_ok 16 rfl) (Nat.le_of_ble_eq_true rfl) rfl ?_
  refine K_aload_n (md := mL_law) (pc := 1527) 5 (kTab_at (pc := 1527) tL_law_20_ok 17 rfl) rfl ?_
  refine K_callC (md := mL_law) (pc := 1528) (d' := 0) (rkY := 1) (μ2 := μ') (x := μ' 248 0) (st := []) (b := 248) (kTab_at (pc := 1528) tL_law_20_ok 18 rfl) mv_L_142 sk_248 rfl (Nat.le_of_ble_eq_true rfl) (by decide) rfl (c_X11_thrown X μ') rfl ?_ rfl
  rw [ht]
  show KJ X mL_law 9 false po SK n (6 * n) 1531 ((6, .int (iI b)) :: (5, .int (iI k)) :: [(4, .int (iI i)), (0, .ref X.2.2.2.1), (1, .ref (X.1 + 0)), (2, .ref (X.1 + 248)), (3, .ref (X.1 + 260))]) [.int (iI k)] μ'
  refine K_iload (md := mL_law) (pc := 1531) 1 (kTab_at (pc := 1531) tL_law_20_ok 19 rfl) rfl ?_
  refine K_icmp_eq (md := mL_law) (pc := 1533) (r := (μ', 0, 0)) (A := some (μ', 0, 0)) (B := none) (tgt := 1538) (kTab_at (pc := 1533) tL_law_20_ok 20 rfl) rfl (ieq_t gk) (fun _ => ?_) (fun h => nomatch h)
  refine K_iload (md := mL_law) (pc := 1538) 1 (kTab_at (pc := 1538) tL_law_20_ok 23 rfl) rfl ?_
  by_cases hk : k = 0
  · refine K_if_ne (md := mL_law) (pc := 1540) (r := (μ', 0, 0)) (A := none) (B := some (μ', 0, 0)) (tgt := 1555) (kTab_at (pc := 1540) tL_law_20_ok 24 rfl) rfl (ieq_y gk hk) (fun h => nomatch h) (fun _ => ?_)
    have hc := hcmp hk
    refine K_aload_n (md := mL_law) (pc := 1543) 6 (kTab_at (pc := 1543) tL_law_20_ok 25 rfl) rfl ?_
    refine K_iconst (md := mL_law) (pc := 1544) (x := 0) (kTab_at (pc := 1544) tL_law_20_ok 26 rfl) rfl ?_
    refine K_lald (md := mL_law) (pc := 1545) (r := (μ', 0, 0)) (k0 := fun _ => some (μ', 0, 0)) (kTab_at (pc := 1545) tL_law_20_ok 27 rfl) sk_260 (by decide) rd_260 (fun _ => ?_)
    refine K_iload (md := mL_law) (pc := 1546) 0 (kTab_at (pc := 1546) tL_law_20_ok 28 rfl) rfl ?_
    refine K_i2l (md := mL_law) (pc := 1548) (r := (μ', 0, 0)) (k0 := some (μ', 0, 0)) (kTab_at (pc := 1548) tL_law_20_ok 29 rfl) (cmpI_of hc).1 (fun _ => ?_)
    refine K_lcmp_eq (md := mL_law) (pc := 1549) (r := (μ', 0, 0)) (A := some (μ', 0, 0)) (B := none) (tgt := 1555) (kTab_at (pc := 1549) tL_law_20_ok 30 rfl) (kTab_at (pc := 1550) tL_law_20_ok 31 rfl) rfl (cmpI_of hc).2 (fun _ => ?_) (fun h => nomatch h)
    refine K_goto (md := mL_law) (pc := 1555) (tgt := 2483) (kTab_at (pc := 1555) tL_law_20_ok 34 rfl) rfl ?_
    exact KJ_sub (fun q hq => List.mem_cons_of_mem _ (List.mem_cons_of_mem _ hq)) kk
  · refine K_if_ne (md := mL_law) (pc := 1540) (r := (μ', 0, 0)) (A := some (μ', 0, 0)) (B := none) (tgt := 1555) (kTab_at (pc := 1540) tL_law_20_ok 24 rfl) rfl (ieq_n gk hk) (fun _ => ?_) (fun h => nomatch h)
    refine K_goto (md := mL_law) (pc := 1555) (tgt := 2483) (kTab_at (pc := 1555) tL_law_20_ok 34 rfl) rfl ?_
    exact KJ_sub (fun q hq => List.mem_cons_of_mem _ (List.mem_cons_of_mem _ hq)) kk
def lc_ranked (w1 : Int) (μ : Mu) : Option Mu := lcase (hp 0 [5] (f_X10_ranked w1 μ)) (fun μ => f_X11_ranked w1 μ) cmpI
theorem mh_ranked : kMSH RL 208 mL_ranked hh_ranked 3 := ⟨inT5 36 (by decide +kernel) rfl, inT5 37 (by decide +kernel) rfl, inT5 38 (by decide +kernel) rfl, inT1 0 (by decide +kernel) rfl, by decide +kernel, by decide +kernel⟩
set_option maxRecDepth 100000 in
theorem k_ranked (X : kX) (po : kPo) (hL : X.2.2.2.2.1 < 2 ^ 31) (i : Int) (hi : 0 ≤ i ∧ i + 5 ≤ X.2.2.2.2.1) (n : Nat) (μ μ' : Mu) (h : lc_ranked (sw X (i + 1).toNat) μ = some μ') (kk : KJ X mL_law 9 false po SK n (6 * n) 2483 [(4, .int (iI i)), (0, .ref X.2.2.2.1), (1, .ref (X.1 + 0)), (2, .ref (X.1 + 248)), (3, .ref (X.1 + 260))] [] μ') : KJ X mL_law 9 false po SK (n + 1) (6 * n + 6) 1558 [(4, .int (iI i)), (0, .ref X.2.2.2.1), (1, .ref (X.1 + 0)), (2, .ref (X.1 + 248)), (3, .ref (X.1 + 260))] [] μ := by
  generalize hw1 : sw X (i + 1).toNat = w1 at h
  unfold lc_ranked at h
  obtain ⟨μ1, k, b, hf, hg, ht, gk, hcmp⟩ := lcase_of (by exact Or.inl rfl) h
  refine K_aload_n (md := mL_law) (pc := 1558) 2 (kTab_at (pc := 1558) tL_law_21_ok 0 rfl) rfl ?_
  refine K_aload_n (md := mL_law) (pc := 1559) 1 (kTab_at (pc := 1559) tL_law_21_ok 1 rfl) rfl ?_
  refine K_iload (md := mL_law) (pc := 1560) 0 (kTab_at (pc := 1560) tL_law_21_ok 2 rfl) rfl ?_
  refine K_iconst (md := mL_law) (pc := 1562) (x := 1) (kTab_at (pc := 1562) tL_law_21_ok 3 rfl) rfl ?_
  refine K_iadd (md := mL_law) (pc := 1563) (kTab_at (pc := 1563) tL_law_21_ok 4 rfl) ?_
  refine K_sld (md := mL_law) (pc := 1564) hL (by omega) (kTab_at (pc := 1564) tL_law_21_ok 5 rfl) ?_
  rw [hw1]
  refine K_aload_n (md := mL_law) (pc := 1565) 4 (kTab_at (pc := 1565) tL_law_21_ok 6 rfl) rfl ?_
  refine K_callCH (md := mL_law) (pc := 1566) (mdY := mL_ranked) (d' := 7) (cr := n) (sr := 6 * n) (μ2 := μ1) (x := k) (st := []) (kTab_at (pc := 1566) tL_law_21_ok 7 rfl) mh_ranked rfl (Nat.le_of_ble_eq_true rfl) (by decide) (h_ranked X w1 μ (μ1, 0, k) hf) ?_ rfl
  show KJ X mL_law 9 false po SK n (6 * n) 1569 [(4, .int (iI i)), (0, .ref X.2.2.2.1), (1, .ref (X.1 + 0)), (2, .ref (X.1 + 248)), (3, .ref (X.1 + 260))] [.int (iI k)] μ1
  refine K_istore (md := mL_law) (pc := 1569) (l' := (5, .int (iI k)) :: [(4, .int (iI i)), (0, .ref X.2.2.2.1), (1, .ref (X.1 + 0)), (2, .ref (X.1 + 248)), (3, .ref (X.1 + 260))]) (kTab_at (pc := 1569) tL_law_21_ok 8 rfl) (Nat.le_of_ble_eq_true rfl) rfl ?_
  refine K_aload_n (md := mL_law) (pc := 1571) 4 (kTab_at (pc := 1571) tL_law_21_ok 9 rfl) rfl ?_
  refine K_aload_n (md := mL_law) (pc := 1572) 2 (kTab_at (pc := 1572) tL_law_21_ok 10 rfl) rfl ?_
  refine K_iload (md := mL_law) (pc := 1573) 1 (kTab_at (pc := 1573) tL_law_21_ok 11 rfl) rfl ?_
  refine K_iconst (md := mL_law) (pc := 1575) (x := 1) (kTab_at (pc := 1575) tL_law_21_ok 12 rfl) rfl ?_
  refine K_iadd (md := mL_law) (pc := 1576) (kTab_at (pc := 1576) tL_law_21_ok 13 rfl) ?_
  refine K_sld (md := mL_law) (pc := 1577) hL (by omega) (kTab_at (pc := 1577) tL_law_21_ok 14 rfl) ?_
  rw [hw1]
  refine K_callC (md := mL_law) (pc := 1578) (d' := 7) (rkY := 1) (μ2 := μ') (x := b) (st := []) (b := 248) (kTab_at (pc := 1578) tL_law_21_ok 15 rfl) mv_L_210 sk_248 rfl (Nat.le_of_ble_eq_true rfl) (by decide) rfl (c_X11_ranked X w1 μ1) hg ?_ rfl
  show KJ X mL_law 9 false po SK n (6 * n) 1581 ((5, .int (iI k)) :: [(4, .int (iI i)), (0, .ref X.2.2.2.1), (1, .ref (X.1 + 0)), (2, .ref (X.1 + 248)), (3, .ref (X.1 + 260))]) [.int (iI b)] μ'
  refine K_istore (md := mL_law) (pc := 1581) (l' := (6, .int (iI b)) :: (5, .int (iI k)) :: [(4, .int (iI i)), (0, .ref X.2.2.2.1), (1, .ref (X.1 + 0)), (2, .ref (X.1 + 248)), (3, .ref (X.1 + 260))]) (kTab_at (pc := 1581) tL_law_21_ok 16 rfl) (Nat.le_of_ble_eq_true rfl) rfl ?_
  refine K_aload_n (md := mL_law) (pc := 1583) 5 (kTab_at (pc := 1583) tL_law_21_ok 17 rfl) rfl ?_
  refine K_callC (md := mL_law) (pc := 1584) (d' := 0) (rkY := 1) (μ2 := μ') (x := μ' 248 0) (st := []) (b := 248) (kTab_at (pc := 1584) tL_law_21_ok 18 rfl) mv_L_142 sk_248 rfl (Nat.le_of_ble_eq_true rfl) (by decide) rfl (c_X11_thrown X μ') rfl ?_ rfl
  rw [ht]
  show KJ X mL_law 9 false po SK n (6 * n) 1587 ((6, .int (iI b)) :: (5, .int (iI k)) :: [(4, .int (iI i)), (0, .ref X.2.2.2.1), (1, .ref (X.1 + 0)), (2, .ref (X.1 + 248)), (3, .ref (X.1 + 260))]) [.int (iI k)] μ'
  refine K_iload (md := mL_law) (pc := 1587) 1 (kTab_at (pc := 1587) tL_law_21_ok 19 rfl) rfl ?_
  refine K_icmp_eq (md := mL_law) (pc := 1589) (r := (μ', 0, 0)) (A := some (μ', 0, 0)) (B := none) (tgt := 1594) (kTab_at (pc := 1589) tL_law_21_ok 20 rfl) rfl (ieq_t gk) (fun _ => ?_) (fun h => nomatch h)
  refine K_iload (md := mL_law) (pc := 1594) 1 (kTab_at (pc := 1594) tL_law_21_ok 23 rfl) rfl ?_
  by_cases hk : k = 0
  · refine K_if_ne (md := mL_law) (pc := 1596) (r := (μ', 0, 0)) (A := none) (B := some (μ', 0, 0)) (tgt := 1611) (kTab_at (pc := 1596) tL_law_21_ok 24 rfl) rfl (ieq_y gk hk) (fun h => nomatch h) (fun _ => ?_)
    have hc := hcmp hk
    refine K_aload_n (md := mL_law) (pc := 1599) 6 (kTab_at (pc := 1599) tL_law_21_ok 25 rfl) rfl ?_
    refine K_iconst (md := mL_law) (pc := 1600) (x := 0) (kTab_at (pc := 1600) tL_law_21_ok 26 rfl) rfl ?_
    refine K_lald (md := mL_law) (pc := 1601) (r := (μ', 0, 0)) (k0 := fun _ => some (μ', 0, 0)) (kTab_at (pc := 1601) tL_law_21_ok 27 rfl) sk_260 (by decide) rd_260 (fun _ => ?_)
    refine K_iload (md := mL_law) (pc := 1602) 0 (kTab_at (pc := 1602) tL_law_21_ok 28 rfl) rfl ?_
    refine K_i2l (md := mL_law) (pc := 1604) (r := (μ', 0, 0)) (k0 := some (μ', 0, 0)) (kTab_at (pc := 1604) tL_law_21_ok 29 rfl) (cmpI_of hc).1 (fun _ => ?_)
    refine K_lcmp_eq (md := mL_law) (pc := 1605) (r := (μ', 0, 0)) (A := some (μ', 0, 0)) (B := none) (tgt := 1611) (kTab_at (pc := 1605) tL_law_21_ok 30 rfl) (kTab_at (pc := 1606) tL_law_21_ok 31 rfl) rfl (cmpI_of hc).2 (fun _ => ?_) (fun h => nomatch h)
    refine K_goto (md := mL_law) (pc := 1611) (tgt := 2483) (kTab_at (pc := 1611) tL_law_21_ok 34 rfl) rfl ?_
    exact KJ_sub (fun q hq => List.mem_cons_of_mem _ (List.mem_cons_of_mem _ hq)) kk
  · refine K_if_ne (md := mL_law) (pc := 1596) (r := (μ', 0, 0)) (A := some (μ', 0, 0)) (B := none) (tgt := 1611) (kTab_at (pc := 1596) tL_law_21_ok 24 rfl) rfl (ieq_n gk hk) (fun _ => ?_) (fun h => nomatch h)
    refine K_goto (md := mL_law) (pc := 1611) (tgt := 2483) (kTab_at (pc := 1611) tL_law_21_ok 34 rfl) rfl ?_
    exact KJ_sub (fun q hq => List.mem_cons_of_mem _ (List.mem_cons_of_mem _ hq)) kk
def lc_graded (w1 : Int) (μ : Mu) : Option Mu := lcase (hp 0 [2] (f_X10_graded w1 μ)) (fun μ => f_X11_graded w1 μ) cmpI
theorem mh_graded : kMSH RL 211 mL_graded hh_graded 3 := ⟨inT5 55 (by decide +kernel) rfl, inT5 56 (by decide +kernel) rfl, inT5 57 (by decide +kernel) rfl, inT1 0 (by decide +kernel) rfl, by decide +kernel, by decide +kernel⟩
set_option maxRecDepth 100000 in
theorem k_graded (X : kX) (po : kPo) (hL : X.2.2.2.2.1 < 2 ^ 31) (i : Int) (hi : 0 ≤ i ∧ i + 5 ≤ X.2.2.2.2.1) (n : Nat) (μ μ' : Mu) (h : lc_graded (sw X (i + 1).toNat) μ = some μ') (kk : KJ X mL_law 9 false po SK n (6 * n) 2483 [(4, .int (iI i)), (0, .ref X.2.2.2.1), (1, .ref (X.1 + 0)), (2, .ref (X.1 + 248)), (3, .ref (X.1 + 260))] [] μ') : KJ X mL_law 9 false po SK (n + 1) (6 * n + 6) 1614 [(4, .int (iI i)), (0, .ref X.2.2.2.1), (1, .ref (X.1 + 0)), (2, .ref (X.1 + 248)), (3, .ref (X.1 + 260))] [] μ := by
  generalize hw1 : sw X (i + 1).toNat = w1 at h
  unfold lc_graded at h
  obtain ⟨μ1, k, b, hf, hg, ht, gk, hcmp⟩ := lcase_of (by exact Or.inl rfl) h
  refine K_aload_n (md := mL_law) (pc := 1614) 2 (kTab_at (pc := 1614) tL_law_22_ok 0 rfl) rfl ?_
  refine K_aload_n (md := mL_law) (pc := 1615) 1 (kTab_at (pc := 1615) tL_law_22_ok 1 rfl) rfl ?_
  refine K_iload (md := mL_law) (pc := 1616) 0 (kTab_at (pc := 1616) tL_law_22_ok 2 rfl) rfl ?_
  refine K_iconst (md := mL_law) (pc := 1618) (x := 1) (kTab_at (pc := 1618) tL_law_22_ok 3 rfl) rfl ?_
  refine K_iadd (md := mL_law) (pc := 1619) (kTab_at (pc := 1619) tL_law_22_ok 4 rfl) ?_
  refine K_sld (md := mL_law) (pc := 1620) hL (by omega) (kTab_at (pc := 1620) tL_law_22_ok 5 rfl) ?_
  rw [hw1]
  refine K_aload_n (md := mL_law) (pc := 1621) 4 (kTab_at (pc := 1621) tL_law_22_ok 6 rfl) rfl ?_
  refine K_callCH (md := mL_law) (pc := 1622) (mdY := mL_graded) (d' := 7) (cr := n) (sr := 6 * n) (μ2 := μ1) (x := k) (st := []) (kTab_at (pc := 1622) tL_law_22_ok 7 rfl) mh_graded rfl (Nat.le_of_ble_eq_true rfl) (by decide) (h_graded X w1 μ (μ1, 0, k) hf) ?_ rfl
  show KJ X mL_law 9 false po SK n (6 * n) 1625 [(4, .int (iI i)), (0, .ref X.2.2.2.1), (1, .ref (X.1 + 0)), (2, .ref (X.1 + 248)), (3, .ref (X.1 + 260))] [.int (iI k)] μ1
  refine K_istore (md := mL_law) (pc := 1625) (l' := (5, .int (iI k)) :: [(4, .int (iI i)), (0, .ref X.2.2.2.1), (1, .ref (X.1 + 0)), (2, .ref (X.1 + 248)), (3, .ref (X.1 + 260))]) (kTab_at (pc := 1625) tL_law_22_ok 8 rfl) (Nat.le_of_ble_eq_true rfl) rfl ?_
  refine K_aload_n (md := mL_law) (pc := 1627) 4 (kTab_at (pc := 1627) tL_law_22_ok 9 rfl) rfl ?_
  refine K_aload_n (md := mL_law) (pc := 1628) 2 (kTab_at (pc := 1628) tL_law_22_ok 10 rfl) rfl ?_
  refine K_iload (md := mL_law) (pc := 1629) 1 (kTab_at (pc := 1629) tL_law_22_ok 11 rfl) rfl ?_
  refine K_iconst (md := mL_law) (pc := 1631) (x := 1) (kTab_at (pc := 1631) tL_law_22_ok 12 rfl) rfl ?_
  refine K_iadd (md := mL_law) (pc := 1632) (kTab_at (pc := 1632) tL_law_22_ok 13 rfl) ?_
  refine K_sld (md := mL_law) (pc := 1633) hL (by omega) (kTab_at (pc := 1633) tL_law_22_ok 14 rfl) ?_
  rw [hw1]
  refine K_callC (md := mL_law) (pc := 1634) (d' := 8) (rkY := 1) (μ2 := μ') (x := b) (st := []) (b := 248) (kTab_at (pc := 1634) tL_law_22_ok 15 rfl) mv_L_213 sk_248 rfl (Nat.le_of_ble_eq_true rfl) (by decide) rfl (c_X11_graded X w1 μ1) hg ?_ rfl
  show KJ X mL_law 9 false po SK n (6 * n) 1637 ((5, .int (iI k)) :: [(4, .int (iI i)), (0, .ref X.2.2.2.1), (1, .ref (X.1 + 0)), (2, .ref (X.1 + 248)), (3, .ref (X.1 + 260))]) [.int (iI b)] μ'
  refine K_istore (md := mL_law) (pc := 1637) (l' := (6, .int (iI b)) :: (5, .int (iI k)) :: [(4, .int (iI i)), (0, .ref X.2.2.2.1), (1, .ref (X.1 + 0)), (2, .ref (X.1 + 248)), (3, .ref (X.1 + 260))]) (kTab_at (pc := 1637) tL_law_22_ok 16 rfl) (Nat.le_of_ble_eq_true rfl) rfl ?_
  refine K_aload_n (md := mL_law) (pc := 1639) 5 (kTab_at (pc := 1639) tL_law_22_ok 17 rfl) rfl ?_
  refine K_callC (md := mL_law) (pc := 1640) (d' := 0) (rkY := 1) (μ2 := μ') (x := μ' 248 0) (st := []) (b := 248) (kTab_at (pc := 1640) tL_law_22_ok 18 rfl) mv_L_142 sk_248 rfl (Nat.le_of_ble_eq_true rfl) (by decide) rfl (c_X11_thrown X μ') rfl ?_ rfl
  rw [ht]
  show KJ X mL_law 9 false po SK n (6 * n) 1643 ((6, .int (iI b)) :: (5, .int (iI k)) :: [(4, .int (iI i)), (0, .ref X.2.2.2.1), (1, .ref (X.1 + 0)), (2, .ref (X.1 + 248)), (3, .ref (X.1 + 260))]) [.int (iI k)] μ'
  refine K_iload (md := mL_law) (pc := 1643) 1 (kTab_at (pc := 1643) tL_law_22_ok 19 rfl) rfl ?_
  refine K_icmp_eq (md := mL_law) (pc := 1645) (r := (μ', 0, 0)) (A := some (μ', 0, 0)) (B := none) (tgt := 1650) (kTab_at (pc := 1645) tL_law_22_ok 20 rfl) rfl (ieq_t gk) (fun _ => ?_) (fun h => nomatch h)
  refine K_iload (md := mL_law) (pc := 1650) 1 (kTab_at (pc := 1650) tL_law_22_ok 23 rfl) rfl ?_
  by_cases hk : k = 0
  · refine K_if_ne (md := mL_law) (pc := 1652) (r := (μ', 0, 0)) (A := none) (B := some (μ', 0, 0)) (tgt := 1667) (kTab_at (pc := 1652) tL_law_22_ok 24 rfl) rfl (ieq_y gk hk) (fun h => nomatch h) (fun _ => ?_)
    have hc := hcmp hk
    refine K_aload_n (md := mL_law) (pc := 1655) 6 (kTab_at (pc := 1655) tL_law_22_ok 25 rfl) rfl ?_
    refine K_iconst (md := mL_law) (pc := 1656) (x := 0) (kTab_at (pc := 1656) tL_law_22_ok 26 rfl) rfl ?_
    refine K_lald (md := mL_law) (pc := 1657) (r := (μ', 0, 0)) (k0 := fun _ => some (μ', 0, 0)) (kTab_at (pc := 1657) tL_law_22_ok 27 rfl) sk_260 (by decide) rd_260 (fun _ => ?_)
    refine K_iload (md := mL_law) (pc := 1658) 0 (kTab_at (pc := 1658) tL_law_22_ok 28 rfl) rfl ?_
    refine K_i2l (md := mL_law) (pc := 1660) (r := (μ', 0, 0)) (k0 := some (μ', 0, 0)) (kTab_at (pc := 1660) tL_law_22_ok 29 rfl) (cmpI_of hc).1 (fun _ => ?_)
    refine K_lcmp_eq (md := mL_law) (pc := 1661) (r := (μ', 0, 0)) (A := some (μ', 0, 0)) (B := none) (tgt := 1667) (kTab_at (pc := 1661) tL_law_22_ok 30 rfl) (kTab_at (pc := 1662) tL_law_22_ok 31 rfl) rfl (cmpI_of hc).2 (fun _ => ?_) (fun h => nomatch h)
    refine K_goto (md := mL_law) (pc := 1667) (tgt := 2483) (kTab_at (pc := 1667) tL_law_22_ok 34 rfl) rfl ?_
    exact KJ_sub (fun q hq => List.mem_cons_of_mem _ (List.mem_cons_of_mem _ hq)) kk
  · refine K_if_ne (md := mL_law) (pc := 1652) (r := (μ', 0, 0)) (A := some (μ', 0, 0)) (B := none) (tgt := 1667) (kTab_at (pc := 1652) tL_law_22_ok 24 rfl) rfl (ieq_n gk hk) (fun _ => ?_) (fun h => nomatch h)
    refine K_goto (md := mL_law) (pc := 1667) (tgt := 2483) (kTab_at (pc := 1667) tL_law_22_ok 34 rfl) rfl ?_
    exact KJ_sub (fun q hq => List.mem_cons_of_mem _ (List.mem_cons_of_mem _ hq)) kk
def lc_gradeIf (w1 : Int) (w2 : Int) (w3 : Int) (μ : Mu) : Option Mu := lcase (hp 0 [2, 1, 5] (f_X10_gradeIf w1 w2 w3 μ)) (fun μ => f_X11_gradeIf w1 w2 w3 μ) cmpI
theorem mh_gradeIf : kMSH RL 214 mL_gradeIf hh_gradeIf 5 := ⟨inT5 66 (by decide +kernel) rfl, inT5 67 (by decide +kernel) rfl, inT5 68 (by decide +kernel) rfl, inT1 0 (by decide +kernel) rfl, by decide +kernel, by decide +kernel⟩
set_option maxRecDepth 100000 in
theorem k_gradeIf (X : kX) (po : kPo) (hL : X.2.2.2.2.1 < 2 ^ 31) (i : Int) (hi : 0 ≤ i ∧ i + 5 ≤ X.2.2.2.2.1) (n : Nat) (μ μ' : Mu) (h : lc_gradeIf (sw X (i + 1).toNat) (sw X (i + 2).toNat) (sw X (i + 3).toNat) μ = some μ') (kk : KJ X mL_law 9 false po SK n (6 * n) 2483 [(4, .int (iI i)), (0, .ref X.2.2.2.1), (1, .ref (X.1 + 0)), (2, .ref (X.1 + 248)), (3, .ref (X.1 + 260))] [] μ') : KJ X mL_law 9 false po SK (n + 1) (6 * n + 6) 1670 [(4, .int (iI i)), (0, .ref X.2.2.2.1), (1, .ref (X.1 + 0)), (2, .ref (X.1 + 248)), (3, .ref (X.1 + 260))] [] μ := by
  generalize hw1 : sw X (i + 1).toNat = w1 at h
  generalize hw2 : sw X (i + 2).toNat = w2 at h
  generalize hw3 : sw X (i + 3).toNat = w3 at h
  unfold lc_gradeIf at h
  obtain ⟨μ1, k, b, hf, hg, ht, gk, hcmp⟩ := lcase_of (by exact Or.inl rfl) h
  refine K_aload_n (md := mL_law) (pc := 1670) 2 (kTab_at (pc := 1670) tL_law_23_ok 0 rfl) rfl ?_
  refine K_aload_n (md := mL_law) (pc := 1671) 1 (kTab_at (pc := 1671) tL_law_23_ok 1 rfl) rfl ?_
  refine K_iload (md := mL_law) (pc := 1672) 0 (kTab_at (pc := 1672) tL_law_23_ok 2 rfl) rfl ?_
  refine K_iconst (md := mL_law) (pc := 1674) (x := 1) (kTab_at (pc := 1674) tL_law_23_ok 3 rfl) rfl ?_
  refine K_iadd (md := mL_law) (pc := 1675) (kTab_at (pc := 1675) tL_law_23_ok 4 rfl) ?_
  refine K_sld (md := mL_law) (pc := 1676) hL (by omega) (kTab_at (pc := 1676) tL_law_23_ok 5 rfl) ?_
  rw [hw1]
  refine K_aload_n (md := mL_law) (pc := 1677) 1 (kTab_at (pc := 1677) tL_law_23_ok 6 rfl) rfl ?_
  refine K_iload (md := mL_law) (pc := 1678) 0 (kTab_at (pc := 1678) tL_law_23_ok 7 rfl) rfl ?_
  refine K_iconst (md := mL_law) (pc := 1680) (x := 2) (kTab_at (pc := 1680) tL_law_23_ok 8 rfl) rfl ?_
  refine K_iadd (md := mL_law) (pc := 1681) (kTab_at (pc := 1681) tL_law_23_ok 9 rfl) ?_
  refine K_sld (md := mL_law) (pc := 1682) hL (by omega) (kTab_at (pc := 1682) tL_law_23_ok 10 rfl) ?_
  rw [hw2]
  refine K_aload_n (md := mL_law) (pc := 1683) 1 (kTab_at (pc := 1683) tL_law_23_ok 11 rfl) rfl ?_
  refine K_iload (md := mL_law) (pc := 1684) 0 (kTab_at (pc := 1684) tL_law_23_ok 12 rfl) rfl ?_
  refine K_iconst (md := mL_law) (pc := 1686) (x := 3) (kTab_at (pc := 1686) tL_law_23_ok 13 rfl) rfl ?_
  refine K_iadd (md := mL_law) (pc := 1687) (kTab_at (pc := 1687) tL_law_23_ok 14 rfl) ?_
  refine K_sld (md := mL_law) (pc := 1688) hL (by omega) (kTab_at (pc := 1688) tL_law_23_ok 15 rfl) ?_
  rw [hw3]
  refine K_aload_n (md := mL_law) (pc := 1689) 4 (kTab_at (pc := 1689) tL_law_23_ok 16 rfl) rfl ?_
  refine K_callCH (md := mL_law) (pc := 1690) (mdY := mL_gradeIf) (d' := 7) (cr := n) (sr := 6 * n) (μ2 := μ1) (x := k) (st := []) (kTab_at (pc := 1690) tL_law_23_ok 17 rfl) mh_gradeIf rfl (Nat.le_of_ble_eq_true rfl) (by decide) (h_gradeIf X w1 w2 w3 μ (μ1, 0, k) hf) ?_ rfl
  show KJ X mL_law 9 false po SK n (6 * n) 1693 [(4, .int (iI i)), (0, .ref X.2.2.2.1), (1, .ref (X.1 + 0)), (2, .ref (X.1 + 248)), (3, .ref (X.1 + 260))] [.int (iI k)] μ1
  refine K_istore (md := mL_law) (pc := 1693) (l' := (5, .int (iI k)) :: [(4, .int (iI i)), (0, .ref X.2.2.2.1), (1, .ref (X.1 + 0)), (2, .ref (X.1 + 248)), (3, .ref (X.1 + 260))]) (kTab_at (pc := 1693) tL_law_23_ok 18 rfl) (Nat.le_of_ble_eq_true rfl) rfl ?_
  refine K_aload_n (md := mL_law) (pc := 1695) 4 (kTab_at (pc := 1695) tL_law_23_ok 19 rfl) rfl ?_
  refine K_aload_n (md := mL_law) (pc := 1696) 2 (kTab_at (pc := 1696) tL_law_23_ok 20 rfl) rfl ?_
  refine K_iload (md := mL_law) (pc := 1697) 1 (kTab_at (pc := 1697) tL_law_23_ok 21 rfl) rfl ?_
  refine K_iconst (md := mL_law) (pc := 1699) (x := 1) (kTab_at (pc := 1699) tL_law_23_ok 22 rfl) rfl ?_
  refine K_iadd (md := mL_law) (pc := 1700) (kTab_at (pc := 1700) tL_law_23_ok 23 rfl) ?_
  refine K_sld (md := mL_law) (pc := 1701) hL (by omega) (kTab_at (pc := 1701) tL_law_23_ok 24 rfl) ?_
  rw [hw1]
  refine K_aload_n (md := mL_law) (pc := 1702) 2 (kTab_at (pc := 1702) tL_law_23_ok 25 rfl) rfl ?_
  refine K_iload (md := mL_law) (pc := 1703) 1 (kTab_at (pc := 1703) tL_law_23_ok 26 rfl) rfl ?_
  refine K_iconst (md := mL_law) (pc := 1705) (x := 2) (kTab_at (pc := 1705) tL_law_23_ok 27 rfl) rfl ?_
  refine K_iadd (md := mL_law) (pc := 1706) (kTab_at (pc := 1706) tL_law_23_ok 28 rfl) ?_
  refine K_sld (md := mL_law) (pc := 1707) hL (by omega) (kTab_at (pc := 1707) tL_law_23_ok 29 rfl) ?_
  rw [hw2]
  refine K_aload_n (md := mL_law) (pc := 1708) 2 (kTab_at (pc := 1708) tL_law_23_ok 30 rfl) rfl ?_
  refine K_iload (md := mL_law) (pc := 1709) 1 (kTab_at (pc := 1709) tL_law_23_ok 31 rfl) rfl ?_
  refine K_iconst (md := mL_law) (pc := 1711) (x := 3) (kTab_at (pc := 1711) tL_law_23_ok 32 rfl) rfl ?_
  refine K_iadd (md := mL_law) (pc := 1712) (kTab_at (pc := 1712) tL_law_23_ok 33 rfl) ?_
  refine K_sld (md := mL_law) (pc := 1713) hL (by omega) (kTab_at (pc := 1713) tL_law_23_ok 34 rfl) ?_
  rw [hw3]
  refine K_callC (md := mL_law) (pc := 1714) (d' := 8) (rkY := 1) (μ2 := μ') (x := b) (st := []) (b := 248) (kTab_at (pc := 1714) tL_law_23_ok 35 rfl) mv_L_216 sk_248 rfl (Nat.le_of_ble_eq_true rfl) (by decide) rfl (c_X11_gradeIf X w1 w2 w3 μ1) hg ?_ rfl
  show KJ X mL_law 9 false po SK n (6 * n) 1717 ((5, .int (iI k)) :: [(4, .int (iI i)), (0, .ref X.2.2.2.1), (1, .ref (X.1 + 0)), (2, .ref (X.1 + 248)), (3, .ref (X.1 + 260))]) [.int (iI b)] μ'
  refine K_istore (md := mL_law) (pc := 1717) (l' := (6, .int (iI b)) :: (5, .int (iI k)) :: [(4, .int (iI i)), (0, .ref X.2.2.2.1), (1, .ref (X.1 + 0)), (2, .ref (X.1 + 248)), (3, .ref (X.1 + 260))]) (kTab_at (pc := 1717) tL_law_23_ok 36 rfl) (Nat.le_of_ble_eq_true rfl) rfl ?_
  refine K_aload_n (md := mL_law) (pc := 1719) 5 (kTab_at (pc := 1719) tL_law_23_ok 37 rfl) rfl ?_
  refine K_callC (md := mL_law) (pc := 1720) (d' := 0) (rkY := 1) (μ2 := μ') (x := μ' 248 0) (st := []) (b := 248) (kTab_at (pc := 1720) tL_law_23_ok 38 rfl) mv_L_142 sk_248 rfl (Nat.le_of_ble_eq_true rfl) (by decide) rfl (c_X11_thrown X μ') rfl ?_ rfl
  rw [ht]
  show KJ X mL_law 9 false po SK n (6 * n) 1723 ((6, .int (iI b)) :: (5, .int (iI k)) :: [(4, .int (iI i)), (0, .ref X.2.2.2.1), (1, .ref (X.1 + 0)), (2, .ref (X.1 + 248)), (3, .ref (X.1 + 260))]) [.int (iI k)] μ'
  refine K_iload (md := mL_law) (pc := 1723) 1 (kTab_at (pc := 1723) tL_law_23_ok 39 rfl) rfl ?_
  refine K_icmp_eq (md := mL_law) (pc := 1725) (r := (μ', 0, 0)) (A := some (μ', 0, 0)) (B := none) (tgt := 1730) (kTab_at (pc := 1725) tL_law_23_ok 40 rfl) rfl (ieq_t gk) (fun _ => ?_) (fun h => nomatch h)
  refine K_iload (md := mL_law) (pc := 1730) 1 (kTab_at (pc := 1730) tL_law_23_ok 43 rfl) rfl ?_
  by_cases hk : k = 0
  · refine K_if_ne (md := mL_law) (pc := 1732) (r := (μ', 0, 0)) (A := none) (B := some (μ', 0, 0)) (tgt := 1747) (kTab_at (pc := 1732) tL_law_23_ok 44 rfl) rfl (ieq_y gk hk) (fun h => nomatch h) (fun _ => ?_)
    have hc := hcmp hk
    refine K_aload_n (md := mL_law) (pc := 1735) 6 (kTab_at (pc := 1735) tL_law_23_ok 45 rfl) rfl ?_
    refine K_iconst (md := mL_law) (pc := 1736) (x := 0) (kTab_at (pc := 1736) tL_law_23_ok 46 rfl) rfl ?_
    refine K_lald (md := mL_law) (pc := 1737) (r := (μ', 0, 0)) (k0 := fun _ => some (μ', 0, 0)) (kTab_at (pc := 1737) tL_law_23_ok 47 rfl) sk_260 (by decide) rd_260 (fun _ => ?_)
    refine K_iload (md := mL_law) (pc := 1738) 0 (kTab_at (pc := 1738) tL_law_23_ok 48 rfl) rfl ?_
    refine K_i2l (md := mL_law) (pc := 1740) (r := (μ', 0, 0)) (k0 := some (μ', 0, 0)) (kTab_at (pc := 1740) tL_law_23_ok 49 rfl) (cmpI_of hc).1 (fun _ => ?_)
    refine K_lcmp_eq (md := mL_law) (pc := 1741) (r := (μ', 0, 0)) (A := some (μ', 0, 0)) (B := none) (tgt := 1747) (kTab_at (pc := 1741) tL_law_23_ok 50 rfl) (kTab_at (pc := 1742) tL_law_23_ok 51 rfl) rfl (cmpI_of hc).2 (fun _ => ?_) (fun h => nomatch h)
    refine K_goto (md := mL_law) (pc := 1747) (tgt := 2483) (kTab_at (pc := 1747) tL_law_23_ok 54 rfl) rfl ?_
    exact KJ_sub (fun q hq => List.mem_cons_of_mem _ (List.mem_cons_of_mem _ hq)) kk
  · refine K_if_ne (md := mL_law) (pc := 1732) (r := (μ', 0, 0)) (A := some (μ', 0, 0)) (B := none) (tgt := 1747) (kTab_at (pc := 1732) tL_law_23_ok 44 rfl) rfl (ieq_n gk hk) (fun _ => ?_) (fun h => nomatch h)
    refine K_goto (md := mL_law) (pc := 1747) (tgt := 2483) (kTab_at (pc := 1747) tL_law_23_ok 54 rfl) rfl ?_
    exact KJ_sub (fun q hq => List.mem_cons_of_mem _ (List.mem_cons_of_mem _ hq)) kk
def lc_needed (w1 : Int) (w2 : Int) (w3 : Int) (μ : Mu) : Option Mu := lcase (hp 0 [2, 5] (f_X10_needed w1 w2 w3 μ)) (fun μ => f_X11_needed w1 w2 w3 μ) cmpI
theorem mh_needed : kMSH RL 217 mL_needed hh_needed 5 := ⟨inT5 77 (by decide +kernel) rfl, inT5 78 (by decide +kernel) rfl, inT5 79 (by decide +kernel) rfl, inT1 0 (by decide +kernel) rfl, by decide +kernel, by decide +kernel⟩
set_option maxRecDepth 100000 in
theorem k_needed (X : kX) (po : kPo) (hL : X.2.2.2.2.1 < 2 ^ 31) (i : Int) (hi : 0 ≤ i ∧ i + 5 ≤ X.2.2.2.2.1) (n : Nat) (μ μ' : Mu) (h : lc_needed (sw X (i + 1).toNat) (sw X (i + 2).toNat) (sw X (i + 3).toNat) μ = some μ') (kk : KJ X mL_law 9 false po SK n (6 * n) 2483 [(4, .int (iI i)), (0, .ref X.2.2.2.1), (1, .ref (X.1 + 0)), (2, .ref (X.1 + 248)), (3, .ref (X.1 + 260))] [] μ') : KJ X mL_law 9 false po SK (n + 1) (6 * n + 6) 1750 [(4, .int (iI i)), (0, .ref X.2.2.2.1), (1, .ref (X.1 + 0)), (2, .ref (X.1 + 248)), (3, .ref (X.1 + 260))] [] μ := by
  generalize hw1 : sw X (i + 1).toNat = w1 at h
  generalize hw2 : sw X (i + 2).toNat = w2 at h
  generalize hw3 : sw X (i + 3).toNat = w3 at h
  unfold lc_needed at h
  obtain ⟨μ1, k, b, hf, hg, ht, gk, hcmp⟩ := lcase_of (by exact Or.inl rfl) h
  refine K_aload_n (md := mL_law) (pc := 1750) 2 (kTab_at (pc := 1750) tL_law_24_ok 0 rfl) rfl ?_
  refine K_aload_n (md := mL_law) (pc := 1751) 1 (kTab_at (pc := 1751) tL_law_24_ok 1 rfl) rfl ?_
  refine K_iload (md := mL_law) (pc := 1752) 0 (kTab_at (pc := 1752) tL_law_24_ok 2 rfl) rfl ?_
  refine K_iconst (md := mL_law) (pc := 1754) (x := 1) (kTab_at (pc := 1754) tL_law_24_ok 3 rfl) rfl ?_
  refine K_iadd (md := mL_law) (pc := 1755) (kTab_at (pc := 1755) tL_law_24_ok 4 rfl) ?_
  refine K_sld (md := mL_law) (pc := 1756) hL (by omega) (kTab_at (pc := 1756) tL_law_24_ok 5 rfl) ?_
  rw [hw1]
  refine K_aload_n (md := mL_law) (pc := 1757) 1 (kTab_at (pc := 1757) tL_law_24_ok 6 rfl) rfl ?_
  refine K_iload (md := mL_law) (pc := 1758) 0 (kTab_at (pc := 1758) tL_law_24_ok 7 rfl) rfl ?_
  refine K_iconst (md := mL_law) (pc := 1760) (x := 2) (kTab_at (pc := 1760) tL_law_24_ok 8 rfl) rfl ?_
  refine K_iadd (md := mL_law) (pc := 1761) (kTab_at (pc := 1761) tL_law_24_ok 9 rfl) ?_
  refine K_sld (md := mL_law) (pc := 1762) hL (by omega) (kTab_at (pc := 1762) tL_law_24_ok 10 rfl) ?_
  rw [hw2]
  refine K_aload_n (md := mL_law) (pc := 1763) 1 (kTab_at (pc := 1763) tL_law_24_ok 11 rfl) rfl ?_
  refine K_iload (md := mL_law) (pc := 1764) 0 (kTab_at (pc := 1764) tL_law_24_ok 12 rfl) rfl ?_
  refine K_iconst (md := mL_law) (pc := 1766) (x := 3) (kTab_at (pc := 1766) tL_law_24_ok 13 rfl) rfl ?_
  refine K_iadd (md := mL_law) (pc := 1767) (kTab_at (pc := 1767) tL_law_24_ok 14 rfl) ?_
  refine K_sld (md := mL_law) (pc := 1768) hL (by omega) (kTab_at (pc := 1768) tL_law_24_ok 15 rfl) ?_
  rw [hw3]
  refine K_aload_n (md := mL_law) (pc := 1769) 4 (kTab_at (pc := 1769) tL_law_24_ok 16 rfl) rfl ?_
  refine K_callCH (md := mL_law) (pc := 1770) (mdY := mL_needed) (d' := 7) (cr := n) (sr := 6 * n) (μ2 := μ1) (x := k) (st := []) (kTab_at (pc := 1770) tL_law_24_ok 17 rfl) mh_needed rfl (Nat.le_of_ble_eq_true rfl) (by decide) (h_needed X w1 w2 w3 μ (μ1, 0, k) hf) ?_ rfl
  show KJ X mL_law 9 false po SK n (6 * n) 1773 [(4, .int (iI i)), (0, .ref X.2.2.2.1), (1, .ref (X.1 + 0)), (2, .ref (X.1 + 248)), (3, .ref (X.1 + 260))] [.int (iI k)] μ1
  refine K_istore (md := mL_law) (pc := 1773) (l' := (5, .int (iI k)) :: [(4, .int (iI i)), (0, .ref X.2.2.2.1), (1, .ref (X.1 + 0)), (2, .ref (X.1 + 248)), (3, .ref (X.1 + 260))]) (kTab_at (pc := 1773) tL_law_24_ok 18 rfl) (Nat.le_of_ble_eq_true rfl) rfl ?_
  refine K_aload_n (md := mL_law) (pc := 1775) 4 (kTab_at (pc := 1775) tL_law_24_ok 19 rfl) rfl ?_
  refine K_aload_n (md := mL_law) (pc := 1776) 2 (kTab_at (pc := 1776) tL_law_24_ok 20 rfl) rfl ?_
  refine K_iload (md := mL_law) (pc := 1777) 1 (kTab_at (pc := 1777) tL_law_24_ok 21 rfl) rfl ?_
  refine K_iconst (md := mL_law) (pc := 1779) (x := 1) (kTab_at (pc := 1779) tL_law_24_ok 22 rfl) rfl ?_
  refine K_iadd (md := mL_law) (pc := 1780) (kTab_at (pc := 1780) tL_law_24_ok 23 rfl) ?_
  refine K_sld (md := mL_law) (pc := 1781) hL (by omega) (kTab_at (pc := 1781) tL_law_24_ok 24 rfl) ?_
  rw [hw1]
  refine K_aload_n (md := mL_law) (pc := 1782) 2 (kTab_at (pc := 1782) tL_law_24_ok 25 rfl) rfl ?_
  refine K_iload (md := mL_law) (pc := 1783) 1 (kTab_at (pc := 1783) tL_law_24_ok 26 rfl) rfl ?_
  refine K_iconst (md := mL_law) (pc := 1785) (x := 2) (kTab_at (pc := 1785) tL_law_24_ok 27 rfl) rfl ?_
  refine K_iadd (md := mL_law) (pc := 1786) (kTab_at (pc := 1786) tL_law_24_ok 28 rfl) ?_
  refine K_sld (md := mL_law) (pc := 1787) hL (by omega) (kTab_at (pc := 1787) tL_law_24_ok 29 rfl) ?_
  rw [hw2]
  refine K_aload_n (md := mL_law) (pc := 1788) 2 (kTab_at (pc := 1788) tL_law_24_ok 30 rfl) rfl ?_
  refine K_iload (md := mL_law) (pc := 1789) 1 (kTab_at (pc := 1789) tL_law_24_ok 31 rfl) rfl ?_
  refine K_iconst (md := mL_law) (pc := 1791) (x := 3) (kTab_at (pc := 1791) tL_law_24_ok 32 rfl) rfl ?_
  refine K_iadd (md := mL_law) (pc := 1792) (kTab_at (pc := 1792) tL_law_24_ok 33 rfl) ?_
  refine K_sld (md := mL_law) (pc := 1793) hL (by omega) (kTab_at (pc := 1793) tL_law_24_ok 34 rfl) ?_
  rw [hw3]
  refine K_callC (md := mL_law) (pc := 1794) (d' := 8) (rkY := 1) (μ2 := μ') (x := b) (st := []) (b := 248) (kTab_at (pc := 1794) tL_law_24_ok 35 rfl) mv_L_219 sk_248 rfl (Nat.le_of_ble_eq_true rfl) (by decide) rfl (c_X11_needed X w1 w2 w3 μ1) hg ?_ rfl
  show KJ X mL_law 9 false po SK n (6 * n) 1797 ((5, .int (iI k)) :: [(4, .int (iI i)), (0, .ref X.2.2.2.1), (1, .ref (X.1 + 0)), (2, .ref (X.1 + 248)), (3, .ref (X.1 + 260))]) [.int (iI b)] μ'
  refine K_istore (md := mL_law) (pc := 1797) (l' := (6, .int (iI b)) :: (5, .int (iI k)) :: [(4, .int (iI i)), (0, .ref X.2.2.2.1), (1, .ref (X.1 + 0)), (2, .ref (X.1 + 248)), (3, .ref (X.1 + 260))]) (kTab_at (pc := 1797) tL_law_24_ok 36 rfl) (Nat.le_of_ble_eq_true rfl) rfl ?_
  refine K_aload_n (md := mL_law) (pc := 1799) 5 (kTab_at (pc := 1799) tL_law_24_ok 37 rfl) rfl ?_
  refine K_callC (md := mL_law) (pc := 1800) (d' := 0) (rkY := 1) (μ2 := μ') (x := μ' 248 0) (st := []) (b := 248) (kTab_at (pc := 1800) tL_law_24_ok 38 rfl) mv_L_142 sk_248 rfl (Nat.le_of_ble_eq_true rfl) (by decide) rfl (c_X11_thrown X μ') rfl ?_ rfl
  rw [ht]
  show KJ X mL_law 9 false po SK n (6 * n) 1803 ((6, .int (iI b)) :: (5, .int (iI k)) :: [(4, .int (iI i)), (0, .ref X.2.2.2.1), (1, .ref (X.1 + 0)), (2, .ref (X.1 + 248)), (3, .ref (X.1 + 260))]) [.int (iI k)] μ'
  refine K_iload (md := mL_law) (pc := 1803) 1 (kTab_at (pc := 1803) tL_law_24_ok 39 rfl) rfl ?_
  refine K_icmp_eq (md := mL_law) (pc := 1805) (r := (μ', 0, 0)) (A := some (μ', 0, 0)) (B := none) (tgt := 1810) (kTab_at (pc := 1805) tL_law_24_ok 40 rfl) rfl (ieq_t gk) (fun _ => ?_) (fun h => nomatch h)
  refine K_iload (md := mL_law) (pc := 1810) 1 (kTab_at (pc := 1810) tL_law_24_ok 43 rfl) rfl ?_
  by_cases hk : k = 0
  · refine K_if_ne (md := mL_law) (pc := 1812) (r := (μ', 0, 0)) (A := none) (B := some (μ', 0, 0)) (tgt := 1827) (kTab_at (pc := 1812) tL_law_24_ok 44 rfl) rfl (ieq_y gk hk) (fun h => nomatch h) (fun _ => ?_)
    have hc := hcmp hk
    refine K_aload_n (md := mL_law) (pc := 1815) 6 (kTab_at (pc := 1815) tL_law_24_ok 45 rfl) rfl ?_
    refine K_iconst (md := mL_law) (pc := 1816) (x := 0) (kTab_at (pc := 1816) tL_law_24_ok 46 rfl) rfl ?_
    refine K_lald (md := mL_law) (pc := 1817) (r := (μ', 0, 0)) (k0 := fun _ => some (μ', 0, 0)) (kTab_at (pc := 1817) tL_law_24_ok 47 rfl) sk_260 (by decide) rd_260 (fun _ => ?_)
    refine K_iload (md := mL_law) (pc := 1818) 0 (kTab_at (pc := 1818) tL_law_24_ok 48 rfl) rfl ?_
    refine K_i2l (md := mL_law) (pc := 1820) (r := (μ', 0, 0)) (k0 := some (μ', 0, 0)) (kTab_at (pc := 1820) tL_law_24_ok 49 rfl) (cmpI_of hc).1 (fun _ => ?_)
    refine K_lcmp_eq (md := mL_law) (pc := 1821) (r := (μ', 0, 0)) (A := some (μ', 0, 0)) (B := none) (tgt := 1827) (kTab_at (pc := 1821) tL_law_24_ok 50 rfl) (kTab_at (pc := 1822) tL_law_24_ok 51 rfl) rfl (cmpI_of hc).2 (fun _ => ?_) (fun h => nomatch h)
    refine K_goto (md := mL_law) (pc := 1827) (tgt := 2483) (kTab_at (pc := 1827) tL_law_24_ok 54 rfl) rfl ?_
    exact KJ_sub (fun q hq => List.mem_cons_of_mem _ (List.mem_cons_of_mem _ hq)) kk
  · refine K_if_ne (md := mL_law) (pc := 1812) (r := (μ', 0, 0)) (A := some (μ', 0, 0)) (B := none) (tgt := 1827) (kTab_at (pc := 1812) tL_law_24_ok 44 rfl) rfl (ieq_n gk hk) (fun _ => ?_) (fun h => nomatch h)
    refine K_goto (md := mL_law) (pc := 1827) (tgt := 2483) (kTab_at (pc := 1827) tL_law_24_ok 54 rfl) rfl ?_
    exact KJ_sub (fun q hq => List.mem_cons_of_mem _ (List.mem_cons_of_mem _ hq)) kk
def lc_meanBits (w1 : Int) (μ : Mu) : Option Mu := lcase (hp 2 [2, 3] (f_X10_meanBits w1 μ)) (fun μ => f_X11_meanBits w1 μ) cmpL
theorem mh_meanBits : kMSH RL 220 mL_meanBits hh_meanBits 3 := ⟨inT5 85 (by decide +kernel) rfl, inT5 86 (by decide +kernel) rfl, inT5 87 (by decide +kernel) rfl, inT1 0 (by decide +kernel) rfl, by decide +kernel, by decide +kernel⟩
set_option maxRecDepth 100000 in
theorem k_meanBits (X : kX) (po : kPo) (hL : X.2.2.2.2.1 < 2 ^ 31) (i : Int) (hi : 0 ≤ i ∧ i + 5 ≤ X.2.2.2.2.1) (n : Nat) (μ μ' : Mu) (h : lc_meanBits (sw X (i + 1).toNat) μ = some μ') (kk : KJ X mL_law 9 false po SK n (6 * n) 2483 [(4, .int (iI i)), (0, .ref X.2.2.2.1), (1, .ref (X.1 + 0)), (2, .ref (X.1 + 248)), (3, .ref (X.1 + 260))] [] μ') : KJ X mL_law 9 false po SK (n + 1) (6 * n + 6) 1830 [(4, .int (iI i)), (0, .ref X.2.2.2.1), (1, .ref (X.1 + 0)), (2, .ref (X.1 + 248)), (3, .ref (X.1 + 260))] [] μ := by
  generalize hw1 : sw X (i + 1).toNat = w1 at h
  unfold lc_meanBits at h
  obtain ⟨μ1, k, b, hf, hg, ht, gk, hcmp⟩ := lcase_of (by exact Or.inr (Or.inr rfl)) h
  refine K_aload_n (md := mL_law) (pc := 1830) 2 (kTab_at (pc := 1830) tL_law_25_ok 0 rfl) rfl ?_
  refine K_aload_n (md := mL_law) (pc := 1831) 1 (kTab_at (pc := 1831) tL_law_25_ok 1 rfl) rfl ?_
  refine K_iload (md := mL_law) (pc := 1832) 0 (kTab_at (pc := 1832) tL_law_25_ok 2 rfl) rfl ?_
  refine K_iconst (md := mL_law) (pc := 1834) (x := 1) (kTab_at (pc := 1834) tL_law_25_ok 3 rfl) rfl ?_
  refine K_iadd (md := mL_law) (pc := 1835) (kTab_at (pc := 1835) tL_law_25_ok 4 rfl) ?_
  refine K_sld (md := mL_law) (pc := 1836) hL (by omega) (kTab_at (pc := 1836) tL_law_25_ok 5 rfl) ?_
  rw [hw1]
  refine K_aload_n (md := mL_law) (pc := 1837) 4 (kTab_at (pc := 1837) tL_law_25_ok 6 rfl) rfl ?_
  refine K_callCH (md := mL_law) (pc := 1838) (mdY := mL_meanBits) (d' := 7) (cr := n) (sr := 6 * n) (μ2 := μ1) (x := k) (st := []) (kTab_at (pc := 1838) tL_law_25_ok 7 rfl) mh_meanBits rfl (Nat.le_of_ble_eq_true rfl) (by decide) (h_meanBits X w1 μ (μ1, 0, k) hf) ?_ rfl
  show KJ X mL_law 9 false po SK n (6 * n) 1841 [(4, .int (iI i)), (0, .ref X.2.2.2.1), (1, .ref (X.1 + 0)), (2, .ref (X.1 + 248)), (3, .ref (X.1 + 260))] [.int (iI k)] μ1
  refine K_istore (md := mL_law) (pc := 1841) (l' := (5, .int (iI k)) :: [(4, .int (iI i)), (0, .ref X.2.2.2.1), (1, .ref (X.1 + 0)), (2, .ref (X.1 + 248)), (3, .ref (X.1 + 260))]) (kTab_at (pc := 1841) tL_law_25_ok 8 rfl) (Nat.le_of_ble_eq_true rfl) rfl ?_
  refine K_aload_n (md := mL_law) (pc := 1843) 4 (kTab_at (pc := 1843) tL_law_25_ok 9 rfl) rfl ?_
  refine K_aload_n (md := mL_law) (pc := 1844) 2 (kTab_at (pc := 1844) tL_law_25_ok 10 rfl) rfl ?_
  refine K_iload (md := mL_law) (pc := 1845) 1 (kTab_at (pc := 1845) tL_law_25_ok 11 rfl) rfl ?_
  refine K_iconst (md := mL_law) (pc := 1847) (x := 1) (kTab_at (pc := 1847) tL_law_25_ok 12 rfl) rfl ?_
  refine K_iadd (md := mL_law) (pc := 1848) (kTab_at (pc := 1848) tL_law_25_ok 13 rfl) ?_
  refine K_sld (md := mL_law) (pc := 1849) hL (by omega) (kTab_at (pc := 1849) tL_law_25_ok 14 rfl) ?_
  rw [hw1]
  refine K_callC (md := mL_law) (pc := 1850) (d' := 6) (rkY := 2) (μ2 := μ') (x := b) (st := []) (b := 248) (kTab_at (pc := 1850) tL_law_25_ok 15 rfl) mv_L_222 sk_248 rfl (Nat.le_of_ble_eq_true rfl) (by decide) rfl (c_X11_meanBits X w1 μ1) hg ?_ rfl
  show KJ X mL_law 9 false po SK n (6 * n) 1853 ((5, .int (iI k)) :: [(4, .int (iI i)), (0, .ref X.2.2.2.1), (1, .ref (X.1 + 0)), (2, .ref (X.1 + 248)), (3, .ref (X.1 + 260))]) [.long (iL b)] μ'
  refine K_lstore (md := mL_law) (pc := 1853) (l' := (6, .long (iL b)) :: (5, .int (iI k)) :: [(4, .int (iI i)), (0, .ref X.2.2.2.1), (1, .ref (X.1 + 0)), (2, .ref (X.1 + 248)), (3, .ref (X.1 + 260))]) (kTab_at (pc := 1853) tL_law_25_ok 16 rfl) (Nat.le_of_ble_eq_true rfl) rfl ?_
  refine K_aload_n (md := mL_law) (pc := 1855) 5 (kTab_at (pc := 1855) tL_law_25_ok 17 rfl) rfl ?_
  refine K_callC (md := mL_law) (pc := 1856) (d' := 0) (rkY := 1) (μ2 := μ') (x := μ' 248 0) (st := []) (b := 248) (kTab_at (pc := 1856) tL_law_25_ok 18 rfl) mv_L_142 sk_248 rfl (Nat.le_of_ble_eq_true rfl) (by decide) rfl (c_X11_thrown X μ') rfl ?_ rfl
  rw [ht]
  show KJ X mL_law 9 false po SK n (6 * n) 1859 ((6, .long (iL b)) :: (5, .int (iI k)) :: [(4, .int (iI i)), (0, .ref X.2.2.2.1), (1, .ref (X.1 + 0)), (2, .ref (X.1 + 248)), (3, .ref (X.1 + 260))]) [.int (iI k)] μ'
  refine K_iload (md := mL_law) (pc := 1859) 1 (kTab_at (pc := 1859) tL_law_25_ok 19 rfl) rfl ?_
  refine K_icmp_eq (md := mL_law) (pc := 1861) (r := (μ', 0, 0)) (A := some (μ', 0, 0)) (B := none) (tgt := 1866) (kTab_at (pc := 1861) tL_law_25_ok 20 rfl) rfl (ieq_t gk) (fun _ => ?_) (fun h => nomatch h)
  refine K_iload (md := mL_law) (pc := 1866) 1 (kTab_at (pc := 1866) tL_law_25_ok 23 rfl) rfl ?_
  by_cases hk : k = 0
  · refine K_if_ne (md := mL_law) (pc := 1868) (r := (μ', 0, 0)) (A := none) (B := some (μ', 0, 0)) (tgt := 1882) (kTab_at (pc := 1868) tL_law_25_ok 24 rfl) rfl (ieq_y gk hk) (fun h => nomatch h) (fun _ => ?_)
    have hc := hcmp hk
    refine K_aload_n (md := mL_law) (pc := 1871) 6 (kTab_at (pc := 1871) tL_law_25_ok 25 rfl) rfl ?_
    refine K_iconst (md := mL_law) (pc := 1872) (x := 0) (kTab_at (pc := 1872) tL_law_25_ok 26 rfl) rfl ?_
    refine K_lald (md := mL_law) (pc := 1873) (r := (μ', 0, 0)) (k0 := fun _ => some (μ', 0, 0)) (kTab_at (pc := 1873) tL_law_25_ok 27 rfl) sk_260 (by decide) rd_260 (fun _ => ?_)
    refine K_lload (md := mL_law) (pc := 1874) 0 (kTab_at (pc := 1874) tL_law_25_ok 28 rfl) rfl ?_
    refine K_lcmp_eq (md := mL_law) (pc := 1876) (r := (μ', 0, 0)) (A := some (μ', 0, 0)) (B := none) (tgt := 1882) (kTab_at (pc := 1876) tL_law_25_ok 29 rfl) (kTab_at (pc := 1877) tL_law_25_ok 30 rfl) rfl (cmpL_of hc) (fun _ => ?_) (fun h => nomatch h)
    refine K_goto (md := mL_law) (pc := 1882) (tgt := 2483) (kTab_at (pc := 1882) tL_law_25_ok 33 rfl) rfl ?_
    exact KJ_sub (fun q hq => List.mem_cons_of_mem _ (List.mem_cons_of_mem _ hq)) kk
  · refine K_if_ne (md := mL_law) (pc := 1868) (r := (μ', 0, 0)) (A := some (μ', 0, 0)) (B := none) (tgt := 1882) (kTab_at (pc := 1868) tL_law_25_ok 24 rfl) rfl (ieq_n gk hk) (fun _ => ?_) (fun h => nomatch h)
    refine K_goto (md := mL_law) (pc := 1882) (tgt := 2483) (kTab_at (pc := 1882) tL_law_25_ok 33 rfl) rfl ?_
    exact KJ_sub (fun q hq => List.mem_cons_of_mem _ (List.mem_cons_of_mem _ hq)) kk
def lc_validBits (w1 : Int) (μ : Mu) : Option Mu := lcase (hp 0 [2, 3] (f_X10_validBits w1 μ)) (fun μ => f_X11_validBits w1 μ) cmpI
theorem mh_validBits : kMSH RL 223 mL_validBits hh_validBits 3 := ⟨inT5 116 (by decide +kernel) rfl, inT5 117 (by decide +kernel) rfl, inT5 118 (by decide +kernel) rfl, inT1 0 (by decide +kernel) rfl, by decide +kernel, by decide +kernel⟩
set_option maxRecDepth 100000 in
theorem k_validBits (X : kX) (po : kPo) (hL : X.2.2.2.2.1 < 2 ^ 31) (i : Int) (hi : 0 ≤ i ∧ i + 5 ≤ X.2.2.2.2.1) (n : Nat) (μ μ' : Mu) (h : lc_validBits (sw X (i + 1).toNat) μ = some μ') (kk : KJ X mL_law 9 false po SK n (6 * n) 2483 [(4, .int (iI i)), (0, .ref X.2.2.2.1), (1, .ref (X.1 + 0)), (2, .ref (X.1 + 248)), (3, .ref (X.1 + 260))] [] μ') : KJ X mL_law 9 false po SK (n + 1) (6 * n + 6) 1885 [(4, .int (iI i)), (0, .ref X.2.2.2.1), (1, .ref (X.1 + 0)), (2, .ref (X.1 + 248)), (3, .ref (X.1 + 260))] [] μ := by
  generalize hw1 : sw X (i + 1).toNat = w1 at h
  unfold lc_validBits at h
  obtain ⟨μ1, k, b, hf, hg, ht, gk, hcmp⟩ := lcase_of (by exact Or.inl rfl) h
  refine K_aload_n (md := mL_law) (pc := 1885) 2 (kTab_at (pc := 1885) tL_law_26_ok 0 rfl) rfl ?_
  refine K_aload_n (md := mL_law) (pc := 1886) 1 (kTab_at (pc := 1886) tL_law_26_ok 1 rfl) rfl ?_
  refine K_iload (md := mL_law) (pc := 1887) 0 (kTab_at (pc := 1887) tL_law_26_ok 2 rfl) rfl ?_
  refine K_iconst (md := mL_law) (pc := 1889) (x := 1) (kTab_at (pc := 1889) tL_law_26_ok 3 rfl) rfl ?_
  refine K_iadd (md := mL_law) (pc := 1890) (kTab_at (pc := 1890) tL_law_26_ok 4 rfl) ?_
  refine K_sld (md := mL_law) (pc := 1891) hL (by omega) (kTab_at (pc := 1891) tL_law_26_ok 5 rfl) ?_
  rw [hw1]
  refine K_aload_n (md := mL_law) (pc := 1892) 4 (kTab_at (pc := 1892) tL_law_26_ok 6 rfl) rfl ?_
  refine K_callCH (md := mL_law) (pc := 1893) (mdY := mL_validBits) (d' := 7) (cr := n) (sr := 6 * n) (μ2 := μ1) (x := k) (st := []) (kTab_at (pc := 1893) tL_law_26_ok 7 rfl) mh_validBits rfl (Nat.le_of_ble_eq_true rfl) (by decide) (h_validBits X w1 μ (μ1, 0, k) hf) ?_ rfl
  show KJ X mL_law 9 false po SK n (6 * n) 1896 [(4, .int (iI i)), (0, .ref X.2.2.2.1), (1, .ref (X.1 + 0)), (2, .ref (X.1 + 248)), (3, .ref (X.1 + 260))] [.int (iI k)] μ1
  refine K_istore (md := mL_law) (pc := 1896) (l' := (5, .int (iI k)) :: [(4, .int (iI i)), (0, .ref X.2.2.2.1), (1, .ref (X.1 + 0)), (2, .ref (X.1 + 248)), (3, .ref (X.1 + 260))]) (kTab_at (pc := 1896) tL_law_26_ok 8 rfl) (Nat.le_of_ble_eq_true rfl) rfl ?_
  refine K_aload_n (md := mL_law) (pc := 1898) 4 (kTab_at (pc := 1898) tL_law_26_ok 9 rfl) rfl ?_
  refine K_aload_n (md := mL_law) (pc := 1899) 2 (kTab_at (pc := 1899) tL_law_26_ok 10 rfl) rfl ?_
  refine K_iload (md := mL_law) (pc := 1900) 1 (kTab_at (pc := 1900) tL_law_26_ok 11 rfl) rfl ?_
  refine K_iconst (md := mL_law) (pc := 1902) (x := 1) (kTab_at (pc := 1902) tL_law_26_ok 12 rfl) rfl ?_
  refine K_iadd (md := mL_law) (pc := 1903) (kTab_at (pc := 1903) tL_law_26_ok 13 rfl) ?_
  refine K_sld (md := mL_law) (pc := 1904) hL (by omega) (kTab_at (pc := 1904) tL_law_26_ok 14 rfl) ?_
  rw [hw1]
  refine K_callC (md := mL_law) (pc := 1905) (d' := 4) (rkY := 1) (μ2 := μ') (x := b) (st := []) (b := 248) (kTab_at (pc := 1905) tL_law_26_ok 15 rfl) mv_L_225 sk_248 rfl (Nat.le_of_ble_eq_true rfl) (by decide) rfl (c_X11_validBits X w1 μ1) hg ?_ rfl
  show KJ X mL_law 9 false po SK n (6 * n) 1908 ((5, .int (iI k)) :: [(4, .int (iI i)), (0, .ref X.2.2.2.1), (1, .ref (X.1 + 0)), (2, .ref (X.1 + 248)), (3, .ref (X.1 + 260))]) [.int (iI b)] μ'
  refine K_istore (md := mL_law) (pc := 1908) (l' := (6, .int (iI b)) :: (5, .int (iI k)) :: [(4, .int (iI i)), (0, .ref X.2.2.2.1), (1, .ref (X.1 + 0)), (2, .ref (X.1 + 248)), (3, .ref (X.1 + 260))]) (kTab_at (pc := 1908) tL_law_26_ok 16 rfl) (Nat.le_of_ble_eq_true rfl) rfl ?_
  refine K_aload_n (md := mL_law) (pc := 1910) 5 (kTab_at (pc := 1910) tL_law_26_ok 17 rfl) rfl ?_
  refine K_callC (md := mL_law) (pc := 1911) (d' := 0) (rkY := 1) (μ2 := μ') (x := μ' 248 0) (st := []) (b := 248) (kTab_at (pc := 1911) tL_law_26_ok 18 rfl) mv_L_142 sk_248 rfl (Nat.le_of_ble_eq_true rfl) (by decide) rfl (c_X11_thrown X μ') rfl ?_ rfl
  rw [ht]
  show KJ X mL_law 9 false po SK n (6 * n) 1914 ((6, .int (iI b)) :: (5, .int (iI k)) :: [(4, .int (iI i)), (0, .ref X.2.2.2.1), (1, .ref (X.1 + 0)), (2, .ref (X.1 + 248)), (3, .ref (X.1 + 260))]) [.int (iI k)] μ'
  refine K_iload (md := mL_law) (pc := 1914) 1 (kTab_at (pc := 1914) tL_law_26_ok 19 rfl) rfl ?_
  refine K_icmp_eq (md := mL_law) (pc := 1916) (r := (μ', 0, 0)) (A := some (μ', 0, 0)) (B := none) (tgt := 1921) (kTab_at (pc := 1916) tL_law_26_ok 20 rfl) rfl (ieq_t gk) (fun _ => ?_) (fun h => nomatch h)
  refine K_iload (md := mL_law) (pc := 1921) 1 (kTab_at (pc := 1921) tL_law_26_ok 23 rfl) rfl ?_
  by_cases hk : k = 0
  · refine K_if_ne (md := mL_law) (pc := 1923) (r := (μ', 0, 0)) (A := none) (B := some (μ', 0, 0)) (tgt := 1938) (kTab_at (pc := 1923) tL_law_26_ok 24 rfl) rfl (ieq_y gk hk) (fun h => nomatch h) (fun _ => ?_)
    have hc := hcmp hk
    refine K_aload_n (md := mL_law) (pc := 1926) 6 (kTab_at (pc := 1926) tL_law_26_ok 25 rfl) rfl ?_
    refine K_iconst (md := mL_law) (pc := 1927) (x := 0) (kTab_at (pc := 1927) tL_law_26_ok 26 rfl) rfl ?_
    refine K_lald (md := mL_law) (pc := 1928) (r := (μ', 0, 0)) (k0 := fun _ => some (μ', 0, 0)) (kTab_at (pc := 1928) tL_law_26_ok 27 rfl) sk_260 (by decide) rd_260 (fun _ => ?_)
    refine K_iload (md := mL_law) (pc := 1929) 0 (kTab_at (pc := 1929) tL_law_26_ok 28 rfl) rfl ?_
    refine K_i2l (md := mL_law) (pc := 1931) (r := (μ', 0, 0)) (k0 := some (μ', 0, 0)) (kTab_at (pc := 1931) tL_law_26_ok 29 rfl) (cmpI_of hc).1 (fun _ => ?_)
    refine K_lcmp_eq (md := mL_law) (pc := 1932) (r := (μ', 0, 0)) (A := some (μ', 0, 0)) (B := none) (tgt := 1938) (kTab_at (pc := 1932) tL_law_26_ok 30 rfl) (kTab_at (pc := 1933) tL_law_26_ok 31 rfl) rfl (cmpI_of hc).2 (fun _ => ?_) (fun h => nomatch h)
    refine K_goto (md := mL_law) (pc := 1938) (tgt := 2483) (kTab_at (pc := 1938) tL_law_26_ok 34 rfl) rfl ?_
    exact KJ_sub (fun q hq => List.mem_cons_of_mem _ (List.mem_cons_of_mem _ hq)) kk
  · refine K_if_ne (md := mL_law) (pc := 1923) (r := (μ', 0, 0)) (A := some (μ', 0, 0)) (B := none) (tgt := 1938) (kTab_at (pc := 1923) tL_law_26_ok 24 rfl) rfl (ieq_n gk hk) (fun _ => ?_) (fun h => nomatch h)
    refine K_goto (md := mL_law) (pc := 1938) (tgt := 2483) (kTab_at (pc := 1938) tL_law_26_ok 34 rfl) rfl ?_
    exact KJ_sub (fun q hq => List.mem_cons_of_mem _ (List.mem_cons_of_mem _ hq)) kk
def lc_publish  (μ : Mu) : Option Mu := lcase (hp 0 [0, 4] (f_X10_publish  μ)) (fun μ => f_X11_publish  μ) cmpI
theorem mh_publish : kMSH RL 226 mL_publish hh_publish 2 := ⟨inT5 129 (by decide +kernel) rfl, inT5 130 (by decide +kernel) rfl, inT5 131 (by decide +kernel) rfl, inT1 0 (by decide +kernel) rfl, by decide +kernel, by decide +kernel⟩
set_option maxRecDepth 100000 in
theorem k_publish (X : kX) (po : kPo) (hL : X.2.2.2.2.1 < 2 ^ 31) (i : Int) (hi : 0 ≤ i ∧ i + 5 ≤ X.2.2.2.2.1) (n : Nat) (μ μ' : Mu) (h : lc_publish  μ = some μ') (kk : KJ X mL_law 9 false po SK n (6 * n) 2483 [(4, .int (iI i)), (0, .ref X.2.2.2.1), (1, .ref (X.1 + 0)), (2, .ref (X.1 + 248)), (3, .ref (X.1 + 260))] [] μ') : KJ X mL_law 9 false po SK (n + 1) (6 * n + 6) 1941 [(4, .int (iI i)), (0, .ref X.2.2.2.1), (1, .ref (X.1 + 0)), (2, .ref (X.1 + 248)), (3, .ref (X.1 + 260))] [] μ := by
  unfold lc_publish at h
  obtain ⟨μ1, k, b, hf, hg, ht, gk, hcmp⟩ := lcase_of (by exact Or.inl rfl) h
  refine K_aload_n (md := mL_law) (pc := 1941) 2 (kTab_at (pc := 1941) tL_law_27_ok 0 rfl) rfl ?_
  refine K_aload_n (md := mL_law) (pc := 1942) 4 (kTab_at (pc := 1942) tL_law_27_ok 1 rfl) rfl ?_
  refine K_callCH (md := mL_law) (pc := 1943) (mdY := mL_publish) (d' := 7) (cr := n) (sr := 6 * n) (μ2 := μ1) (x := k) (st := []) (kTab_at (pc := 1943) tL_law_27_ok 2 rfl) mh_publish rfl (Nat.le_of_ble_eq_true rfl) (by decide) (h_publish X  μ (μ1, 0, k) hf) ?_ rfl
  show KJ X mL_law 9 false po SK n (6 * n) 1946 [(4, .int (iI i)), (0, .ref X.2.2.2.1), (1, .ref (X.1 + 0)), (2, .ref (X.1 + 248)), (3, .ref (X.1 + 260))] [.int (iI k)] μ1
  refine K_istore (md := mL_law) (pc := 1946) (l' := (5, .int (iI k)) :: [(4, .int (iI i)), (0, .ref X.2.2.2.1), (1, .ref (X.1 + 0)), (2, .ref (X.1 + 248)), (3, .ref (X.1 + 260))]) (kTab_at (pc := 1946) tL_law_27_ok 3 rfl) (Nat.le_of_ble_eq_true rfl) rfl ?_
  refine K_aload_n (md := mL_law) (pc := 1948) 4 (kTab_at (pc := 1948) tL_law_27_ok 4 rfl) rfl ?_
  refine K_callC (md := mL_law) (pc := 1949) (d' := 6) (rkY := 1) (μ2 := μ') (x := b) (st := []) (b := 248) (kTab_at (pc := 1949) tL_law_27_ok 5 rfl) mv_L_228 sk_248 rfl (Nat.le_of_ble_eq_true rfl) (by decide) rfl (c_X11_publish X  μ1) hg ?_ rfl
  show KJ X mL_law 9 false po SK n (6 * n) 1952 ((5, .int (iI k)) :: [(4, .int (iI i)), (0, .ref X.2.2.2.1), (1, .ref (X.1 + 0)), (2, .ref (X.1 + 248)), (3, .ref (X.1 + 260))]) [.int (iI b)] μ'
  refine K_istore (md := mL_law) (pc := 1952) (l' := (6, .int (iI b)) :: (5, .int (iI k)) :: [(4, .int (iI i)), (0, .ref X.2.2.2.1), (1, .ref (X.1 + 0)), (2, .ref (X.1 + 248)), (3, .ref (X.1 + 260))]) (kTab_at (pc := 1952) tL_law_27_ok 6 rfl) (Nat.le_of_ble_eq_true rfl) rfl ?_
  refine K_aload_n (md := mL_law) (pc := 1954) 5 (kTab_at (pc := 1954) tL_law_27_ok 7 rfl) rfl ?_
  refine K_callC (md := mL_law) (pc := 1955) (d' := 0) (rkY := 1) (μ2 := μ') (x := μ' 248 0) (st := []) (b := 248) (kTab_at (pc := 1955) tL_law_27_ok 8 rfl) mv_L_142 sk_248 rfl (Nat.le_of_ble_eq_true rfl) (by decide) rfl (c_X11_thrown X μ') rfl ?_ rfl
  rw [ht]
  show KJ X mL_law 9 false po SK n (6 * n) 1958 ((6, .int (iI b)) :: (5, .int (iI k)) :: [(4, .int (iI i)), (0, .ref X.2.2.2.1), (1, .ref (X.1 + 0)), (2, .ref (X.1 + 248)), (3, .ref (X.1 + 260))]) [.int (iI k)] μ'
  refine K_iload (md := mL_law) (pc := 1958) 1 (kTab_at (pc := 1958) tL_law_27_ok 9 rfl) rfl ?_
  refine K_icmp_eq (md := mL_law) (pc := 1960) (r := (μ', 0, 0)) (A := some (μ', 0, 0)) (B := none) (tgt := 1965) (kTab_at (pc := 1960) tL_law_27_ok 10 rfl) rfl (ieq_t gk) (fun _ => ?_) (fun h => nomatch h)
  refine K_iload (md := mL_law) (pc := 1965) 1 (kTab_at (pc := 1965) tL_law_27_ok 13 rfl) rfl ?_
  by_cases hk : k = 0
  · refine K_if_ne (md := mL_law) (pc := 1967) (r := (μ', 0, 0)) (A := none) (B := some (μ', 0, 0)) (tgt := 1982) (kTab_at (pc := 1967) tL_law_27_ok 14 rfl) rfl (ieq_y gk hk) (fun h => nomatch h) (fun _ => ?_)
    have hc := hcmp hk
    refine K_aload_n (md := mL_law) (pc := 1970) 6 (kTab_at (pc := 1970) tL_law_27_ok 15 rfl) rfl ?_
    refine K_iconst (md := mL_law) (pc := 1971) (x := 0) (kTab_at (pc := 1971) tL_law_27_ok 16 rfl) rfl ?_
    refine K_lald (md := mL_law) (pc := 1972) (r := (μ', 0, 0)) (k0 := fun _ => some (μ', 0, 0)) (kTab_at (pc := 1972) tL_law_27_ok 17 rfl) sk_260 (by decide) rd_260 (fun _ => ?_)
    refine K_iload (md := mL_law) (pc := 1973) 0 (kTab_at (pc := 1973) tL_law_27_ok 18 rfl) rfl ?_
    refine K_i2l (md := mL_law) (pc := 1975) (r := (μ', 0, 0)) (k0 := some (μ', 0, 0)) (kTab_at (pc := 1975) tL_law_27_ok 19 rfl) (cmpI_of hc).1 (fun _ => ?_)
    refine K_lcmp_eq (md := mL_law) (pc := 1976) (r := (μ', 0, 0)) (A := some (μ', 0, 0)) (B := none) (tgt := 1982) (kTab_at (pc := 1976) tL_law_27_ok 20 rfl) (kTab_at (pc := 1977) tL_law_27_ok 21 rfl) rfl (cmpI_of hc).2 (fun _ => ?_) (fun h => nomatch h)
    refine K_goto (md := mL_law) (pc := 1982) (tgt := 2483) (kTab_at (pc := 1982) tL_law_27_ok 24 rfl) rfl ?_
    exact KJ_sub (fun q hq => List.mem_cons_of_mem _ (List.mem_cons_of_mem _ hq)) kk
  · refine K_if_ne (md := mL_law) (pc := 1967) (r := (μ', 0, 0)) (A := some (μ', 0, 0)) (B := none) (tgt := 1982) (kTab_at (pc := 1967) tL_law_27_ok 14 rfl) rfl (ieq_n gk hk) (fun _ => ?_) (fun h => nomatch h)
    refine K_goto (md := mL_law) (pc := 1982) (tgt := 2483) (kTab_at (pc := 1982) tL_law_27_ok 24 rfl) rfl ?_
    exact KJ_sub (fun q hq => List.mem_cons_of_mem _ (List.mem_cons_of_mem _ hq)) kk
def lc_withdraw  (μ : Mu) : Option Mu := lcase (hp 0 [0, 4] (f_X10_withdraw  μ)) (fun μ => f_X11_withdraw  μ) cmpI
theorem mh_withdraw : kMSH RL 229 mL_withdraw hh_withdraw 2 := ⟨inT5 146 (by decide +kernel) rfl, inT5 147 (by decide +kernel) rfl, inT5 148 (by decide +kernel) rfl, inT1 0 (by decide +kernel) rfl, by decide +kernel, by decide +kernel⟩
set_option maxRecDepth 100000 in
theorem k_withdraw (X : kX) (po : kPo) (hL : X.2.2.2.2.1 < 2 ^ 31) (i : Int) (hi : 0 ≤ i ∧ i + 5 ≤ X.2.2.2.2.1) (n : Nat) (μ μ' : Mu) (h : lc_withdraw  μ = some μ') (kk : KJ X mL_law 9 false po SK n (6 * n) 2483 [(4, .int (iI i)), (0, .ref X.2.2.2.1), (1, .ref (X.1 + 0)), (2, .ref (X.1 + 248)), (3, .ref (X.1 + 260))] [] μ') : KJ X mL_law 9 false po SK (n + 1) (6 * n + 6) 1985 [(4, .int (iI i)), (0, .ref X.2.2.2.1), (1, .ref (X.1 + 0)), (2, .ref (X.1 + 248)), (3, .ref (X.1 + 260))] [] μ := by
  unfold lc_withdraw at h
  obtain ⟨μ1, k, b, hf, hg, ht, gk, hcmp⟩ := lcase_of (by exact Or.inl rfl) h
  refine K_aload_n (md := mL_law) (pc := 1985) 2 (kTab_at (pc := 1985) tL_law_28_ok 0 rfl) rfl ?_
  refine K_aload_n (md := mL_law) (pc := 1986) 4 (kTab_at (pc := 1986) tL_law_28_ok 1 rfl) rfl ?_
  refine K_callCH (md := mL_law) (pc := 1987) (mdY := mL_withdraw) (d' := 7) (cr := n) (sr := 6 * n) (μ2 := μ1) (x := k) (st := []) (kTab_at (pc := 1987) tL_law_28_ok 2 rfl) mh_withdraw rfl (Nat.le_of_ble_eq_true rfl) (by decide) (h_withdraw X  μ (μ1, 0, k) hf) ?_ rfl
  show KJ X mL_law 9 false po SK n (6 * n) 1990 [(4, .int (iI i)), (0, .ref X.2.2.2.1), (1, .ref (X.1 + 0)), (2, .ref (X.1 + 248)), (3, .ref (X.1 + 260))] [.int (iI k)] μ1
  refine K_istore (md := mL_law) (pc := 1990) (l' := (5, .int (iI k)) :: [(4, .int (iI i)), (0, .ref X.2.2.2.1), (1, .ref (X.1 + 0)), (2, .ref (X.1 + 248)), (3, .ref (X.1 + 260))]) (kTab_at (pc := 1990) tL_law_28_ok 3 rfl) (Nat.le_of_ble_eq_true rfl) rfl ?_
  refine K_aload_n (md := mL_law) (pc := 1992) 4 (kTab_at (pc := 1992) tL_law_28_ok 4 rfl) rfl ?_
  refine K_callC (md := mL_law) (pc := 1993) (d' := 3) (rkY := 1) (μ2 := μ') (x := b) (st := []) (b := 248) (kTab_at (pc := 1993) tL_law_28_ok 5 rfl) mv_L_231 sk_248 rfl (Nat.le_of_ble_eq_true rfl) (by decide) rfl (c_X11_withdraw X  μ1) hg ?_ rfl
  show KJ X mL_law 9 false po SK n (6 * n) 1996 ((5, .int (iI k)) :: [(4, .int (iI i)), (0, .ref X.2.2.2.1), (1, .ref (X.1 + 0)), (2, .ref (X.1 + 248)), (3, .ref (X.1 + 260))]) [.int (iI b)] μ'
  refine K_istore (md := mL_law) (pc := 1996) (l' := (6, .int (iI b)) :: (5, .int (iI k)) :: [(4, .int (iI i)), (0, .ref X.2.2.2.1), (1, .ref (X.1 + 0)), (2, .ref (X.1 + 248)), (3, .ref (X.1 + 260))]) (kTab_at (pc := 1996) tL_law_28_ok 6 rfl) (Nat.le_of_ble_eq_true rfl) rfl ?_
  refine K_aload_n (md := mL_law) (pc := 1998) 5 (kTab_at (pc := 1998) tL_law_28_ok 7 rfl) rfl ?_
  refine K_callC (md := mL_law) (pc := 1999) (d' := 0) (rkY := 1) (μ2 := μ') (x := μ' 248 0) (st := []) (b := 248) (kTab_at (pc := 1999) tL_law_28_ok 8 rfl) mv_L_142 sk_248 rfl (Nat.le_of_ble_eq_true rfl) (by decide) rfl (c_X11_thrown X μ') rfl ?_ rfl
  rw [ht]
  show KJ X mL_law 9 false po SK n (6 * n) 2002 ((6, .int (iI b)) :: (5, .int (iI k)) :: [(4, .int (iI i)), (0, .ref X.2.2.2.1), (1, .ref (X.1 + 0)), (2, .ref (X.1 + 248)), (3, .ref (X.1 + 260))]) [.int (iI k)] μ'
  refine K_iload (md := mL_law) (pc := 2002) 1 (kTab_at (pc := 2002) tL_law_28_ok 9 rfl) rfl ?_
  refine K_icmp_eq (md := mL_law) (pc := 2004) (r := (μ', 0, 0)) (A := some (μ', 0, 0)) (B := none) (tgt := 2009) (kTab_at (pc := 2004) tL_law_28_ok 10 rfl) rfl (ieq_t gk) (fun _ => ?_) (fun h => nomatch h)
  refine K_iload (md := mL_law) (pc := 2009) 1 (kTab_at (pc := 2009) tL_law_28_ok 13 rfl) rfl ?_
  by_cases hk : k = 0
  · refine K_if_ne (md := mL_law) (pc := 2011) (r := (μ', 0, 0)) (A := none) (B := some (μ', 0, 0)) (tgt := 2026) (kTab_at (pc := 2011) tL_law_28_ok 14 rfl) rfl (ieq_y gk hk) (fun h => nomatch h) (fun _ => ?_)
    have hc := hcmp hk
    refine K_aload_n (md := mL_law) (pc := 2014) 6 (kTab_at (pc := 2014) tL_law_28_ok 15 rfl) rfl ?_
    refine K_iconst (md := mL_law) (pc := 2015) (x := 0) (kTab_at (pc := 2015) tL_law_28_ok 16 rfl) rfl ?_
    refine K_lald (md := mL_law) (pc := 2016) (r := (μ', 0, 0)) (k0 := fun _ => some (μ', 0, 0)) (kTab_at (pc := 2016) tL_law_28_ok 17 rfl) sk_260 (by decide) rd_260 (fun _ => ?_)
    refine K_iload (md := mL_law) (pc := 2017) 0 (kTab_at (pc := 2017) tL_law_28_ok 18 rfl) rfl ?_
    refine K_i2l (md := mL_law) (pc := 2019) (r := (μ', 0, 0)) (k0 := some (μ', 0, 0)) (kTab_at (pc := 2019) tL_law_28_ok 19 rfl) (cmpI_of hc).1 (fun _ => ?_)
    refine K_lcmp_eq (md := mL_law) (pc := 2020) (r := (μ', 0, 0)) (A := some (μ', 0, 0)) (B := none) (tgt := 2026) (kTab_at (pc := 2020) tL_law_28_ok 20 rfl) (kTab_at (pc := 2021) tL_law_28_ok 21 rfl) rfl (cmpI_of hc).2 (fun _ => ?_) (fun h => nomatch h)
    refine K_goto (md := mL_law) (pc := 2026) (tgt := 2483) (kTab_at (pc := 2026) tL_law_28_ok 24 rfl) rfl ?_
    exact KJ_sub (fun q hq => List.mem_cons_of_mem _ (List.mem_cons_of_mem _ hq)) kk
  · refine K_if_ne (md := mL_law) (pc := 2011) (r := (μ', 0, 0)) (A := some (μ', 0, 0)) (B := none) (tgt := 2026) (kTab_at (pc := 2011) tL_law_28_ok 14 rfl) rfl (ieq_n gk hk) (fun _ => ?_) (fun h => nomatch h)
    refine K_goto (md := mL_law) (pc := 2026) (tgt := 2483) (kTab_at (pc := 2026) tL_law_28_ok 24 rfl) rfl ?_
    exact KJ_sub (fun q hq => List.mem_cons_of_mem _ (List.mem_cons_of_mem _ hq)) kk
def lc_appeal (w1 : Int) (w2 : Int) (μ : Mu) : Option Mu := lcase (hp 0 [2, 4] (f_X10_appeal w1 w2 μ)) (fun μ => f_X11_appeal w1 w2 μ) cmpI
theorem mh_appeal : kMSH RL 232 mL_appeal hh_appeal 4 := ⟨inT5 164 (by decide +kernel) rfl, inT5 165 (by decide +kernel) rfl, inT5 166 (by decide +kernel) rfl, inT1 0 (by decide +kernel) rfl, by decide +kernel, by decide +kernel⟩
set_option maxRecDepth 100000 in
theorem k_appeal (X : kX) (po : kPo) (hL : X.2.2.2.2.1 < 2 ^ 31) (i : Int) (hi : 0 ≤ i ∧ i + 5 ≤ X.2.2.2.2.1) (n : Nat) (μ μ' : Mu) (h : lc_appeal (sw X (i + 1).toNat) (sw X (i + 2).toNat) μ = some μ') (kk : KJ X mL_law 9 false po SK n (6 * n) 2483 [(4, .int (iI i)), (0, .ref X.2.2.2.1), (1, .ref (X.1 + 0)), (2, .ref (X.1 + 248)), (3, .ref (X.1 + 260))] [] μ') : KJ X mL_law 9 false po SK (n + 1) (6 * n + 6) 2029 [(4, .int (iI i)), (0, .ref X.2.2.2.1), (1, .ref (X.1 + 0)), (2, .ref (X.1 + 248)), (3, .ref (X.1 + 260))] [] μ := by
  generalize hw1 : sw X (i + 1).toNat = w1 at h
  generalize hw2 : sw X (i + 2).toNat = w2 at h
  unfold lc_appeal at h
  obtain ⟨μ1, k, b, hf, hg, ht, gk, hcmp⟩ := lcase_of (by exact Or.inl rfl) h
  refine K_aload_n (md := mL_law) (pc := 2029) 2 (kTab_at (pc := 2029) tL_law_29_ok 0 rfl) rfl ?_
  refine K_aload_n (md := mL_law) (pc := 2030) 1 (kTab_at (pc := 2030) tL_law_29_ok 1 rfl) rfl ?_
  refine K_iload (md := mL_law) (pc := 2031) 0 (kTab_at (pc := 2031) tL_law_29_ok 2 rfl) rfl ?_
  refine K_iconst (md := mL_law) (pc := 2033) (x := 1) (kTab_at (pc := 2033) tL_law_29_ok 3 rfl) rfl ?_
  refine K_iadd (md := mL_law) (pc := 2034) (kTab_at (pc := 2034) tL_law_29_ok 4 rfl) ?_
  refine K_sld (md := mL_law) (pc := 2035) hL (by omega) (kTab_at (pc := 2035) tL_law_29_ok 5 rfl) ?_
  rw [hw1]
  refine K_aload_n (md := mL_law) (pc := 2036) 1 (kTab_at (pc := 2036) tL_law_29_ok 6 rfl) rfl ?_
  refine K_iload (md := mL_law) (pc := 2037) 0 (kTab_at (pc := 2037) tL_law_29_ok 7 rfl) rfl ?_
  refine K_iconst (md := mL_law) (pc := 2039) (x := 2) (kTab_at (pc := 2039) tL_law_29_ok 8 rfl) rfl ?_
  refine K_iadd (md := mL_law) (pc := 2040) (kTab_at (pc := 2040) tL_law_29_ok 9 rfl) ?_
  refine K_sld (md := mL_law) (pc := 2041) hL (by omega) (kTab_at (pc := 2041) tL_law_29_ok 10 rfl) ?_
  rw [hw2]
  refine K_aload_n (md := mL_law) (pc := 2042) 4 (kTab_at (pc := 2042) tL_law_29_ok 11 rfl) rfl ?_
  refine K_callCH (md := mL_law) (pc := 2043) (mdY := mL_appeal) (d' := 7) (cr := n) (sr := 6 * n) (μ2 := μ1) (x := k) (st := []) (kTab_at (pc := 2043) tL_law_29_ok 12 rfl) mh_appeal rfl (Nat.le_of_ble_eq_true rfl) (by decide) (h_appeal X w1 w2 μ (μ1, 0, k) hf) ?_ rfl
  show KJ X mL_law 9 false po SK n (6 * n) 2046 [(4, .int (iI i)), (0, .ref X.2.2.2.1), (1, .ref (X.1 + 0)), (2, .ref (X.1 + 248)), (3, .ref (X.1 + 260))] [.int (iI k)] μ1
  refine K_istore (md := mL_law) (pc := 2046) (l' := (5, .int (iI k)) :: [(4, .int (iI i)), (0, .ref X.2.2.2.1), (1, .ref (X.1 + 0)), (2, .ref (X.1 + 248)), (3, .ref (X.1 + 260))]) (kTab_at (pc := 2046) tL_law_29_ok 13 rfl) (Nat.le_of_ble_eq_true rfl) rfl ?_
  refine K_aload_n (md := mL_law) (pc := 2048) 4 (kTab_at (pc := 2048) tL_law_29_ok 14 rfl) rfl ?_
  refine K_aload_n (md := mL_law) (pc := 2049) 2 (kTab_at (pc := 2049) tL_law_29_ok 15 rfl) rfl ?_
  refine K_iload (md := mL_law) (pc := 2050) 1 (kTab_at (pc := 2050) tL_law_29_ok 16 rfl) rfl ?_
  refine K_iconst (md := mL_law) (pc := 2052) (x := 1) (kTab_at (pc := 2052) tL_law_29_ok 17 rfl) rfl ?_
  refine K_iadd (md := mL_law) (pc := 2053) (kTab_at (pc := 2053) tL_law_29_ok 18 rfl) ?_
  refine K_sld (md := mL_law) (pc := 2054) hL (by omega) (kTab_at (pc := 2054) tL_law_29_ok 19 rfl) ?_
  rw [hw1]
  refine K_aload_n (md := mL_law) (pc := 2055) 2 (kTab_at (pc := 2055) tL_law_29_ok 20 rfl) rfl ?_
  refine K_iload (md := mL_law) (pc := 2056) 1 (kTab_at (pc := 2056) tL_law_29_ok 21 rfl) rfl ?_
  refine K_iconst (md := mL_law) (pc := 2058) (x := 2) (kTab_at (pc := 2058) tL_law_29_ok 22 rfl) rfl ?_
  refine K_iadd (md := mL_law) (pc := 2059) (kTab_at (pc := 2059) tL_law_29_ok 23 rfl) ?_
  refine K_sld (md := mL_law) (pc := 2060) hL (by omega) (kTab_at (pc := 2060) tL_law_29_ok 24 rfl) ?_
  rw [hw2]
  refine K_callC (md := mL_law) (pc := 2061) (d' := 3) (rkY := 1) (μ2 := μ') (x := b) (st := []) (b := 248) (kTab_at (pc := 2061) tL_law_29_ok 25 rfl) mv_L_234 sk_248 rfl (Nat.le_of_ble_eq_true rfl) (by decide) rfl (c_X11_appeal X w1 w2 μ1) hg ?_ rfl
  show KJ X mL_law 9 false po SK n (6 * n) 2064 ((5, .int (iI k)) :: [(4, .int (iI i)), (0, .ref X.2.2.2.1), (1, .ref (X.1 + 0)), (2, .ref (X.1 + 248)), (3, .ref (X.1 + 260))]) [.int (iI b)] μ'
  refine K_istore (md := mL_law) (pc := 2064) (l' := (6, .int (iI b)) :: (5, .int (iI k)) :: [(4, .int (iI i)), (0, .ref X.2.2.2.1), (1, .ref (X.1 + 0)), (2, .ref (X.1 + 248)), (3, .ref (X.1 + 260))]) (kTab_at (pc := 2064) tL_law_29_ok 26 rfl) (Nat.le_of_ble_eq_true rfl) rfl ?_
  refine K_aload_n (md := mL_law) (pc := 2066) 5 (kTab_at (pc := 2066) tL_law_29_ok 27 rfl) rfl ?_
  refine K_callC (md := mL_law) (pc := 2067) (d' := 0) (rkY := 1) (μ2 := μ') (x := μ' 248 0) (st := []) (b := 248) (kTab_at (pc := 2067) tL_law_29_ok 28 rfl) mv_L_142 sk_248 rfl (Nat.le_of_ble_eq_true rfl) (by decide) rfl (c_X11_thrown X μ') rfl ?_ rfl
  rw [ht]
  show KJ X mL_law 9 false po SK n (6 * n) 2070 ((6, .int (iI b)) :: (5, .int (iI k)) :: [(4, .int (iI i)), (0, .ref X.2.2.2.1), (1, .ref (X.1 + 0)), (2, .ref (X.1 + 248)), (3, .ref (X.1 + 260))]) [.int (iI k)] μ'
  refine K_iload (md := mL_law) (pc := 2070) 1 (kTab_at (pc := 2070) tL_law_29_ok 29 rfl) rfl ?_
  refine K_icmp_eq (md := mL_law) (pc := 2072) (r := (μ', 0, 0)) (A := some (μ', 0, 0)) (B := none) (tgt := 2077) (kTab_at (pc := 2072) tL_law_29_ok 30 rfl) rfl (ieq_t gk) (fun _ => ?_) (fun h => nomatch h)
  refine K_iload (md := mL_law) (pc := 2077) 1 (kTab_at (pc := 2077) tL_law_29_ok 33 rfl) rfl ?_
  by_cases hk : k = 0
  · refine K_if_ne (md := mL_law) (pc := 2079) (r := (μ', 0, 0)) (A := none) (B := some (μ', 0, 0)) (tgt := 2094) (kTab_at (pc := 2079) tL_law_29_ok 34 rfl) rfl (ieq_y gk hk) (fun h => nomatch h) (fun _ => ?_)
    have hc := hcmp hk
    refine K_aload_n (md := mL_law) (pc := 2082) 6 (kTab_at (pc := 2082) tL_law_29_ok 35 rfl) rfl ?_
    refine K_iconst (md := mL_law) (pc := 2083) (x := 0) (kTab_at (pc := 2083) tL_law_29_ok 36 rfl) rfl ?_
    refine K_lald (md := mL_law) (pc := 2084) (r := (μ', 0, 0)) (k0 := fun _ => some (μ', 0, 0)) (kTab_at (pc := 2084) tL_law_29_ok 37 rfl) sk_260 (by decide) rd_260 (fun _ => ?_)
    refine K_iload (md := mL_law) (pc := 2085) 0 (kTab_at (pc := 2085) tL_law_29_ok 38 rfl) rfl ?_
    refine K_i2l (md := mL_law) (pc := 2087) (r := (μ', 0, 0)) (k0 := some (μ', 0, 0)) (kTab_at (pc := 2087) tL_law_29_ok 39 rfl) (cmpI_of hc).1 (fun _ => ?_)
    refine K_lcmp_eq (md := mL_law) (pc := 2088) (r := (μ', 0, 0)) (A := some (μ', 0, 0)) (B := none) (tgt := 2094) (kTab_at (pc := 2088) tL_law_29_ok 40 rfl) (kTab_at (pc := 2089) tL_law_29_ok 41 rfl) rfl (cmpI_of hc).2 (fun _ => ?_) (fun h => nomatch h)
    refine K_goto (md := mL_law) (pc := 2094) (tgt := 2483) (kTab_at (pc := 2094) tL_law_29_ok 44 rfl) rfl ?_
    exact KJ_sub (fun q hq => List.mem_cons_of_mem _ (List.mem_cons_of_mem _ hq)) kk
  · refine K_if_ne (md := mL_law) (pc := 2079) (r := (μ', 0, 0)) (A := some (μ', 0, 0)) (B := none) (tgt := 2094) (kTab_at (pc := 2079) tL_law_29_ok 34 rfl) rfl (ieq_n gk hk) (fun _ => ?_) (fun h => nomatch h)
    refine K_goto (md := mL_law) (pc := 2094) (tgt := 2483) (kTab_at (pc := 2094) tL_law_29_ok 44 rfl) rfl ?_
    exact KJ_sub (fun q hq => List.mem_cons_of_mem _ (List.mem_cons_of_mem _ hq)) kk
def lc_remark (w1 : Int) (w2 : Int) (w3 : Int) (w4 : Int) (μ : Mu) : Option Mu := lcase (hp 0 [2, 1, 4] (f_X10_remark w1 w2 w3 w4 μ)) (fun μ => f_X11_remark w1 w2 w3 w4 μ) cmpI
theorem mh_remark : kMSH RL 235 mL_remark hh_remark 6 := ⟨inT5 181 (by decide +kernel) rfl, inT5 182 (by decide +kernel) rfl, inT5 183 (by decide +kernel) rfl, inT1 0 (by decide +kernel) rfl, by decide +kernel, by decide +kernel⟩
set_option maxRecDepth 100000 in
theorem k_remark (X : kX) (po : kPo) (hL : X.2.2.2.2.1 < 2 ^ 31) (i : Int) (hi : 0 ≤ i ∧ i + 5 ≤ X.2.2.2.2.1) (n : Nat) (μ μ' : Mu) (h : lc_remark (sw X (i + 1).toNat) (sw X (i + 2).toNat) (sw X (i + 3).toNat) (sw X (i + 4).toNat) μ = some μ') (kk : KJ X mL_law 9 false po SK n (6 * n) 2483 [(4, .int (iI i)), (0, .ref X.2.2.2.1), (1, .ref (X.1 + 0)), (2, .ref (X.1 + 248)), (3, .ref (X.1 + 260))] [] μ') : KJ X mL_law 9 false po SK (n + 1) (6 * n + 6) 2097 [(4, .int (iI i)), (0, .ref X.2.2.2.1), (1, .ref (X.1 + 0)), (2, .ref (X.1 + 248)), (3, .ref (X.1 + 260))] [] μ := by
  generalize hw1 : sw X (i + 1).toNat = w1 at h
  generalize hw2 : sw X (i + 2).toNat = w2 at h
  generalize hw3 : sw X (i + 3).toNat = w3 at h
  generalize hw4 : sw X (i + 4).toNat = w4 at h
  unfold lc_remark at h
  obtain ⟨μ1, k, b, hf, hg, ht, gk, hcmp⟩ := lcase_of (by exact Or.inl rfl) h
  refine K_aload_n (md := mL_law) (pc := 2097) 2 (kTab_at (pc := 2097) tL_law_30_ok 0 rfl) rfl ?_
  refine K_aload_n (md := mL_law) (pc := 2098) 1 (kTab_at (pc := 2098) tL_law_30_ok 1 rfl) rfl ?_
  refine K_iload (md := mL_law) (pc := 2099) 0 (kTab_at (pc := 2099) tL_law_30_ok 2 rfl) rfl ?_
  refine K_iconst (md := mL_law) (pc := 2101) (x := 1) (kTab_at (pc := 2101) tL_law_30_ok 3 rfl) rfl ?_
  refine K_iadd (md := mL_law) (pc := 2102) (kTab_at (pc := 2102) tL_law_30_ok 4 rfl) ?_
  refine K_sld (md := mL_law) (pc := 2103) hL (by omega) (kTab_at (pc := 2103) tL_law_30_ok 5 rfl) ?_
  rw [hw1]
  refine K_aload_n (md := mL_law) (pc := 2104) 1 (kTab_at (pc := 2104) tL_law_30_ok 6 rfl) rfl ?_
  refine K_iload (md := mL_law) (pc := 2105) 0 (kTab_at (pc := 2105) tL_law_30_ok 7 rfl) rfl ?_
  refine K_iconst (md := mL_law) (pc := 2107) (x := 2) (kTab_at (pc := 2107) tL_law_30_ok 8 rfl) rfl ?_
  refine K_iadd (md := mL_law) (pc := 2108) (kTab_at (pc := 2108) tL_law_30_ok 9 rfl) ?_
  refine K_sld (md := mL_law) (pc := 2109) hL (by omega) (kTab_at (pc := 2109) tL_law_30_ok 10 rfl) ?_
  rw [hw2]
  refine K_aload_n (md := mL_law) (pc := 2110) 1 (kTab_at (pc := 2110) tL_law_30_ok 11 rfl) rfl ?_
  refine K_iload (md := mL_law) (pc := 2111) 0 (kTab_at (pc := 2111) tL_law_30_ok 12 rfl) rfl ?_
  refine K_iconst (md := mL_law) (pc := 2113) (x := 3) (kTab_at (pc := 2113) tL_law_30_ok 13 rfl) rfl ?_
  refine K_iadd (md := mL_law) (pc := 2114) (kTab_at (pc := 2114) tL_law_30_ok 14 rfl) ?_
  refine K_sld (md := mL_law) (pc := 2115) hL (by omega) (kTab_at (pc := 2115) tL_law_30_ok 15 rfl) ?_
  rw [hw3]
  refine K_aload_n (md := mL_law) (pc := 2116) 1 (kTab_at (pc := 2116) tL_law_30_ok 16 rfl) rfl ?_
  refine K_iload (md := mL_law) (pc := 2117) 0 (kTab_at (pc := 2117) tL_law_30_ok 17 rfl) rfl ?_
  refine K_iconst (md := mL_law) (pc := 2119) (x := 4) (kTab_at (pc := 2119) tL_law_30_ok 18 rfl) rfl ?_
  refine K_iadd (md := mL_law) (pc := 2120) (kTab_at (pc := 2120) tL_law_30_ok 19 rfl) ?_
  refine K_sld (md := mL_law) (pc := 2121) hL (by omega) (kTab_at (pc := 2121) tL_law_30_ok 20 rfl) ?_
  rw [hw4]
  refine K_aload_n (md := mL_law) (pc := 2122) 4 (kTab_at (pc := 2122) tL_law_30_ok 21 rfl) rfl ?_
  refine K_callCH (md := mL_law) (pc := 2123) (mdY := mL_remark) (d' := 7) (cr := n) (sr := 6 * n) (μ2 := μ1) (x := k) (st := []) (kTab_at (pc := 2123) tL_law_30_ok 22 rfl) mh_remark rfl (Nat.le_of_ble_eq_true rfl) (by decide) (h_remark X w1 w2 w3 w4 μ (μ1, 0, k) hf) ?_ rfl
  show KJ X mL_law 9 false po SK n (6 * n) 2126 [(4, .int (iI i)), (0, .ref X.2.2.2.1), (1, .ref (X.1 + 0)), (2, .ref (X.1 + 248)), (3, .ref (X.1 + 260))] [.int (iI k)] μ1
  refine K_istore (md := mL_law) (pc := 2126) (l' := (5, .int (iI k)) :: [(4, .int (iI i)), (0, .ref X.2.2.2.1), (1, .ref (X.1 + 0)), (2, .ref (X.1 + 248)), (3, .ref (X.1 + 260))]) (kTab_at (pc := 2126) tL_law_30_ok 23 rfl) (Nat.le_of_ble_eq_true rfl) rfl ?_
  refine K_aload_n (md := mL_law) (pc := 2128) 4 (kTab_at (pc := 2128) tL_law_30_ok 24 rfl) rfl ?_
  refine K_aload_n (md := mL_law) (pc := 2129) 2 (kTab_at (pc := 2129) tL_law_30_ok 25 rfl) rfl ?_
  refine K_iload (md := mL_law) (pc := 2130) 1 (kTab_at (pc := 2130) tL_law_30_ok 26 rfl) rfl ?_
  refine K_iconst (md := mL_law) (pc := 2132) (x := 1) (kTab_at (pc := 2132) tL_law_30_ok 27 rfl) rfl ?_
  refine K_iadd (md := mL_law) (pc := 2133) (kTab_at (pc := 2133) tL_law_30_ok 28 rfl) ?_
  refine K_sld (md := mL_law) (pc := 2134) hL (by omega) (kTab_at (pc := 2134) tL_law_30_ok 29 rfl) ?_
  rw [hw1]
  refine K_aload_n (md := mL_law) (pc := 2135) 2 (kTab_at (pc := 2135) tL_law_30_ok 30 rfl) rfl ?_
  refine K_iload (md := mL_law) (pc := 2136) 1 (kTab_at (pc := 2136) tL_law_30_ok 31 rfl) rfl ?_
  refine K_iconst (md := mL_law) (pc := 2138) (x := 2) (kTab_at (pc := 2138) tL_law_30_ok 32 rfl) rfl ?_
  refine K_iadd (md := mL_law) (pc := 2139) (kTab_at (pc := 2139) tL_law_30_ok 33 rfl) ?_
  refine K_sld (md := mL_law) (pc := 2140) hL (by omega) (kTab_at (pc := 2140) tL_law_30_ok 34 rfl) ?_
  rw [hw2]
  refine K_aload_n (md := mL_law) (pc := 2141) 2 (kTab_at (pc := 2141) tL_law_30_ok 35 rfl) rfl ?_
  refine K_iload (md := mL_law) (pc := 2142) 1 (kTab_at (pc := 2142) tL_law_30_ok 36 rfl) rfl ?_
  refine K_iconst (md := mL_law) (pc := 2144) (x := 3) (kTab_at (pc := 2144) tL_law_30_ok 37 rfl) rfl ?_
  refine K_iadd (md := mL_law) (pc := 2145) (kTab_at (pc := 2145) tL_law_30_ok 38 rfl) ?_
  refine K_sld (md := mL_law) (pc := 2146) hL (by omega) (kTab_at (pc := 2146) tL_law_30_ok 39 rfl) ?_
  rw [hw3]
  refine K_aload_n (md := mL_law) (pc := 2147) 2 (kTab_at (pc := 2147) tL_law_30_ok 40 rfl) rfl ?_
  refine K_iload (md := mL_law) (pc := 2148) 1 (kTab_at (pc := 2148) tL_law_30_ok 41 rfl) rfl ?_
  refine K_iconst (md := mL_law) (pc := 2150) (x := 4) (kTab_at (pc := 2150) tL_law_30_ok 42 rfl) rfl ?_
  refine K_iadd (md := mL_law) (pc := 2151) (kTab_at (pc := 2151) tL_law_30_ok 43 rfl) ?_
  refine K_sld (md := mL_law) (pc := 2152) hL (by omega) (kTab_at (pc := 2152) tL_law_30_ok 44 rfl) ?_
  rw [hw4]
  refine K_callC (md := mL_law) (pc := 2153) (d' := 8) (rkY := 1) (μ2 := μ') (x := b) (st := []) (b := 248) (kTab_at (pc := 2153) tL_law_30_ok 45 rfl) mv_L_237 sk_248 rfl (Nat.le_of_ble_eq_true rfl) (by decide) rfl (c_X11_remark X w1 w2 w3 w4 μ1) hg ?_ rfl
  show KJ X mL_law 9 false po SK n (6 * n) 2156 ((5, .int (iI k)) :: [(4, .int (iI i)), (0, .ref X.2.2.2.1), (1, .ref (X.1 + 0)), (2, .ref (X.1 + 248)), (3, .ref (X.1 + 260))]) [.int (iI b)] μ'
  refine K_istore (md := mL_law) (pc := 2156) (l' := (6, .int (iI b)) :: (5, .int (iI k)) :: [(4, .int (iI i)), (0, .ref X.2.2.2.1), (1, .ref (X.1 + 0)), (2, .ref (X.1 + 248)), (3, .ref (X.1 + 260))]) (kTab_at (pc := 2156) tL_law_30_ok 46 rfl) (Nat.le_of_ble_eq_true rfl) rfl ?_
  refine K_aload_n (md := mL_law) (pc := 2158) 5 (kTab_at (pc := 2158) tL_law_30_ok 47 rfl) rfl ?_
  refine K_callC (md := mL_law) (pc := 2159) (d' := 0) (rkY := 1) (μ2 := μ') (x := μ' 248 0) (st := []) (b := 248) (kTab_at (pc := 2159) tL_law_30_ok 48 rfl) mv_L_142 sk_248 rfl (Nat.le_of_ble_eq_true rfl) (by decide) rfl (c_X11_thrown X μ') rfl ?_ rfl
  rw [ht]
  show KJ X mL_law 9 false po SK n (6 * n) 2162 ((6, .int (iI b)) :: (5, .int (iI k)) :: [(4, .int (iI i)), (0, .ref X.2.2.2.1), (1, .ref (X.1 + 0)), (2, .ref (X.1 + 248)), (3, .ref (X.1 + 260))]) [.int (iI k)] μ'
  refine K_iload (md := mL_law) (pc := 2162) 1 (kTab_at (pc := 2162) tL_law_30_ok 49 rfl) rfl ?_
  refine K_icmp_eq (md := mL_law) (pc := 2164) (r := (μ', 0, 0)) (A := some (μ', 0, 0)) (B := none) (tgt := 2169) (kTab_at (pc := 2164) tL_law_30_ok 50 rfl) rfl (ieq_t gk) (fun _ => ?_) (fun h => nomatch h)
  refine K_iload (md := mL_law) (pc := 2169) 1 (kTab_at (pc := 2169) tL_law_30_ok 53 rfl) rfl ?_
  by_cases hk : k = 0
  · refine K_if_ne (md := mL_law) (pc := 2171) (r := (μ', 0, 0)) (A := none) (B := some (μ', 0, 0)) (tgt := 2186) (kTab_at (pc := 2171) tL_law_30_ok 54 rfl) rfl (ieq_y gk hk) (fun h => nomatch h) (fun _ => ?_)
    have hc := hcmp hk
    refine K_aload_n (md := mL_law) (pc := 2174) 6 (kTab_at (pc := 2174) tL_law_30_ok 55 rfl) rfl ?_
    refine K_iconst (md := mL_law) (pc := 2175) (x := 0) (kTab_at (pc := 2175) tL_law_30_ok 56 rfl) rfl ?_
    refine K_lald (md := mL_law) (pc := 2176) (r := (μ', 0, 0)) (k0 := fun _ => some (μ', 0, 0)) (kTab_at (pc := 2176) tL_law_30_ok 57 rfl) sk_260 (by decide) rd_260 (fun _ => ?_)
    refine K_iload (md := mL_law) (pc := 2177) 0 (kTab_at (pc := 2177) tL_law_30_ok 58 rfl) rfl ?_
    refine K_i2l (md := mL_law) (pc := 2179) (r := (μ', 0, 0)) (k0 := some (μ', 0, 0)) (kTab_at (pc := 2179) tL_law_30_ok 59 rfl) (cmpI_of hc).1 (fun _ => ?_)
    refine K_lcmp_eq (md := mL_law) (pc := 2180) (r := (μ', 0, 0)) (A := some (μ', 0, 0)) (B := none) (tgt := 2186) (kTab_at (pc := 2180) tL_law_30_ok 60 rfl) (kTab_at (pc := 2181) tL_law_30_ok 61 rfl) rfl (cmpI_of hc).2 (fun _ => ?_) (fun h => nomatch h)
    refine K_goto (md := mL_law) (pc := 2186) (tgt := 2483) (kTab_at (pc := 2186) tL_law_30_ok 64 rfl) rfl ?_
    exact KJ_sub (fun q hq => List.mem_cons_of_mem _ (List.mem_cons_of_mem _ hq)) kk
  · refine K_if_ne (md := mL_law) (pc := 2171) (r := (μ', 0, 0)) (A := some (μ', 0, 0)) (B := none) (tgt := 2186) (kTab_at (pc := 2171) tL_law_30_ok 54 rfl) rfl (ieq_n gk hk) (fun _ => ?_) (fun h => nomatch h)
    refine K_goto (md := mL_law) (pc := 2186) (tgt := 2483) (kTab_at (pc := 2186) tL_law_30_ok 64 rfl) rfl ?_
    exact KJ_sub (fun q hq => List.mem_cons_of_mem _ (List.mem_cons_of_mem _ hq)) kk
def lc_account (w1 : Int) (μ : Mu) : Option Mu := lcase (hp 0 [1] (f_X10_account w1 μ)) (fun μ => f_X11_account w1 μ) cmpI
theorem mh_account : kMSH RL 238 mL_account hh_account 3 := ⟨inT5 202 (by decide +kernel) rfl, inT5 203 (by decide +kernel) rfl, inT5 204 (by decide +kernel) rfl, inT1 0 (by decide +kernel) rfl, by decide +kernel, by decide +kernel⟩
set_option maxRecDepth 100000 in
theorem k_account (X : kX) (po : kPo) (hL : X.2.2.2.2.1 < 2 ^ 31) (i : Int) (hi : 0 ≤ i ∧ i + 5 ≤ X.2.2.2.2.1) (n : Nat) (μ μ' : Mu) (h : lc_account (sw X (i + 1).toNat) μ = some μ') (kk : KJ X mL_law 9 false po SK n (6 * n) 2483 [(4, .int (iI i)), (0, .ref X.2.2.2.1), (1, .ref (X.1 + 0)), (2, .ref (X.1 + 248)), (3, .ref (X.1 + 260))] [] μ') : KJ X mL_law 9 false po SK (n + 1) (6 * n + 6) 2189 [(4, .int (iI i)), (0, .ref X.2.2.2.1), (1, .ref (X.1 + 0)), (2, .ref (X.1 + 248)), (3, .ref (X.1 + 260))] [] μ := by
  generalize hw1 : sw X (i + 1).toNat = w1 at h
  unfold lc_account at h
  obtain ⟨μ1, k, b, hf, hg, ht, gk, hcmp⟩ := lcase_of (by exact Or.inl rfl) h
  refine K_aload_n (md := mL_law) (pc := 2189) 2 (kTab_at (pc := 2189) tL_law_31_ok 0 rfl) rfl ?_
  refine K_aload_n (md := mL_law) (pc := 2190) 1 (kTab_at (pc := 2190) tL_law_31_ok 1 rfl) rfl ?_
  refine K_iload (md := mL_law) (pc := 2191) 0 (kTab_at (pc := 2191) tL_law_31_ok 2 rfl) rfl ?_
  refine K_iconst (md := mL_law) (pc := 2193) (x := 1) (kTab_at (pc := 2193) tL_law_31_ok 3 rfl) rfl ?_
  refine K_iadd (md := mL_law) (pc := 2194) (kTab_at (pc := 2194) tL_law_31_ok 4 rfl) ?_
  refine K_sld (md := mL_law) (pc := 2195) hL (by omega) (kTab_at (pc := 2195) tL_law_31_ok 5 rfl) ?_
  rw [hw1]
  refine K_aload_n (md := mL_law) (pc := 2196) 4 (kTab_at (pc := 2196) tL_law_31_ok 6 rfl) rfl ?_
  refine K_callCH (md := mL_law) (pc := 2197) (mdY := mL_account) (d' := 7) (cr := n) (sr := 6 * n) (μ2 := μ1) (x := k) (st := []) (kTab_at (pc := 2197) tL_law_31_ok 7 rfl) mh_account rfl (Nat.le_of_ble_eq_true rfl) (by decide) (h_account X w1 μ (μ1, 0, k) hf) ?_ rfl
  show KJ X mL_law 9 false po SK n (6 * n) 2200 [(4, .int (iI i)), (0, .ref X.2.2.2.1), (1, .ref (X.1 + 0)), (2, .ref (X.1 + 248)), (3, .ref (X.1 + 260))] [.int (iI k)] μ1
  refine K_istore (md := mL_law) (pc := 2200) (l' := (5, .int (iI k)) :: [(4, .int (iI i)), (0, .ref X.2.2.2.1), (1, .ref (X.1 + 0)), (2, .ref (X.1 + 248)), (3, .ref (X.1 + 260))]) (kTab_at (pc := 2200) tL_law_31_ok 8 rfl) (Nat.le_of_ble_eq_true rfl) rfl ?_
  refine K_aload_n (md := mL_law) (pc := 2202) 4 (kTab_at (pc := 2202) tL_law_31_ok 9 rfl) rfl ?_
  refine K_aload_n (md := mL_law) (pc := 2203) 2 (kTab_at (pc := 2203) tL_law_31_ok 10 rfl) rfl ?_
  refine K_iload (md := mL_law) (pc := 2204) 1 (kTab_at (pc := 2204) tL_law_31_ok 11 rfl) rfl ?_
  refine K_iconst (md := mL_law) (pc := 2206) (x := 1) (kTab_at (pc := 2206) tL_law_31_ok 12 rfl) rfl ?_
  refine K_iadd (md := mL_law) (pc := 2207) (kTab_at (pc := 2207) tL_law_31_ok 13 rfl) ?_
  refine K_sld (md := mL_law) (pc := 2208) hL (by omega) (kTab_at (pc := 2208) tL_law_31_ok 14 rfl) ?_
  rw [hw1]
  refine K_callC (md := mL_law) (pc := 2209) (d' := 3) (rkY := 1) (μ2 := μ') (x := b) (st := []) (b := 248) (kTab_at (pc := 2209) tL_law_31_ok 15 rfl) mv_L_240 sk_248 rfl (Nat.le_of_ble_eq_true rfl) (by decide) rfl (c_X11_account X w1 μ1) hg ?_ rfl
  show KJ X mL_law 9 false po SK n (6 * n) 2212 ((5, .int (iI k)) :: [(4, .int (iI i)), (0, .ref X.2.2.2.1), (1, .ref (X.1 + 0)), (2, .ref (X.1 + 248)), (3, .ref (X.1 + 260))]) [.int (iI b)] μ'
  refine K_istore (md := mL_law) (pc := 2212) (l' := (6, .int (iI b)) :: (5, .int (iI k)) :: [(4, .int (iI i)), (0, .ref X.2.2.2.1), (1, .ref (X.1 + 0)), (2, .ref (X.1 + 248)), (3, .ref (X.1 + 260))]) (kTab_at (pc := 2212) tL_law_31_ok 16 rfl) (Nat.le_of_ble_eq_true rfl) rfl ?_
  refine K_aload_n (md := mL_law) (pc := 2214) 5 (kTab_at (pc := 2214) tL_law_31_ok 17 rfl) rfl ?_
  refine K_callC (md := mL_law) (pc := 2215) (d' := 0) (rkY := 1) (μ2 := μ') (x := μ' 248 0) (st := []) (b := 248) (kTab_at (pc := 2215) tL_law_31_ok 18 rfl) mv_L_142 sk_248 rfl (Nat.le_of_ble_eq_true rfl) (by decide) rfl (c_X11_thrown X μ') rfl ?_ rfl
  rw [ht]
  show KJ X mL_law 9 false po SK n (6 * n) 2218 ((6, .int (iI b)) :: (5, .int (iI k)) :: [(4, .int (iI i)), (0, .ref X.2.2.2.1), (1, .ref (X.1 + 0)), (2, .ref (X.1 + 248)), (3, .ref (X.1 + 260))]) [.int (iI k)] μ'
  refine K_iload (md := mL_law) (pc := 2218) 1 (kTab_at (pc := 2218) tL_law_31_ok 19 rfl) rfl ?_
  refine K_icmp_eq (md := mL_law) (pc := 2220) (r := (μ', 0, 0)) (A := some (μ', 0, 0)) (B := none) (tgt := 2225) (kTab_at (pc := 2220) tL_law_31_ok 20 rfl) rfl (ieq_t gk) (fun _ => ?_) (fun h => nomatch h)
  refine K_iload (md := mL_law) (pc := 2225) 1 (kTab_at (pc := 2225) tL_law_31_ok 23 rfl) rfl ?_
  by_cases hk : k = 0
  · refine K_if_ne (md := mL_law) (pc := 2227) (r := (μ', 0, 0)) (A := none) (B := some (μ', 0, 0)) (tgt := 2242) (kTab_at (pc := 2227) tL_law_31_ok 24 rfl) rfl (ieq_y gk hk) (fun h => nomatch h) (fun _ => ?_)
    have hc := hcmp hk
    refine K_aload_n (md := mL_law) (pc := 2230) 6 (kTab_at (pc := 2230) tL_law_31_ok 25 rfl) rfl ?_
    refine K_iconst (md := mL_law) (pc := 2231) (x := 0) (kTab_at (pc := 2231) tL_law_31_ok 26 rfl) rfl ?_
    refine K_lald (md := mL_law) (pc := 2232) (r := (μ', 0, 0)) (k0 := fun _ => some (μ', 0, 0)) (kTab_at (pc := 2232) tL_law_31_ok 27 rfl) sk_260 (by decide) rd_260 (fun _ => ?_)
    refine K_iload (md := mL_law) (pc := 2233) 0 (kTab_at (pc := 2233) tL_law_31_ok 28 rfl) rfl ?_
    refine K_i2l (md := mL_law) (pc := 2235) (r := (μ', 0, 0)) (k0 := some (μ', 0, 0)) (kTab_at (pc := 2235) tL_law_31_ok 29 rfl) (cmpI_of hc).1 (fun _ => ?_)
    refine K_lcmp_eq (md := mL_law) (pc := 2236) (r := (μ', 0, 0)) (A := some (μ', 0, 0)) (B := none) (tgt := 2242) (kTab_at (pc := 2236) tL_law_31_ok 30 rfl) (kTab_at (pc := 2237) tL_law_31_ok 31 rfl) rfl (cmpI_of hc).2 (fun _ => ?_) (fun h => nomatch h)
    refine K_goto (md := mL_law) (pc := 2242) (tgt := 2483) (kTab_at (pc := 2242) tL_law_31_ok 34 rfl) rfl ?_
    exact KJ_sub (fun q hq => List.mem_cons_of_mem _ (List.mem_cons_of_mem _ hq)) kk
  · refine K_if_ne (md := mL_law) (pc := 2227) (r := (μ', 0, 0)) (A := some (μ', 0, 0)) (B := none) (tgt := 2242) (kTab_at (pc := 2227) tL_law_31_ok 24 rfl) rfl (ieq_n gk hk) (fun _ => ?_) (fun h => nomatch h)
    refine K_goto (md := mL_law) (pc := 2242) (tgt := 2483) (kTab_at (pc := 2242) tL_law_31_ok 34 rfl) rfl ?_
    exact KJ_sub (fun q hq => List.mem_cons_of_mem _ (List.mem_cons_of_mem _ hq)) kk
def lc_levels  (μ : Mu) : Option Mu := ldir (f_X10_levels  μ) (fun μ => f_X11_levels  μ)
set_option maxRecDepth 100000 in
theorem k_levels (X : kX) (po : kPo) (hL : X.2.2.2.2.1 < 2 ^ 31) (i : Int) (hi : 0 ≤ i ∧ i + 5 ≤ X.2.2.2.2.1) (n : Nat) (μ μ' : Mu) (h : lc_levels  μ = some μ') (kk : KJ X mL_law 9 false po SK n (6 * n) 2483 [(4, .int (iI i)), (0, .ref X.2.2.2.1), (1, .ref (X.1 + 0)), (2, .ref (X.1 + 248)), (3, .ref (X.1 + 260))] [] μ') : KJ X mL_law 9 false po SK (n + 1) (6 * n + 6) 2245 [(4, .int (iI i)), (0, .ref X.2.2.2.1), (1, .ref (X.1 + 0)), (2, .ref (X.1 + 248)), (3, .ref (X.1 + 260))] [] μ := by
  unfold lc_levels at h
  obtain ⟨μ1, b, hf, hg, gb⟩ := ldir_of h
  refine KJ_less (cr' := n) (sr' := 6 * n) (by omega) (by omega) ?_
  refine K_aload_n (md := mL_law) (pc := 2245) 2 (kTab_at (pc := 2245) tL_law_32_ok 0 rfl) rfl ?_
  refine K_callC (md := mL_law) (pc := 2246) (d' := 0) (rkY := 1) (μ2 := μ1) (x := b) (st := []) (b := 0) (kTab_at (pc := 2246) tL_law_32_ok 1 rfl) mv_L_241 sk_0 rfl (Nat.le_of_ble_eq_true rfl) (by decide) rfl (c_X10_levels X μ) hf ?_ rfl
  show KJ X mL_law 9 false po SK n (6 * n) 2249 [(4, .int (iI i)), (0, .ref X.2.2.2.1), (1, .ref (X.1 + 0)), (2, .ref (X.1 + 248)), (3, .ref (X.1 + 260))] [.int (iI b)] μ1
  refine K_aload_n (md := mL_law) (pc := 2249) 3 (kTab_at (pc := 2249) tL_law_32_ok 2 rfl) rfl ?_
  refine K_callC (md := mL_law) (pc := 2250) (d' := 0) (rkY := 1) (μ2 := μ') (x := b) (st := [.int (iI b)]) (b := 248) (kTab_at (pc := 2250) tL_law_32_ok 3 rfl) mv_L_244 sk_248 rfl (Nat.le_of_ble_eq_true rfl) (by decide) rfl (c_X11_levels X μ1) hg ?_ rfl
  show KJ X mL_law 9 false po SK n (6 * n) 2253 [(4, .int (iI i)), (0, .ref X.2.2.2.1), (1, .ref (X.1 + 0)), (2, .ref (X.1 + 248)), (3, .ref (X.1 + 260))] [.int (iI b), .int (iI b)] μ'
  refine K_icmp_eq (md := mL_law) (pc := 2253) (r := (μ', 0, 0)) (A := some (μ', 0, 0)) (B := none) (tgt := 2483) (kTab_at (pc := 2253) tL_law_32_ok 4 rfl) rfl (ieq_t gb) (fun _ => ?_) (fun h => nomatch h)
  exact kk
def lc_report (w1 : Int) (w2 : Int) (μ : Mu) : Option Mu := lcase (hp 0 [5, 1] (f_X10_report w1 w2 μ)) (fun μ => f_X11_report w1 w2 μ) cmpI
theorem mh_report : kMSH RL 245 mL_report hh_report 4 := ⟨inT5 210 (by decide +kernel) rfl, inT5 211 (by decide +kernel) rfl, inT5 212 (by decide +kernel) rfl, inT1 0 (by decide +kernel) rfl, by decide +kernel, by decide +kernel⟩
set_option maxRecDepth 100000 in
theorem k_report (X : kX) (po : kPo) (hL : X.2.2.2.2.1 < 2 ^ 31) (i : Int) (hi : 0 ≤ i ∧ i + 5 ≤ X.2.2.2.2.1) (n : Nat) (μ μ' : Mu) (h : lc_report (sw X (i + 1).toNat) (sw X (i + 2).toNat) μ = some μ') (kk : KJ X mL_law 9 false po SK n (6 * n) 2483 [(4, .int (iI i)), (0, .ref X.2.2.2.1), (1, .ref (X.1 + 0)), (2, .ref (X.1 + 248)), (3, .ref (X.1 + 260))] [] μ') : KJ X mL_law 9 false po SK (n + 1) (6 * n + 6) 2258 [(4, .int (iI i)), (0, .ref X.2.2.2.1), (1, .ref (X.1 + 0)), (2, .ref (X.1 + 248)), (3, .ref (X.1 + 260))] [] μ := by
  generalize hw1 : sw X (i + 1).toNat = w1 at h
  generalize hw2 : sw X (i + 2).toNat = w2 at h
  unfold lc_report at h
  obtain ⟨μ1, k, b, hf, hg, ht, gk, hcmp⟩ := lcase_of (by exact Or.inl rfl) h
  refine K_aload_n (md := mL_law) (pc := 2258) 2 (kTab_at (pc := 2258) tL_law_33_ok 0 rfl) rfl ?_
  refine K_aload_n (md := mL_law) (pc := 2259) 1 (kTab_at (pc := 2259) tL_law_33_ok 1 rfl) rfl ?_
  refine K_iload (md := mL_law) (pc := 2260) 0 (kTab_at (pc := 2260) tL_law_33_ok 2 rfl) rfl ?_
  refine K_iconst (md := mL_law) (pc := 2262) (x := 1) (kTab_at (pc := 2262) tL_law_33_ok 3 rfl) rfl ?_
  refine K_iadd (md := mL_law) (pc := 2263) (kTab_at (pc := 2263) tL_law_33_ok 4 rfl) ?_
  refine K_sld (md := mL_law) (pc := 2264) hL (by omega) (kTab_at (pc := 2264) tL_law_33_ok 5 rfl) ?_
  rw [hw1]
  refine K_aload_n (md := mL_law) (pc := 2265) 1 (kTab_at (pc := 2265) tL_law_33_ok 6 rfl) rfl ?_
  refine K_iload (md := mL_law) (pc := 2266) 0 (kTab_at (pc := 2266) tL_law_33_ok 7 rfl) rfl ?_
  refine K_iconst (md := mL_law) (pc := 2268) (x := 2) (kTab_at (pc := 2268) tL_law_33_ok 8 rfl) rfl ?_
  refine K_iadd (md := mL_law) (pc := 2269) (kTab_at (pc := 2269) tL_law_33_ok 9 rfl) ?_
  refine K_sld (md := mL_law) (pc := 2270) hL (by omega) (kTab_at (pc := 2270) tL_law_33_ok 10 rfl) ?_
  rw [hw2]
  refine K_aload_n (md := mL_law) (pc := 2271) 4 (kTab_at (pc := 2271) tL_law_33_ok 11 rfl) rfl ?_
  refine K_callCH (md := mL_law) (pc := 2272) (mdY := mL_report) (d' := 7) (cr := n) (sr := 6 * n) (μ2 := μ1) (x := k) (st := []) (kTab_at (pc := 2272) tL_law_33_ok 12 rfl) mh_report rfl (Nat.le_of_ble_eq_true rfl) (by decide) (h_report X w1 w2 μ (μ1, 0, k) hf) ?_ rfl
  show KJ X mL_law 9 false po SK n (6 * n) 2275 [(4, .int (iI i)), (0, .ref X.2.2.2.1), (1, .ref (X.1 + 0)), (2, .ref (X.1 + 248)), (3, .ref (X.1 + 260))] [.int (iI k)] μ1
  refine K_istore (md := mL_law) (pc := 2275) (l' := (5, .int (iI k)) :: [(4, .int (iI i)), (0, .ref X.2.2.2.1), (1, .ref (X.1 + 0)), (2, .ref (X.1 + 248)), (3, .ref (X.1 + 260))]) (kTab_at (pc := 2275) tL_law_33_ok 13 rfl) (Nat.le_of_ble_eq_true rfl) rfl ?_
  refine K_aload_n (md := mL_law) (pc := 2277) 4 (kTab_at (pc := 2277) tL_law_33_ok 14 rfl) rfl ?_
  refine K_aload_n (md := mL_law) (pc := 2278) 2 (kTab_at (pc := 2278) tL_law_33_ok 15 rfl) rfl ?_
  refine K_iload (md := mL_law) (pc := 2279) 1 (kTab_at (pc := 2279) tL_law_33_ok 16 rfl) rfl ?_
  refine K_iconst (md := mL_law) (pc := 2281) (x := 1) (kTab_at (pc := 2281) tL_law_33_ok 17 rfl) rfl ?_
  refine K_iadd (md := mL_law) (pc := 2282) (kTab_at (pc := 2282) tL_law_33_ok 18 rfl) ?_
  refine K_sld (md := mL_law) (pc := 2283) hL (by omega) (kTab_at (pc := 2283) tL_law_33_ok 19 rfl) ?_
  rw [hw1]
  refine K_aload_n (md := mL_law) (pc := 2284) 2 (kTab_at (pc := 2284) tL_law_33_ok 20 rfl) rfl ?_
  refine K_iload (md := mL_law) (pc := 2285) 1 (kTab_at (pc := 2285) tL_law_33_ok 21 rfl) rfl ?_
  refine K_iconst (md := mL_law) (pc := 2287) (x := 2) (kTab_at (pc := 2287) tL_law_33_ok 22 rfl) rfl ?_
  refine K_iadd (md := mL_law) (pc := 2288) (kTab_at (pc := 2288) tL_law_33_ok 23 rfl) ?_
  refine K_sld (md := mL_law) (pc := 2289) hL (by omega) (kTab_at (pc := 2289) tL_law_33_ok 24 rfl) ?_
  rw [hw2]
  refine K_callC (md := mL_law) (pc := 2290) (d' := 1) (rkY := 1) (μ2 := μ') (x := b) (st := []) (b := 248) (kTab_at (pc := 2290) tL_law_33_ok 25 rfl) mv_L_247 sk_248 rfl (Nat.le_of_ble_eq_true rfl) (by decide) rfl (c_X11_report X w1 w2 μ1) hg ?_ rfl
  show KJ X mL_law 9 false po SK n (6 * n) 2293 ((5, .int (iI k)) :: [(4, .int (iI i)), (0, .ref X.2.2.2.1), (1, .ref (X.1 + 0)), (2, .ref (X.1 + 248)), (3, .ref (X.1 + 260))]) [.int (iI b)] μ'
  refine K_istore (md := mL_law) (pc := 2293) (l' := (6, .int (iI b)) :: (5, .int (iI k)) :: [(4, .int (iI i)), (0, .ref X.2.2.2.1), (1, .ref (X.1 + 0)), (2, .ref (X.1 + 248)), (3, .ref (X.1 + 260))]) (kTab_at (pc := 2293) tL_law_33_ok 26 rfl) (Nat.le_of_ble_eq_true rfl) rfl ?_
  refine K_aload_n (md := mL_law) (pc := 2295) 5 (kTab_at (pc := 2295) tL_law_33_ok 27 rfl) rfl ?_
  refine K_callC (md := mL_law) (pc := 2296) (d' := 0) (rkY := 1) (μ2 := μ') (x := μ' 248 0) (st := []) (b := 248) (kTab_at (pc := 2296) tL_law_33_ok 28 rfl) mv_L_142 sk_248 rfl (Nat.le_of_ble_eq_true rfl) (by decide) rfl (c_X11_thrown X μ') rfl ?_ rfl
  rw [ht]
  show KJ X mL_law 9 false po SK n (6 * n) 2299 ((6, .int (iI b)) :: (5, .int (iI k)) :: [(4, .int (iI i)), (0, .ref X.2.2.2.1), (1, .ref (X.1 + 0)), (2, .ref (X.1 + 248)), (3, .ref (X.1 + 260))]) [.int (iI k)] μ'
  refine K_iload (md := mL_law) (pc := 2299) 1 (kTab_at (pc := 2299) tL_law_33_ok 29 rfl) rfl ?_
  refine K_icmp_eq (md := mL_law) (pc := 2301) (r := (μ', 0, 0)) (A := some (μ', 0, 0)) (B := none) (tgt := 2306) (kTab_at (pc := 2301) tL_law_33_ok 30 rfl) rfl (ieq_t gk) (fun _ => ?_) (fun h => nomatch h)
  refine K_iload (md := mL_law) (pc := 2306) 1 (kTab_at (pc := 2306) tL_law_33_ok 33 rfl) rfl ?_
  by_cases hk : k = 0
  · refine K_if_ne (md := mL_law) (pc := 2308) (r := (μ', 0, 0)) (A := none) (B := some (μ', 0, 0)) (tgt := 2323) (kTab_at (pc := 2308) tL_law_33_ok 34 rfl) rfl (ieq_y gk hk) (fun h => nomatch h) (fun _ => ?_)
    have hc := hcmp hk
    refine K_aload_n (md := mL_law) (pc := 2311) 6 (kTab_at (pc := 2311) tL_law_33_ok 35 rfl) rfl ?_
    refine K_iconst (md := mL_law) (pc := 2312) (x := 0) (kTab_at (pc := 2312) tL_law_33_ok 36 rfl) rfl ?_
    refine K_lald (md := mL_law) (pc := 2313) (r := (μ', 0, 0)) (k0 := fun _ => some (μ', 0, 0)) (kTab_at (pc := 2313) tL_law_33_ok 37 rfl) sk_260 (by decide) rd_260 (fun _ => ?_)
    refine K_iload (md := mL_law) (pc := 2314) 0 (kTab_at (pc := 2314) tL_law_33_ok 38 rfl) rfl ?_
    refine K_i2l (md := mL_law) (pc := 2316) (r := (μ', 0, 0)) (k0 := some (μ', 0, 0)) (kTab_at (pc := 2316) tL_law_33_ok 39 rfl) (cmpI_of hc).1 (fun _ => ?_)
    refine K_lcmp_eq (md := mL_law) (pc := 2317) (r := (μ', 0, 0)) (A := some (μ', 0, 0)) (B := none) (tgt := 2323) (kTab_at (pc := 2317) tL_law_33_ok 40 rfl) (kTab_at (pc := 2318) tL_law_33_ok 41 rfl) rfl (cmpI_of hc).2 (fun _ => ?_) (fun h => nomatch h)
    refine K_goto (md := mL_law) (pc := 2323) (tgt := 2483) (kTab_at (pc := 2323) tL_law_33_ok 44 rfl) rfl ?_
    exact KJ_sub (fun q hq => List.mem_cons_of_mem _ (List.mem_cons_of_mem _ hq)) kk
  · refine K_if_ne (md := mL_law) (pc := 2308) (r := (μ', 0, 0)) (A := some (μ', 0, 0)) (B := none) (tgt := 2323) (kTab_at (pc := 2308) tL_law_33_ok 34 rfl) rfl (ieq_n gk hk) (fun _ => ?_) (fun h => nomatch h)
    refine K_goto (md := mL_law) (pc := 2323) (tgt := 2483) (kTab_at (pc := 2323) tL_law_33_ok 44 rfl) rfl ?_
    exact KJ_sub (fun q hq => List.mem_cons_of_mem _ (List.mem_cons_of_mem _ hq)) kk
def lc_count (w1 : Int) (μ : Mu) : Option Mu := lcase (hp 0 [1] (f_X10_count w1 μ)) (fun μ => f_X11_count w1 μ) cmpI
theorem mh_count : kMSH RL 248 mL_count hh_count 3 := ⟨inT5 218 (by decide +kernel) rfl, inT5 219 (by decide +kernel) rfl, inT5 220 (by decide +kernel) rfl, inT1 0 (by decide +kernel) rfl, by decide +kernel, by decide +kernel⟩
set_option maxRecDepth 100000 in
theorem k_count (X : kX) (po : kPo) (hL : X.2.2.2.2.1 < 2 ^ 31) (i : Int) (hi : 0 ≤ i ∧ i + 5 ≤ X.2.2.2.2.1) (n : Nat) (μ μ' : Mu) (h : lc_count (sw X (i + 1).toNat) μ = some μ') (kk : KJ X mL_law 9 false po SK n (6 * n) 2483 [(4, .int (iI i)), (0, .ref X.2.2.2.1), (1, .ref (X.1 + 0)), (2, .ref (X.1 + 248)), (3, .ref (X.1 + 260))] [] μ') : KJ X mL_law 9 false po SK (n + 1) (6 * n + 6) 2326 [(4, .int (iI i)), (0, .ref X.2.2.2.1), (1, .ref (X.1 + 0)), (2, .ref (X.1 + 248)), (3, .ref (X.1 + 260))] [] μ := by
  generalize hw1 : sw X (i + 1).toNat = w1 at h
  unfold lc_count at h
  obtain ⟨μ1, k, b, hf, hg, ht, gk, hcmp⟩ := lcase_of (by exact Or.inl rfl) h
  refine K_aload_n (md := mL_law) (pc := 2326) 2 (kTab_at (pc := 2326) tL_law_34_ok 0 rfl) rfl ?_
  refine K_aload_n (md := mL_law) (pc := 2327) 1 (kTab_at (pc := 2327) tL_law_34_ok 1 rfl) rfl ?_
  refine K_iload (md := mL_law) (pc := 2328) 0 (kTab_at (pc := 2328) tL_law_34_ok 2 rfl) rfl ?_
  refine K_iconst (md := mL_law) (pc := 2330) (x := 1) (kTab_at (pc := 2330) tL_law_34_ok 3 rfl) rfl ?_
  refine K_iadd (md := mL_law) (pc := 2331) (kTab_at (pc := 2331) tL_law_34_ok 4 rfl) ?_
  refine K_sld (md := mL_law) (pc := 2332) hL (by omega) (kTab_at (pc := 2332) tL_law_34_ok 5 rfl) ?_
  rw [hw1]
  refine K_aload_n (md := mL_law) (pc := 2333) 4 (kTab_at (pc := 2333) tL_law_34_ok 6 rfl) rfl ?_
  refine K_callCH (md := mL_law) (pc := 2334) (mdY := mL_count) (d' := 7) (cr := n) (sr := 6 * n) (μ2 := μ1) (x := k) (st := []) (kTab_at (pc := 2334) tL_law_34_ok 7 rfl) mh_count rfl (Nat.le_of_ble_eq_true rfl) (by decide) (h_count X w1 μ (μ1, 0, k) hf) ?_ rfl
  show KJ X mL_law 9 false po SK n (6 * n) 2337 [(4, .int (iI i)), (0, .ref X.2.2.2.1), (1, .ref (X.1 + 0)), (2, .ref (X.1 + 248)), (3, .ref (X.1 + 260))] [.int (iI k)] μ1
  refine K_istore (md := mL_law) (pc := 2337) (l' := (5, .int (iI k)) :: [(4, .int (iI i)), (0, .ref X.2.2.2.1), (1, .ref (X.1 + 0)), (2, .ref (X.1 + 248)), (3, .ref (X.1 + 260))]) (kTab_at (pc := 2337) tL_law_34_ok 8 rfl) (Nat.le_of_ble_eq_true rfl) rfl ?_
  refine K_aload_n (md := mL_law) (pc := 2339) 4 (kTab_at (pc := 2339) tL_law_34_ok 9 rfl) rfl ?_
  refine K_aload_n (md := mL_law) (pc := 2340) 2 (kTab_at (pc := 2340) tL_law_34_ok 10 rfl) rfl ?_
  refine K_iload (md := mL_law) (pc := 2341) 1 (kTab_at (pc := 2341) tL_law_34_ok 11 rfl) rfl ?_
  refine K_iconst (md := mL_law) (pc := 2343) (x := 1) (kTab_at (pc := 2343) tL_law_34_ok 12 rfl) rfl ?_
  refine K_iadd (md := mL_law) (pc := 2344) (kTab_at (pc := 2344) tL_law_34_ok 13 rfl) ?_
  refine K_sld (md := mL_law) (pc := 2345) hL (by omega) (kTab_at (pc := 2345) tL_law_34_ok 14 rfl) ?_
  rw [hw1]
  refine K_callC (md := mL_law) (pc := 2346) (d' := 7) (rkY := 1) (μ2 := μ') (x := b) (st := []) (b := 248) (kTab_at (pc := 2346) tL_law_34_ok 15 rfl) mv_L_250 sk_248 rfl (Nat.le_of_ble_eq_true rfl) (by decide) rfl (c_X11_count X w1 μ1) hg ?_ rfl
  show KJ X mL_law 9 false po SK n (6 * n) 2349 ((5, .int (iI k)) :: [(4, .int (iI i)), (0, .ref X.2.2.2.1), (1, .ref (X.1 + 0)), (2, .ref (X.1 + 248)), (3, .ref (X.1 + 260))]) [.int (iI b)] μ'
  refine K_istore (md := mL_law) (pc := 2349) (l' := (6, .int (iI b)) :: (5, .int (iI k)) :: [(4, .int (iI i)), (0, .ref X.2.2.2.1), (1, .ref (X.1 + 0)), (2, .ref (X.1 + 248)), (3, .ref (X.1 + 260))]) (kTab_at (pc := 2349) tL_law_34_ok 16 rfl) (Nat.le_of_ble_eq_true rfl) rfl ?_
  refine K_aload_n (md := mL_law) (pc := 2351) 5 (kTab_at (pc := 2351) tL_law_34_ok 17 rfl) rfl ?_
  refine K_callC (md := mL_law) (pc := 2352) (d' := 0) (rkY := 1) (μ2 := μ') (x := μ' 248 0) (st := []) (b := 248) (kTab_at (pc := 2352) tL_law_34_ok 18 rfl) mv_L_142 sk_248 rfl (Nat.le_of_ble_eq_true rfl) (by decide) rfl (c_X11_thrown X μ') rfl ?_ rfl
  rw [ht]
  show KJ X mL_law 9 false po SK n (6 * n) 2355 ((6, .int (iI b)) :: (5, .int (iI k)) :: [(4, .int (iI i)), (0, .ref X.2.2.2.1), (1, .ref (X.1 + 0)), (2, .ref (X.1 + 248)), (3, .ref (X.1 + 260))]) [.int (iI k)] μ'
  refine K_iload (md := mL_law) (pc := 2355) 1 (kTab_at (pc := 2355) tL_law_34_ok 19 rfl) rfl ?_
  refine K_icmp_eq (md := mL_law) (pc := 2357) (r := (μ', 0, 0)) (A := some (μ', 0, 0)) (B := none) (tgt := 2362) (kTab_at (pc := 2357) tL_law_34_ok 20 rfl) rfl (ieq_t gk) (fun _ => ?_) (fun h => nomatch h)
  refine K_iload (md := mL_law) (pc := 2362) 1 (kTab_at (pc := 2362) tL_law_34_ok 23 rfl) rfl ?_
  by_cases hk : k = 0
  · refine K_if_ne (md := mL_law) (pc := 2364) (r := (μ', 0, 0)) (A := none) (B := some (μ', 0, 0)) (tgt := 2379) (kTab_at (pc := 2364) tL_law_34_ok 24 rfl) rfl (ieq_y gk hk) (fun h => nomatch h) (fun _ => ?_)
    have hc := hcmp hk
    refine K_aload_n (md := mL_law) (pc := 2367) 6 (kTab_at (pc := 2367) tL_law_34_ok 25 rfl) rfl ?_
    refine K_iconst (md := mL_law) (pc := 2368) (x := 0) (kTab_at (pc := 2368) tL_law_34_ok 26 rfl) rfl ?_
    refine K_lald (md := mL_law) (pc := 2369) (r := (μ', 0, 0)) (k0 := fun _ => some (μ', 0, 0)) (kTab_at (pc := 2369) tL_law_34_ok 27 rfl) sk_260 (by decide) rd_260 (fun _ => ?_)
    refine K_iload (md := mL_law) (pc := 2370) 0 (kTab_at (pc := 2370) tL_law_34_ok 28 rfl) rfl ?_
    refine K_i2l (md := mL_law) (pc := 2372) (r := (μ', 0, 0)) (k0 := some (μ', 0, 0)) (kTab_at (pc := 2372) tL_law_34_ok 29 rfl) (cmpI_of hc).1 (fun _ => ?_)
    refine K_lcmp_eq (md := mL_law) (pc := 2373) (r := (μ', 0, 0)) (A := some (μ', 0, 0)) (B := none) (tgt := 2379) (kTab_at (pc := 2373) tL_law_34_ok 30 rfl) (kTab_at (pc := 2374) tL_law_34_ok 31 rfl) rfl (cmpI_of hc).2 (fun _ => ?_) (fun h => nomatch h)
    refine K_goto (md := mL_law) (pc := 2379) (tgt := 2483) (kTab_at (pc := 2379) tL_law_34_ok 34 rfl) rfl ?_
    exact KJ_sub (fun q hq => List.mem_cons_of_mem _ (List.mem_cons_of_mem _ hq)) kk
  · refine K_if_ne (md := mL_law) (pc := 2364) (r := (μ', 0, 0)) (A := some (μ', 0, 0)) (B := none) (tgt := 2379) (kTab_at (pc := 2364) tL_law_34_ok 24 rfl) rfl (ieq_n gk hk) (fun _ => ?_) (fun h => nomatch h)
    refine K_goto (md := mL_law) (pc := 2379) (tgt := 2483) (kTab_at (pc := 2379) tL_law_34_ok 34 rfl) rfl ?_
    exact KJ_sub (fun q hq => List.mem_cons_of_mem _ (List.mem_cons_of_mem _ hq)) kk
def lc_undo  (μ : Mu) : Option Mu := lcase (hp 0 [0] (f_X10_undo  μ)) (fun μ => f_X11_undo  μ) cmpI
theorem mh_undo : kMSH RL 251 mL_undo hh_undo 2 := ⟨inT5 235 (by decide +kernel) rfl, inT5 236 (by decide +kernel) rfl, inT5 237 (by decide +kernel) rfl, inT1 0 (by decide +kernel) rfl, by decide +kernel, by decide +kernel⟩
set_option maxRecDepth 100000 in
theorem k_undo (X : kX) (po : kPo) (hL : X.2.2.2.2.1 < 2 ^ 31) (i : Int) (hi : 0 ≤ i ∧ i + 5 ≤ X.2.2.2.2.1) (n : Nat) (μ μ' : Mu) (h : lc_undo  μ = some μ') (kk : KJ X mL_law 9 false po SK n (6 * n) 2483 [(4, .int (iI i)), (0, .ref X.2.2.2.1), (1, .ref (X.1 + 0)), (2, .ref (X.1 + 248)), (3, .ref (X.1 + 260))] [] μ') : KJ X mL_law 9 false po SK (n + 1) (6 * n + 6) 2382 [(4, .int (iI i)), (0, .ref X.2.2.2.1), (1, .ref (X.1 + 0)), (2, .ref (X.1 + 248)), (3, .ref (X.1 + 260))] [] μ := by
  unfold lc_undo at h
  obtain ⟨μ1, k, b, hf, hg, ht, gk, hcmp⟩ := lcase_of (by exact Or.inl rfl) h
  refine K_aload_n (md := mL_law) (pc := 2382) 2 (kTab_at (pc := 2382) tL_law_35_ok 0 rfl) rfl ?_
  refine K_aload_n (md := mL_law) (pc := 2383) 4 (kTab_at (pc := 2383) tL_law_35_ok 1 rfl) rfl ?_
  refine K_callCH (md := mL_law) (pc := 2384) (mdY := mL_undo) (d' := 7) (cr := n) (sr := 6 * n) (μ2 := μ1) (x := k) (st := []) (kTab_at (pc := 2384) tL_law_35_ok 2 rfl) mh_undo rfl (Nat.le_of_ble_eq_true rfl) (by decide) (h_undo X  μ (μ1, 0, k) hf) ?_ rfl
  show KJ X mL_law 9 false po SK n (6 * n) 2387 [(4, .int (iI i)), (0, .ref X.2.2.2.1), (1, .ref (X.1 + 0)), (2, .ref (X.1 + 248)), (3, .ref (X.1 + 260))] [.int (iI k)] μ1
  refine K_istore (md := mL_law) (pc := 2387) (l' := (5, .int (iI k)) :: [(4, .int (iI i)), (0, .ref X.2.2.2.1), (1, .ref (X.1 + 0)), (2, .ref (X.1 + 248)), (3, .ref (X.1 + 260))]) (kTab_at (pc := 2387) tL_law_35_ok 3 rfl) (Nat.le_of_ble_eq_true rfl) rfl ?_
  refine K_aload_n (md := mL_law) (pc := 2389) 4 (kTab_at (pc := 2389) tL_law_35_ok 4 rfl) rfl ?_
  refine K_callC (md := mL_law) (pc := 2390) (d' := 1) (rkY := 1) (μ2 := μ') (x := b) (st := []) (b := 248) (kTab_at (pc := 2390) tL_law_35_ok 5 rfl) mv_L_253 sk_248 rfl (Nat.le_of_ble_eq_true rfl) (by decide) rfl (c_X11_undo X  μ1) hg ?_ rfl
  show KJ X mL_law 9 false po SK n (6 * n) 2393 ((5, .int (iI k)) :: [(4, .int (iI i)), (0, .ref X.2.2.2.1), (1, .ref (X.1 + 0)), (2, .ref (X.1 + 248)), (3, .ref (X.1 + 260))]) [.int (iI b)] μ'
  refine K_istore (md := mL_law) (pc := 2393) (l' := (6, .int (iI b)) :: (5, .int (iI k)) :: [(4, .int (iI i)), (0, .ref X.2.2.2.1), (1, .ref (X.1 + 0)), (2, .ref (X.1 + 248)), (3, .ref (X.1 + 260))]) (kTab_at (pc := 2393) tL_law_35_ok 6 rfl) (Nat.le_of_ble_eq_true rfl) rfl ?_
  refine K_aload_n (md := mL_law) (pc := 2395) 5 (kTab_at (pc := 2395) tL_law_35_ok 7 rfl) rfl ?_
  refine K_callC (md := mL_law) (pc := 2396) (d' := 0) (rkY := 1) (μ2 := μ') (x := μ' 248 0) (st := []) (b := 248) (kTab_at (pc := 2396) tL_law_35_ok 8 rfl) mv_L_142 sk_248 rfl (Nat.le_of_ble_eq_true rfl) (by decide) rfl (c_X11_thrown X μ') rfl ?_ rfl
  rw [ht]
  show KJ X mL_law 9 false po SK n (6 * n) 2399 ((6, .int (iI b)) :: (5, .int (iI k)) :: [(4, .int (iI i)), (0, .ref X.2.2.2.1), (1, .ref (X.1 + 0)), (2, .ref (X.1 + 248)), (3, .ref (X.1 + 260))]) [.int (iI k)] μ'
  refine K_iload (md := mL_law) (pc := 2399) 1 (kTab_at (pc := 2399) tL_law_35_ok 9 rfl) rfl ?_
  refine K_icmp_eq (md := mL_law) (pc := 2401) (r := (μ', 0, 0)) (A := some (μ', 0, 0)) (B := none) (tgt := 2406) (kTab_at (pc := 2401) tL_law_35_ok 10 rfl) rfl (ieq_t gk) (fun _ => ?_) (fun h => nomatch h)
  refine K_iload (md := mL_law) (pc := 2406) 1 (kTab_at (pc := 2406) tL_law_35_ok 13 rfl) rfl ?_
  by_cases hk : k = 0
  · refine K_if_ne (md := mL_law) (pc := 2408) (r := (μ', 0, 0)) (A := none) (B := some (μ', 0, 0)) (tgt := 2423) (kTab_at (pc := 2408) tL_law_35_ok 14 rfl) rfl (ieq_y gk hk) (fun h => nomatch h) (fun _ => ?_)
    have hc := hcmp hk
    refine K_aload_n (md := mL_law) (pc := 2411) 6 (kTab_at (pc := 2411) tL_law_35_ok 15 rfl) rfl ?_
    refine K_iconst (md := mL_law) (pc := 2412) (x := 0) (kTab_at (pc := 2412) tL_law_35_ok 16 rfl) rfl ?_
    refine K_lald (md := mL_law) (pc := 2413) (r := (μ', 0, 0)) (k0 := fun _ => some (μ', 0, 0)) (kTab_at (pc := 2413) tL_law_35_ok 17 rfl) sk_260 (by decide) rd_260 (fun _ => ?_)
    refine K_iload (md := mL_law) (pc := 2414) 0 (kTab_at (pc := 2414) tL_law_35_ok 18 rfl) rfl ?_
    refine K_i2l (md := mL_law) (pc := 2416) (r := (μ', 0, 0)) (k0 := some (μ', 0, 0)) (kTab_at (pc := 2416) tL_law_35_ok 19 rfl) (cmpI_of hc).1 (fun _ => ?_)
    refine K_lcmp_eq (md := mL_law) (pc := 2417) (r := (μ', 0, 0)) (A := some (μ', 0, 0)) (B := none) (tgt := 2423) (kTab_at (pc := 2417) tL_law_35_ok 20 rfl) (kTab_at (pc := 2418) tL_law_35_ok 21 rfl) rfl (cmpI_of hc).2 (fun _ => ?_) (fun h => nomatch h)
    refine K_goto (md := mL_law) (pc := 2423) (tgt := 2483) (kTab_at (pc := 2423) tL_law_35_ok 24 rfl) rfl ?_
    exact KJ_sub (fun q hq => List.mem_cons_of_mem _ (List.mem_cons_of_mem _ hq)) kk
  · refine K_if_ne (md := mL_law) (pc := 2408) (r := (μ', 0, 0)) (A := some (μ', 0, 0)) (B := none) (tgt := 2423) (kTab_at (pc := 2408) tL_law_35_ok 14 rfl) rfl (ieq_n gk hk) (fun _ => ?_) (fun h => nomatch h)
    refine K_goto (md := mL_law) (pc := 2423) (tgt := 2483) (kTab_at (pc := 2423) tL_law_35_ok 24 rfl) rfl ?_
    exact KJ_sub (fun q hq => List.mem_cons_of_mem _ (List.mem_cons_of_mem _ hq)) kk
def lc_save  (μ : Mu) : Option Mu := ldir (f_X10_save  μ) (fun μ => f_X11_save  μ)
set_option maxRecDepth 100000 in
theorem k_save (X : kX) (po : kPo) (hL : X.2.2.2.2.1 < 2 ^ 31) (i : Int) (hi : 0 ≤ i ∧ i + 5 ≤ X.2.2.2.2.1) (n : Nat) (μ μ' : Mu) (h : lc_save  μ = some μ') (kk : KJ X mL_law 9 false po SK n (6 * n) 2483 [(4, .int (iI i)), (0, .ref X.2.2.2.1), (1, .ref (X.1 + 0)), (2, .ref (X.1 + 248)), (3, .ref (X.1 + 260))] [] μ') : KJ X mL_law 9 false po SK (n + 1) (6 * n + 6) 2426 [(4, .int (iI i)), (0, .ref X.2.2.2.1), (1, .ref (X.1 + 0)), (2, .ref (X.1 + 248)), (3, .ref (X.1 + 260))] [] μ := by
  unfold lc_save at h
  obtain ⟨μ1, b, hf, hg, gb⟩ := ldir_of h
  refine KJ_less (cr' := n) (sr' := 6 * n) (by omega) (by omega) ?_
  refine K_aload_n (md := mL_law) (pc := 2426) 2 (kTab_at (pc := 2426) tL_law_36_ok 0 rfl) rfl ?_
  refine K_callC (md := mL_law) (pc := 2427) (d' := 3) (rkY := 1) (μ2 := μ1) (x := b) (st := []) (b := 0) (kTab_at (pc := 2427) tL_law_36_ok 1 rfl) mv_L_254 sk_0 rfl (Nat.le_of_ble_eq_true rfl) (by decide) rfl (c_X10_save X μ) hf ?_ rfl
  show KJ X mL_law 9 false po SK n (6 * n) 2430 [(4, .int (iI i)), (0, .ref X.2.2.2.1), (1, .ref (X.1 + 0)), (2, .ref (X.1 + 248)), (3, .ref (X.1 + 260))] [.int (iI b)] μ1
  refine K_aload_n (md := mL_law) (pc := 2430) 3 (kTab_at (pc := 2430) tL_law_36_ok 2 rfl) rfl ?_
  refine K_callC (md := mL_law) (pc := 2431) (d' := 0) (rkY := 1) (μ2 := μ') (x := b) (st := [.int (iI b)]) (b := 248) (kTab_at (pc := 2431) tL_law_36_ok 3 rfl) mv_L_257 sk_248 rfl (Nat.le_of_ble_eq_true rfl) (by decide) rfl (c_X11_save X μ1) hg ?_ rfl
  show KJ X mL_law 9 false po SK n (6 * n) 2434 [(4, .int (iI i)), (0, .ref X.2.2.2.1), (1, .ref (X.1 + 0)), (2, .ref (X.1 + 248)), (3, .ref (X.1 + 260))] [.int (iI b), .int (iI b)] μ'
  refine K_icmp_eq (md := mL_law) (pc := 2434) (r := (μ', 0, 0)) (A := some (μ', 0, 0)) (B := none) (tgt := 2483) (kTab_at (pc := 2434) tL_law_36_ok 4 rfl) rfl (ieq_t gb) (fun _ => ?_) (fun h => nomatch h)
  exact kk
def lc_restore  (μ : Mu) : Option Mu := lcase (hp 0 [0] (f_X10_restore  μ)) (fun μ => f_X11_restore  μ) cmpI
theorem mh_restore : kMSH RL 258 mL_restore hh_restore 2 := ⟨inT6 7 (by decide +kernel) rfl, inT6 8 (by decide +kernel) rfl, inT6 9 (by decide +kernel) rfl, inT1 0 (by decide +kernel) rfl, by decide +kernel, by decide +kernel⟩
set_option maxRecDepth 100000 in
theorem k_restore (X : kX) (po : kPo) (hL : X.2.2.2.2.1 < 2 ^ 31) (i : Int) (hi : 0 ≤ i ∧ i + 5 ≤ X.2.2.2.2.1) (n : Nat) (μ μ' : Mu) (h : lc_restore  μ = some μ') (kk : KJ X mL_law 9 false po SK n (6 * n) 2483 [(4, .int (iI i)), (0, .ref X.2.2.2.1), (1, .ref (X.1 + 0)), (2, .ref (X.1 + 248)), (3, .ref (X.1 + 260))] [] μ') : KJ X mL_law 9 false po SK (n + 1) (6 * n + 6) 2439 [(4, .int (iI i)), (0, .ref X.2.2.2.1), (1, .ref (X.1 + 0)), (2, .ref (X.1 + 248)), (3, .ref (X.1 + 260))] [] μ := by
  unfold lc_restore at h
  obtain ⟨μ1, k, b, hf, hg, ht, gk, hcmp⟩ := lcase_of (by exact Or.inl rfl) h
  refine K_aload_n (md := mL_law) (pc := 2439) 2 (kTab_at (pc := 2439) tL_law_37_ok 0 rfl) rfl ?_
  refine K_aload_n (md := mL_law) (pc := 2440) 4 (kTab_at (pc := 2440) tL_law_37_ok 1 rfl) rfl ?_
  refine K_callCH (md := mL_law) (pc := 2441) (mdY := mL_restore) (d' := 7) (cr := n) (sr := 6 * n) (μ2 := μ1) (x := k) (st := []) (kTab_at (pc := 2441) tL_law_37_ok 2 rfl) mh_restore rfl (Nat.le_of_ble_eq_true rfl) (by decide) (h_restore X  μ (μ1, 0, k) hf) ?_ rfl
  show KJ X mL_law 9 false po SK n (6 * n) 2444 [(4, .int (iI i)), (0, .ref X.2.2.2.1), (1, .ref (X.1 + 0)), (2, .ref (X.1 + 248)), (3, .ref (X.1 + 260))] [.int (iI k)] μ1
  refine K_istore (md := mL_law) (pc := 2444) (l' := (5, .int (iI k)) :: [(4, .int (iI i)), (0, .ref X.2.2.2.1), (1, .ref (X.1 + 0)), (2, .ref (X.1 + 248)), (3, .ref (X.1 + 260))]) (kTab_at (pc := 2444) tL_law_37_ok 3 rfl) (Nat.le_of_ble_eq_true rfl) rfl ?_
  refine K_aload_n (md := mL_law) (pc := 2446) 4 (kTab_at (pc := 2446) tL_law_37_ok 4 rfl) rfl ?_
  refine K_callC (md := mL_law) (pc := 2447) (d' := 2) (rkY := 1) (μ2 := μ') (x := b) (st := []) (b := 248) (kTab_at (pc := 2447) tL_law_37_ok 5 rfl) mv_L_260 sk_248 rfl (Nat.le_of_ble_eq_true rfl) (by decide) rfl (c_X11_restore X  μ1) hg ?_ rfl
  show KJ X mL_law 9 false po SK n (6 * n) 2450 ((5, .int (iI k)) :: [(4, .int (iI i)), (0, .ref X.2.2.2.1), (1, .ref (X.1 + 0)), (2, .ref (X.1 + 248)), (3, .ref (X.1 + 260))]) [.int (iI b)] μ'
  refine K_istore (md := mL_law) (pc := 2450) (l' := (6, .int (iI b)) :: (5, .int (iI k)) :: [(4, .int (iI i)), (0, .ref X.2.2.2.1), (1, .ref (X.1 + 0)), (2, .ref (X.1 + 248)), (3, .ref (X.1 + 260))]) (kTab_at (pc := 2450) tL_law_37_ok 6 rfl) (Nat.le_of_ble_eq_true rfl) rfl ?_
  refine K_aload_n (md := mL_law) (pc := 2452) 5 (kTab_at (pc := 2452) tL_law_37_ok 7 rfl) rfl ?_
  refine K_callC (md := mL_law) (pc := 2453) (d' := 0) (rkY := 1) (μ2 := μ') (x := μ' 248 0) (st := []) (b := 248) (kTab_at (pc := 2453) tL_law_37_ok 8 rfl) mv_L_142 sk_248 rfl (Nat.le_of_ble_eq_true rfl) (by decide) rfl (c_X11_thrown X μ') rfl ?_ rfl
  rw [ht]
  show KJ X mL_law 9 false po SK n (6 * n) 2456 ((6, .int (iI b)) :: (5, .int (iI k)) :: [(4, .int (iI i)), (0, .ref X.2.2.2.1), (1, .ref (X.1 + 0)), (2, .ref (X.1 + 248)), (3, .ref (X.1 + 260))]) [.int (iI k)] μ'
  refine K_iload (md := mL_law) (pc := 2456) 1 (kTab_at (pc := 2456) tL_law_37_ok 9 rfl) rfl ?_
  refine K_icmp_eq (md := mL_law) (pc := 2458) (r := (μ', 0, 0)) (A := some (μ', 0, 0)) (B := none) (tgt := 2463) (kTab_at (pc := 2458) tL_law_37_ok 10 rfl) rfl (ieq_t gk) (fun _ => ?_) (fun h => nomatch h)
  refine K_iload (md := mL_law) (pc := 2463) 1 (kTab_at (pc := 2463) tL_law_37_ok 13 rfl) rfl ?_
  by_cases hk : k = 0
  · refine K_if_ne (md := mL_law) (pc := 2465) (r := (μ', 0, 0)) (A := none) (B := some (μ', 0, 0)) (tgt := 2480) (kTab_at (pc := 2465) tL_law_37_ok 14 rfl) rfl (ieq_y gk hk) (fun h => nomatch h) (fun _ => ?_)
    have hc := hcmp hk
    refine K_aload_n (md := mL_law) (pc := 2468) 6 (kTab_at (pc := 2468) tL_law_37_ok 15 rfl) rfl ?_
    refine K_iconst (md := mL_law) (pc := 2469) (x := 0) (kTab_at (pc := 2469) tL_law_37_ok 16 rfl) rfl ?_
    refine K_lald (md := mL_law) (pc := 2470) (r := (μ', 0, 0)) (k0 := fun _ => some (μ', 0, 0)) (kTab_at (pc := 2470) tL_law_37_ok 17 rfl) sk_260 (by decide) rd_260 (fun _ => ?_)
    refine K_iload (md := mL_law) (pc := 2471) 0 (kTab_at (pc := 2471) tL_law_37_ok 18 rfl) rfl ?_
    refine K_i2l (md := mL_law) (pc := 2473) (r := (μ', 0, 0)) (k0 := some (μ', 0, 0)) (kTab_at (pc := 2473) tL_law_37_ok 19 rfl) (cmpI_of hc).1 (fun _ => ?_)
    refine K_lcmp_eq (md := mL_law) (pc := 2474) (r := (μ', 0, 0)) (A := some (μ', 0, 0)) (B := none) (tgt := 2480) (kTab_at (pc := 2474) tL_law_37_ok 20 rfl) (kTab_at (pc := 2475) tL_law_37_ok 21 rfl) rfl (cmpI_of hc).2 (fun _ => ?_) (fun h => nomatch h)
    refine K_goto (md := mL_law) (pc := 2480) (tgt := 2483) (kTab_at (pc := 2480) tL_law_37_ok 24 rfl) rfl ?_
    exact KJ_sub (fun q hq => List.mem_cons_of_mem _ (List.mem_cons_of_mem _ hq)) kk
  · refine K_if_ne (md := mL_law) (pc := 2465) (r := (μ', 0, 0)) (A := some (μ', 0, 0)) (B := none) (tgt := 2480) (kTab_at (pc := 2465) tL_law_37_ok 14 rfl) rfl (ieq_n gk hk) (fun _ => ?_) (fun h => nomatch h)
    refine K_goto (md := mL_law) (pc := 2480) (tgt := 2483) (kTab_at (pc := 2480) tL_law_37_ok 24 rfl) rfl ?_
    exact KJ_sub (fun q hq => List.mem_cons_of_mem _ (List.mem_cons_of_mem _ hq)) kk

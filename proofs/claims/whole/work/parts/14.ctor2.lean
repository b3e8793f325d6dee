/-! constructors: calls, arrays of references, Arrays.fill -/
def poN (sk' : List Kd) (μ' : Mu) : kPo := (fun v s m => v = none ∧ s = sk' ∧ m = μ', fun _ _ _ => False)
def fillM (μ : Mu) (a n : Nat) (v : Int) : Mu := fun x k => if x = a ∧ k < n then v else μ x k
theorem fillM_put {μ c : Mu} {b i n : Nat} {v : Int} : fillM (putM μ b c) (b + i) n v = putM μ b (fillM c i n v) := by
  funext a k
  unfold fillM putM
  by_cases h : a < b
  · rw [if_neg (by omega), if_pos h, if_pos h]
  · rw [if_neg h, if_neg h]
    by_cases e : a = b + i ∧ k < n
    · rw [if_pos e]; dsimp only; rw [if_pos (by omega)]
    · rw [if_neg e]; dsimp only; rw [if_neg (by omega)]
theorem zb_fill {c : Mu} {m i n : Nat} {v : Int} (h : zb c m) (hi : i < m) : zb (fillM c i n v) m := by
  intro j q hj
  unfold fillM
  rw [if_neg (by omega)]; exact h j q hj
theorem fillM_up {μ : Mu} {a j : Nat} {v : Int} : up2 (fillM μ a j v) a j v = fillM μ a (j + 1) v := by
  funext x k
  unfold up2 fillM
  by_cases e : x = a ∧ k = j
  · rw [if_pos e, if_pos (by omega)]
  · rw [if_neg e]
    by_cases e2 : x = a ∧ k < j
    · rw [if_pos e2, if_pos (by omega)]
    · rw [if_neg e2, if_neg (by omega)]
theorem fillM_0 {μ : Mu} {a : Nat} {v : Int} : fillM μ a 0 v = μ := by
  funext x k
  unfold fillM
  rw [if_neg (by omega)]
theorem n_fill5 (X : kX) {sk : List Kd} {ex : Bool} {a n : Nat} {r0 : Nat → Option Nat} (h0 : sk[a]? = some (.inl (0, n, r0))) (hn : n < 2 ^ 31) (v : Int) (μ : Mu) : ∀ (m j : Nat), j + m = n →
    KJ X mJ7_fill_53178 0 ex (poN sk (fillM μ a n v)) sk 0 0 5 [(2, .int (iI (j : Int))), (3, .int (iI (n : Int))), (0, .ref (X.1 + a)), (1, .int (iI v))] [] (fillM μ a j v) := by
  intro m
  induction m with
  | zero =>
    intro j hj
    have hj : j = n := by omega
    subst hj
    refine K_iload_n (md := mJ7_fill_53178) (pc := 5) 0 (kTab_at (pc := 5) tJ7_fill_53178_ok 5 rfl) rfl ?_
    refine K_iload_n (md := mJ7_fill_53178) (pc := 6) 1 (kTab_at (pc := 6) tJ7_fill_53178_ok 6 rfl) rfl ?_
    refine K_icmp_ge (md := mJ7_fill_53178) (pc := 7) (A := some (μ, 0, 0)) (B := none) (r := (μ, 0, 0)) (kTab_at (pc := 7) tJ7_fill_53178_ok 7 rfl) (tgt := 20) rfl (by unfold i_lt; rw [if_pos (by omega), if_neg (by omega)]) (fun _ => ?_) (fun h => nomatch h)
    exact K_vret (md := mJ7_fill_53178) (pc := 20) (kTab_at (pc := 20) tJ7_fill_53178_ok 14 rfl) rfl ⟨rfl, rfl, rfl⟩
  | succ m ih =>
    intro j hj
    refine K_iload_n (md := mJ7_fill_53178) (pc := 5) 0 (kTab_at (pc := 5) tJ7_fill_53178_ok 5 rfl) rfl ?_
    refine K_iload_n (md := mJ7_fill_53178) (pc := 6) 1 (kTab_at (pc := 6) tJ7_fill_53178_ok 6 rfl) rfl ?_
    refine K_icmp_ge (md := mJ7_fill_53178) (pc := 7) (B := some (μ, 0, 0)) (A := none) (r := (μ, 0, 0)) (kTab_at (pc := 7) tJ7_fill_53178_ok 7 rfl) (tgt := 20) rfl (by unfold i_lt; rw [if_pos (by omega), if_pos (by omega)]) (fun h => nomatch h) (fun _ => ?_)
    refine K_aload_n (md := mJ7_fill_53178) (pc := 10) 2 (kTab_at (pc := 10) tJ7_fill_53178_ok 8 rfl) rfl ?_
    refine K_iload_n (md := mJ7_fill_53178) (pc := 11) 0 (kTab_at (pc := 11) tJ7_fill_53178_ok 9 rfl) rfl ?_
    refine K_iload_n (md := mJ7_fill_53178) (pc := 12) 3 (kTab_at (pc := 12) tJ7_fill_53178_ok 10 rfl) rfl ?_
    refine K_iast (md := mJ7_fill_53178) (pc := 13) (k0 := fun _ => some (μ, 0, 0)) (r := (μ, 0, 0)) (kTab_at (pc := 13) tJ7_fill_53178_ok 11 rfl) h0 hn (by unfold wrI; rw [if_pos (by omega)]) (fun _ => ?_)
    rw [Int.toNat_natCast, fillM_up]
    refine K_iinc (md := mJ7_fill_53178) (pc := 14) (l' := [(2, .int (iI ((j + 1 : Nat) : Int))), (3, .int (iI (n : Int))), (0, .ref (X.1 + a)), (1, .int (iI v))]) 0 (kTab_at (pc := 14) tJ7_fill_53178_ok 12 rfl) rfl (Nat.le_of_ble_eq_true rfl) rfl ?_
    refine K_goto (md := mJ7_fill_53178) (pc := 17) (tgt := 5) (kTab_at (pc := 17) tJ7_fill_53178_ok 13 rfl) rfl ?_
    exact ih (j + 1) (by omega)
theorem n_fill (X : kX) {sk : List Kd} {ex : Bool} {a n : Nat} {r0 : Nat → Option Nat} (h0 : sk[a]? = some (.inl (0, n, r0))) (hn : n < 2 ^ 31) (v : Int) (μ : Mu) : Ct X mJ7_fill_53178 0 sk ex μ 0 0 [.ref (X.1 + a), .int (iI v)] (poN sk (fillM μ a n v)) := by
  refine ct_of (by decide +kernel) rfl (Nat.le_of_ble_eq_true rfl) ?_
  show KJ X mJ7_fill_53178 0 ex (poN sk (fillM μ a n v)) sk 0 0 0 [(0, .ref (X.1 + a)), (1, .int (iI v))] [] μ
  refine K_iconst (md := mJ7_fill_53178) (pc := 0) (x := 0) (kTab_at (pc := 0) tJ7_fill_53178_ok 0 rfl) rfl ?_
  refine K_istore_n (md := mJ7_fill_53178) (pc := 1) (l' := [(2, .int (iI 0)), (0, .ref (X.1 + a)), (1, .int (iI v))]) (kTab_at (pc := 1) tJ7_fill_53178_ok 1 rfl) (Nat.le_of_ble_eq_true rfl) rfl ?_
  refine K_aload_n (md := mJ7_fill_53178) (pc := 2) 1 (kTab_at (pc := 2) tJ7_fill_53178_ok 2 rfl) rfl ?_
  refine K_alen (md := mJ7_fill_53178) (pc := 3) (kTab_at (pc := 3) tJ7_fill_53178_ok 3 rfl) h0 (by decide) ?_
  refine K_istore_n (md := mJ7_fill_53178) (pc := 4) (l' := [(3, .int (iI (n : Int))), (2, .int (iI 0)), (0, .ref (X.1 + a)), (1, .int (iI v))]) (kTab_at (pc := 4) tJ7_fill_53178_ok 4 rfl) (Nat.le_of_ble_eq_true rfl) rfl ?_
  refine K_sub [1, 0, 2, 3] rfl ?_
  have h := n_fill5 X (ex := ex) h0 hn v μ n 0 (Nat.zero_add n)
  rw [fillM_0] at h
  exact h
section CR2
variable {X : kX} {md mdY : kM} {d d' : Nat} {po poY : kPo} {pre suf suf' : List Kd} {ks : Nat → List Kd} {nd : Kd} {cr sr pc b j n N ci idx k r mcY msY t : Nat} {l : List (Nat × Value)} {st As : List Value} {μ c c' m0 : Mu} {x y : Int} {rf rf2 : Nat → Option Nat} {host : String}
theorem C_fill {i : Nat} (hd : decode md.2.1 pc = .ok (.invokestatic idx, 3)) (M : kMS md.1.cls idx mJ7_fill_53178 2) (hst : (st.map fun v => v.category).sum ≤ 8) (hdd : 1 ≤ d) (htab : md.2.2.2.2 = []) (hb : pre.length = b) (hsk : suf[i]? = some (.inl (0, n, rf))) (hn : n < 2 ^ 31) (hc' : fillM c i n x = c')
    (kk : KJ X md d true po (pre ++ suf) cr sr (pc + 3) l st (putM μ b c')) : KJ X md d true po (pre ++ suf) cr sr pc l (.int (iI x) :: .ref (X.1 + (b + i)) :: st) (putM μ b c) := by
  refine K_callS (d' := 0) (mcY := 0) (msY := 0) hd M rfl hst hdd htab (n_fill X (ex := true) (by rw [suf_at hb]; exact hsk) hn x (putM μ b c)) (fun _ v sk' μ' h => by rw [h.2.1]; rfl) (fun v sk' μ' h => ?_) (fun e sk' μ' h => h.elim) rfl
  obtain ⟨rfl, rfl, rfl⟩ := h
  rw [fillM_put, hc']
  exact kk
theorem C_callI (hd : decode md.2.1 pc = .ok (.invokespecial idx, 3)) (hl0 : Cond.methodLink md.1.cls idx mdY.1 ∈ kG) (M2 : Cond.instanceMethod mdY.1 ∈ kG) (M4 : kMf mdY 0) (hnm : mdY.1.name = "<init>") (hrt : mdY.2.2.2.1 = none) (hst : (st.map fun v => v.category).sum ≤ 8) (hdd : d' + 1 ≤ d) (hb : pre.length = b) (hj : suf.length = j)
    (hC : ∀ (pre0 : List Kd) (μ0 : Mu) (b0 : Nat), pre0.length = b0 → zb μ0 b0 → Ct X mdY d' (pre0 ++ [nd]) true μ0 mcY msY [.ref (X.1 + b0)] (poN (pre0 ++ ks b0) (putM μ0 b0 m0)))
    (hzc : zb c j) (hk : (ks (b + j)).length = mcY + 1) (hs' : suf ++ ks (b + j) = suf') (hc' : putM c j m0 = c') (kk : KJ X md d true po (pre ++ suf') cr sr (pc + 3) l st (putM μ b c')) : KJ X md d true po (pre ++ (suf ++ [nd])) (cr + mcY) (sr + msY) pc l (.ref (X.1 + (b + j)) :: st) (putM μ b c) := by
  rw [← List.append_assoc]
  refine K_callI (n := 0) (As := []) (b := b + j) (d' := d') hd hl0 M2 M4 hnm hrt rfl hst hdd (hC (pre ++ suf) (putM μ b c) (b + j) (by rw [List.length_append, hb, hj]) (zb_putM hzc)) (fun _ v sk' μ' h => by
    rw [h.2.1]
    have h9 := hk
    simp only [List.length_append, List.length_cons, List.length_nil]; omega) (fun v sk' μ' h => ?_) (fun e sk' μ' h => h) rfl
  obtain ⟨rfl, rfl, rfl⟩ := h
  rw [putM_in, hc', List.append_assoc, hs']
  exact kk
theorem C_callIN (hd : decode md.2.1 pc = .ok (.invokespecial idx, 3)) (M1 : (md.1.cls, idx, mdY.1, host) ∈ kNM) (M2 : Cond.instanceMethod mdY.1 ∈ kG) (M4 : kMf mdY 0) (hnm : mdY.1.name = "<init>") (hrt : mdY.2.2.2.1 = none) (hst : (st.map fun v => v.category).sum ≤ 8) (hdd : d' + 1 ≤ d) (hb : pre.length = b) (hj : suf.length = j)
    (hC : ∀ (pre0 : List Kd) (μ0 : Mu) (b0 : Nat), pre0.length = b0 → zb μ0 b0 → Ct X mdY d' (pre0 ++ [nd]) true μ0 mcY msY [.ref (X.1 + b0)] (poN (pre0 ++ ks b0) (putM μ0 b0 m0)))
    (hzc : zb c j) (hk : (ks (b + j)).length = mcY + 1) (hs' : suf ++ ks (b + j) = suf') (hc' : putM c j m0 = c') (kk : KJ X md d true po (pre ++ suf') cr sr (pc + 3) l st (putM μ b c')) : KJ X md d true po (pre ++ (suf ++ [nd])) (cr + mcY) (sr + msY) pc l (.ref (X.1 + (b + j)) :: st) (putM μ b c) := by
  rw [← List.append_assoc]
  refine K_callIN (n := 0) (As := []) (b := b + j) (d' := d') hd M1 M2 M4 hnm hrt rfl hst hdd (hC (pre ++ suf) (putM μ b c) (b + j) (by rw [List.length_append, hb, hj]) (zb_putM hzc)) (fun _ v sk' μ' h => by
    rw [h.2.1]
    have h9 := hk
    simp only [List.length_append, List.length_cons, List.length_nil]; omega) (fun v sk' μ' h => ?_) (fun e sk' μ' h => h) rfl
  obtain ⟨rfl, rfl, rfl⟩ := h
  rw [putM_in, hc', List.append_assoc, hs']
  exact kk
theorem C_aast {i q v : Nat} (hd : decode md.2.1 pc = .ok (.aastore, 1)) (ht : (t = 3 ∧ ci = 1) ∨ (t = 4 ∧ ci = 5)) (hb : pre.length = b) (hsk : suf[i]? = some (.inl (t, n, rf))) (hn : n < 2 ^ 31) (hq : q < n) (hv : suf[v]? = some (.inr (ci, rf2))) (hs' : suf.set i (.inl (t, n, rfu rf q (b + v))) = suf')
    (kk : KJ X md d true po (pre ++ suf') cr sr (pc + 1) l st (putM μ b c)) : KJ X md d true po (pre ++ suf) cr sr pc l (.ref (X.1 + (b + v)) :: .int (iI (q : Int)) :: .ref (X.1 + (b + i)) :: st) (putM μ b c) := by
  subst hs'
  intro p l0 e R s m args below meth c0 H locs cells slots mc ms ls C hc hs hl hH hS hz
  obtain ⟨i1, i2⟩ := in_iI (i := (q : Int)) (n := n) (by omega) (by omega) hn
  have hsk' : (pre ++ suf)[b + i]? = some (.inl (t, n, rf)) := by rw [suf_at hb]; exact hsk
  have hv' : (pre ++ suf)[b + v]? = some (.inr (ci, rf2)) := by rw [suf_at hb]; exact hv
  have hA : ∀ rg : Nat → Option Nat, kE X (putM μ b c (b + i)) (.inl (t, n, rg)) = .inl (X.2.2.1 t, n, .inr (.inr (.inr (.inr (fun j => (rg j).map (fun a => X.1 + a)))))) := by
    rcases ht with ⟨rfl, -⟩ | ⟨rfl, -⟩ <;> exact fun _ => rfl
  have g0 := kW_get (X := X) (μ := putM μ b c) hsk'
  rw [hA] at g0
  have hlk : ∃ r : vw_C, kCl[ci]? = some r ∧ (kTys X)[t]? = some (X.2.2.1 t, .object r.1) := by
    rcases ht with ⟨rfl, rfl⟩ | ⟨rfl, rfl⟩
    · exact ⟨_, rfl, rfl⟩
    · exact ⟨_, rfl, rfl⟩
  obtain ⟨r, hr1, hr2⟩ := hlk
  refine va_astq C.1 C.2.1 (C.2.2.2.2.2.2.2.2.1).1 hH.1 kW_D (va_S_at hS) (b + i) t (b + v) ci g0 hr2 (kW_get hv') hr1 i1 hd ?_
  intro H1 locs1 g1 g2 g3
  rw [i2] at g1
  have e9 : va_up (fun j => (rf j).map (fun a => X.1 + a)) ((q : Int).toNat) (some (X.1 + (b + v))) = fun j => (rfu rf q (b + v) j).map (fun a => X.1 + a) := by
    funext j
    unfold va_up rfu
    rw [Int.toNat_natCast]
    by_cases hj : j = q
    · rw [if_pos hj, if_pos hj]; rfl
    · rw [if_neg hj, if_neg hj]
  rw [e9, ← hA, kW_sk hsk', suf_set hb] at g1
  refine W_sized (fun hz1 => ?_)
  have hz9 := hz rfl
  have a1 := hH.2 rfl
  have hln : (pre ++ suf.set i (.inl (t, n, rfu rf q (b + v)))).length = (pre ++ suf).length := by rw [List.length_append, List.length_append, List.length_set]
  have hsz : H1.size = X.1 + (pre ++ suf.set i (.inl (t, n, rfu rf q (b + v)))).length := by
    have hl9 : (pre ++ suf).length - 1 < (pre ++ suf).length := by
      have := (List.getElem?_eq_some_iff.mp hsk').1
      omega
    have hl8 : (pre ++ suf).length - 1 < (pre ++ suf.set i (.inl (t, n, rfu rf q (b + v)))).length := by rw [hln]; exact hl9
    have a4 := (g1 _ _ (kW_get (X := X) (μ := putM μ b c) (List.getElem?_eq_getElem hl8))).lt
    rw [hln]
    omega
  exact kk p l0 e R s m args below meth c0 H1 locs1 cells slots mc ms ls C hc hs hl ⟨g1, fun _ => hsz⟩ (va_S_tr hS g3) (fun _ => by rw [hsz, hln]; omega)
end CR2

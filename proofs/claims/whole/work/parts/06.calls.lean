/-! returns, throws, calls -/
def cq (res : Res) : Nat := if res.2.1 = 0 then 0 else 1
def rvO (rk : Nat) (x : Int) : Option Value := match rk with
  | 0 => none
  | 1 => some (.int (iI x))
  | _ => some (.long (iL x))
def poR (rk : Nat) (sk : List Kd) (res : Res) : kPo := (fun v sk' μ' => sk' = sk ∧ res.2.1 = 0 ∧ μ' = res.1 ∧ v = rvO rk res.2.2, fun e sk' μ' => sk' = sk ∧ res.2.1 = e + 1 ∧ μ' = res.1)
def retZ (μ : Mu) (x : Int) : Option Res := if x = 0 ∨ x = 1 then some (μ, 0, x) else none
def kTH (own : String) (ic e : Nat) : Prop := Bundle.fit (exName e) = true ∧ Cond.initialized (exName e) ∈ kG ∧
  (∀ w ∈ vx_atS own ic (exName e) ["java/lang/RuntimeException", "java/lang/Exception"], w ∈ kG ∨ (∃ q ∈ kNC, w = .castable q.1 q.2) ∨ (∃ q ∈ kND, w = .declares q)) ∧
  (∀ w ∈ vx_atS own ic (exName e) ["java/lang/RuntimeException", "java/lang/Exception"], vx_ot w = true)
def kMf (mdY : kM) (n : Nat) : Prop := Cond.code mdY.1 mdY.2.1 mdY.2.2.1 mdY.2.2.2.1 ∈ kG ∧ Cond.initialized mdY.1.cls ∈ kG ∧ (mdY.1.cls ≠ "java/lang/invoke/MethodHandle" ∧ mdY.1.cls ≠ "java/lang/invoke/VarHandle" ∧ (parseMethodDescriptor mdY.1.desc).map (fun d => d.parameters.length) = some n) ∧ mdY.2.2.1 ≤ 40
def kMV (own : String) (idx : Nat) (mdY : kM) (n ci : Nat) : Prop := Cond.methodLink own idx mdY.1 ∈ kG ∧ Cond.instanceMethod mdY.1 ∈ kG ∧ Cond.selects mdY.1.cls mdY.1 mdY.1 ∈ kG ∧ kMf mdY n ∧ ∃ (T : u_T) (N : Nat), kCl[ci]? = some (mdY.1.cls, T, N)
def kMS (own : String) (idx : Nat) (mdY : kM) (n : Nat) : Prop := Cond.methodLink own idx mdY.1 ∈ kG ∧ Cond.static mdY.1 ∈ kG ∧ kMf mdY n
def kMSN (own : String) (idx : Nat) (mdY : kM) (n : Nat) (host : String) : Prop := (own, idx, mdY.1, host) ∈ kNM ∧ Cond.static mdY.1 ∈ kG ∧ kMf mdY n
theorem kG_good {w : Cond} (h : w ∈ kG) : (w.onTables && w.keeps) = true ∨ ∃ ty, w = .arrayClass ty := good_of_word (List.mem_filter.mp h).2
theorem kPc_blind {X : kX} {sk : List Kd} {ex : Bool} {μ : Mu} {args : List Value} : FrameBlind (kPc X sk ex μ args) := by
  intro a U g mk h
  obtain ⟨h1, h2, h3, h4⟩ := h
  exact ⟨h1, EU.go (s := U) (U := U.calling g mk a) (State.WarmedH.refl U) (fun _ _ _ => rfl) h2, h3, h4⟩
theorem kF_trans {X : kX} {s t : State} {H : Heap} {locs : List Loc} (h : va_S (kFree X) s.heap H locs) (ht : t.heap = H) : va_F (kFree X) s t := h.F ht
section KR3
variable {X : kX} {md mdY : kM} {d d' : Nat} {ex : Bool} {po poY : kPo} {sk : List Kd} {cr sr pc mcY msY : Nat} {l : List (Nat × Value)} {st As : List Value} {μ : Mu} {res : Res} {x y : Int} {a b n ci k idx : Nat} {rf : Nat → Option Nat} {own : String}
theorem K_iret {ty : FieldType} (hd : decode md.2.1 pc = .ok (.ireturn, 1)) (hr : md.2.2.2.1 = some ty) (hn : narrow ty (.int (iI x)) = .int (iI x)) (hp : po.1 (some (.int (iI x))) sk μ) : KJ X md d ex po sk cr sr pc l [.int (iI x)] μ := by
  intro p l0 e R s m args below meth c H locs cells slots mc ms ls C hc hs hl hH hS hz
  by_cases hex : ex = true
  · refine W.widen (k := mc) (n := ms) (by omega) (by omega) (vx_ret ?_)
    exact W.zret C.1 C.2.1 (C.2.2.2.1.trans hr) hn (fun t ht hW => ⟨_, sk, μ, rfl, hp, by rw [ht]; exact hH, hS.F ht⟩) hS.2.2 hd C.2.2.2.2.1
  · refine W.widen (k := mc) (n := ms) (by omega) (by omega) (vx_ret ?_)
    exact W.zret C.1 C.2.1 (C.2.2.2.1.trans hr) hn (fun t ht hW => ⟨_, sk, μ, rfl, hp, by rw [ht]; exact hH, hS.F ht⟩) hS.2.2 hd C.2.2.2.2.1
theorem K_lret (hd : decode md.2.1 pc = .ok (.lreturn, 1)) (hr : md.2.2.2.1 = some .long) (hp : po.1 (some (.long (iL x))) sk μ) : KJ X md d ex po sk cr sr pc l [.long (iL x)] μ := by
  intro p l0 e R s m args below meth c H locs cells slots mc ms ls C hc hs hl hH hS hz
  refine W.widen (k := mc) (n := ms) (by omega) (by omega) (vx_ret ?_)
  exact W.lret C.1 C.2.1 (C.2.2.2.1.trans hr) (fun t ht hW => ⟨_, sk, μ, rfl, hp, by rw [ht]; exact hH, hS.F ht⟩) hS.2.2 hd C.2.2.2.2.1
theorem K_vret (hd : decode md.2.1 pc = .ok (.return_, 1)) (hr : md.2.2.2.1 = none) (hp : po.1 none sk μ) : KJ X md d ex po sk cr sr pc l [] μ := by
  intro p l0 e R s m args below meth c H locs cells slots mc ms ls C hc hs hl hH hS hz
  refine W.widen (k := mc) (n := ms) (by omega) (by omega) (vx_ret ?_)
  exact W.vret C.1 C.2.1 (C.2.2.2.1.trans hr) (fun t ht hW => ⟨_, sk, μ, rfl, hp, by rw [ht]; exact hH, hS.F ht⟩) hS.2.2 hd C.2.2.2.2.1
theorem k_hat {X : kX} {s : State} {args : Array Value} {own : String} {ic e : Nat} (hG : ∀ w ∈ kG, w.before args s = true) (hE : EU X s s.heap) (F : kTH own ic e) : ∀ w ∈ vx_atS own ic (exName e) ["java/lang/RuntimeException", "java/lang/Exception"], w.before args s = true := by
  intro w hw
  rcases F.2.2.1 w hw with h | ⟨q, hq, rfl⟩ | ⟨q, hq, rfl⟩
  · exact hG w h
  · exact va_Nw.use rfl (hE.2.2.1 q hq)
  · exact va_Nw.use rfl (hE.2.2.2.1 q hq)
theorem K_throwS {ik is ic e0 : Nat} {text : String} (F : kTH md.1.cls ic e0) (hk : Cond.classLink md.1.cls ik (exName e0) ∈ kG) (hstr : (md.1.cls, is, text) ∈ kSR) (htab : md.2.2.2.2 = [])
    (d0 : decode md.2.1 pc = .ok (.new ik, 3)) (d3 : decode md.2.1 (pc + 3) = .ok (.dup, 1)) (d4 : decode md.2.1 (pc + 4) = .ok (.ldc is, 2)) (d6 : decode md.2.1 (pc + 6) = .ok (.invokespecial ic, 3)) (d9 : decode md.2.1 (pc + 9) = .ok (.athrow, 1))
    (hp : po.2 e0 sk μ) : KJ X md d ex po sk (cr + 1) (sr + 6) pc l [] μ := by
  intro p l0 e R s m args below meth c H locs cells slots mc ms ls C hc hs hl hH hS hz
  obtain ⟨c1, c2, c3, c4, c5, c6, c7, c8, c9, ⟨r1, r2, r3, r4⟩, c11, c12, c13⟩ := C
  obtain ⟨sa, hsa⟩ := c9.2.2.2.2.1 _ hstr
  refine vx_throwS (names := ["java/lang/RuntimeException", "java/lang/Exception"]) (A := kFree X) c1 c2 c11 c6 F.1 (by decide +kernel) (c8 _ hk) (c8 _ F.2.1) hsa (k_hat c8 c9 F) ?_ c9.2.2.2.2.2.1 c9.2.2.2.2.2.2.1 hS (by rw [hl.1, c3]) d0 d3 d4 d6 d9 (by rw [c12, htab]; exact fun x h => nomatch h)
    (by simp only [List.length_cons, List.length_nil]; omega) (by simp only [List.length_cons, List.length_nil, List.map_nil, List.sum_nil]; omega) (by omega) (by omega) c5 (fun t hA hz1 hk1 => ?_) hS.2.2 (by omega) (by omega)
  · intro w hw
    rcases List.mem_cons.mp hw with rfl | hw
    · rfl
    · rcases List.mem_cons.mp hw with rfl | hw
      · rfl
      · exact F.2.2.2 w hw
  · exact ⟨e0, sk, μ, rfl, hp, ⟨hH.1.kept (fun k q hq => hk1 _ ((hH.1 k q hq).lt)), fun h => by cases h⟩, ⟨Nat.le_trans hS.1 hz1, fun q h1 h2 => (hk1 q (Nat.lt_of_lt_of_le h1 hS.1)).trans (hS.2.1 q h1 h2)⟩⟩
theorem K_throwSW {ik is ic e0 : Nat} {text : String} (F : kTH md.1.cls ic e0) (hk : Cond.classLink md.1.cls ik (exName e0) ∈ kG) (hstr : (md.1.cls, is, text) ∈ kSR) (htab : md.2.2.2.2 = [])
    (d0 : decode md.2.1 pc = .ok (.new ik, 3)) (d3 : decode md.2.1 (pc + 3) = .ok (.dup, 1)) (d4 : decode md.2.1 (pc + 4) = .ok (.ldc_w is, 3)) (d6 : decode md.2.1 (pc + 7) = .ok (.invokespecial ic, 3)) (d9 : decode md.2.1 (pc + 10) = .ok (.athrow, 1))
    (hp : po.2 e0 sk μ) : KJ X md d ex po sk (cr + 1) (sr + 6) pc l [] μ := by
  intro p l0 e R s m args below meth c H locs cells slots mc ms ls C hc hs hl hH hS hz
  obtain ⟨c1, c2, c3, c4, c5, c6, c7, c8, c9, ⟨r1, r2, r3, r4⟩, c11, c12, c13⟩ := C
  obtain ⟨sa, hsa⟩ := c9.2.2.2.2.1 _ hstr
  refine vx_throwSW (names := ["java/lang/RuntimeException", "java/lang/Exception"]) (A := kFree X) c1 c2 c11 c6 F.1 (by decide +kernel) (c8 _ hk) (c8 _ F.2.1) hsa (k_hat c8 c9 F) ?_ c9.2.2.2.2.2.1 c9.2.2.2.2.2.2.1 hS (by rw [hl.1, c3]) d0 d3 d4 d6 d9 (by rw [c12, htab]; exact fun x h => nomatch h)
    (by simp only [List.length_cons, List.length_nil]; omega) (by simp only [List.length_cons, List.length_nil, List.map_nil, List.sum_nil]; omega) (by omega) (by omega) c5 (fun t hA hz1 hk1 => ?_) hS.2.2 (by omega) (by omega)
  · intro w hw
    rcases List.mem_cons.mp hw with rfl | hw
    · rfl
    · rcases List.mem_cons.mp hw with rfl | hw
      · rfl
      · exact F.2.2.2 w hw
  · exact ⟨e0, sk, μ, rfl, hp, ⟨hH.1.kept (fun k q hq => hk1 _ ((hH.1 k q hq).lt)), fun h => by cases h⟩, ⟨Nat.le_trans hS.1 hz1, fun q h1 h2 => (hk1 q (Nat.lt_of_lt_of_le h1 hS.1)).trans (hS.2.1 q h1 h2)⟩⟩
end KR3
section KR4
variable {p : Program} {l0 : Launch} {e : Env} {R : Room} {s : State} {m : MethodId} {args : Array Value} {below : List Frame} {meth : Method} {c : Code} {H : Heap} {locs : List Loc} {cells slots mc ms : Nat} {Q : State → Prop} {ls : Array Slot}
variable {X : kX} {md mdY : kM} {d d' : Nat} {ex : Bool} {poY : kPo} {sk : List Kd} {pc mcY msY : Nat} {st st0 : List Value} {μ : Mu} {a : Array Value}
/-- behind a call that returns or throws -/
theorem K_run (hr : vx_Run p l0 e R s m args below meth c H locs cells slots mcY msY (F0 m pc ls st0) st (kQ X ex poY a) (kQx X poY) (kFree X)) (hS : va_S (kFree X) s.heap H locs)
    (kk : ∀ (v : Option Value) (sk' : List Kd) (μ' : Mu) (H' : Heap) (locs' : List Loc), poY.1 v sk' μ' → kHp X sk' ex μ' H' → va_S (kFree X) s.heap H' locs' → W p l0 e R s m args below meth c H' locs' (cells + mcY) (slots + msY) Q (F0 m (pc + 3) ls (v.toList ++ st)))
    (kx : ∀ (e0 : Nat) (ce : Cell) (q : Addr) (sk' : List Kd) (μ' : Mu) (H' : Heap) (locs' : List Loc), poY.2 e0 sk' μ' → kHp X sk' false μ' H' → va_S (kFree X) s.heap H' locs' → H'[q]? = some ce → ce.vm = .none → s.vm.findClass (exName e0) = some ce.cls → vx_W p l0 e R s m args below meth c H' locs' (cells + mcY) (slots + msY) Q (F0 m pc ls st) q) :
    W p l0 e R s m args below meth c H locs cells slots Q (F0 m pc ls st0) := by
  intro T hT X0
  rcases hr T hT X0 with ⟨v, st₀, t, T', L, h0, X', hL, e1, e2, ⟨v', sk', μ', hv, hp, hb, hF⟩, hst⟩ | ⟨q, st₀, t, T', L, E, ce, h0, X', hL, e1, e2, ⟨e0, sk', μ', hE, hp, hb, hF⟩, hce, hcv, hcl, hst⟩
  · cases hv
    obtain ⟨k1, k2, k3⟩ := vx_keep h0 e1 hS (fun _ _ h => h) (fun _ h => h) hL hF
    obtain ⟨t2, a1, b1⟩ := kk v sk' μ' T'.heap (locs ++ L) hp (by rw [e1]; exact hb) k3 T' rfl X'
    exact ⟨t2, hst t2 a1, b1⟩
  · subst hE
    obtain ⟨k1, k2, k3⟩ := vx_keep h0 e1 hS (fun _ _ h => h) (fun _ h => h) hL hF
    obtain ⟨t2, a1, b1⟩ := kx e0 ce q sk' μ' T'.heap (locs ++ L) hp (by rw [e1]; exact hb) k3 (by rw [e1]; exact hce) hcv hcl T' rfl X'
    exact ⟨t2, hst.trans a1, b1⟩
theorem k_pre (C : kC X md d p l0 R s m args meth c mc ms) (hH : kHp X sk ex μ H) (hS : va_S (kFree X) s.heap H locs) {As : List Value} (U : State) (hU : U.heap = H) (hW : s.WarmedH U.vm) : kPc X sk ex μ As As.toArray U := by
  obtain ⟨c1, c2, c3, c4, c5, c6, c7, c8, c9, c10, c11, c12, c13⟩ := C
  exact ⟨rfl, EU.go hW (by rw [hU]; exact hS.2.1) c9, by rw [hU]; exact hH, by rw [hU]; exact Nat.le_trans c13 hS.1⟩
theorem k_callB {n idx : Nat} (C : kC X md d p l0 R s m args meth c mc ms) (M : kMf mdY n) (hdd : d' + 1 ≤ d) (hl : Cond.methodLink md.1.cls idx mdY.1 ∈ kG) :
    CallB R s args md.1.cls idx mdY.1 mdY.2.1 mdY.2.2.1 mdY.2.2.2.1 (kWs mdY) (kRm d' mcY msY) mcY msY n := by
  obtain ⟨c1, c2, c3, c4, c5, c6, c7, c8, c9, ⟨r1, r2, r3, r4⟩, c11, c12, c13⟩ := C
  obtain ⟨m1, m2, m3, m4⟩ := M
  exact callB_of n c8 (fun w hw => by
    rcases List.mem_cons.mp hw with rfl | hw
    · exact ⟨m1, kG_good m1⟩
    · exact ⟨hw, kG_good hw⟩) rfl rfl rfl (c8 _ m2) (c8 _ hl) m3 ⟨by show 8 + d' + 1 ≤ R.frames; omega, by show 8 + (mdY.2.2.1 + 11) + (d' + 1) * 100 ≤ R.locals; omega⟩
end KR4
section KR5
variable {X : kX} {md mdY : kM} {d d' : Nat} {ex : Bool} {po poY : kPo} {sk : List Kd} {cr sr pc mcY msY : Nat} {l : List (Nat × Value)} {st As : List Value} {μ : Mu} {b n ci idx : Nat} {rf : Nat → Option Nat}
theorem K_callV (hd : decode md.2.1 pc = .ok (.invokevirtual idx, 3)) (M : kMV md.1.cls idx mdY n ci) (hsk : sk[b]? = some (.inr (ci, rf))) (hn : As.length = n) (hst : (st.map fun v => v.category).sum ≤ 8) (hdd : d' + 1 ≤ d) (htab : md.2.2.2.2 = [])
    (hC : Ct X mdY d' sk ex μ mcY msY (.ref (X.1 + b) :: As) poY) (hlen : ex = true → ∀ v sk' μ', poY.1 v sk' μ' → sk'.length = sk.length + mcY)
    (kk : ∀ v sk' μ', poY.1 v sk' μ' → KJ X md d ex po sk' cr sr (pc + 3) l (v.toList ++ st) μ') (kx : ∀ e sk' μ', poY.2 e sk' μ' → po.2 e sk' μ') {st1 : List Value} (hs1 : st1 = As.reverse ++ .ref (X.1 + b) :: st) : KJ X md d ex po sk (cr + mcY) (sr + msY) pc l st1 μ := by
  subst hs1
  intro p l0 e R s m args below meth c H locs cells slots mc ms ls C hc hs hl hH hS hz
  obtain ⟨M1, M2, M3, M4, T, N, M5⟩ := M
  have C' := C
  obtain ⟨c1, c2, c3, c4, c5, c6, c7, c8, c9, ⟨r1, r2, r3, r4⟩, c11, c12, c13⟩ := C'
  refine K_run (vx_runV (As := As) (C := mdY.1.cls) (b := X.1 + b) (rest := st) ⟨c1, c2, c3, c6, c8⟩ (hC l0 c11) ⟨k_callB C M4 hdd M1, c8 _ M2, c8 _ M3⟩ ⟨kPc_blind, va_recv c9.1 hH.1 (q := (mdY.1.cls, T, N)) M5 (kW_get hsk), k_pre C hH hS⟩ rfl hn hl.1 rfl (lv_room hst) hd ⟨by omega, by omega⟩) hS
    (fun v sk' μ' H' locs' hp hH' hS' => kk v sk' μ' hp p l0 e R s m args below meth c H' locs' (cells + mcY) (slots + msY) mc ms ls C (by omega) (by omega) hl hH' hS' (fun h => by have a1 := hH'.2 h; have a2 := hH.2 h; have a3 := hz h; have a4 := hlen h v sk' μ' hp; omega))
    (fun e0 ce q sk' μ' H' locs' hp hH' hS' h1 h2 h3 => vx_out (by rw [c12, htab]; exact fun x h => nomatch h) c5 h1 h2 h3 (fun t ht hA => ⟨e0, sk', μ', rfl, kx e0 sk' μ' hp, by rw [ht]; exact hH', hS'.F ht⟩) hS'.2.2 (by omega) (by omega))
theorem K_callS (hd : decode md.2.1 pc = .ok (.invokestatic idx, 3)) (M : kMS md.1.cls idx mdY n) (hn : As.length = n) (hst : (st.map fun v => v.category).sum ≤ 8) (hdd : d' + 1 ≤ d) (htab : md.2.2.2.2 = [])
    (hC : Ct X mdY d' sk ex μ mcY msY As poY) (hlen : ex = true → ∀ v sk' μ', poY.1 v sk' μ' → sk'.length = sk.length + mcY)
    (kk : ∀ v sk' μ', poY.1 v sk' μ' → KJ X md d ex po sk' cr sr (pc + 3) l (v.toList ++ st) μ') (kx : ∀ e sk' μ', poY.2 e sk' μ' → po.2 e sk' μ') {st1 : List Value} (hs1 : st1 = As.reverse ++ st) : KJ X md d ex po sk (cr + mcY) (sr + msY) pc l st1 μ := by
  subst hs1
  intro p l0 e R s m args below meth c H locs cells slots mc ms ls C hc hs hl hH hS hz
  obtain ⟨M1, M2, M4⟩ := M
  have C' := C
  obtain ⟨c1, c2, c3, c4, c5, c6, c7, c8, c9, ⟨r1, r2, r3, r4⟩, c11, c12, c13⟩ := C'
  refine K_run (vx_runS (As := As) (rest := st) ⟨c1, c2, c3, c6, c8⟩ (hC l0 c11) ⟨k_callB C M4 hdd M1, c8 _ M2⟩ ⟨kPc_blind, k_pre C hH hS⟩ rfl hn hl.1 rfl (lv_room hst) hd ⟨by omega, by omega⟩) hS
    (fun v sk' μ' H' locs' hp hH' hS' => kk v sk' μ' hp p l0 e R s m args below meth c H' locs' (cells + mcY) (slots + msY) mc ms ls C (by omega) (by omega) hl hH' hS' (fun h => by have a1 := hH'.2 h; have a2 := hH.2 h; have a3 := hz h; have a4 := hlen h v sk' μ' hp; omega))
    (fun e0 ce q sk' μ' H' locs' hp hH' hS' h1 h2 h3 => vx_out (by rw [c12, htab]; exact fun x h => nomatch h) c5 h1 h2 h3 (fun t ht hA => ⟨e0, sk', μ', rfl, kx e0 sk' μ' hp, by rw [ht]; exact hH', hS'.F ht⟩) hS'.2.2 (by omega) (by omega))
end KR5

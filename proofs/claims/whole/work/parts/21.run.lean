/-! the law's loop -/
def lcallN : Nat → Int → Int → Int → Int → Mu → Option Mu
  | 0, w1, w2, _, _, μ => lc_setMaximum w1 w2 μ
  | 1, w1, w2, _, _, μ => lc_set w1 w2 μ
  | 2, w1, w2, _, _, μ => lc_addSeed w1 w2 μ
  | 3, w1, w2, w3, w4, μ => lc_markSeed w1 w2 w3 w4 μ
  | 4, w1, w2, _, _, μ => lc_correction w1 w2 μ
  | 5, w1, w2, _, _, μ => lc_isSuspended w1 w2 μ
  | 6, w1, w2, w3, w4, μ => lc_enter w1 w2 w3 w4 μ
  | 7, w1, _, _, _, μ => lc_append w1 μ
  | 8, _, _, _, _, μ => lc_sheet  μ
  | 9, _, _, _, _, μ => lc_errorPosition  μ
  | 10, w1, w2, w3, w4, μ => lc_entry w1 w2 w3 w4 μ
  | 11, w1, w2, w3, _, μ => lc_script w1 w2 w3 μ
  | 12, w1, w2, w3, _, μ => lc_excuse w1 w2 w3 μ
  | 13, w1, w2, _, _, μ => lc_raise w1 w2 μ
  | 14, w1, w2, _, _, μ => lc_setPoint w1 w2 μ
  | 15, w1, _, _, _, μ => lc_removePoint w1 μ
  | 16, w1, _, _, _, μ => lc_curve w1 μ
  | 17, w1, w2, _, _, μ => lc_setBoundary w1 w2 μ
  | 18, w1, w2, _, _, μ => lc_result w1 w2 μ
  | 19, w1, _, _, _, μ => lc_recount w1 μ
  | 20, w1, _, _, _, μ => lc_ranked w1 μ
  | 21, w1, _, _, _, μ => lc_graded w1 μ
  | 22, w1, w2, w3, _, μ => lc_gradeIf w1 w2 w3 μ
  | 23, w1, w2, w3, _, μ => lc_needed w1 w2 w3 μ
  | 24, w1, _, _, _, μ => lc_meanBits w1 μ
  | 25, w1, _, _, _, μ => lc_validBits w1 μ
  | 26, _, _, _, _, μ => lc_publish  μ
  | 27, _, _, _, _, μ => lc_withdraw  μ
  | 28, w1, w2, _, _, μ => lc_appeal w1 w2 μ
  | 29, w1, w2, w3, w4, μ => lc_remark w1 w2 w3 w4 μ
  | 30, w1, _, _, _, μ => lc_account w1 μ
  | 31, _, _, _, _, μ => lc_levels  μ
  | 32, w1, w2, _, _, μ => lc_report w1 w2 μ
  | 33, w1, _, _, _, μ => lc_count w1 μ
  | 34, _, _, _, _, μ => lc_undo  μ
  | 35, _, _, _, _, μ => lc_save  μ
  | 36, _, _, _, _, μ => lc_restore  μ
  | _ + 37, _, _, _, _, μ => some μ
def lcall (v w1 w2 w3 w4 : Int) (μ : Mu) : Option Mu := if v < 0 ∨ 36 < v then some μ else lcallN v.toNat w1 w2 w3 w4 μ
/-- n calls of the script, from its word i on -/
def lrun (w : Nat → Int) : Nat → Int → Mu → Option Mu
  | 0, _, μ => some μ
  | n + 1, i, μ => match lcall (andI (w i.toNat) 63) (w (i + 1).toNat) (w (i + 2).toNat) (w (i + 3).toNat) (w (i + 4).toNat) μ with
    | some μ' => lrun w n (i + 5) μ'
    | none => none
def poL : kPo := (fun v _ _ => v = some (.int (iI 1)), fun _ _ _ => False)
theorem andI_g (x y : Int) : gI (andI x y) := by
  unfold andI gI
  have h1 := Int32.le_toInt (iI x &&& iI y)
  have h2 := Int32.toInt_lt (iI x &&& iI y)
  exact ⟨h1, h2⟩
theorem K_tswV {X : kX} {md : kM} {d : Nat} {ex : Bool} {po : kPo} {sk : List Kd} {cr sr pc : Nat} {l : List (Nat × Value)} {st : List Value} {μ : Mu} {dflt lo hi : Int} {offs : Array Int} {len dt : Nat} {v : Int} (hd : decode md.2.1 pc = .ok (.tableswitch dflt lo hi offs, len)) (g1 : gI v) (hdt : (pc : Int) + dflt = (dt : Int))
    (kin : ∀ j : Nat, v = lo + j → v ≤ hi → ∃ (o : Int) (tgt : Nat), offs.toList[j]? = some o ∧ (pc : Int) + o = (tgt : Int) ∧ KJ X md d ex po sk cr sr tgt l st μ) (kout : v < lo ∨ hi < v → KJ X md d ex po sk cr sr dt l st μ) : KJ X md d ex po sk cr sr pc l (.int (iI v) :: st) μ := by
  intro p l0 e R s m args below meth c H locs cells slots mc ms ls C hc hs hl hH hS hz
  have ex9 : (iI v).toInt = v := iI_toInt g1
  by_cases q : v < lo ∨ hi < v
  · refine lv_tableOut C.1 C.2.1 hd (by rw [ex9]; exact q) hdt ?_
    exact kout q p l0 e R s m args below meth c H locs cells slots mc ms ls C hc hs hl hH hS hz
  · obtain ⟨o, tgt, h1, h3, h4⟩ := kin (v - lo).toNat (by omega) (by omega)
    refine lv_tableIn (off := o) (tgt := tgt) C.1 C.2.1 hd (by rw [ex9]; omega) (by rw [ex9]; omega) (by rw [ex9, ← Array.getElem?_toList]; exact h1) h3 ?_
    exact h4 p l0 e R s m args below meth c H locs cells slots mc ms ls C hc hs hl hH hS hz
set_option maxRecDepth 100000 in
theorem law_in (X : kX) (hL : X.2.2.2.2.1 < 2 ^ 31) (i : Int) (hi : 0 ≤ i ∧ i + 5 ≤ X.2.2.2.2.1) (n : Nat) (μ μ' : Mu) (j : Nat) (hj : j ≤ 36) (h : lcallN j (sw X (i + 1).toNat) (sw X (i + 2).toNat) (sw X (i + 3).toNat) (sw X (i + 4).toNat) μ = some μ') (kk : KJ X mL_law 9 false poL SK n (6 * n) 2483 [(4, .int (iI i)), (0, .ref X.2.2.2.1), (1, .ref (X.1 + 0)), (2, .ref (X.1 + 248)), (3, .ref (X.1 + 260))] [] μ') : ∃ (o : Int) (tgt : Nat), (#[161, 229, 297, 365, 457, 525, 600, 692, 748, 792, 805, 897, 977, 1080, 1148, 1216, 1272, 1328, 1396, 1463, 1519, 1575, 1631, 1711, 1791, 1846, 1902, 1946, 1990, 2058, 2150, 2206, 2219, 2287, 2343, 2387, 2400] : Array Int).toList[j]? = some o ∧ ((39 : Nat) : Int) + o = (tgt : Int) ∧ KJ X mL_law 9 false poL SK (n + 1) (6 * n + 6) tgt [(4, .int (iI i)), (0, .ref X.2.2.2.1), (1, .ref (X.1 + 0)), (2, .ref (X.1 + 248)), (3, .ref (X.1 + 260))] [] μ :=
  match j, hj, h with
  | 0, _, h => ⟨161, 200, rfl, rfl, k_setMaximum X poL hL i hi n μ μ' h kk⟩
  | 1, _, h => ⟨229, 268, rfl, rfl, k_set X poL hL i hi n μ μ' h kk⟩
  | 2, _, h => ⟨297, 336, rfl, rfl, k_addSeed X poL hL i hi n μ μ' h kk⟩
  | 3, _, h => ⟨365, 404, rfl, rfl, k_markSeed X poL hL i hi n μ μ' h kk⟩
  | 4, _, h => ⟨457, 496, rfl, rfl, k_correction X poL hL i hi n μ μ' h kk⟩
  | 5, _, h => ⟨525, 564, rfl, rfl, k_isSuspended X poL hL i hi n μ μ' h kk⟩
  | 6, _, h => ⟨600, 639, rfl, rfl, k_enter X poL hL i hi n μ μ' h kk⟩
  | 7, _, h => ⟨692, 731, rfl, rfl, k_append X poL hL i hi n μ μ' h kk⟩
  | 8, _, h => ⟨748, 787, rfl, rfl, k_sheet X poL hL i hi n μ μ' h kk⟩
  | 9, _, h => ⟨792, 831, rfl, rfl, k_errorPosition X poL hL i hi n μ μ' h kk⟩
  | 10, _, h => ⟨805, 844, rfl, rfl, k_entry X poL hL i hi n μ μ' h kk⟩
  | 11, _, h => ⟨897, 936, rfl, rfl, k_script X poL hL i hi n μ μ' h kk⟩
  | 12, _, h => ⟨977, 1016, rfl, rfl, k_excuse X poL hL i hi n μ μ' h kk⟩
  | 13, _, h => ⟨1080, 1119, rfl, rfl, k_raise X poL hL i hi n μ μ' h kk⟩
  | 14, _, h => ⟨1148, 1187, rfl, rfl, k_setPoint X poL hL i hi n μ μ' h kk⟩
  | 15, _, h => ⟨1216, 1255, rfl, rfl, k_removePoint X poL hL i hi n μ μ' h kk⟩
  | 16, _, h => ⟨1272, 1311, rfl, rfl, k_curve X poL hL i hi n μ μ' h kk⟩
  | 17, _, h => ⟨1328, 1367, rfl, rfl, k_setBoundary X poL hL i hi n μ μ' h kk⟩
  | 18, _, h => ⟨1396, 1435, rfl, rfl, k_result X poL hL i hi n μ μ' h kk⟩
  | 19, _, h => ⟨1463, 1502, rfl, rfl, k_recount X poL hL i hi n μ μ' h kk⟩
  | 20, _, h => ⟨1519, 1558, rfl, rfl, k_ranked X poL hL i hi n μ μ' h kk⟩
  | 21, _, h => ⟨1575, 1614, rfl, rfl, k_graded X poL hL i hi n μ μ' h kk⟩
  | 22, _, h => ⟨1631, 1670, rfl, rfl, k_gradeIf X poL hL i hi n μ μ' h kk⟩
  | 23, _, h => ⟨1711, 1750, rfl, rfl, k_needed X poL hL i hi n μ μ' h kk⟩
  | 24, _, h => ⟨1791, 1830, rfl, rfl, k_meanBits X poL hL i hi n μ μ' h kk⟩
  | 25, _, h => ⟨1846, 1885, rfl, rfl, k_validBits X poL hL i hi n μ μ' h kk⟩
  | 26, _, h => ⟨1902, 1941, rfl, rfl, k_publish X poL hL i hi n μ μ' h kk⟩
  | 27, _, h => ⟨1946, 1985, rfl, rfl, k_withdraw X poL hL i hi n μ μ' h kk⟩
  | 28, _, h => ⟨1990, 2029, rfl, rfl, k_appeal X poL hL i hi n μ μ' h kk⟩
  | 29, _, h => ⟨2058, 2097, rfl, rfl, k_remark X poL hL i hi n μ μ' h kk⟩
  | 30, _, h => ⟨2150, 2189, rfl, rfl, k_account X poL hL i hi n μ μ' h kk⟩
  | 31, _, h => ⟨2206, 2245, rfl, rfl, k_levels X poL hL i hi n μ μ' h kk⟩
  | 32, _, h => ⟨2219, 2258, rfl, rfl, k_report X poL hL i hi n μ μ' h kk⟩
  | 33, _, h => ⟨2287, 2326, rfl, rfl, k_count X poL hL i hi n μ μ' h kk⟩
  | 34, _, h => ⟨2343, 2382, rfl, rfl, k_undo X poL hL i hi n μ μ' h kk⟩
  | 35, _, h => ⟨2387, 2426, rfl, rfl, k_save X poL hL i hi n μ μ' h kk⟩
  | 36, _, h => ⟨2400, 2439, rfl, rfl, k_restore X poL hL i hi n μ μ' h kk⟩
  | k + 37, hj, _ => absurd hj (by omega)
theorem law_loop (X : kX) (hL : X.2.2.2.2.1 ≤ 2560) : ∀ (n : Nat) (i : Int) (μ μe : Mu), 0 ≤ i → i + 5 * (n : Int) ≤ X.2.2.2.2.1 → (X.2.2.2.2.1 : Int) < i + 5 * (n : Int) + 5 → lrun (sw X) n i μ = some μe → KJ X mL_law 9 false poL SK n (6 * n) 23 [(4, .int (iI i)), (0, .ref X.2.2.2.1), (1, .ref (X.1 + 0)), (2, .ref (X.1 + 248)), (3, .ref (X.1 + 260))] [] μ := by
  have hL9 : X.2.2.2.2.1 < 2 ^ 31 := by omega
  intro n
  induction n with
  | zero =>
    intro i μ μe h0 h1 h2 h
    refine K_iload (md := mL_law) (pc := 23) 0 (kTab_at (pc := 23) tL_law_0_ok 13 rfl) rfl ?_
    refine K_aload_n (md := mL_law) (pc := 25) 1 (kTab_at (pc := 25) tL_law_0_ok 14 rfl) rfl ?_
    refine K_slen (md := mL_law) (pc := 26) (kTab_at (pc := 26) tL_law_0_ok 15 rfl) ?_
    refine K_iconst (md := mL_law) (pc := 27) (x := 5) (kTab_at (pc := 27) tL_law_0_ok 16 rfl) rfl ?_
    refine K_isub (md := mL_law) (pc := 28) (kTab_at (pc := 28) tL_law_0_ok 17 rfl) ?_
    refine K_icmp_gt (md := mL_law) (pc := 29) (r := (μ, 0, 0)) (A := some (μ, 0, 0)) (B := none) (tgt := 2489) (kTab_at (pc := 29) tL_law_0_ok 18 rfl) rfl (by unfold i_lt; rw [if_pos (by omega), if_pos (by omega)]) (fun _ => ?_) (fun h => nomatch h)
    refine K_iconst (md := mL_law) (pc := 2489) (x := 1) (kTab_at (pc := 2489) tL_law_38_ok 2 rfl) rfl ?_
    exact K_iret (md := mL_law) (pc := 2490) (ty := .boolean) (kTab_at (pc := 2490) tL_law_38_ok 3 rfl) rfl rfl rfl
  | succ n ih =>
    intro i μ μe h0 h1 h2 h
    unfold lrun at h
    cases hc : lcall (andI (sw X i.toNat) 63) (sw X (i + 1).toNat) (sw X (i + 2).toNat) (sw X (i + 3).toNat) (sw X (i + 4).toNat) μ with
    | none => rw [hc] at h; cases h
    | some μ1 =>
      rw [hc] at h
      dsimp only at h
      have kk : KJ X mL_law 9 false poL SK n (6 * n) 2483 [(4, .int (iI i)), (0, .ref X.2.2.2.1), (1, .ref (X.1 + 0)), (2, .ref (X.1 + 248)), (3, .ref (X.1 + 260))] [] μ1 := by
        refine K_iinc (md := mL_law) (pc := 2483) (x := i) (l' := [(4, .int (iI (i + 5))), (0, .ref X.2.2.2.1), (1, .ref (X.1 + 0)), (2, .ref (X.1 + 248)), (3, .ref (X.1 + 260))]) 0 (kTab_at (pc := 2483) tL_law_38_ok 0 rfl) rfl (Nat.le_of_ble_eq_true rfl) rfl ?_
        refine K_goto (md := mL_law) (pc := 2486) (tgt := 23) (kTab_at (pc := 2486) tL_law_38_ok 1 rfl) rfl ?_
        exact ih (i + 5) μ1 μe (by omega) (by push_cast at h1; omega) (by push_cast at h2; omega) h
      refine K_iload (md := mL_law) (pc := 23) 0 (kTab_at (pc := 23) tL_law_0_ok 13 rfl) rfl ?_
      refine K_aload_n (md := mL_law) (pc := 25) 1 (kTab_at (pc := 25) tL_law_0_ok 14 rfl) rfl ?_
      refine K_slen (md := mL_law) (pc := 26) (kTab_at (pc := 26) tL_law_0_ok 15 rfl) ?_
      refine K_iconst (md := mL_law) (pc := 27) (x := 5) (kTab_at (pc := 27) tL_law_0_ok 16 rfl) rfl ?_
      refine K_isub (md := mL_law) (pc := 28) (kTab_at (pc := 28) tL_law_0_ok 17 rfl) ?_
      refine K_icmp_gt (md := mL_law) (pc := 29) (r := (μ, 0, 0)) (A := none) (B := some (μ, 0, 0)) (tgt := 2489) (kTab_at (pc := 29) tL_law_0_ok 18 rfl) rfl (by unfold i_lt; rw [if_pos (by omega), if_neg (by omega)]) (fun h => nomatch h) (fun _ => ?_)
      refine K_aload_n (md := mL_law) (pc := 32) 1 (kTab_at (pc := 32) tL_law_0_ok 19 rfl) rfl ?_
      refine K_iload (md := mL_law) (pc := 33) 0 (kTab_at (pc := 33) tL_law_0_ok 20 rfl) rfl ?_
      refine K_sld (md := mL_law) (pc := 35) hL9 (by omega) (kTab_at (pc := 35) tL_law_0_ok 21 rfl) ?_
      refine K_bipush (md := mL_law) (pc := 36) (x := 63) (kTab_at (pc := 36) tL_law_0_ok 22 rfl) (by decide) ?_
      refine K_iand (md := mL_law) (pc := 38) (kTab_at (pc := 38) tL_law_0_ok 23 rfl) ?_
      refine K_tswV (md := mL_law) (pc := 39) (dt := 2483) (kTab_at (pc := 39) tL_law_0_ok 24 rfl) (andI_g _ _) rfl (fun j hj hle => ?_) (fun hout => ?_)
      · unfold lcall at hc
        rw [if_neg (by omega)] at hc
        have hj9 : (andI (sw X i.toNat) 63).toNat = j := by omega
        rw [hj9] at hc
        exact law_in X hL9 i (by omega) n μ μ1 j (by omega) hc kk
      · unfold lcall at hc
        rw [if_pos (by omega)] at hc
        cases hc
        exact KJ_less (cr' := n) (sr' := 6 * n) (by omega) (by omega) kk

/-! what the tables and the statement's givens say at the law's entry -/
theorem lw_EU {s : State} {b L : Nat} {xs : Nat → Int32} (hts : ∀ w ∈ lw_tbl, w.before #[Value.ref b] s = true) (hX : va_X b L xs s s.heap) (hbl : b < s.heap.size) (hgv : (Jvm.Cond.and given_1 narrow_1).before #[Value.ref b] s = true) : ∃ (D : va_G) (tc : Nat → ClassId), EU (s.heap.size, D, tc, b, L, xs) s s.heap := by
  have hg : ∀ w ∈ kG, w.before #[Value.ref b] s = true := fun w h => hts w (List.mem_filter.mp h).1
  have hs := flat_of_before _ hgv
  have hA : ∀ a : Nat, a < s.heap.size → ¬ (s.heap.size ≤ a) := fun a h => Nat.not_le.mpr h
  have h12 : ∀ k : Nat, ∃ (cC : ClassId) (iS : Nat → Nat), ∀ q : vw_C, kCl[k]? = some q → u_Kn s q.1 q.2.1 q.2.2 cC iS := by
    intro k
    match k with
    | 0 => obtain ⟨cC, iS, h⟩ := u_known (C := RX0) (T := TX0) (N := 4) (n := 4) hg cf_X0.2.2.1 (hg _ (inT1 116 (by decide +kernel) rfl)); exact ⟨cC, iS, fun q hq => by cases hq; exact h⟩
    | 1 => obtain ⟨cC, iS, h⟩ := u_known (C := RX1) (T := TX1) (N := 12) (n := 12) hg cf_X1.2.2.1 (hg _ (inT1 41 (by decide +kernel) rfl)); exact ⟨cC, iS, fun q hq => by cases hq; exact h⟩
    | 2 => obtain ⟨cC, iS, h⟩ := u_known (C := RX2) (T := TX2) (N := 3) (n := 3) hg cf_X2.2.2.1 (hg _ (inT1 99 (by decide +kernel) rfl)); exact ⟨cC, iS, fun q hq => by cases hq; exact h⟩
    | 3 => obtain ⟨cC, iS, h⟩ := u_known (C := RX3) (T := TX3) (N := 5) (n := 5) hg cf_X3.2.2.1 (hg _ (inT1 68 (by decide +kernel) rfl)); exact ⟨cC, iS, fun q hq => by cases hq; exact h⟩
    | 4 => obtain ⟨cC, iS, h⟩ := u_known (C := RX4) (T := TX4) (N := 3) (n := 3) hg cf_X4.2.2.1 (hg _ (inT1 198 (by decide +kernel) rfl)); exact ⟨cC, iS, fun q hq => by cases hq; exact h⟩
    | 5 => obtain ⟨cC, iS, h⟩ := u_known (C := RX5) (T := TX5) (N := 6) (n := 6) hg cf_X5.2.2.1 (hg _ (inT2 59 (by decide +kernel) rfl)); exact ⟨cC, iS, fun q hq => by cases hq; exact h⟩
    | 6 => obtain ⟨cC, iS, h⟩ := u_known (C := RX6) (T := TX6) (N := 3) (n := 3) hg cf_X6.2.2.1 (hg _ (inT2 20 (by decide +kernel) rfl)); exact ⟨cC, iS, fun q hq => by cases hq; exact h⟩
    | 7 => obtain ⟨cC, iS, h⟩ := u_known (C := RX7) (T := TX7) (N := 3) (n := 3) hg cf_X7.2.2.1 (hg _ (inT1 47 (by decide +kernel) rfl)); exact ⟨cC, iS, fun q hq => by cases hq; exact h⟩
    | 8 => obtain ⟨cC, iS, h⟩ := u_known (C := RX8) (T := TX8) (N := 9) (n := 9) hg cf_X8.2.2.1 (hg _ (inT1 218 (by decide +kernel) rfl)); exact ⟨cC, iS, fun q hq => by cases hq; exact h⟩
    | 9 => obtain ⟨cC, iS, h⟩ := u_known (C := RX9) (T := TX9) (N := 4) (n := 4) hg cf_X9.2.2.1 (hg _ (inT2 41 (by decide +kernel) rfl)); exact ⟨cC, iS, fun q hq => by cases hq; exact h⟩
    | 10 => obtain ⟨cC, iS, h⟩ := u_known (C := RX10) (T := TX10) (N := 9) (n := 9) hg cf_X10.2.2.1 (hg _ (inT1 33 (by decide +kernel) rfl)); exact ⟨cC, iS, fun q hq => by cases hq; exact h⟩
    | 11 => obtain ⟨cC, iS, h⟩ := u_known (C := RX11) (T := TX11) (N := 28) (n := 28) hg cf_X11.2.2.1 (hg _ (inT6 16 (by decide +kernel) rfl)); exact ⟨cC, iS, fun q hq => by cases hq; exact h⟩
    | k + 12 => exact ⟨0, fun _ => 0, fun q hq => by cases hq⟩
  have ha : ∀ k : Nat, ∃ cA : ClassId, ∀ q : FieldType, ([.int, .char, .long, .object RX1, .object RX5] : List FieldType)[k]? = some q → ArrOfT s cA q ∧ va_RA s cA q := by
    intro k
    match k with
    | 0 => obtain ⟨c, kk, comp, f1, f2, f3⟩ := Cond.arrayClass_spec (hg (.arrayClass .int) (inT1 66 (by decide +kernel) rfl)); exact ⟨c, fun q hq => by cases hq; exact ⟨fun n z => ⟨fun k h => (by cases h), kk, f2, comp, f3⟩, f1⟩⟩
    | 1 => obtain ⟨c, kk, comp, f1, f2, f3⟩ := Cond.arrayClass_spec (hg (.arrayClass .char) (inT2 18 (by decide +kernel) rfl)); exact ⟨c, fun q hq => by cases hq; exact ⟨fun n z => ⟨fun k h => (by cases h), kk, f2, comp, f3⟩, f1⟩⟩
    | 2 => obtain ⟨c, kk, comp, f1, f2, f3⟩ := Cond.arrayClass_spec (hg (.arrayClass .long) (inT6 106 (by decide +kernel) rfl)); exact ⟨c, fun q hq => by cases hq; exact ⟨fun n z => ⟨fun k h => (by cases h), kk, f2, comp, f3⟩, f1⟩⟩
    | 3 => obtain ⟨comp, c, kk, g1, g2, g3, g4, g5⟩ := Cond.arrayOver_spec (hts (.arrayOver (.object RX1)) (by decide +kernel)); exact ⟨c, fun q hq => by cases hq; exact ⟨fun n z => ⟨fun k h => (by cases h), kk, g3, comp, g4⟩, ⟨kk, comp, g3, g4, g1, g5⟩⟩⟩
    | 4 => obtain ⟨comp, c, kk, g1, g2, g3, g4, g5⟩ := Cond.arrayOver_spec (hts (.arrayOver (.object RX5)) (by decide +kernel)); exact ⟨c, fun q hq => by cases hq; exact ⟨fun n z => ⟨fun k h => (by cases h), kk, g3, comp, g4⟩, ⟨kk, comp, g3, g4, g1, g5⟩⟩⟩
    | k + 5 => exact ⟨0, fun q hq => by cases hq⟩
  have hNM : ∀ q ∈ kNM, Cond.methodLinkNest q.1 q.2.1 q.2.2.1 q.2.2.2 ∈ lw_tbl := by decide +kernel
  have hNC : ∀ q ∈ kNC, Cond.castable q.1 q.2 ∈ lw_tbl := by decide +kernel
  have hND : ∀ q ∈ kND, Cond.declares q ∈ lw_tbl := by decide +kernel
  have hSR : ∀ q ∈ kSR, Cond.stringRef q.1 q.2.1 q.2.2 ∈ lw_tbl := by decide +kernel
  have hSE : ∀ q ∈ kSR, Cond.exactly (.string q.1 q.2.1) "java/lang/String" ∈ XT.flat (Jvm.Cond.and given_1 narrow_1) := by decide +kernel
  have hNN : ∀ i, i < 6 → ∀ j, j < 6 → i ≠ j → Cond.not (.castable (exName i) (exName j)) ∈ XT.flat (Jvm.Cond.and given_1 narrow_1) := by decide +kernel
  obtain ⟨t1, e1, T1⟩ := va_Tof (s := s) (args := #[Value.ref b]) (tm := .static "ExamMarker" "LEAST_SETTINGS" "[I") (ty := .int) (N := 5) (f := fun j => .int (iI (if j = 1 then 1 else 0))) (A := fun q => s.heap.size ≤ q) (by decide) (hs _ (by decide +kernel)) (va_eqt (z := 5) (hs _ (by decide +kernel)))
    (fun j hj => match j, hj with
      | 0, _ => va_eqt (z := 0) (hs _ (by decide +kernel))
      | 1, _ => va_eqt (z := 1) (hs _ (by decide +kernel))
      | 2, _ => va_eqt (z := 0) (hs _ (by decide +kernel))
      | 3, _ => va_eqt (z := 0) (hs _ (by decide +kernel))
      | 4, _ => va_eqt (z := 0) (hs _ (by decide +kernel))) hA
  obtain ⟨t2, e2, T2⟩ := va_Tof (s := s) (args := #[Value.ref b]) (tm := .static "ExamMarker" "GREATEST_SETTINGS" "[I") (ty := .int) (N := 5) (f := fun j => .int (iI (if j = 0 then 5 else if j = 1 then 40 else if j = 2 then 10 else if j = 3 then 5 else 99))) (A := fun q => s.heap.size ≤ q) (by decide) (hs _ (by decide +kernel)) (va_eqt (z := 5) (hs _ (by decide +kernel)))
    (fun j hj => match j, hj with
      | 0, _ => va_eqt (z := 5) (hs _ (by decide +kernel))
      | 1, _ => va_eqt (z := 40) (hs _ (by decide +kernel))
      | 2, _ => va_eqt (z := 10) (hs _ (by decide +kernel))
      | 3, _ => va_eqt (z := 5) (hs _ (by decide +kernel))
      | 4, _ => va_eqt (z := 99) (hs _ (by decide +kernel))) hA
  refine ⟨(fun k => Classical.choose (h12 k), fun k => Classical.choose (Classical.choose_spec (h12 k))), fun k => Classical.choose (ha k), ⟨fun c q hq => Classical.choose_spec (Classical.choose_spec (h12 c)) q hq, fun k q hq => ?_⟩,
    fun q hq => va_Nw.of rfl (hts _ (hNM q hq)), fun q hq => va_Nw.of rfl (hts _ (hNC q hq)), fun q hq => va_Nw.of rfl (hts _ (hND q hq)), fun q hq => ?_, ?_, ?_, ⟨t1, ?_, T1⟩, ⟨t2, ?_, T2⟩, va_AO.of (A := #[Value.ref b]) (hts _ (by decide +kernel)), va_AO.of (A := #[Value.ref b]) (hts _ (by decide +kernel)), fun i j hi hj hn => va_Nc.of (hs _ (hNN i hi j hj hn)), hX, hbl⟩
  · match k, hq with
    | 0, hq => cases hq; exact Classical.choose_spec (ha 0) _ rfl
    | 1, hq => cases hq; exact Classical.choose_spec (ha 1) _ rfl
    | 2, hq => cases hq; exact Classical.choose_spec (ha 2) _ rfl
    | 3, hq => cases hq; exact Classical.choose_spec (ha 3) _ rfl
    | 4, hq => cases hq; exact Classical.choose_spec (ha 4) _ rfl
    | k + 5, hq => cases hq
  · obtain ⟨a, c, cell, k, z1, -⟩ := Cond.exactly_spec (hs _ (hSE q hq))
    exact ⟨a, vk_R.of (hts _ (hSR q hq)) z1⟩
  · exact vx_Zqof (args := #[Value.ref b]) (hts _ (by decide +kernel)) (hts _ (by decide +kernel)) (hs _ (by decide +kernel)) hA
  · exact vx_Zqof (args := #[Value.ref b]) (hts _ (by decide +kernel)) (hts _ (by decide +kernel)) (hs _ (by decide +kernel)) hA
  · exact va_Zof (args := #[Value.ref b]) (hts _ (by decide +kernel)) (hts _ (by decide +kernel)) e1 hA
  · exact va_Zof (args := #[Value.ref b]) (hts _ (by decide +kernel)) (hts _ (by decide +kernel)) e2 hA

/-! the start, and the run of calls -/
theorem g0_z {k : Nat} (h : 14 ≤ k) : mu0 249 k = 0 := by
  show n_X11 1 k = 0
  unfold n_X11
  rw [up2_k (by omega), up2_k (by omega), up2_k (by omega), up2_k (by omega), up2_k (by omega), up2_k (by omega), up2_k (by omega), up2_k (by omega), up2_k (by omega), up2_k (by omega), up2_k (by omega), up2_k (by omega), up2_k (by omega), up2_k (by omega), up2_o (by omega)]
theorem g0_i {x : Int} (h : 14 ≤ x) : mu0 249 x.toNat = 0 := g0_z (by omega)
theorem g0_5 {q : Int} (h : 0 ≤ q ∧ q < 5) : mu0 249 q.toNat = 20 ∧ mu0 2 q.toNat = 20 := by
  rcases (show q = 0 ∨ q = 1 ∨ q = 2 ∨ q = 3 ∨ q = 4 by omega) with rfl | rfl | rfl | rfl | rfl <;> exact ⟨rfl, rfl⟩
theorem g0_cnt {c q : Int} : S_cnt (mu0 249) c q (mu0 249 144).toNat = 0 := by
  rw [g0_z (by omega)]; rfl
theorem R_mu0 : RB mu0 1 (mu0 249) := by
  refine ⟨fun q x y => ?_, fun w x y => ?_, fun k x y => ?_, fun c x y => ⟨?_, ?_⟩, fun m x y => ?_, fun q x y => ?_, fun q k x y z w => ?_, fun m q k x y z w u v => ?_, ?_, fun e x y => ?_, fun c q x y z w => ?_, ?_, fun k x y => ?_, fun c q x y z w => ⟨?_, ?_, ?_⟩, ?_, ?_⟩
  · have := g0_5 (q := q) ⟨x, y⟩
    rw [this.1]; exact this.2
  · rcases (show w = 0 ∨ w = 1 ∨ w = 2 ∨ w = 3 ∨ w = 4 by omega) with rfl | rfl | rfl | rfl | rfl <;> rfl
  · rcases (show k = 0 ∨ k = 1 ∨ k = 2 ∨ k = 3 by omega) with rfl | rfl | rfl | rfl <;> rfl
  · rw [g0_i (by omega)]; rfl
  · rw [g0_i (by omega)]; rfl
  · rw [g0_i (by omega)]; rfl
  · rw [g0_i (by omega)]; rfl
  · rw [g0_i (by omega)]; rfl
  · unfold S_mk
    rw [g0_i (by omega)]
    show fillM (fun _ _ => 0) 3 100 (-1) 3 ((m * 5 + q) * 5 + k).toNat = 0 - 1
    exact if_pos ⟨rfl, by omega⟩
  · rw [g0_z (by omega)]; rfl
  · rw [g0_z (by omega)] at y; omega
  · rw [g0_cnt]; rfl
  · rw [g0_z (by omega)]; rfl
  · rw [g0_z (by omega)] at y; omega
  · unfold S_ap
    rw [g0_i (by omega)]; rfl
  · unfold S_ap
    rw [g0_i (by omega)]; rfl
  · unfold S_ap
    rw [g0_i (by omega)]; rfl
  · rw [g0_z (by omega)]; rfl
  · rw [g0_z (by omega)]; rfl
theorem W_mu0 : WS (mu0 249) 0 := by
  have z : ∀ x : Int, 14 ≤ x → 0 ≤ mu0 249 x.toNat ∧ mu0 249 x.toNat ≤ 0 := fun x h => by rw [g0_i h]; omega
  have za : ∀ c q w : Int, 0 ≤ c → 0 ≤ q → 0 ≤ w → S_ap (mu0 249) c q w = 0 := fun c q w a b d => g0_i (by omega)
  refine ⟨⟨fun q x y => ?_, ⟨by decide +kernel, by decide +kernel, by decide +kernel, by decide +kernel, by decide +kernel⟩, ⟨by decide +kernel, by decide +kernel, by decide +kernel, by decide +kernel⟩, fun q x y => ?_, fun i x y => ?_, fun i x y => ?_, fun m q k x y z w u v => ?_, ?_, fun e x y => ?_, fun c x y => ⟨?_, ?_⟩, ⟨?_, fun k x y => ?_, fun k x y => ?_⟩, ?_, fun c q x y z' w => ⟨?_, ?_, ?_⟩⟩, fun c q => ?_, fun c x y => ⟨?_, ?_⟩, fun m x y => z _ (by omega), ?_, ?_⟩
  · rw [(g0_5 (q := q) ⟨x, y⟩).1]; omega
  · have := z (14 + q) (by omega); omega
  · have := z (19 + i) (by omega); omega
  · have := z (44 + i) (by omega); omega
  · have := g0_i (x := 14 + q) (by omega)
    exact g0_i (by omega)
  · rw [g0_z (by omega)]; omega
  · rw [g0_z (by omega)] at y; omega
  · have := z (625 + c) (by omega); omega
  · have := z (633 + c) (by omega); omega
  · rw [g0_z (by omega)]; omega
  · rw [g0_z (by omega)] at y; omega
  · rw [g0_z (by omega)] at y; omega
  · exact Or.inl (g0_z (by omega))
  · have := z (653 + 15 * c + 3 * q) (by omega); omega
  · have := z (653 + 15 * c + 3 * q + 1) (by omega)
    have := z (653 + 15 * c + 3 * q) (by omega)
    omega
  · have := z (653 + 15 * c + 3 * q + 2) (by omega); omega
  · rw [g0_cnt]; omega
  · have h := z (625 + c) (by omega)
    rw [S_B_ex (by omega), g0_i (by omega)]
    decide +kernel
  · unfold S_nap
    rw [sm_zero 5 0 (fun j a b => b2_f (by rw [za c j 0 x (by omega) (by omega)]; omega))]; omega
  · rw [g0_z (by omega)]; omega
  · rw [g0_z (by omega), sm_zero 8 0 (fun c a b => sm_zero 5 0 (fun q d e => za c q 1 (by omega) (by omega) (by omega)))]
theorem I_mu0 : Inv 0 mu0 := by
  refine ⟨⟨R_mu0, W_mu0⟩, ⟨⟨rfl, Or.inl rfl⟩, fun w => ?_⟩, ⟨?_, ?_, rfl, fun j x y => ?_⟩, ⟨?_, ?_, fun i x y => ?_⟩, ⟨Or.inl rfl, rfl, fun l x y => ?_⟩⟩
  · have : mu0 0 3 = 0 := rfl
    omega
  · have : mu0 73 1 = 0 := rfl
    omega
  · have : mu0 73 2 = 0 := rfl
    omega
  · have : mu0 73 2 = 0 := rfl
    omega
  · have a : mu0 219 2 = 0 := rfl
    have b : mu0 248 8 = 0 := rfl
    omega
  · have a : mu0 219 3 = -1 := rfl
    have b : mu0 248 9 = -1 := rfl
    omega
  · have : mu0 219 2 = 0 := rfl
    omega
  · have a : ∀ k : Nat, mu0 254 k = 0 := fun _ => rfl
    have b : ∀ k : Nat, mu0 224 k = 0 := fun _ => rfl
    have c : ∀ k : Nat, mu0 225 k = 0 := fun _ => rfl
    rw [a, a, b, c]
    unfold iG
    omega
theorem lcallN_ok {T : Int} {μ : Mu} (I : Inv T μ) (hT : T ≤ 1000000) {w1 w2 w3 w4 : Int} (h1 : iG w1) (h2 : iG w2) (h3 : iG w3) (h4 : iG w4) : ∀ n : Nat, n ≤ 36 → OK T (lcallN n w1 w2 w3 w4 μ)
  | 0, _ => o_setMaximum I h1 h2
  | 1, _ => o_set I h1 h2
  | 2, _ => o_addSeed I h1 h2
  | 3, _ => o_markSeed I h1 h2 h3 h4
  | 4, _ => o_correction I h1 h2
  | 5, _ => o_isSuspended I h1 h2
  | 6, _ => o_enter I h1 h2 h3 h4
  | 7, _ => o_append I h1
  | 8, _ => o_sheet I
  | 9, _ => o_errorPosition I
  | 10, _ => o_entry I h1 h2 h3 h4
  | 11, _ => o_script I h1 h2 h3
  | 12, _ => o_excuse I h1 h2
  | 13, _ => o_raise I h1 h2
  | 14, _ => o_setPoint I h1 h2
  | 15, _ => o_removePoint I h1
  | 16, _ => o_curve I h1
  | 17, _ => o_setBoundary I h1 h2
  | 18, _ => o_result I h1 h2
  | 19, _ => o_recount I h1
  | 20, _ => o_ranked I h1
  | 21, _ => o_graded I h1
  | 22, _ => o_gradeIf I h1 h2 h3
  | 23, _ => o_needed I h1 h2 h3
  | 24, _ => o_meanBits I h1
  | 25, _ => o_validBits I h1
  | 26, _ => o_publish I
  | 27, _ => o_withdraw I
  | 28, _ => o_appeal I h1 h2
  | 29, _ => o_remark I h1 h2 h3 h4
  | 30, _ => o_account I hT h1
  | 31, _ => o_levels I
  | 32, _ => o_report I h1 h2
  | 33, _ => o_count I h1
  | 34, _ => o_undo I
  | 35, _ => o_save I
  | 36, _ => o_restore I
  | n + 37, h => absurd h (by omega)
theorem lcall_ok {T : Int} {μ : Mu} (I : Inv T μ) (hT : T ≤ 1000000) {v w1 w2 w3 w4 : Int} (h1 : iG w1) (h2 : iG w2) (h3 : iG w3) (h4 : iG w4) : OK T (lcall v w1 w2 w3 w4 μ) := by
  unfold lcall
  by_cases p : v < 0 ∨ 36 < v
  · rw [if_pos p]
    exact ⟨μ, rfl, I.up (by omega)⟩
  · rw [if_neg p]
    exact lcallN_ok I hT h1 h2 h3 h4 v.toNat (by omega)
theorem lrun_n {w : Nat → Int} (hw : ∀ j, gI (w j)) : ∀ (n : Nat) (i T : Int) (μ : Mu), Inv T μ → T + 1000 * (n : Int) ≤ 1000000 → ∃ μe, lrun w n i μ = some μe
  | 0, i, T, μ, I, hT => ⟨μ, rfl⟩
  | n + 1, i, T, μ, I, hT => by
    obtain ⟨μ1, a1, I1⟩ := lcall_ok I (by omega) (v := andI (w i.toNat) 63) (hw (i + 1).toNat) (hw (i + 2).toNat) (hw (i + 3).toNat) (hw (i + 4).toNat)
    obtain ⟨μe, e⟩ := lrun_n hw n (i + 5) (T + 1000) μ1 I1 (by omega)
    refine ⟨μe, ?_⟩
    rw [lrun, a1]
    exact e
theorem lrun_ok (w : Nat → Int) (hw : ∀ j, gI (w j)) (n : Nat) (hn : n ≤ 512) : ∃ μe, lrun w n 0 mu0 = some μe := lrun_n hw n 0 0 mu0 I_mu0 (by omega)

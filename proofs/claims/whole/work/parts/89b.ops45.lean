/-! sheet -/
theorem o_sheet {T : Int} {μ : Mu} (I : Inv T μ) : OK T (lc_sheet μ) := by
  have hT := tx_TY I
  have hR := tx_TYr I
  obtain ⟨mR, a1, b2', b3, b4, b5⟩ := c_read I
  unfold lc_sheet
  rcases shok_01 (t := S_tx μ) (L := μ 219 2) with ok | ⟨ok, p1, p2, p3, p4, o4⟩
  · -- an error
    rw [if_neg (by omega)] at b3
    have pb := shpos_b hT
    have f : f_X10_sheet μ = some (mR, 1 + 1, 0) := by
      unfold f_X10_sheet
      rw [a1, p_rb, p_rdF, b3, p_lt (by omega), if_neg (by omega)]
    have R9 : TYr (up2 mR 248 0 0) (S_tx μ) (μ 219 2) := ⟨by rw [up2_k (by omega), b4 248 (by omega)]; exact hR.1, fun j x y => by rw [up2_o (by omega), b4 253 (by omega)]; exact hR.2 j x y⟩
    obtain ⟨m2, c1, c2, c3, -⟩ := r_isSheet hT R9
    rw [ok] at c1
    have c3 := c3 ok
    have g : f_X11_sheet mR = some (up2 (up2 (up2 m2 248 9 (tq_shpos (S_tx μ))) 248 8 0) 248 0 1, 0, 0) := by
      unfold f_X11_sheet f_X11_sheet_23 f_X11_fails
      rw [p_wrF, c1, p_rb, p_eq (by omega), if_pos rfl, p_rdF, c3, p_wrF, p_rdF, p_wrF, p_eq (by omega), if_pos rfl, p_wrF, p_rb]
    have lo : ∀ a k : Nat, ¬ (a = 248 ∧ (k = 0 ∨ k = 8 ∨ k = 9 ∨ (21 ≤ k ∧ k ≤ 24))) → (up2 (up2 (up2 m2 248 9 (tq_shpos (S_tx μ))) 248 8 0) 248 0 1) a k = mR a k := fun a k x => by
      rw [up2_eq, if_neg (by omega), up2_eq, if_neg (by omega), up2_eq, if_neg (by omega), c2 a k (by omega), up2_eq, if_neg (by omega)]
    have lof : ∀ a : Nat, ¬ (219 ≤ a ∧ a ≤ 222) → a ≠ 248 → (up2 (up2 (up2 m2 248 9 (tq_shpos (S_tx μ))) 248 8 0) 248 0 1) a = μ a := fun a x y => (funext fun k => lo a k (by omega)).trans (b4 a x)
    have l248 : ∀ k : Nat, k ≠ 0 → k < 13 → k ≠ 8 → k ≠ 9 → (up2 (up2 (up2 m2 248 9 (tq_shpos (S_tx μ))) 248 8 0) 248 0 1) 248 k = μ 248 k := fun k x y z w => (lo 248 k (by omega)).trans (congrFun (b4 248 (by omega)) k)
    refine ⟨_, lc_ex (i := 0) f rfl (by omega) g up2_s, I.fin2 (by omega) (fun a ha => lof a (by omega) (by omega)) (l248 6 (by omega) (by omega) (by omega) (by omega)) ⟨?_, ?_⟩ (P3.keep I (by omega) (fun a ha => lof a (by omega) (by omega)) (l248 5 (by omega) (by omega) (by omega) (by omega)) (lof 252 (by omega) (by omega))) (P4.e (x := tq_shpos (S_tx μ)) ?_ ?_ ?_ ?_ (by omega)) (P5.keep I (fun a ha => lof a (by omega) (by omega)) (l248 11 (by omega) (by omega) (by omega) (by omega)))⟩
    · rw [lof 249 (by omega) (by omega)]; exact I.R.keep (fun a x y => lof a (by omega) (by omega))
    · rw [lof 249 (by omega) (by omega)]; exact I.1.2.up (by omega)
    · rw [lo 219 2 (by omega)]; exact b2'
    · rw [up2_k (by omega), up2_s]
    · rw [lo 219 3 (by omega)]; exact b3
    · rw [up2_k (by omega), up2_k (by omega), up2_s]
  · -- a sheet
    rw [if_pos ok] at b3
    obtain ⟨k1, k2, k3, k4⟩ := b5 ok
    have hM : 0 ≤ S_tx μ 0 - 48 ∧ S_tx μ 0 - 48 < 4 := by omega
    have hQ : 0 ≤ S_tx μ 2 - 48 ∧ S_tx μ 2 - 48 < 5 := by omega
    have l4 := hT.lt (j := 3) (by omega)
    have hL := hT.1
    have len := es_len14 hT 60 4 (by omega) (by omega)
    have hv := es_ok (t := S_tx μ) 60 4
    have RR : RB mR 1 (μ 249) := I.R.keep (fun a x y => b4 a (by omega))
    obtain ⟨mB, d1, d2, d3⟩ := c_copyBook (s := 1) (d := 25) (by omega) I.wf I.w3 RR
    have eB : ∀ a : Nat, (a < 25 ∨ 48 ≤ a) → mB a = mR a := fun a w => d3 a (by omega)
    obtain ⟨mC, e1, e2, e3, e4⟩ := c_shl hM hQ (fun μ => some (μ, 5, 0)) (fun μ => f_X10_sheet_147 μ) (tq_es (S_tx μ) 60 4) FU 0 T (μ 249) mB d2 I.1.2 (by omega) (by rw [eB 219 (by omega), k1]; omega) (by omega) (by rw [eB 219 (by omega)]; exact k3) (by rw [eB 219 (by omega)]; exact k4) (fun j hj => by
      rw [eB 221 (by omega), eB 222 (by omega), show (0 : Int).toNat + j = j by omega]
      exact k2 j hj) hv (by unfold FU; omega)
    have eC : ∀ a : Nat, (a < 25 ∨ 49 ≤ a) → mC a = mR a := fun a w => (e3 a w).trans (eB a (by omega))
    have cs : f_X10_sheet μ = f_X10_sheet_40 (fun μ => some (μ, 5, 0)) (fun μ => f_X10_sheet_147 μ) FU 0 mB := by
      unfold f_X10_sheet
      rw [a1, p_rb, p_rdF, b3, p_lt (by omega), if_pos (by omega), d1, p_rb]
    have hrw := rw_bd (m := S_tx μ 0 - 48) (q := S_tx μ 2 - 48) (tq_es (S_tx μ) 60 4) (μ 249)
    have hri := ri_bd (m := S_tx μ 0 - 48) (q := S_tx μ 2 - 48) (tq_es (S_tx μ) 60 4) (μ 249)
    have hhi := rg_hi hM hQ (tq_es (S_tx μ) 60 4) (μ 249) T I.1.2 hv
    have rall := ri_all (m := S_tx μ 0 - 48) (q := S_tx μ 2 - 48) (tq_es (S_tx μ) 60 4) (μ 249)
    have rP : ∀ m9 : Mu, (∀ a : Nat, (248 ≤ a ∧ a ≠ 260) → m9 a = μ a) → _ := fun m9 k9 => r_shP (m9 := m9) (g := μ 249) hT ⟨by rw [k9 248 (by omega)]; exact hR.1, fun j x y => by rw [k9 253 (by omega)]; exact hR.2 j x y⟩ (k9 249 (by omega)) I.1.2 ok p1 p2 p3 p4 o4
    generalize tq_rw (S_tx μ 0 - 48) (S_tx μ 2 - 48) (tq_es (S_tx μ) 60 4) (μ 249) = W at e1 e2 hrw rall rP
    generalize tq_rg (S_tx μ 0 - 48) (S_tx μ 2 - 48) (tq_es (S_tx μ) 60 4) (μ 249) = G at e1 e2 e4 hhi rP
    generalize tq_ri (S_tx μ 0 - 48) (S_tx μ 2 - 48) (tq_es (S_tx μ) 60 4) (μ 249) = N at e2 hri rall rP
    generalize ((tq_es (S_tx μ) 60 4).length : Int) = X at k1 len hri rall e4
    generalize S_tx μ 0 - 48 = M at hM e2 rP
    generalize S_tx μ 2 - 48 = Q at hQ e2 rP
    have eR : ∀ a : Nat, (a < 25 ∨ 49 ≤ a) → ¬ (219 ≤ a ∧ a ≤ 222) → mC a = μ a := fun a w x => (eC a w).trans (b4 a x)
    by_cases z : W = 0
    · obtain ⟨f1, f2⟩ := e1 z
      have f1 : f_X10_sheet_40 (fun μ => some (μ, 5, 0)) (fun μ => f_X10_sheet_147 μ) FU 0 mB = f_X10_sheet_147 mC := f1
      obtain ⟨i5, i6, i7, i8⟩ := I.2.2.1
      have C249 := eR 249 (by omega) (by omega)
      have C252 := eR 252 (by omega) (by omega)
      have C73 := eR 73 (by omega) (by omega)
      have I1 : RB mC 1 (mC 249) ∧ WS (mC 249) T := by
        rw [C249]; exact ⟨I.R.keep (fun a x y => eR a (by omega) (by omega)), I.1.2⟩
      have P := P3.keep (μ2 := mC) I (Int.le_refl T) (fun a ha => eR a (by omega) (by omega)) (congrFun (eR 248 (by omega) (by omega)) 5) C252
      obtain ⟨mK, g1, g2, g3, g4, g5⟩ := c_keep0 I1 ⟨P.1, P.2.1, fun j x y => (P.2.2.2 j x y).1⟩
      rw [C73] at g4 g5
      have g5 : ∀ j : Int, 0 ≤ j → j < S_hn (μ 73 2) → RB mK (ring mK j) (S_hist (μ 73 2) μ j) := fun j x y => by
        have := g5 j x y
        rw [S_hist_e C249 C252] at this
        exact this
      have RK : RB mK 25 G := f2.keep (fun a x y => g2 a (by omega) (by omega))
      obtain ⟨mF, h1, h2, h3⟩ := c_copyBook (s := 25) (d := 1) (by omega) e4.1 e4.2.1 RK
      have eF : ∀ a : Nat, (a = 0 ∨ (49 ≤ a ∧ a < 73) ∨ 219 ≤ a) → mF a = mC a := fun a ha => (h3 a (by omega)).trans (g2 a (by omega) (by omega))
      have f : f_X10_sheet μ = some (mF, 0, X) := by
        rw [cs, f1]
        unfold f_X10_sheet_147
        rw [g1, p_rb, h1, p_rb, p_rdF, eF 219 (by omega), eC 219 (by omega), k1]
      have hx : iG X := by unfold iG; omega
      obtain ⟨m10, q1, q2, q3, q4, q5, q6, q7⟩ := rP (up2 mF 260 0 X) (fun a ha => (up2_oo (by omega)).trans ((eF a (by omega)).trans (eR a (by omega) (by omega))))
      have hn : ((μ 73 2).toNat : Int) = μ 73 2 := by omega
      have e5 : (up2 m10 248 8 0) 248 5 = (((μ 73 2).toNat : Nat) : Int) := by
        rw [up2_k (by omega), q7 248 5 (by omega) (by omega) (by unfold jT; omega) (by omega), up2_o (by omega), eF 248 (by omega), eR 248 (by omega) (by omega), i7, hn]
      obtain ⟨m11, r1, r2, r3, r4⟩ := r_keeps0 (μ1 := up2 m10 248 8 0) (fr := μ 249) (μ 73 2).toNat (by omega) e5 (fun k hk => by rw [up2_o (by omega)]; exact q4 k hk)
      rw [hn] at r3 r4
      have q : f_X11_sheet (up2 mF 260 0 X) = some (m11, 0, X) := by
        rw [q1, z, rall z]
        unfold f_X11_sheet_176
        rw [p_wrF, p_eq (by omega), if_pos rfl, r1, p_rb]
      have lo : ∀ a k : Nat, a ≠ 249 → a ≠ 251 → a ≠ 252 → ¬ jT a k → ¬ (a = 248 ∧ (k = 5 ∨ k = 8 ∨ k = 9)) → m11 a k = (up2 mF 260 0 X) a k := fun a k x y w v u => by
        rw [r2 a k w (by omega), up2_eq, if_neg (by omega), q7 a k x y v (by omega)]
      have lof : ∀ a : Nat, a ≠ 249 → a ≠ 251 → a ≠ 252 → a ≠ 248 → ¬ 255 ≤ a → m11 a = mF a := fun a x y w v u => (funext fun k => lo a k x y w (by unfold jT; omega) (by omega)).trans (up2_oo (by omega))
      have f11 : m11 249 = G := (funext fun k => (r2 249 k (by omega) (by omega)).trans (up2_o (by omega))).trans q2
      have s252 : (up2 m10 248 8 0) 252 = μ 252 := (up2_oo (by omega)).trans (funext fun k => by
        rw [q7 252 k (by omega) (by omega) (by unfold jT; omega) (by omega), up2_o (by omega), eF 252 (by omega), C252])
      have l73 : m11 73 = mK 73 := (lof 73 (by omega) (by omega) (by omega) (by omega) (by omega)).trans (h3 73 (by omega))
      refine ⟨m11, lc_ok f (hg0 hx) q ?_ ?_ (cI_ok hx), I.fin2 (by omega) (fun a ha => ?_) ?_ ⟨?_, ?_⟩ ⟨?_, ?_, ?_, fun j x y => ?_⟩ (P4.e (x := -1) ?_ ?_ ?_ ?_ (by omega)) (P5.keep I (fun a ha => ?_) ?_)⟩
      · rw [r2 248 0 (by omega) (by omega), up2_k (by omega)]; exact q6
      · rw [lo 260 0 (by omega) (by omega) (by omega) (by unfold jT; omega) (by omega), up2_s]
      · rw [lof a (by omega) (by omega) (by omega) (by omega) (by omega), eF a (by omega), eR a (by omega) (by omega)]
      · rw [lo 248 6 (by omega) (by omega) (by omega) (by unfold jT; omega) (by omega), up2_o (by omega), eF 248 (by omega), eR 248 (by omega) (by omega)]
      · rw [f11]; exact h2.keep (fun a x y => lof a (by omega) (by omega) (by omega) (by omega) (by omega))
      · rw [f11]; exact e4.up (by omega)
      · rw [l73]; exact g3
      · rw [l73, g4]; exact hn_bd i6
      · rw [r3, l73, g4]
      · rw [l73, g4] at y
        have hr : ring m11 j = ring mK j := by unfold ring; rw [l73]
        have rb : 75 ≤ ring mK j ∧ ring mK j + 24 ≤ 219 := by unfold ring; omega
        have hw := hist_ws I ⟨x, y⟩
        have rr := r4 j x y
        have es : S_hisF (μ 73 2) (up2 m10 248 8 0) (μ 249) j = S_hist (μ 73 2) μ j := by
          unfold S_hisF S_hist slice
          rw [s252]
        rw [es] at rr
        rw [hr]
        exact ⟨RB.cg rr hw.1 ((g5 j x y).keep (fun a u v => (lof a (by omega) (by omega) (by omega) (by omega) (by omega)).trans (h3 a (by omega)))), WS.cg rr (hw.up (by omega))⟩
      · rw [lof 219 (by omega) (by omega) (by omega) (by omega) (by omega), eF 219 (by omega), eC 219 (by omega)]; exact b2'
      · rw [r2 248 8 (by omega) (by omega), up2_s]
      · rw [lof 219 (by omega) (by omega) (by omega) (by omega) (by omega), eF 219 (by omega), eC 219 (by omega)]; exact b3
      · rw [r2 248 9 (by omega) (by omega), up2_k (by omega)]; exact q5
      · rw [lof a (by omega) (by omega) (by omega) (by omega) (by omega), eF a (by omega), eR a (by omega) (by omega)]
      · rw [lo 248 11 (by omega) (by omega) (by omega) (by unfold jT; omega) (by omega), up2_o (by omega), eF 248 (by omega), eR 248 (by omega) (by omega)]
    · have f : f_X10_sheet μ = some (TLc mC 1 N W (S_wd G M Q W), 4 + 1, 0) := by
        rw [cs]
        refine (e2 z).trans ?_
        rw [Int.zero_add]
      have hwd := wd_iG (m := M) (q := Q) (w := W) e4.1 hM hQ
      generalize S_wd G M Q W = D at f rP hwd
      have eT : ∀ a k : Nat, ¬ (223 ≤ a ∧ a ≤ 225) → TLc mC 1 N W D a k = mC a k := fun a k x => by
        unfold TLc
        rw [up2_o (by omega), up2_o (by omega), up2_o (by omega), up2_o (by omega), up2_o (by omega)]
      obtain ⟨m10, q1, q2, q3, q4, q5, q6, q7⟩ := rP (TLc mC 1 N W D) (fun a ha => (funext fun k => eT a k (by omega)).trans (eR a (by omega) (by omega)))
      obtain ⟨m11, r1, r2, r3, r4⟩ := r_back (μ := up2 m10 248 8 0) (k := fun v5 v6 μ => rdF μ 248 20 fun x1 => rb (f_X11_reports 1 v5 v6 x1 2 μ) fun μ x2 => some (μ, 0, x2)) (v5 := N) (v6 := W)
      have r1 : f_X11_sheet_196 (fun v5 v6 μ => rdF μ 248 20 fun x1 => rb (f_X11_reports 1 v5 v6 x1 2 μ) fun μ x2 => some (μ, 0, x2)) FU N W 0 (up2 m10 248 8 0) = rdF m11 248 20 fun x1 => rb (f_X11_reports 1 N W x1 2 m11) fun μ x2 => some (μ, 0, x2) := r1
      have w20 : m11 248 20 = D := by
        rw [r2 248 (by omega), up2_k (by omega)]; exact q3 z
      have q : f_X11_sheet (TLc mC 1 N W D) = some (TLr m11 1 N W D 2, 0, 0) := by
        rw [q1]
        unfold f_X11_sheet_176
        rw [p_wrF, p_eq (by omega), if_neg z, r1, p_rdF, w20, r_rep, p_rb]
      have f11 : m11 249 = μ 249 := funext fun i => by
        by_cases v : i < 779
        · rw [r3 i v, up2_o (by omega)]; exact q4 i v
        · rw [r4 i (by omega), up2_o (by omega), q2]; exact hhi i (by omega)
      have eL : ∀ a k : Nat, a ≠ 254 → ¬ (a = 248 ∧ (k = 0 ∨ k = 11)) → TLr m11 1 N W D 2 a k = m11 a k := fun a k x y => by
        unfold TLr
        rw [up2_eq, if_neg (by omega), up2_eq, if_neg (by omega), up2_o x, up2_o x, up2_o x, up2_o x]
      have t22 : ∀ a k : Nat, a ≠ 249 → a ≠ 251 → a ≠ 254 → ¬ jT a k → ¬ (a = 248 ∧ (k = 8 ∨ k = 9 ∨ k = 11)) → TLr m11 1 N W D 2 a k = TLc mC 1 N W D a k := fun a k x y w v u => by
        have v' := v
        unfold jT at v'
        rw [eL a k w (by omega), r2 a x, up2_eq, if_neg (by omega), q7 a k x y v (by omega)]
      have lof : ∀ a : Nat, a ≠ 249 → a ≠ 251 → a ≠ 254 → ¬ (219 ≤ a ∧ a ≤ 225) → a ≠ 248 → ¬ 255 ≤ a → (a < 25 ∨ 49 ≤ a) → TLr m11 1 N W D 2 a = μ a := fun a x y w v u i j => (funext fun k => (t22 a k x y w (by unfold jT; omega) (by omega)).trans (eT a k (by omega))).trans (eR a j (by omega))
      have l248 : ∀ k : Nat, k = 5 ∨ k = 6 → TLr m11 1 N W D 2 248 k = μ 248 k := fun k x => by
        rw [t22 248 k (by omega) (by omega) (by omega) (by unfold jT; omega) (by omega), eT 248 k (by omega), eR 248 (by omega) (by omega)]
      have l219 : ∀ k : Nat, TLr m11 1 N W D 2 219 k = mR 219 k := fun k => by
        rw [t22 219 k (by omega) (by omega) (by omega) (by unfold jT; omega) (by omega), eT 219 k (by omega), eC 219 (by omega)]
      have l249 : TLr m11 1 N W D 2 249 = μ 249 := (funext fun k => eL 249 k (by omega) (by omega)).trans f11
      refine ⟨_, lc_ex (i := 1) f rfl (by omega) q up2_s, I.fin2 (by omega) (fun a ha => lof a (by omega) (by omega) (by omega) (by omega) (by omega) (by omega) (by omega)) (l248 6 (by omega)) ⟨?_, ?_⟩ (P3.keep I (by omega) (fun a ha => lof a (by omega) (by omega) (by omega) (by omega) (by omega) (by omega) (by omega)) (l248 5 (by omega)) (lof 252 (by omega) (by omega) (by omega) (by omega) (by omega) (by omega) (by omega))) (P4.e (x := -1) ?_ ?_ ?_ ?_ (by omega)) (P5.of (s1 := 1) (s2 := N) (s3 := W) (s4 := D) ⟨?_, ?_, ?_, ?_, ?_⟩ ⟨?_, ?_, ?_, ?_, ?_⟩ ⟨by unfold iG; omega, by unfold iG; omega, by unfold iG; omega, hwd⟩)⟩
      · rw [l249]; exact I.R.keep (fun a x y => lof a (by omega) (by omega) (by omega) (by omega) (by omega) (by omega) (by omega))
      · rw [l249]; exact I.1.2.up (by omega)
      · rw [l219]; exact b2'
      · rw [eL 248 8 (by omega) (by omega), r2 248 (by omega), up2_s]
      · rw [l219]; exact b3
      · rw [eL 248 9 (by omega) (by omega), r2 248 (by omega), up2_k (by omega)]; exact q5
      · rw [t22 223 2 (by omega) (by omega) (by omega) (by unfold jT; omega) (by omega)]; exact up2_s
      · rw [t22 224 0 (by omega) (by omega) (by omega) (by unfold jT; omega) (by omega)]
        unfold TLc
        rw [up2_o (by omega), up2_o (by omega), up2_k (by omega), up2_o (by omega), up2_s]
      · rw [t22 225 0 (by omega) (by omega) (by omega) (by unfold jT; omega) (by omega)]
        unfold TLc
        rw [up2_o (by omega), up2_k (by omega), up2_o (by omega), up2_s]
      · rw [t22 224 1 (by omega) (by omega) (by omega) (by unfold jT; omega) (by omega)]
        unfold TLc
        rw [up2_o (by omega), up2_o (by omega), up2_s]
      · rw [t22 225 1 (by omega) (by omega) (by omega) (by unfold jT; omega) (by omega)]
        unfold TLc
        rw [up2_o (by omega), up2_s]
      · unfold TLr
        rw [up2_k (by omega), up2_s]
      · unfold TLr
        rw [up2_o (by omega), up2_o (by omega), up2_k (by omega), up2_k (by omega), up2_k (by omega), up2_s]
      · unfold TLr
        rw [up2_o (by omega), up2_o (by omega), up2_k (by omega), up2_k (by omega), up2_s]
      · unfold TLr
        rw [up2_o (by omega), up2_o (by omega), up2_k (by omega), up2_s]
      · unfold TLr
        rw [up2_o (by omega), up2_o (by omega), up2_s]

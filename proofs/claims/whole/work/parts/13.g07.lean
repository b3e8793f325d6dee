def f_J6_bitCount_0f7a4 (p0 : Int) (μ : Mu) : Option Res := bnd (p0 - (andI (ushrI p0 1) 1431655765)) fun x1 => bnd ((andI x1 858993459) + (andI (ushrI x1 2) 858993459)) fun x2 => bnd (andI (x2 + (ushrI x2 4)) 252645135) fun x3 => bnd (x3 + (ushrI x3 8)) fun x4 => bnd (x4 + (ushrI x4 16)) fun x5 => some (μ, 0, (andI x5 63))
set_option maxRecDepth 100000 in
theorem c_J6_bitCount_0f7a4 (X : kX) (p0 : Int)  (μ : Mu) : Cq X mJ6_bitCount_0f7a4 0 1 μ [.int (iI p0)] (f_J6_bitCount_0f7a4 p0 μ) := by
  intro res h
  refine ct_ofF (by decide +kernel) rfl (Nat.le_of_ble_eq_true rfl) ?_
  show KK X mJ6_bitCount_0f7a4 0 1 res 0 [(0, .int (iI p0))] [] μ
  unfold f_J6_bitCount_0f7a4 at h
  refine K_iload_n (md := mJ6_bitCount_0f7a4) (pc := 0) 0 (kTab_at (pc := 0) tJ6_bitCount_0f7a4_ok 0 rfl) rfl ?_
  refine K_iload_n (md := mJ6_bitCount_0f7a4) (pc := 1) 0 (kTab_at (pc := 1) tJ6_bitCount_0f7a4_ok 1 rfl) rfl ?_
  refine K_iconst (md := mJ6_bitCount_0f7a4) (pc := 2) (x := 1) (kTab_at (pc := 2) tJ6_bitCount_0f7a4_ok 2 rfl) rfl ?_
  refine K_iushr (md := mJ6_bitCount_0f7a4) (pc := 3) (kTab_at (pc := 3) tJ6_bitCount_0f7a4_ok 3 rfl) ?_
  refine K_ldcw (md := mJ6_bitCount_0f7a4) (pc := 4) (x := 1431655765) (v := 1431655765) (kTab_at (pc := 4) tJ6_bitCount_0f7a4_ok 4 rfl) (inT4 131 (by decide +kernel) rfl) (by decide) ?_
  refine K_iand (md := mJ6_bitCount_0f7a4) (pc := 7) (kTab_at (pc := 7) tJ6_bitCount_0f7a4_ok 5 rfl) ?_
  refine K_isub (md := mJ6_bitCount_0f7a4) (pc := 8) (kTab_at (pc := 8) tJ6_bitCount_0f7a4_ok 6 rfl) ?_
  refine Z_bnd (md := mJ6_bitCount_0f7a4) (pc := 9) h (fun x1 h => ?_)
  refine K_istore_n (md := mJ6_bitCount_0f7a4) (pc := 9) (l' := [(0, .int (iI x1))]) (kTab_at (pc := 9) tJ6_bitCount_0f7a4_ok 7 rfl) (Nat.le_of_ble_eq_true rfl) rfl ?_
  refine K_iload_n (md := mJ6_bitCount_0f7a4) (pc := 10) 0 (kTab_at (pc := 10) tJ6_bitCount_0f7a4_ok 8 rfl) rfl ?_
  refine K_ldcw (md := mJ6_bitCount_0f7a4) (pc := 11) (x := 858993459) (v := 858993459) (kTab_at (pc := 11) tJ6_bitCount_0f7a4_ok 9 rfl) (inT4 132 (by decide +kernel) rfl) (by decide) ?_
  refine K_iand (md := mJ6_bitCount_0f7a4) (pc := 14) (kTab_at (pc := 14) tJ6_bitCount_0f7a4_ok 10 rfl) ?_
  refine K_iload_n (md := mJ6_bitCount_0f7a4) (pc := 15) 0 (kTab_at (pc := 15) tJ6_bitCount_0f7a4_ok 11 rfl) rfl ?_
  refine K_iconst (md := mJ6_bitCount_0f7a4) (pc := 16) (x := 2) (kTab_at (pc := 16) tJ6_bitCount_0f7a4_ok 12 rfl) rfl ?_
  refine K_iushr (md := mJ6_bitCount_0f7a4) (pc := 17) (kTab_at (pc := 17) tJ6_bitCount_0f7a4_ok 13 rfl) ?_
  refine K_ldcw (md := mJ6_bitCount_0f7a4) (pc := 18) (x := 858993459) (v := 858993459) (kTab_at (pc := 18) tJ6_bitCount_0f7a4_ok 14 rfl) (inT4 132 (by decide +kernel) rfl) (by decide) ?_
  refine K_iand (md := mJ6_bitCount_0f7a4) (pc := 21) (kTab_at (pc := 21) tJ6_bitCount_0f7a4_ok 15 rfl) ?_
  refine K_iadd (md := mJ6_bitCount_0f7a4) (pc := 22) (kTab_at (pc := 22) tJ6_bitCount_0f7a4_ok 16 rfl) ?_
  refine Z_bnd (md := mJ6_bitCount_0f7a4) (pc := 23) h (fun x2 h => ?_)
  refine K_istore_n (md := mJ6_bitCount_0f7a4) (pc := 23) (l' := [(0, .int (iI x2))]) (kTab_at (pc := 23) tJ6_bitCount_0f7a4_ok 17 rfl) (Nat.le_of_ble_eq_true rfl) rfl ?_
  refine K_iload_n (md := mJ6_bitCount_0f7a4) (pc := 24) 0 (kTab_at (pc := 24) tJ6_bitCount_0f7a4_ok 18 rfl) rfl ?_
  refine K_iload_n (md := mJ6_bitCount_0f7a4) (pc := 25) 0 (kTab_at (pc := 25) tJ6_bitCount_0f7a4_ok 19 rfl) rfl ?_
  refine K_iconst (md := mJ6_bitCount_0f7a4) (pc := 26) (x := 4) (kTab_at (pc := 26) tJ6_bitCount_0f7a4_ok 20 rfl) rfl ?_
  refine K_iushr (md := mJ6_bitCount_0f7a4) (pc := 27) (kTab_at (pc := 27) tJ6_bitCount_0f7a4_ok 21 rfl) ?_
  refine K_iadd (md := mJ6_bitCount_0f7a4) (pc := 28) (kTab_at (pc := 28) tJ6_bitCount_0f7a4_ok 22 rfl) ?_
  refine K_ldcw (md := mJ6_bitCount_0f7a4) (pc := 29) (x := 252645135) (v := 252645135) (kTab_at (pc := 29) tJ6_bitCount_0f7a4_ok 23 rfl) (inT4 133 (by decide +kernel) rfl) (by decide) ?_
  refine K_iand (md := mJ6_bitCount_0f7a4) (pc := 32) (kTab_at (pc := 32) tJ6_bitCount_0f7a4_ok 24 rfl) ?_
  refine Z_bnd (md := mJ6_bitCount_0f7a4) (pc := 33) h (fun x3 h => ?_)
  refine K_istore_n (md := mJ6_bitCount_0f7a4) (pc := 33) (l' := [(0, .int (iI x3))]) (kTab_at (pc := 33) tJ6_bitCount_0f7a4_ok 25 rfl) (Nat.le_of_ble_eq_true rfl) rfl ?_
  refine K_iload_n (md := mJ6_bitCount_0f7a4) (pc := 34) 0 (kTab_at (pc := 34) tJ6_bitCount_0f7a4_ok 26 rfl) rfl ?_
  refine K_iload_n (md := mJ6_bitCount_0f7a4) (pc := 35) 0 (kTab_at (pc := 35) tJ6_bitCount_0f7a4_ok 27 rfl) rfl ?_
  refine K_bipush (md := mJ6_bitCount_0f7a4) (pc := 36) (x := 8) (kTab_at (pc := 36) tJ6_bitCount_0f7a4_ok 28 rfl) (by decide) ?_
  refine K_iushr (md := mJ6_bitCount_0f7a4) (pc := 38) (kTab_at (pc := 38) tJ6_bitCount_0f7a4_ok 29 rfl) ?_
  refine K_iadd (md := mJ6_bitCount_0f7a4) (pc := 39) (kTab_at (pc := 39) tJ6_bitCount_0f7a4_ok 30 rfl) ?_
  refine Z_bnd (md := mJ6_bitCount_0f7a4) (pc := 40) h (fun x4 h => ?_)
  refine K_istore_n (md := mJ6_bitCount_0f7a4) (pc := 40) (l' := [(0, .int (iI x4))]) (kTab_at (pc := 40) tJ6_bitCount_0f7a4_ok 31 rfl) (Nat.le_of_ble_eq_true rfl) rfl ?_
  refine K_iload_n (md := mJ6_bitCount_0f7a4) (pc := 41) 0 (kTab_at (pc := 41) tJ6_bitCount_0f7a4_ok 32 rfl) rfl ?_
  refine K_iload_n (md := mJ6_bitCount_0f7a4) (pc := 42) 0 (kTab_at (pc := 42) tJ6_bitCount_0f7a4_ok 33 rfl) rfl ?_
  refine K_bipush (md := mJ6_bitCount_0f7a4) (pc := 43) (x := 16) (kTab_at (pc := 43) tJ6_bitCount_0f7a4_ok 34 rfl) (by decide) ?_
  refine K_iushr (md := mJ6_bitCount_0f7a4) (pc := 45) (kTab_at (pc := 45) tJ6_bitCount_0f7a4_ok 35 rfl) ?_
  refine K_iadd (md := mJ6_bitCount_0f7a4) (pc := 46) (kTab_at (pc := 46) tJ6_bitCount_0f7a4_ok 36 rfl) ?_
  refine Z_bnd (md := mJ6_bitCount_0f7a4) (pc := 47) h (fun x5 h => ?_)
  refine K_istore_n (md := mJ6_bitCount_0f7a4) (pc := 47) (l' := [(0, .int (iI x5))]) (kTab_at (pc := 47) tJ6_bitCount_0f7a4_ok 37 rfl) (Nat.le_of_ble_eq_true rfl) rfl ?_
  refine K_iload_n (md := mJ6_bitCount_0f7a4) (pc := 48) 0 (kTab_at (pc := 48) tJ6_bitCount_0f7a4_ok 38 rfl) rfl ?_
  refine K_bipush (md := mJ6_bitCount_0f7a4) (pc := 49) (x := 63) (kTab_at (pc := 49) tJ6_bitCount_0f7a4_ok 39 rfl) (by decide) ?_
  refine K_iand (md := mJ6_bitCount_0f7a4) (pc := 51) (kTab_at (pc := 51) tJ6_bitCount_0f7a4_ok 40 rfl) ?_
  exact Z_iret (md := mJ6_bitCount_0f7a4) (pc := 52) (kTab_at (pc := 52) tJ6_bitCount_0f7a4_ok 41 rfl) rfl rfl rfl h
def f_X10_excuse_112 (p1 : Int) (p2 : Int) (p3 : Int)  (v4 : Int) (s1 : Int) (s2 : Int) (μ : Mu) : Option Res := wrI μ (1 + 4) 8 s1 s2 fun μ => retZ μ v4
set_option maxRecDepth 100000 in
theorem c_X10_excuse_112 (X : kX) (p1 : Int) (p2 : Int) (p3 : Int)  {res : Res}  (v4 : Int) (s1 : Int) (s2 : Int) (μ : Mu) (h : f_X10_excuse_112 p1 p2 p3 v4 s1 s2 μ = some res) : KK X mX10_excuse 4 1 res 112 [(4, .int (iI v4))] [.int (iI s2), .int (iI s1), .ref (X.1 + (1 + 4))] μ := by
  unfold f_X10_excuse_112 at h
  refine Z_iast (md := mX10_excuse) (pc := 112) (kTab_at (pc := 112) tX10_excuse_ok 60 rfl) (lay_at lay_now 4 rfl) (by decide) h (fun μ h => ?_)
  refine K_iload (md := mX10_excuse) (pc := 113) 0 (kTab_at (pc := 113) tX10_excuse_ok 61 rfl) rfl ?_
  exact Z_zret (md := mX10_excuse) (pc := 115) (kTab_at (pc := 115) tX10_excuse_ok 62 rfl) rfl rfl h
def f_X10_excuse_55 (p1 : Int) (p2 : Int) (p3 : Int)  (v4 : Int) (μ : Mu) : Option Res := rb (f_X4_keep 1 μ) fun μ _ => bnd (shlI 1 p2) fun x1 => i_eq p3 0 (rdI μ (1 + 4) 8 p1 fun x2 => f_X10_excuse_112 p1 p2 p3 v4 p1 (andI x2 (xorI x1 (-1))) μ) (rdI μ (1 + 4) 8 p1 fun x3 => f_X10_excuse_112 p1 p2 p3 v4 p1 (orI x3 x1) μ)
set_option maxRecDepth 100000 in
theorem c_X10_excuse_55 (X : kX) (p1 : Int) (p2 : Int) (p3 : Int)  {res : Res}  (v4 : Int) (μ : Mu) (h : f_X10_excuse_55 p1 p2 p3 v4 μ = some res) : KK X mX10_excuse 4 1 res 55 [(0, .ref (X.1 + 0)), (1, .int (iI p1)), (2, .int (iI p2)), (3, .int (iI p3)), (4, .int (iI v4))] [] μ := by
  unfold f_X10_excuse_55 at h
  refine K_aload_n (md := mX10_excuse) (pc := 55) 0 (kTab_at (pc := 55) tX10_excuse_ok 28 rfl) rfl ?_
  refine K_getR (md := mX10_excuse) (pc := 56) (b := 73) (kTab_at (pc := 56) tX10_excuse_ok 29 rfl) fl_X10_25 sk_0 rfl rfl ?_
  refine K_aload_n (md := mX10_excuse) (pc := 59) 0 (kTab_at (pc := 59) tX10_excuse_ok 30 rfl) rfl ?_
  refine K_getR (md := mX10_excuse) (pc := 60) (b := 1) (kTab_at (pc := 60) tX10_excuse_ok 31 rfl) fl_X10_12 sk_0 rfl rfl ?_
  refine Z_callV (md := mX10_excuse) (pc := 63) (st := []) (sv := (fun _ => [])) (kTab_at (pc := 63) tX10_excuse_ok 32 rfl) mv_X10_83 sk_73 rfl (Nat.le_of_ble_eq_true rfl) (by decide) rfl (c_X4_keep X 1 lay_now μ) (fun _ => rfl) h (fun μ _ h => ?_) rfl
  refine K_iconst (md := mX10_excuse) (pc := 66) (x := 1) (kTab_at (pc := 66) tX10_excuse_ok 33 rfl) rfl ?_
  refine K_iload_n (md := mX10_excuse) (pc := 67) 2 (kTab_at (pc := 67) tX10_excuse_ok 34 rfl) rfl ?_
  refine K_ishl (md := mX10_excuse) (pc := 68) (kTab_at (pc := 68) tX10_excuse_ok 35 rfl) ?_
  refine Z_bnd (md := mX10_excuse) (pc := 69) h (fun x1 h => ?_)
  refine K_istore (md := mX10_excuse) (pc := 69) (l' := [(5, .int (iI x1)), (0, .ref (X.1 + 0)), (1, .int (iI p1)), (2, .int (iI p2)), (3, .int (iI p3)), (4, .int (iI v4))]) (kTab_at (pc := 69) tX10_excuse_ok 36 rfl) (Nat.le_of_ble_eq_true rfl) rfl ?_
  refine K_aload_n (md := mX10_excuse) (pc := 71) 1 (kTab_at (pc := 71) tX10_excuse_ok 37 rfl) rfl ?_
  refine K_getR (md := mX10_excuse) (pc := 72) (b := 1) (kTab_at (pc := 72) tX10_excuse_ok 38 rfl) fl_X10_12 sk_0 rfl rfl ?_
  refine K_getR (md := mX10_excuse) (pc := 75) (b := (1 + 4)) (kTab_at (pc := 75) tX10_excuse_ok 39 rfl) fl_X10_247 (lay_0 lay_now rfl) rfl rfl ?_
  refine K_iload_n (md := mX10_excuse) (pc := 78) 2 (kTab_at (pc := 78) tX10_excuse_ok 40 rfl) rfl ?_
  refine K_iload_n (md := mX10_excuse) (pc := 79) 4 (kTab_at (pc := 79) tX10_excuse_ok 41 rfl) rfl ?_
  refine K_if_eq (md := mX10_excuse) (pc := 80) (kTab_at (pc := 80) tX10_excuse_ok 42 rfl) (tgt := 98) rfl h (fun h => ?_) (fun h => ?_)
  · refine K_aload_n (md := mX10_excuse) (pc := 98) 1 (kTab_at (pc := 98) tX10_excuse_ok 51 rfl) rfl ?_
    refine K_getR (md := mX10_excuse) (pc := 99) (b := 1) (kTab_at (pc := 99) tX10_excuse_ok 52 rfl) fl_X10_12 sk_0 rfl rfl ?_
    refine K_getR (md := mX10_excuse) (pc := 102) (b := (1 + 4)) (kTab_at (pc := 102) tX10_excuse_ok 53 rfl) fl_X10_247 (lay_0 lay_now rfl) rfl rfl ?_
    refine K_iload_n (md := mX10_excuse) (pc := 105) 2 (kTab_at (pc := 105) tX10_excuse_ok 54 rfl) rfl ?_
    refine Z_iald (md := mX10_excuse) (pc := 106) (kTab_at (pc := 106) tX10_excuse_ok 55 rfl) (lay_at lay_now 4 rfl) (by decide) h (fun x2 h => ?_)
    refine K_iload (md := mX10_excuse) (pc := 107) 0 (kTab_at (pc := 107) tX10_excuse_ok 56 rfl) rfl ?_
    refine K_iconst (md := mX10_excuse) (pc := 109) (x := -1) (kTab_at (pc := 109) tX10_excuse_ok 57 rfl) rfl ?_
    refine K_ixor (md := mX10_excuse) (pc := 110) (kTab_at (pc := 110) tX10_excuse_ok 58 rfl) ?_
    refine K_iand (md := mX10_excuse) (pc := 111) (kTab_at (pc := 111) tX10_excuse_ok 59 rfl) ?_
    refine K_sub [5] rfl ?_
    refine c_X10_excuse_112 X p1 p2 p3  v4 p1 (andI x2 (xorI x1 (-1))) μ h
  · refine K_aload_n (md := mX10_excuse) (pc := 83) 1 (kTab_at (pc := 83) tX10_excuse_ok 43 rfl) rfl ?_
    refine K_getR (md := mX10_excuse) (pc := 84) (b := 1) (kTab_at (pc := 84) tX10_excuse_ok 44 rfl) fl_X10_12 sk_0 rfl rfl ?_
    refine K_getR (md := mX10_excuse) (pc := 87) (b := (1 + 4)) (kTab_at (pc := 87) tX10_excuse_ok 45 rfl) fl_X10_247 (lay_0 lay_now rfl) rfl rfl ?_
    refine K_iload_n (md := mX10_excuse) (pc := 90) 2 (kTab_at (pc := 90) tX10_excuse_ok 46 rfl) rfl ?_
    refine Z_iald (md := mX10_excuse) (pc := 91) (kTab_at (pc := 91) tX10_excuse_ok 47 rfl) (lay_at lay_now 4 rfl) (by decide) h (fun x3 h => ?_)
    refine K_iload (md := mX10_excuse) (pc := 92) 0 (kTab_at (pc := 92) tX10_excuse_ok 48 rfl) rfl ?_
    refine K_ior (md := mX10_excuse) (pc := 94) (kTab_at (pc := 94) tX10_excuse_ok 49 rfl) ?_
    refine K_goto (md := mX10_excuse) (pc := 95) (tgt := 112) (kTab_at (pc := 95) tX10_excuse_ok 50 rfl) rfl ?_
    refine K_sub [5] rfl ?_
    refine c_X10_excuse_112 X p1 p2 p3  v4 p1 (orI x3 x1) μ h
def f_X10_excuse (p1 : Int) (p2 : Int) (p3 : Int) (μ : Mu) : Option Res := rb (f_X10_requireScript p1 p2 μ) fun μ _ => rb (f_X10_requireUnpublished μ) fun μ _ => rb (f_X1_isExcused 1 p1 p2 μ) fun μ x1 => i_eq p3 0 (f_X10_excuse_55 p1 p2 p3 x1 μ) (i_eq x1 0 (rdI μ (1 + 4) 8 p1 fun x2 => rb (f_J6_bitCount_0f7a4 x2 μ) fun μ x3 => i_lt x3 2 (f_X10_excuse_55 p1 p2 p3 x1 μ) (some (μ, 1, 0))) (f_X10_excuse_55 p1 p2 p3 x1 μ))
set_option maxRecDepth 100000 in
theorem c_X10_excuse (X : kX) (p1 : Int) (p2 : Int) (p3 : Int)  (μ : Mu) : Cq X mX10_excuse 4 1 μ [.ref (X.1 + 0), .int (iI p1), .int (iI p2), .int (iI p3)] (f_X10_excuse p1 p2 p3 μ) := by
  intro res h
  refine ct_of (by decide +kernel) rfl (Nat.le_of_ble_eq_true rfl) ?_
  show KK X mX10_excuse 4 1 res 0 [(0, .ref (X.1 + 0)), (1, .int (iI p1)), (2, .int (iI p2)), (3, .int (iI p3))] [] μ
  unfold f_X10_excuse at h
  refine K_iload_n (md := mX10_excuse) (pc := 0) 1 (kTab_at (pc := 0) tX10_excuse_ok 0 rfl) rfl ?_
  refine K_iload_n (md := mX10_excuse) (pc := 1) 2 (kTab_at (pc := 1) tX10_excuse_ok 1 rfl) rfl ?_
  refine Z_callS (md := mX10_excuse) (pc := 2) (st := []) (sv := (fun _ => [])) (kTab_at (pc := 2) tX10_excuse_ok 2 rfl) ms_X10_142 rfl (Nat.le_of_ble_eq_true rfl) (by decide) rfl (c_X10_requireScript X p1 p2 μ) (fun _ => rfl) h (fun μ _ h => ?_) rfl
  refine K_aload_n (md := mX10_excuse) (pc := 5) 0 (kTab_at (pc := 5) tX10_excuse_ok 3 rfl) rfl ?_
  refine Z_callV (md := mX10_excuse) (pc := 6) (st := []) (sv := (fun _ => [])) (kTab_at (pc := 6) tX10_excuse_ok 4 rfl) mv_X10_65 sk_0 rfl (Nat.le_of_ble_eq_true rfl) (by decide) rfl (c_X10_requireUnpublished X μ) (fun _ => rfl) h (fun μ _ h => ?_) rfl
  refine K_aload_n (md := mX10_excuse) (pc := 9) 0 (kTab_at (pc := 9) tX10_excuse_ok 5 rfl) rfl ?_
  refine K_getR (md := mX10_excuse) (pc := 10) (b := 1) (kTab_at (pc := 10) tX10_excuse_ok 6 rfl) fl_X10_12 sk_0 rfl rfl ?_
  refine K_iload_n (md := mX10_excuse) (pc := 13) 1 (kTab_at (pc := 13) tX10_excuse_ok 7 rfl) rfl ?_
  refine K_iload_n (md := mX10_excuse) (pc := 14) 2 (kTab_at (pc := 14) tX10_excuse_ok 8 rfl) rfl ?_
  refine Z_callV (md := mX10_excuse) (pc := 15) (st := []) (sv := (fun x1 => [.int (iI x1)])) (kTab_at (pc := 15) tX10_excuse_ok 9 rfl) mv_X10_243 (lay_0 lay_now rfl) rfl (Nat.le_of_ble_eq_true rfl) (by decide) rfl (c_X1_isExcused X 1 p1 p2 lay_now μ) (fun _ => rfl) h (fun μ x1 h => ?_) rfl
  refine K_istore (md := mX10_excuse) (pc := 18) (l' := [(4, .int (iI x1)), (0, .ref (X.1 + 0)), (1, .int (iI p1)), (2, .int (iI p2)), (3, .int (iI p3))]) (kTab_at (pc := 18) tX10_excuse_ok 10 rfl) (Nat.le_of_ble_eq_true rfl) rfl ?_
  refine K_iload_n (md := mX10_excuse) (pc := 20) 4 (kTab_at (pc := 20) tX10_excuse_ok 11 rfl) rfl ?_
  refine K_if_eq (md := mX10_excuse) (pc := 21) (kTab_at (pc := 21) tX10_excuse_ok 12 rfl) (tgt := 55) rfl h (fun h => ?_) (fun h => ?_)
  · refine K_sub [1, 2, 3, 4, 0] rfl ?_
    refine c_X10_excuse_55 X p1 p2 p3  x1 μ h
  · refine K_iload (md := mX10_excuse) (pc := 24) 0 (kTab_at (pc := 24) tX10_excuse_ok 13 rfl) rfl ?_
    refine K_if_ne (md := mX10_excuse) (pc := 26) (kTab_at (pc := 26) tX10_excuse_ok 14 rfl) (tgt := 55) rfl h (fun h => ?_) (fun h => ?_)
    · refine K_sub [1, 2, 3, 4, 0] rfl ?_
      refine c_X10_excuse_55 X p1 p2 p3  x1 μ h
    · refine K_aload_n (md := mX10_excuse) (pc := 29) 1 (kTab_at (pc := 29) tX10_excuse_ok 15 rfl) rfl ?_
      refine K_getR (md := mX10_excuse) (pc := 30) (b := 1) (kTab_at (pc := 30) tX10_excuse_ok 16 rfl) fl_X10_12 sk_0 rfl rfl ?_
      refine K_getR (md := mX10_excuse) (pc := 33) (b := (1 + 4)) (kTab_at (pc := 33) tX10_excuse_ok 17 rfl) fl_X10_247 (lay_0 lay_now rfl) rfl rfl ?_
      refine K_iload_n (md := mX10_excuse) (pc := 36) 2 (kTab_at (pc := 36) tX10_excuse_ok 18 rfl) rfl ?_
      refine Z_iald (md := mX10_excuse) (pc := 37) (kTab_at (pc := 37) tX10_excuse_ok 19 rfl) (lay_at lay_now 4 rfl) (by decide) h (fun x2 h => ?_)
      refine Z_callS (md := mX10_excuse) (pc := 38) (st := []) (sv := (fun x3 => [.int (iI x3)])) (kTab_at (pc := 38) tX10_excuse_ok 20 rfl) ms_X10_250 rfl (Nat.le_of_ble_eq_true rfl) (by decide) rfl (c_J6_bitCount_0f7a4 X x2 μ) (fun _ => rfl) h (fun μ x3 h => ?_) rfl
      refine K_iconst (md := mX10_excuse) (pc := 41) (x := 2) (kTab_at (pc := 41) tX10_excuse_ok 21 rfl) rfl ?_
      refine K_icmp_lt (md := mX10_excuse) (pc := 42) (kTab_at (pc := 42) tX10_excuse_ok 22 rfl) (tgt := 55) rfl h (fun h => ?_) (fun h => ?_)
      · refine K_sub [1, 2, 3, 4, 0] rfl ?_
        refine c_X10_excuse_55 X p1 p2 p3  x1 μ h
      · exact Z_th (md := mX10_excuse) (pc := 45) (text := "a third question would be excused") th_0 ck_0 (by decide +kernel) rfl (kTab_at (pc := 45) tX10_excuse_ok 23 rfl) (kTab_at (pc := 48) tX10_excuse_ok 24 rfl) (kTab_at (pc := 49) tX10_excuse_ok 25 rfl) (kTab_at (pc := 51) tX10_excuse_ok 26 rfl) (kTab_at (pc := 54) tX10_excuse_ok 27 rfl) h
def f_X10_raise (p1 : Int) (p2 : Int) (μ : Mu) : Option Res := rb (f_X10_requireCandidate p1 μ) fun μ _ => rb (f_X10_requireRange p2 0 10 μ) fun μ _ => rb (f_X10_requireUnpublished μ) fun μ _ => rdI μ (1 + 5) 8 p1 fun x1 => rb (f_X4_keep 1 μ) fun μ _ => wrI μ (1 + 5) 8 p1 p2 fun μ => some (μ, 0, x1)
set_option maxRecDepth 100000 in
theorem c_X10_raise (X : kX) (p1 : Int) (p2 : Int)  (μ : Mu) : Cq X mX10_raise 4 1 μ [.ref (X.1 + 0), .int (iI p1), .int (iI p2)] (f_X10_raise p1 p2 μ) := by
  intro res h
  refine ct_of (by decide +kernel) rfl (Nat.le_of_ble_eq_true rfl) ?_
  show KK X mX10_raise 4 1 res 0 [(0, .ref (X.1 + 0)), (1, .int (iI p1)), (2, .int (iI p2))] [] μ
  unfold f_X10_raise at h
  refine K_iload_n (md := mX10_raise) (pc := 0) 1 (kTab_at (pc := 0) tX10_raise_ok 0 rfl) rfl ?_
  refine Z_callS (md := mX10_raise) (pc := 1) (st := []) (sv := (fun _ => [])) (kTab_at (pc := 1) tX10_raise_ok 1 rfl) ms_X10_257 rfl (Nat.le_of_ble_eq_true rfl) (by decide) rfl (c_X10_requireCandidate X p1 μ) (fun _ => rfl) h (fun μ _ h => ?_) rfl
  refine K_iload_n (md := mX10_raise) (pc := 4) 2 (kTab_at (pc := 4) tX10_raise_ok 2 rfl) rfl ?_
  refine K_iconst (md := mX10_raise) (pc := 5) (x := 0) (kTab_at (pc := 5) tX10_raise_ok 3 rfl) rfl ?_
  refine K_bipush (md := mX10_raise) (pc := 6) (x := 10) (kTab_at (pc := 6) tX10_raise_ok 4 rfl) (by decide) ?_
  refine Z_callS (md := mX10_raise) (pc := 8) (st := []) (sv := (fun _ => [])) (kTab_at (pc := 8) tX10_raise_ok 5 rfl) ms_X10_61 rfl (Nat.le_of_ble_eq_true rfl) (by decide) rfl (c_X10_requireRange X p2 0 10 μ) (fun _ => rfl) h (fun μ _ h => ?_) rfl
  refine K_aload_n (md := mX10_raise) (pc := 11) 0 (kTab_at (pc := 11) tX10_raise_ok 6 rfl) rfl ?_
  refine Z_callV (md := mX10_raise) (pc := 12) (st := []) (sv := (fun _ => [])) (kTab_at (pc := 12) tX10_raise_ok 7 rfl) mv_X10_65 sk_0 rfl (Nat.le_of_ble_eq_true rfl) (by decide) rfl (c_X10_requireUnpublished X μ) (fun _ => rfl) h (fun μ _ h => ?_) rfl
  refine K_aload_n (md := mX10_raise) (pc := 15) 0 (kTab_at (pc := 15) tX10_raise_ok 8 rfl) rfl ?_
  refine K_getR (md := mX10_raise) (pc := 16) (b := 1) (kTab_at (pc := 16) tX10_raise_ok 9 rfl) fl_X10_12 sk_0 rfl rfl ?_
  refine K_getR (md := mX10_raise) (pc := 19) (b := (1 + 5)) (kTab_at (pc := 19) tX10_raise_ok 10 rfl) fl_X10_260 (lay_0 lay_now rfl) rfl rfl ?_
  refine K_iload_n (md := mX10_raise) (pc := 22) 1 (kTab_at (pc := 22) tX10_raise_ok 11 rfl) rfl ?_
  refine Z_iald (md := mX10_raise) (pc := 23) (kTab_at (pc := 23) tX10_raise_ok 12 rfl) (lay_at lay_now 5 rfl) (by decide) h (fun x1 h => ?_)
  refine K_istore_n (md := mX10_raise) (pc := 24) (l' := [(3, .int (iI x1)), (0, .ref (X.1 + 0)), (1, .int (iI p1)), (2, .int (iI p2))]) (kTab_at (pc := 24) tX10_raise_ok 13 rfl) (Nat.le_of_ble_eq_true rfl) rfl ?_
  refine K_aload_n (md := mX10_raise) (pc := 25) 1 (kTab_at (pc := 25) tX10_raise_ok 14 rfl) rfl ?_
  refine K_getR (md := mX10_raise) (pc := 26) (b := 73) (kTab_at (pc := 26) tX10_raise_ok 15 rfl) fl_X10_25 sk_0 rfl rfl ?_
  refine K_aload_n (md := mX10_raise) (pc := 29) 1 (kTab_at (pc := 29) tX10_raise_ok 16 rfl) rfl ?_
  refine K_getR (md := mX10_raise) (pc := 30) (b := 1) (kTab_at (pc := 30) tX10_raise_ok 17 rfl) fl_X10_12 sk_0 rfl rfl ?_
  refine Z_callV (md := mX10_raise) (pc := 33) (st := []) (sv := (fun _ => [])) (kTab_at (pc := 33) tX10_raise_ok 18 rfl) mv_X10_83 sk_73 rfl (Nat.le_of_ble_eq_true rfl) (by decide) rfl (c_X4_keep X 1 lay_now μ) (fun _ => rfl) h (fun μ _ h => ?_) rfl
  refine K_aload_n (md := mX10_raise) (pc := 36) 1 (kTab_at (pc := 36) tX10_raise_ok 19 rfl) rfl ?_
  refine K_getR (md := mX10_raise) (pc := 37) (b := 1) (kTab_at (pc := 37) tX10_raise_ok 20 rfl) fl_X10_12 sk_0 rfl rfl ?_
  refine K_getR (md := mX10_raise) (pc := 40) (b := (1 + 5)) (kTab_at (pc := 40) tX10_raise_ok 21 rfl) fl_X10_260 (lay_0 lay_now rfl) rfl rfl ?_
  refine K_iload_n (md := mX10_raise) (pc := 43) 2 (kTab_at (pc := 43) tX10_raise_ok 22 rfl) rfl ?_
  refine K_iload_n (md := mX10_raise) (pc := 44) 3 (kTab_at (pc := 44) tX10_raise_ok 23 rfl) rfl ?_
  refine Z_iast (md := mX10_raise) (pc := 45) (kTab_at (pc := 45) tX10_raise_ok 24 rfl) (lay_at lay_now 5 rfl) (by decide) h (fun μ h => ?_)
  refine K_iload_n (md := mX10_raise) (pc := 46) 0 (kTab_at (pc := 46) tX10_raise_ok 25 rfl) rfl ?_
  exact Z_iret (md := mX10_raise) (pc := 47) (kTab_at (pc := 47) tX10_raise_ok 26 rfl) rfl rfl rfl h
def f_X10_setPoint_58 (p1 : Int) (p2 : Int)   (μ : Mu) : Option Res := rb (f_X4_keep 1 μ) fun μ _ => rb (f_X2_put (1 + 16) p1 p2 μ) fun μ x1 => some (μ, 0, x1)
set_option maxRecDepth 100000 in
theorem c_X10_setPoint_58 (X : kX) (p1 : Int) (p2 : Int)  {res : Res}  (μ : Mu) (h : f_X10_setPoint_58 p1 p2 μ = some res) : KK X mX10_setPoint 4 1 res 58 [(0, .ref (X.1 + 0)), (1, .int (iI p1)), (2, .int (iI p2))] [] μ := by
  unfold f_X10_setPoint_58 at h
  refine K_aload_n (md := mX10_setPoint) (pc := 58) 0 (kTab_at (pc := 58) tX10_setPoint_ok 27 rfl) rfl ?_
  refine K_getR (md := mX10_setPoint) (pc := 59) (b := 73) (kTab_at (pc := 59) tX10_setPoint_ok 28 rfl) fl_X10_25 sk_0 rfl rfl ?_
  refine K_aload_n (md := mX10_setPoint) (pc := 62) 0 (kTab_at (pc := 62) tX10_setPoint_ok 29 rfl) rfl ?_
  refine K_getR (md := mX10_setPoint) (pc := 63) (b := 1) (kTab_at (pc := 63) tX10_setPoint_ok 30 rfl) fl_X10_12 sk_0 rfl rfl ?_
  refine Z_callV (md := mX10_setPoint) (pc := 66) (st := []) (sv := (fun _ => [])) (kTab_at (pc := 66) tX10_setPoint_ok 31 rfl) mv_X10_83 sk_73 rfl (Nat.le_of_ble_eq_true rfl) (by decide) rfl (c_X4_keep X 1 lay_now μ) (fun _ => rfl) h (fun μ _ h => ?_) rfl
  refine K_aload_n (md := mX10_setPoint) (pc := 69) 0 (kTab_at (pc := 69) tX10_setPoint_ok 32 rfl) rfl ?_
  refine K_getR (md := mX10_setPoint) (pc := 70) (b := 1) (kTab_at (pc := 70) tX10_setPoint_ok 33 rfl) fl_X10_12 sk_0 rfl rfl ?_
  refine K_getR (md := mX10_setPoint) (pc := 73) (b := (1 + 16)) (kTab_at (pc := 73) tX10_setPoint_ok 34 rfl) fl_X10_263 (lay_0 lay_now rfl) rfl rfl ?_
  refine K_iload_n (md := mX10_setPoint) (pc := 76) 1 (kTab_at (pc := 76) tX10_setPoint_ok 35 rfl) rfl ?_
  refine K_iload_n (md := mX10_setPoint) (pc := 77) 2 (kTab_at (pc := 77) tX10_setPoint_ok 36 rfl) rfl ?_
  refine Z_callV (md := mX10_setPoint) (pc := 78) (st := []) (sv := (fun x1 => [.int (iI x1)])) (kTab_at (pc := 78) tX10_setPoint_ok 37 rfl) mv_X10_277 (lay_0 (lay_curve lay_now) rfl) rfl (Nat.le_of_ble_eq_true rfl) (by decide) rfl (c_X2_put X (1 + 16) p1 p2 (lay_curve lay_now) μ) (fun _ => rfl) h (fun μ x1 h => ?_) rfl
  exact Z_iret (md := mX10_setPoint) (pc := 81) (kTab_at (pc := 81) tX10_setPoint_ok 38 rfl) rfl rfl rfl h
def f_X10_setPoint (p1 : Int) (p2 : Int) (μ : Mu) : Option Res := rb (f_X10_requireRange p1 0 200 μ) fun μ _ => rb (f_X10_requireRange p2 0 100 μ) fun μ _ => rb (f_X10_requireUnpublished μ) fun μ _ => rdF μ (1 + 16) 2 fun x1 => i_lt x1 5 (f_X10_setPoint_58 p1 p2 μ) (rb (f_X2_indexOf (1 + 16) p1 μ) fun μ x2 => i_lt x2 0 (some (μ, 1, 0)) (f_X10_setPoint_58 p1 p2 μ))
set_option maxRecDepth 100000 in
theorem c_X10_setPoint (X : kX) (p1 : Int) (p2 : Int)  (μ : Mu) : Cq X mX10_setPoint 4 1 μ [.ref (X.1 + 0), .int (iI p1), .int (iI p2)] (f_X10_setPoint p1 p2 μ) := by
  intro res h
  refine ct_of (by decide +kernel) rfl (Nat.le_of_ble_eq_true rfl) ?_
  show KK X mX10_setPoint 4 1 res 0 [(0, .ref (X.1 + 0)), (1, .int (iI p1)), (2, .int (iI p2))] [] μ
  unfold f_X10_setPoint at h
  refine K_iload_n (md := mX10_setPoint) (pc := 0) 1 (kTab_at (pc := 0) tX10_setPoint_ok 0 rfl) rfl ?_
  refine K_iconst (md := mX10_setPoint) (pc := 1) (x := 0) (kTab_at (pc := 1) tX10_setPoint_ok 1 rfl) rfl ?_
  refine K_sipush (md := mX10_setPoint) (pc := 2) (x := 200) (kTab_at (pc := 2) tX10_setPoint_ok 2 rfl) (by decide) ?_
  refine Z_callS (md := mX10_setPoint) (pc := 5) (st := []) (sv := (fun _ => [])) (kTab_at (pc := 5) tX10_setPoint_ok 3 rfl) ms_X10_61 rfl (Nat.le_of_ble_eq_true rfl) (by decide) rfl (c_X10_requireRange X p1 0 200 μ) (fun _ => rfl) h (fun μ _ h => ?_) rfl
  refine K_iload_n (md := mX10_setPoint) (pc := 8) 2 (kTab_at (pc := 8) tX10_setPoint_ok 4 rfl) rfl ?_
  refine K_iconst (md := mX10_setPoint) (pc := 9) (x := 0) (kTab_at (pc := 9) tX10_setPoint_ok 5 rfl) rfl ?_
  refine K_bipush (md := mX10_setPoint) (pc := 10) (x := 100) (kTab_at (pc := 10) tX10_setPoint_ok 6 rfl) (by decide) ?_
  refine Z_callS (md := mX10_setPoint) (pc := 12) (st := []) (sv := (fun _ => [])) (kTab_at (pc := 12) tX10_setPoint_ok 7 rfl) ms_X10_61 rfl (Nat.le_of_ble_eq_true rfl) (by decide) rfl (c_X10_requireRange X p2 0 100 μ) (fun _ => rfl) h (fun μ _ h => ?_) rfl
  refine K_aload_n (md := mX10_setPoint) (pc := 15) 0 (kTab_at (pc := 15) tX10_setPoint_ok 8 rfl) rfl ?_
  refine Z_callV (md := mX10_setPoint) (pc := 16) (st := []) (sv := (fun _ => [])) (kTab_at (pc := 16) tX10_setPoint_ok 9 rfl) mv_X10_65 sk_0 rfl (Nat.le_of_ble_eq_true rfl) (by decide) rfl (c_X10_requireUnpublished X μ) (fun _ => rfl) h (fun μ _ h => ?_) rfl
  refine K_aload_n (md := mX10_setPoint) (pc := 19) 0 (kTab_at (pc := 19) tX10_setPoint_ok 10 rfl) rfl ?_
  refine K_getR (md := mX10_setPoint) (pc := 20) (b := 1) (kTab_at (pc := 20) tX10_setPoint_ok 11 rfl) fl_X10_12 sk_0 rfl rfl ?_
  refine K_getR (md := mX10_setPoint) (pc := 23) (b := (1 + 16)) (kTab_at (pc := 23) tX10_setPoint_ok 12 rfl) fl_X10_263 (lay_0 lay_now rfl) rfl rfl ?_
  refine Z_getI (md := mX10_setPoint) (pc := 26) (kTab_at (pc := 26) tX10_setPoint_ok 13 rfl) fl_X10_267 (lay_0 (lay_curve lay_now) rfl) (Or.inl rfl) h (fun x1 h => ?_)
  refine K_iconst (md := mX10_setPoint) (pc := 29) (x := 5) (kTab_at (pc := 29) tX10_setPoint_ok 14 rfl) rfl ?_
  refine K_icmp_lt (md := mX10_setPoint) (pc := 30) (kTab_at (pc := 30) tX10_setPoint_ok 15 rfl) (tgt := 58) rfl h (fun h => ?_) (fun h => ?_)
  · refine c_X10_setPoint_58 X p1 p2  μ h
  · refine K_aload_n (md := mX10_setPoint) (pc := 33) 0 (kTab_at (pc := 33) tX10_setPoint_ok 16 rfl) rfl ?_
    refine K_getR (md := mX10_setPoint) (pc := 34) (b := 1) (kTab_at (pc := 34) tX10_setPoint_ok 17 rfl) fl_X10_12 sk_0 rfl rfl ?_
    refine K_getR (md := mX10_setPoint) (pc := 37) (b := (1 + 16)) (kTab_at (pc := 37) tX10_setPoint_ok 18 rfl) fl_X10_263 (lay_0 lay_now rfl) rfl rfl ?_
    refine K_iload_n (md := mX10_setPoint) (pc := 40) 1 (kTab_at (pc := 40) tX10_setPoint_ok 19 rfl) rfl ?_
    refine Z_callV (md := mX10_setPoint) (pc := 41) (st := []) (sv := (fun x2 => [.int (iI x2)])) (kTab_at (pc := 41) tX10_setPoint_ok 20 rfl) mv_X10_272 (lay_0 (lay_curve lay_now) rfl) rfl (Nat.le_of_ble_eq_true rfl) (by decide) rfl (c_X2_indexOf X (1 + 16) p1 (lay_curve lay_now) μ) (fun _ => rfl) h (fun μ x2 h => ?_) rfl
    refine K_if_ge (md := mX10_setPoint) (pc := 44) (kTab_at (pc := 44) tX10_setPoint_ok 21 rfl) (tgt := 58) rfl h (fun h => ?_) (fun h => ?_)
    · refine c_X10_setPoint_58 X p1 p2  μ h
    · exact Z_thW (md := mX10_setPoint) (pc := 47) (text := "the curve has all its points") th_0 ck_0 (by decide +kernel) rfl (kTab_at (pc := 47) tX10_setPoint_ok 22 rfl) (kTab_at (pc := 50) tX10_setPoint_ok 23 rfl) (kTab_at (pc := 51) tX10_setPoint_ok 24 rfl) (kTab_at (pc := 54) tX10_setPoint_ok 25 rfl) (kTab_at (pc := 57) tX10_setPoint_ok 26 rfl) h
def f_X10_removePoint (p1 : Int) (μ : Mu) : Option Res := rb (f_X10_requireUnpublished μ) fun μ _ => rb (f_X2_indexOf (1 + 16) p1 μ) fun μ x1 => i_lt x1 0 (some (μ, 6, 0)) (rb (f_X4_keep 1 μ) fun μ _ => rb (f_X2_takeAway (1 + 16) x1 μ) fun μ x2 => some (μ, 0, x2))
set_option maxRecDepth 100000 in
theorem c_X10_removePoint (X : kX) (p1 : Int)  (μ : Mu) : Cq X mX10_removePoint 4 1 μ [.ref (X.1 + 0), .int (iI p1)] (f_X10_removePoint p1 μ) := by
  intro res h
  refine ct_of (by decide +kernel) rfl (Nat.le_of_ble_eq_true rfl) ?_
  show KK X mX10_removePoint 4 1 res 0 [(0, .ref (X.1 + 0)), (1, .int (iI p1))] [] μ
  unfold f_X10_removePoint at h
  refine K_aload_n (md := mX10_removePoint) (pc := 0) 0 (kTab_at (pc := 0) tX10_removePoint_ok 0 rfl) rfl ?_
  refine Z_callV (md := mX10_removePoint) (pc := 1) (st := []) (sv := (fun _ => [])) (kTab_at (pc := 1) tX10_removePoint_ok 1 rfl) mv_X10_65 sk_0 rfl (Nat.le_of_ble_eq_true rfl) (by decide) rfl (c_X10_requireUnpublished X μ) (fun _ => rfl) h (fun μ _ h => ?_) rfl
  refine K_aload_n (md := mX10_removePoint) (pc := 4) 0 (kTab_at (pc := 4) tX10_removePoint_ok 2 rfl) rfl ?_
  refine K_getR (md := mX10_removePoint) (pc := 5) (b := 1) (kTab_at (pc := 5) tX10_removePoint_ok 3 rfl) fl_X10_12 sk_0 rfl rfl ?_
  refine K_getR (md := mX10_removePoint) (pc := 8) (b := (1 + 16)) (kTab_at (pc := 8) tX10_removePoint_ok 4 rfl) fl_X10_263 (lay_0 lay_now rfl) rfl rfl ?_
  refine K_iload_n (md := mX10_removePoint) (pc := 11) 1 (kTab_at (pc := 11) tX10_removePoint_ok 5 rfl) rfl ?_
  refine Z_callV (md := mX10_removePoint) (pc := 12) (st := []) (sv := (fun x1 => [.int (iI x1)])) (kTab_at (pc := 12) tX10_removePoint_ok 6 rfl) mv_X10_272 (lay_0 (lay_curve lay_now) rfl) rfl (Nat.le_of_ble_eq_true rfl) (by decide) rfl (c_X2_indexOf X (1 + 16) p1 (lay_curve lay_now) μ) (fun _ => rfl) h (fun μ x1 h => ?_) rfl
  refine K_istore_n (md := mX10_removePoint) (pc := 15) (l' := [(2, .int (iI x1)), (0, .ref (X.1 + 0)), (1, .int (iI p1))]) (kTab_at (pc := 15) tX10_removePoint_ok 7 rfl) (Nat.le_of_ble_eq_true rfl) rfl ?_
  refine K_iload_n (md := mX10_removePoint) (pc := 16) 0 (kTab_at (pc := 16) tX10_removePoint_ok 8 rfl) rfl ?_
  refine K_if_ge (md := mX10_removePoint) (pc := 17) (kTab_at (pc := 17) tX10_removePoint_ok 9 rfl) (tgt := 31) rfl h (fun h => ?_) (fun h => ?_)
  · refine K_aload_n (md := mX10_removePoint) (pc := 31) 1 (kTab_at (pc := 31) tX10_removePoint_ok 15 rfl) rfl ?_
    refine K_getR (md := mX10_removePoint) (pc := 32) (b := 73) (kTab_at (pc := 32) tX10_removePoint_ok 16 rfl) fl_X10_25 sk_0 rfl rfl ?_
    refine K_aload_n (md := mX10_removePoint) (pc := 35) 1 (kTab_at (pc := 35) tX10_removePoint_ok 17 rfl) rfl ?_
    refine K_getR (md := mX10_removePoint) (pc := 36) (b := 1) (kTab_at (pc := 36) tX10_removePoint_ok 18 rfl) fl_X10_12 sk_0 rfl rfl ?_
    refine Z_callV (md := mX10_removePoint) (pc := 39) (st := []) (sv := (fun _ => [])) (kTab_at (pc := 39) tX10_removePoint_ok 19 rfl) mv_X10_83 sk_73 rfl (Nat.le_of_ble_eq_true rfl) (by decide) rfl (c_X4_keep X 1 lay_now μ) (fun _ => rfl) h (fun μ _ h => ?_) rfl
    refine K_aload_n (md := mX10_removePoint) (pc := 42) 1 (kTab_at (pc := 42) tX10_removePoint_ok 20 rfl) rfl ?_
    refine K_getR (md := mX10_removePoint) (pc := 43) (b := 1) (kTab_at (pc := 43) tX10_removePoint_ok 21 rfl) fl_X10_12 sk_0 rfl rfl ?_
    refine K_getR (md := mX10_removePoint) (pc := 46) (b := (1 + 16)) (kTab_at (pc := 46) tX10_removePoint_ok 22 rfl) fl_X10_263 (lay_0 lay_now rfl) rfl rfl ?_
    refine K_iload_n (md := mX10_removePoint) (pc := 49) 0 (kTab_at (pc := 49) tX10_removePoint_ok 23 rfl) rfl ?_
    refine Z_callV (md := mX10_removePoint) (pc := 50) (st := []) (sv := (fun x2 => [.int (iI x2)])) (kTab_at (pc := 50) tX10_removePoint_ok 24 rfl) mv_X10_282 (lay_0 (lay_curve lay_now) rfl) rfl (Nat.le_of_ble_eq_true rfl) (by decide) rfl (c_X2_takeAway X (1 + 16) x1 (lay_curve lay_now) μ) (fun _ => rfl) h (fun μ x2 h => ?_) rfl
    exact Z_iret (md := mX10_removePoint) (pc := 53) (kTab_at (pc := 53) tX10_removePoint_ok 25 rfl) rfl rfl rfl h
  · exact Z_thNW (md := mX10_removePoint) (pc := 20) (text := "no point at this place") tn_0 ck_5 (by decide +kernel) rfl (kTab_at (pc := 20) tX10_removePoint_ok 10 rfl) (kTab_at (pc := 23) tX10_removePoint_ok 11 rfl) (kTab_at (pc := 24) tX10_removePoint_ok 12 rfl) (kTab_at (pc := 27) tX10_removePoint_ok 13 rfl) (kTab_at (pc := 30) tX10_removePoint_ok 14 rfl) h
def f_X10_curve (p1 : Int) (μ : Mu) : Option Res := rb (f_X1_fullMaximum 1 μ) fun μ x1 => i_min 200 x1 fun x2 => rb (f_X10_requireRange p1 0 x2 μ) fun μ _ => i_2l p1 (rb (f_X2_scale (1 + 16) p1 1 x1 μ) fun μ x3 => some (μ, 0, x3))
set_option maxRecDepth 100000 in
theorem c_X10_curve (X : kX) (p1 : Int)  (μ : Mu) : Cq X mX10_curve 3 1 μ [.ref (X.1 + 0), .int (iI p1)] (f_X10_curve p1 μ) := by
  intro res h
  refine ct_of (by decide +kernel) rfl (Nat.le_of_ble_eq_true rfl) ?_
  show KK X mX10_curve 3 1 res 0 [(0, .ref (X.1 + 0)), (1, .int (iI p1))] [] μ
  unfold f_X10_curve at h
  refine K_aload_n (md := mX10_curve) (pc := 0) 0 (kTab_at (pc := 0) tX10_curve_ok 0 rfl) rfl ?_
  refine K_getR (md := mX10_curve) (pc := 1) (b := 1) (kTab_at (pc := 1) tX10_curve_ok 1 rfl) fl_X10_12 sk_0 rfl rfl ?_
  refine Z_callV (md := mX10_curve) (pc := 4) (st := []) (sv := (fun x1 => [.int (iI x1)])) (kTab_at (pc := 4) tX10_curve_ok 2 rfl) mv_X10_285 (lay_0 lay_now rfl) rfl (Nat.le_of_ble_eq_true rfl) (by decide) rfl (c_X1_fullMaximum X 1 lay_now μ) (fun _ => rfl) h (fun μ x1 h => ?_) rfl
  refine K_istore_n (md := mX10_curve) (pc := 7) (l' := [(2, .int (iI x1)), (0, .ref (X.1 + 0)), (1, .int (iI p1))]) (kTab_at (pc := 7) tX10_curve_ok 3 rfl) (Nat.le_of_ble_eq_true rfl) rfl ?_
  refine K_iload_n (md := mX10_curve) (pc := 8) 2 (kTab_at (pc := 8) tX10_curve_ok 4 rfl) rfl ?_
  refine K_iconst (md := mX10_curve) (pc := 9) (x := 0) (kTab_at (pc := 9) tX10_curve_ok 5 rfl) rfl ?_
  refine K_sipush (md := mX10_curve) (pc := 10) (x := 200) (kTab_at (pc := 10) tX10_curve_ok 6 rfl) (by decide) ?_
  refine K_iload_n (md := mX10_curve) (pc := 13) 0 (kTab_at (pc := 13) tX10_curve_ok 7 rfl) rfl ?_
  refine Z_mmin (md := mX10_curve) (pc := 14) (kTab_at (pc := 14) tX10_curve_ok 8 rfl) (inT2 135 (by decide +kernel) rfl) (inT2 136 (by decide +kernel) rfl) (inT1 22 (by decide +kernel) rfl) (inT2 137 (by decide +kernel) rfl) (Nat.le_of_ble_eq_true rfl) h (fun x2 h => ?_)
  refine Z_callS (md := mX10_curve) (pc := 17) (st := []) (sv := (fun _ => [])) (kTab_at (pc := 17) tX10_curve_ok 9 rfl) ms_X10_61 rfl (Nat.le_of_ble_eq_true rfl) (by decide) rfl (c_X10_requireRange X p1 0 x2 μ) (fun _ => rfl) h (fun μ _ h => ?_) rfl
  refine K_aload_n (md := mX10_curve) (pc := 20) 1 (kTab_at (pc := 20) tX10_curve_ok 10 rfl) rfl ?_
  refine K_getR (md := mX10_curve) (pc := 21) (b := 1) (kTab_at (pc := 21) tX10_curve_ok 11 rfl) fl_X10_12 sk_0 rfl rfl ?_
  refine K_getR (md := mX10_curve) (pc := 24) (b := (1 + 16)) (kTab_at (pc := 24) tX10_curve_ok 12 rfl) fl_X10_263 (lay_0 lay_now rfl) rfl rfl ?_
  refine K_iload_n (md := mX10_curve) (pc := 27) 2 (kTab_at (pc := 27) tX10_curve_ok 13 rfl) rfl ?_
  refine K_i2l (md := mX10_curve) (pc := 28) (kTab_at (pc := 28) tX10_curve_ok 14 rfl) h (fun h => ?_)
  refine K_lconst (md := mX10_curve) (pc := 29) (x := 1) (kTab_at (pc := 29) tX10_curve_ok 15 rfl) rfl ?_
  refine K_iload_n (md := mX10_curve) (pc := 30) 0 (kTab_at (pc := 30) tX10_curve_ok 16 rfl) rfl ?_
  refine Z_callV (md := mX10_curve) (pc := 31) (st := []) (sv := (fun x3 => [.int (iI x3)])) (kTab_at (pc := 31) tX10_curve_ok 17 rfl) mv_X10_294 (lay_0 (lay_curve lay_now) rfl) rfl (Nat.le_of_ble_eq_true rfl) (by decide) rfl (c_X2_scale X (1 + 16) p1 1 x1 (lay_curve lay_now) μ) (fun _ => rfl) h (fun μ x3 h => ?_) rfl
  exact Z_iret (md := mX10_curve) (pc := 34) (kTab_at (pc := 34) tX10_curve_ok 18 rfl) rfl rfl rfl h
def f_X10_setBoundary_9 (p1 : Int) (p2 : Int)   (μ : Mu) : Option Res := some (μ, 3, 0)
set_option maxRecDepth 100000 in
theorem c_X10_setBoundary_9 (X : kX) (p1 : Int) (p2 : Int)  {res : Res}  (μ : Mu) (h : f_X10_setBoundary_9 p1 p2 μ = some res) : KK X mX10_setBoundary 4 1 res 9 [] [] μ := by
  unfold f_X10_setBoundary_9 at h
  exact Z_thW (md := mX10_setBoundary) (pc := 9) (text := "no such boundary") th_2 ck_2 (by decide +kernel) rfl (kTab_at (pc := 9) tX10_setBoundary_ok 5 rfl) (kTab_at (pc := 12) tX10_setBoundary_ok 6 rfl) (kTab_at (pc := 13) tX10_setBoundary_ok 7 rfl) (kTab_at (pc := 16) tX10_setBoundary_ok 8 rfl) (kTab_at (pc := 19) tX10_setBoundary_ok 9 rfl) h
def f_X10_setBoundary_67 (p1 : Int) (p2 : Int)  (v3 : Int) (s0 : Int) (μ : Mu) : Option Res := rb (f_X10_requireRange p2 v3 s0 μ) fun μ _ => rb (f_X10_requireUnpublished μ) fun μ _ => rdI μ (1 + 3) 4 p1 fun x1 => rb (f_X4_keep 1 μ) fun μ _ => wrI μ (1 + 3) 4 p1 p2 fun μ => some (μ, 0, x1)
set_option maxRecDepth 100000 in
theorem c_X10_setBoundary_67 (X : kX) (p1 : Int) (p2 : Int)  {res : Res}  (v3 : Int) (s0 : Int) (μ : Mu) (h : f_X10_setBoundary_67 p1 p2 v3 s0 μ = some res) : KK X mX10_setBoundary 4 1 res 67 [(0, .ref (X.1 + 0)), (1, .int (iI p1)), (2, .int (iI p2)), (3, .int (iI v3))] [.int (iI s0)] μ := by
  unfold f_X10_setBoundary_67 at h
  refine K_istore (md := mX10_setBoundary) (pc := 67) (l' := [(4, .int (iI s0)), (0, .ref (X.1 + 0)), (1, .int (iI p1)), (2, .int (iI p2)), (3, .int (iI v3))]) (kTab_at (pc := 67) tX10_setBoundary_ok 40 rfl) (Nat.le_of_ble_eq_true rfl) rfl ?_
  refine K_iload_n (md := mX10_setBoundary) (pc := 69) 3 (kTab_at (pc := 69) tX10_setBoundary_ok 41 rfl) rfl ?_
  refine K_iload_n (md := mX10_setBoundary) (pc := 70) 4 (kTab_at (pc := 70) tX10_setBoundary_ok 42 rfl) rfl ?_
  refine K_iload (md := mX10_setBoundary) (pc := 71) 0 (kTab_at (pc := 71) tX10_setBoundary_ok 43 rfl) rfl ?_
  refine Z_callS (md := mX10_setBoundary) (pc := 73) (st := []) (sv := (fun _ => [])) (kTab_at (pc := 73) tX10_setBoundary_ok 44 rfl) ms_X10_61 rfl (Nat.le_of_ble_eq_true rfl) (by decide) rfl (c_X10_requireRange X p2 v3 s0 μ) (fun _ => rfl) h (fun μ _ h => ?_) rfl
  refine K_aload_n (md := mX10_setBoundary) (pc := 76) 1 (kTab_at (pc := 76) tX10_setBoundary_ok 45 rfl) rfl ?_
  refine Z_callV (md := mX10_setBoundary) (pc := 77) (st := []) (sv := (fun _ => [])) (kTab_at (pc := 77) tX10_setBoundary_ok 46 rfl) mv_X10_65 sk_0 rfl (Nat.le_of_ble_eq_true rfl) (by decide) rfl (c_X10_requireUnpublished X μ) (fun _ => rfl) h (fun μ _ h => ?_) rfl
  refine K_aload_n (md := mX10_setBoundary) (pc := 80) 1 (kTab_at (pc := 80) tX10_setBoundary_ok 47 rfl) rfl ?_
  refine K_getR (md := mX10_setBoundary) (pc := 81) (b := 1) (kTab_at (pc := 81) tX10_setBoundary_ok 48 rfl) fl_X10_12 sk_0 rfl rfl ?_
  refine K_getR (md := mX10_setBoundary) (pc := 84) (b := (1 + 3)) (kTab_at (pc := 84) tX10_setBoundary_ok 49 rfl) fl_X10_300 (lay_0 lay_now rfl) rfl rfl ?_
  refine K_iload_n (md := mX10_setBoundary) (pc := 87) 2 (kTab_at (pc := 87) tX10_setBoundary_ok 50 rfl) rfl ?_
  refine Z_iald (md := mX10_setBoundary) (pc := 88) (kTab_at (pc := 88) tX10_setBoundary_ok 51 rfl) (lay_at lay_now 3 rfl) (by decide) h (fun x1 h => ?_)
  refine K_istore (md := mX10_setBoundary) (pc := 89) (l' := [(5, .int (iI x1)), (4, .int (iI s0)), (0, .ref (X.1 + 0)), (1, .int (iI p1)), (2, .int (iI p2)), (3, .int (iI v3))]) (kTab_at (pc := 89) tX10_setBoundary_ok 52 rfl) (Nat.le_of_ble_eq_true rfl) rfl ?_
  refine K_aload_n (md := mX10_setBoundary) (pc := 91) 2 (kTab_at (pc := 91) tX10_setBoundary_ok 53 rfl) rfl ?_
  refine K_getR (md := mX10_setBoundary) (pc := 92) (b := 73) (kTab_at (pc := 92) tX10_setBoundary_ok 54 rfl) fl_X10_25 sk_0 rfl rfl ?_
  refine K_aload_n (md := mX10_setBoundary) (pc := 95) 2 (kTab_at (pc := 95) tX10_setBoundary_ok 55 rfl) rfl ?_
  refine K_getR (md := mX10_setBoundary) (pc := 96) (b := 1) (kTab_at (pc := 96) tX10_setBoundary_ok 56 rfl) fl_X10_12 sk_0 rfl rfl ?_
  refine Z_callV (md := mX10_setBoundary) (pc := 99) (st := []) (sv := (fun _ => [])) (kTab_at (pc := 99) tX10_setBoundary_ok 57 rfl) mv_X10_83 sk_73 rfl (Nat.le_of_ble_eq_true rfl) (by decide) rfl (c_X4_keep X 1 lay_now μ) (fun _ => rfl) h (fun μ _ h => ?_) rfl
  refine K_aload_n (md := mX10_setBoundary) (pc := 102) 2 (kTab_at (pc := 102) tX10_setBoundary_ok 58 rfl) rfl ?_
  refine K_getR (md := mX10_setBoundary) (pc := 103) (b := 1) (kTab_at (pc := 103) tX10_setBoundary_ok 59 rfl) fl_X10_12 sk_0 rfl rfl ?_
  refine K_getR (md := mX10_setBoundary) (pc := 106) (b := (1 + 3)) (kTab_at (pc := 106) tX10_setBoundary_ok 60 rfl) fl_X10_300 (lay_0 lay_now rfl) rfl rfl ?_
  refine K_iload_n (md := mX10_setBoundary) (pc := 109) 3 (kTab_at (pc := 109) tX10_setBoundary_ok 61 rfl) rfl ?_
  refine K_iload_n (md := mX10_setBoundary) (pc := 110) 4 (kTab_at (pc := 110) tX10_setBoundary_ok 62 rfl) rfl ?_
  refine Z_iast (md := mX10_setBoundary) (pc := 111) (kTab_at (pc := 111) tX10_setBoundary_ok 63 rfl) (lay_at lay_now 3 rfl) (by decide) h (fun μ h => ?_)
  refine K_iload (md := mX10_setBoundary) (pc := 112) 0 (kTab_at (pc := 112) tX10_setBoundary_ok 64 rfl) rfl ?_
  exact Z_iret (md := mX10_setBoundary) (pc := 114) (kTab_at (pc := 114) tX10_setBoundary_ok 65 rfl) rfl rfl rfl h
def f_X10_setBoundary_44 (p1 : Int) (p2 : Int)  (s0 : Int) (μ : Mu) : Option Res := i_lt 0 p1 (rdI μ (1 + 3) 4 (p1 - 1) fun x1 => f_X10_setBoundary_67 p1 p2 s0 (x1 - 1) μ) (f_X10_setBoundary_67 p1 p2 s0 100 μ)
set_option maxRecDepth 100000 in
theorem c_X10_setBoundary_44 (X : kX) (p1 : Int) (p2 : Int)  {res : Res}  (s0 : Int) (μ : Mu) (h : f_X10_setBoundary_44 p1 p2 s0 μ = some res) : KK X mX10_setBoundary 4 1 res 44 [(0, .ref (X.1 + 0)), (1, .int (iI p1)), (2, .int (iI p2))] [.int (iI s0)] μ := by
  unfold f_X10_setBoundary_44 at h
  refine K_istore_n (md := mX10_setBoundary) (pc := 44) (l' := [(3, .int (iI s0)), (0, .ref (X.1 + 0)), (1, .int (iI p1)), (2, .int (iI p2))]) (kTab_at (pc := 44) tX10_setBoundary_ok 26 rfl) (Nat.le_of_ble_eq_true rfl) rfl ?_
  refine K_iload_n (md := mX10_setBoundary) (pc := 45) 2 (kTab_at (pc := 45) tX10_setBoundary_ok 27 rfl) rfl ?_
  refine K_if_le (md := mX10_setBoundary) (pc := 46) (kTab_at (pc := 46) tX10_setBoundary_ok 28 rfl) (tgt := 65) rfl h (fun h => ?_) (fun h => ?_)
  · refine K_bipush (md := mX10_setBoundary) (pc := 65) (x := 100) (kTab_at (pc := 65) tX10_setBoundary_ok 39 rfl) (by decide) ?_
    refine K_sub [1, 2, 3, 0] rfl ?_
    refine c_X10_setBoundary_67 X p1 p2  s0 100 μ h
  · refine K_aload_n (md := mX10_setBoundary) (pc := 49) 1 (kTab_at (pc := 49) tX10_setBoundary_ok 29 rfl) rfl ?_
    refine K_getR (md := mX10_setBoundary) (pc := 50) (b := 1) (kTab_at (pc := 50) tX10_setBoundary_ok 30 rfl) fl_X10_12 sk_0 rfl rfl ?_
    refine K_getR (md := mX10_setBoundary) (pc := 53) (b := (1 + 3)) (kTab_at (pc := 53) tX10_setBoundary_ok 31 rfl) fl_X10_300 (lay_0 lay_now rfl) rfl rfl ?_
    refine K_iload_n (md := mX10_setBoundary) (pc := 56) 2 (kTab_at (pc := 56) tX10_setBoundary_ok 32 rfl) rfl ?_
    refine K_iconst (md := mX10_setBoundary) (pc := 57) (x := 1) (kTab_at (pc := 57) tX10_setBoundary_ok 33 rfl) rfl ?_
    refine K_isub (md := mX10_setBoundary) (pc := 58) (kTab_at (pc := 58) tX10_setBoundary_ok 34 rfl) ?_
    refine Z_iald (md := mX10_setBoundary) (pc := 59) (kTab_at (pc := 59) tX10_setBoundary_ok 35 rfl) (lay_at lay_now 3 rfl) (by decide) h (fun x1 h => ?_)
    refine K_iconst (md := mX10_setBoundary) (pc := 60) (x := 1) (kTab_at (pc := 60) tX10_setBoundary_ok 36 rfl) rfl ?_
    refine K_isub (md := mX10_setBoundary) (pc := 61) (kTab_at (pc := 61) tX10_setBoundary_ok 37 rfl) ?_
    refine K_goto (md := mX10_setBoundary) (pc := 62) (tgt := 67) (kTab_at (pc := 62) tX10_setBoundary_ok 38 rfl) rfl ?_
    refine K_sub [1, 2, 3, 0] rfl ?_
    refine c_X10_setBoundary_67 X p1 p2  s0 (x1 - 1) μ h
def f_X10_setBoundary (p1 : Int) (p2 : Int) (μ : Mu) : Option Res := i_lt p1 0 (f_X10_setBoundary_9 p1 p2 μ) (i_lt p1 4 (i_lt (p1 + 1) 4 (rdI μ (1 + 3) 4 (p1 + 1) fun x1 => f_X10_setBoundary_44 p1 p2 (x1 + 1) μ) (f_X10_setBoundary_44 p1 p2 1 μ)) (f_X10_setBoundary_9 p1 p2 μ))
set_option maxRecDepth 100000 in
theorem c_X10_setBoundary (X : kX) (p1 : Int) (p2 : Int)  (μ : Mu) : Cq X mX10_setBoundary 4 1 μ [.ref (X.1 + 0), .int (iI p1), .int (iI p2)] (f_X10_setBoundary p1 p2 μ) := by
  intro res h
  refine ct_of (by decide +kernel) rfl (Nat.le_of_ble_eq_true rfl) ?_
  show KK X mX10_setBoundary 4 1 res 0 [(0, .ref (X.1 + 0)), (1, .int (iI p1)), (2, .int (iI p2))] [] μ
  unfold f_X10_setBoundary at h
  refine K_iload_n (md := mX10_setBoundary) (pc := 0) 1 (kTab_at (pc := 0) tX10_setBoundary_ok 0 rfl) rfl ?_
  refine K_if_lt (md := mX10_setBoundary) (pc := 1) (kTab_at (pc := 1) tX10_setBoundary_ok 1 rfl) (tgt := 9) rfl h (fun h => ?_) (fun h => ?_)
  · refine K_sub [] rfl ?_
    refine c_X10_setBoundary_9 X p1 p2  μ h
  · refine K_iload_n (md := mX10_setBoundary) (pc := 4) 1 (kTab_at (pc := 4) tX10_setBoundary_ok 2 rfl) rfl ?_
    refine K_iconst (md := mX10_setBoundary) (pc := 5) (x := 4) (kTab_at (pc := 5) tX10_setBoundary_ok 3 rfl) rfl ?_
    refine K_icmp_lt (md := mX10_setBoundary) (pc := 6) (kTab_at (pc := 6) tX10_setBoundary_ok 4 rfl) (tgt := 20) rfl h (fun h => ?_) (fun h => ?_)
    · refine K_iload_n (md := mX10_setBoundary) (pc := 20) 1 (kTab_at (pc := 20) tX10_setBoundary_ok 10 rfl) rfl ?_
      refine K_iconst (md := mX10_setBoundary) (pc := 21) (x := 1) (kTab_at (pc := 21) tX10_setBoundary_ok 11 rfl) rfl ?_
      refine K_iadd (md := mX10_setBoundary) (pc := 22) (kTab_at (pc := 22) tX10_setBoundary_ok 12 rfl) ?_
      refine K_iconst (md := mX10_setBoundary) (pc := 23) (x := 4) (kTab_at (pc := 23) tX10_setBoundary_ok 13 rfl) rfl ?_
      refine K_icmp_ge (md := mX10_setBoundary) (pc := 24) (kTab_at (pc := 24) tX10_setBoundary_ok 14 rfl) (tgt := 43) rfl h (fun h => ?_) (fun h => ?_)
      · refine K_iconst (md := mX10_setBoundary) (pc := 43) (x := 1) (kTab_at (pc := 43) tX10_setBoundary_ok 25 rfl) rfl ?_
        refine c_X10_setBoundary_44 X p1 p2  1 μ h
      · refine K_aload_n (md := mX10_setBoundary) (pc := 27) 0 (kTab_at (pc := 27) tX10_setBoundary_ok 15 rfl) rfl ?_
        refine K_getR (md := mX10_setBoundary) (pc := 28) (b := 1) (kTab_at (pc := 28) tX10_setBoundary_ok 16 rfl) fl_X10_12 sk_0 rfl rfl ?_
        refine K_getR (md := mX10_setBoundary) (pc := 31) (b := (1 + 3)) (kTab_at (pc := 31) tX10_setBoundary_ok 17 rfl) fl_X10_300 (lay_0 lay_now rfl) rfl rfl ?_
        refine K_iload_n (md := mX10_setBoundary) (pc := 34) 1 (kTab_at (pc := 34) tX10_setBoundary_ok 18 rfl) rfl ?_
        refine K_iconst (md := mX10_setBoundary) (pc := 35) (x := 1) (kTab_at (pc := 35) tX10_setBoundary_ok 19 rfl) rfl ?_
        refine K_iadd (md := mX10_setBoundary) (pc := 36) (kTab_at (pc := 36) tX10_setBoundary_ok 20 rfl) ?_
        refine Z_iald (md := mX10_setBoundary) (pc := 37) (kTab_at (pc := 37) tX10_setBoundary_ok 21 rfl) (lay_at lay_now 3 rfl) (by decide) h (fun x1 h => ?_)
        refine K_iconst (md := mX10_setBoundary) (pc := 38) (x := 1) (kTab_at (pc := 38) tX10_setBoundary_ok 22 rfl) rfl ?_
        refine K_iadd (md := mX10_setBoundary) (pc := 39) (kTab_at (pc := 39) tX10_setBoundary_ok 23 rfl) ?_
        refine K_goto (md := mX10_setBoundary) (pc := 40) (tgt := 44) (kTab_at (pc := 40) tX10_setBoundary_ok 24 rfl) rfl ?_
        refine c_X10_setBoundary_44 X p1 p2  (x1 + 1) μ h
    · refine K_sub [] rfl ?_
      refine c_X10_setBoundary_9 X p1 p2  μ h
def f_X10_requireGrade (p1 : Int) (μ : Mu) : Option Res := rb (f_X1_hasGrade 1 p1 μ) fun μ x1 => i_eq x1 0 (some (μ, 6, 0)) (some (μ, 0, 0))
set_option maxRecDepth 100000 in
theorem c_X10_requireGrade (X : kX) (p1 : Int)  (μ : Mu) : Cq X mX10_requireGrade 2 0 μ [.ref (X.1 + 0), .int (iI p1)] (f_X10_requireGrade p1 μ) := by
  intro res h
  refine ct_of (by decide +kernel) rfl (Nat.le_of_ble_eq_true rfl) ?_
  show KK X mX10_requireGrade 2 0 res 0 [(0, .ref (X.1 + 0)), (1, .int (iI p1))] [] μ
  unfold f_X10_requireGrade at h
  refine K_aload_n (md := mX10_requireGrade) (pc := 0) 0 (kTab_at (pc := 0) tX10_requireGrade_ok 0 rfl) rfl ?_
  refine K_getR (md := mX10_requireGrade) (pc := 1) (b := 1) (kTab_at (pc := 1) tX10_requireGrade_ok 1 rfl) fl_X10_12 sk_0 rfl rfl ?_
  refine K_iload_n (md := mX10_requireGrade) (pc := 4) 1 (kTab_at (pc := 4) tX10_requireGrade_ok 2 rfl) rfl ?_
  refine Z_callV (md := mX10_requireGrade) (pc := 5) (st := []) (sv := (fun x1 => [.int (iI x1)])) (kTab_at (pc := 5) tX10_requireGrade_ok 3 rfl) mv_X10_330 (lay_0 lay_now rfl) rfl (Nat.le_of_ble_eq_true rfl) (by decide) rfl (c_X1_hasGrade X 1 p1 lay_now μ) (fun _ => rfl) h (fun μ x1 h => ?_) rfl
  refine K_if_ne (md := mX10_requireGrade) (pc := 8) (kTab_at (pc := 8) tX10_requireGrade_ok 4 rfl) (tgt := 22) rfl h (fun h => ?_) (fun h => ?_)
  · exact Z_vret (md := mX10_requireGrade) (pc := 22) (kTab_at (pc := 22) tX10_requireGrade_ok 10 rfl) rfl rfl h
  · exact Z_thNW (md := mX10_requireGrade) (pc := 11) (text := "the candidate has no grade") tn_0 ck_5 (by decide +kernel) rfl (kTab_at (pc := 11) tX10_requireGrade_ok 5 rfl) (kTab_at (pc := 14) tX10_requireGrade_ok 6 rfl) (kTab_at (pc := 15) tX10_requireGrade_ok 7 rfl) (kTab_at (pc := 18) tX10_requireGrade_ok 8 rfl) (kTab_at (pc := 21) tX10_requireGrade_ok 9 rfl) h
def f_X10_result_112 (p1 : Int) (p2 : Int)  (s0 : Int) (μ : Mu) : Option Res := some (μ, 0, s0)
set_option maxRecDepth 100000 in
theorem c_X10_result_112 (X : kX) (p1 : Int) (p2 : Int)  {res : Res}  (s0 : Int) (μ : Mu) (h : f_X10_result_112 p1 p2 s0 μ = some res) : KK X mX10_result 6 2 res 112 [] [.long (iL s0)] μ := by
  unfold f_X10_result_112 at h
  exact Z_lret (md := mX10_result) (pc := 112) (kTab_at (pc := 112) tX10_result_ok 47 rfl) rfl rfl h
def f_X10_result (p1 : Int) (p2 : Int) (μ : Mu) : Option Res := rb (f_X10_requireCandidate p1 μ) fun μ _ => rb (f_X10_requireRange p2 0 5 μ) fun μ _ => rb (f_X10_requireGrade p1 μ) fun μ _ => rdA 8 p1 (fun j => 232 + 2 * j) fun x1 => rb (f_X5_find x1 1 p1 μ) fun μ _ => i_sw p2 0 [rdF μ x1 1 fun x2 => some (μ, 0, x2), rdF μ x1 2 fun x3 => some (μ, 0, x3), rdF μ x1 3 fun x4 => i_2l x4 (some (μ, 0, x4)), rdF μ x1 4 fun x5 => i_2l x5 (some (μ, 0, x5)), rdF μ x1 5 fun x6 => i_2l x6 (some (μ, 0, x6))] (rdF μ x1 5 fun x7 => rdF μ x1 4 fun x8 => i_lt x7 x8 (f_X10_result_112 p1 p2 1 μ) (f_X10_result_112 p1 p2 0 μ))
set_option maxRecDepth 100000 in
theorem c_X10_result (X : kX) (p1 : Int) (p2 : Int)  (μ : Mu) : Cq X mX10_result 6 2 μ [.ref (X.1 + 0), .int (iI p1), .int (iI p2)] (f_X10_result p1 p2 μ) := by
  intro res h
  refine ct_of (by decide +kernel) rfl (Nat.le_of_ble_eq_true rfl) ?_
  show KK X mX10_result 6 2 res 0 [(0, .ref (X.1 + 0)), (1, .int (iI p1)), (2, .int (iI p2))] [] μ
  unfold f_X10_result at h
  refine K_iload_n (md := mX10_result) (pc := 0) 1 (kTab_at (pc := 0) tX10_result_ok 0 rfl) rfl ?_
  refine Z_callS (md := mX10_result) (pc := 1) (st := []) (sv := (fun _ => [])) (kTab_at (pc := 1) tX10_result_ok 1 rfl) ms_X10_257 rfl (Nat.le_of_ble_eq_true rfl) (by decide) rfl (c_X10_requireCandidate X p1 μ) (fun _ => rfl) h (fun μ _ h => ?_) rfl
  refine K_iload_n (md := mX10_result) (pc := 4) 2 (kTab_at (pc := 4) tX10_result_ok 2 rfl) rfl ?_
  refine K_iconst (md := mX10_result) (pc := 5) (x := 0) (kTab_at (pc := 5) tX10_result_ok 3 rfl) rfl ?_
  refine K_iconst (md := mX10_result) (pc := 6) (x := 5) (kTab_at (pc := 6) tX10_result_ok 4 rfl) rfl ?_
  refine Z_callS (md := mX10_result) (pc := 7) (st := []) (sv := (fun _ => [])) (kTab_at (pc := 7) tX10_result_ok 5 rfl) ms_X10_61 rfl (Nat.le_of_ble_eq_true rfl) (by decide) rfl (c_X10_requireRange X p2 0 5 μ) (fun _ => rfl) h (fun μ _ h => ?_) rfl
  refine K_aload_n (md := mX10_result) (pc := 10) 0 (kTab_at (pc := 10) tX10_result_ok 6 rfl) rfl ?_
  refine K_iload_n (md := mX10_result) (pc := 11) 1 (kTab_at (pc := 11) tX10_result_ok 7 rfl) rfl ?_
  refine Z_callV (md := mX10_result) (pc := 12) (st := []) (sv := (fun _ => [])) (kTab_at (pc := 12) tX10_result_ok 8 rfl) mv_X10_303 sk_0 rfl (Nat.le_of_ble_eq_true rfl) (by decide) rfl (c_X10_requireGrade X p1 μ) (fun _ => rfl) h (fun μ _ h => ?_) rfl
  refine K_aload_n (md := mX10_result) (pc := 15) 0 (kTab_at (pc := 15) tX10_result_ok 9 rfl) rfl ?_
  refine K_getR (md := mX10_result) (pc := 16) (b := 226) (kTab_at (pc := 16) tX10_result_ok 10 rfl) fl_X10_45 sk_0 rfl rfl ?_
  refine K_iload_n (md := mX10_result) (pc := 19) 1 (kTab_at (pc := 19) tX10_result_ok 11 rfl) rfl ?_
  refine Z_aaldL (md := mX10_result) (pc := 20) (ks := ksX5) (kTab_at (pc := 20) tX10_result_ok 12 rfl) sk_226 (Or.inr rfl) (by decide) lay_outs h (fun x1 hx1 h => ?_)
  refine K_astore_n (md := mX10_result) (pc := 21) (l' := [(3, .ref (X.1 + x1)), (0, .ref (X.1 + 0)), (1, .int (iI p1)), (2, .int (iI p2))]) (kTab_at (pc := 21) tX10_result_ok 13 rfl) (Nat.le_of_ble_eq_true rfl) rfl ?_
  refine K_aload_n (md := mX10_result) (pc := 22) 0 (kTab_at (pc := 22) tX10_result_ok 14 rfl) rfl ?_
  refine K_aload_n (md := mX10_result) (pc := 23) 1 (kTab_at (pc := 23) tX10_result_ok 15 rfl) rfl ?_
  refine K_getR (md := mX10_result) (pc := 24) (b := 1) (kTab_at (pc := 24) tX10_result_ok 16 rfl) fl_X10_12 sk_0 rfl rfl ?_
  refine K_iload_n (md := mX10_result) (pc := 27) 2 (kTab_at (pc := 27) tX10_result_ok 17 rfl) rfl ?_
  refine Z_callV (md := mX10_result) (pc := 28) (st := []) (sv := (fun _ => [])) (kTab_at (pc := 28) tX10_result_ok 18 rfl) mv_X10_306 (lay_0 hx1 rfl) rfl (Nat.le_of_ble_eq_true rfl) (by decide) rfl (c_X5_find X x1 1 p1 hx1 lay_now μ) (fun _ => rfl) h (fun μ _ h => ?_) rfl
  refine K_iload_n (md := mX10_result) (pc := 31) 3 (kTab_at (pc := 31) tX10_result_ok 19 rfl) rfl ?_
  refine K_tsw (md := mX10_result) (pc := 32) (dt := 96) (kTab_at (pc := 32) tX10_result_ok 20 rfl) rfl rfl h (And.intro (fun h => ⟨68, rfl, ?_⟩) (And.intro (fun h => ⟨73, rfl, ?_⟩) (And.intro (fun h => ⟨78, rfl, ?_⟩) (And.intro (fun h => ⟨84, rfl, ?_⟩) (And.intro (fun h => ⟨90, rfl, ?_⟩) (True.intro)))))) (fun h => ?_)
  · refine K_aload_n (md := mX10_result) (pc := 68) 0 (kTab_at (pc := 68) tX10_result_ok 21 rfl) rfl ?_
    refine Z_getL (md := mX10_result) (pc := 69) (kTab_at (pc := 69) tX10_result_ok 22 rfl) fl_X10_310 (lay_0 hx1 rfl) rfl h (fun x2 h => ?_)
    exact Z_lret (md := mX10_result) (pc := 72) (kTab_at (pc := 72) tX10_result_ok 23 rfl) rfl rfl h
  · refine K_aload_n (md := mX10_result) (pc := 73) 0 (kTab_at (pc := 73) tX10_result_ok 24 rfl) rfl ?_
    refine Z_getL (md := mX10_result) (pc := 74) (kTab_at (pc := 74) tX10_result_ok 25 rfl) fl_X10_314 (lay_0 hx1 rfl) rfl h (fun x3 h => ?_)
    exact Z_lret (md := mX10_result) (pc := 77) (kTab_at (pc := 77) tX10_result_ok 26 rfl) rfl rfl h
  · refine K_aload_n (md := mX10_result) (pc := 78) 0 (kTab_at (pc := 78) tX10_result_ok 27 rfl) rfl ?_
    refine Z_getI (md := mX10_result) (pc := 79) (kTab_at (pc := 79) tX10_result_ok 28 rfl) fl_X10_317 (lay_0 hx1 rfl) (Or.inl rfl) h (fun x4 h => ?_)
    refine K_i2l (md := mX10_result) (pc := 82) (kTab_at (pc := 82) tX10_result_ok 29 rfl) h (fun h => ?_)
    exact Z_lret (md := mX10_result) (pc := 83) (kTab_at (pc := 83) tX10_result_ok 30 rfl) rfl rfl h
  · refine K_aload_n (md := mX10_result) (pc := 84) 0 (kTab_at (pc := 84) tX10_result_ok 31 rfl) rfl ?_
    refine Z_getI (md := mX10_result) (pc := 85) (kTab_at (pc := 85) tX10_result_ok 32 rfl) fl_X10_320 (lay_0 hx1 rfl) (Or.inl rfl) h (fun x5 h => ?_)
    refine K_i2l (md := mX10_result) (pc := 88) (kTab_at (pc := 88) tX10_result_ok 33 rfl) h (fun h => ?_)
    exact Z_lret (md := mX10_result) (pc := 89) (kTab_at (pc := 89) tX10_result_ok 34 rfl) rfl rfl h
  · refine K_aload_n (md := mX10_result) (pc := 90) 0 (kTab_at (pc := 90) tX10_result_ok 35 rfl) rfl ?_
    refine Z_getI (md := mX10_result) (pc := 91) (kTab_at (pc := 91) tX10_result_ok 36 rfl) fl_X10_323 (lay_0 hx1 rfl) (Or.inl rfl) h (fun x6 h => ?_)
    refine K_i2l (md := mX10_result) (pc := 94) (kTab_at (pc := 94) tX10_result_ok 37 rfl) h (fun h => ?_)
    exact Z_lret (md := mX10_result) (pc := 95) (kTab_at (pc := 95) tX10_result_ok 38 rfl) rfl rfl h
  · refine K_aload_n (md := mX10_result) (pc := 96) 0 (kTab_at (pc := 96) tX10_result_ok 39 rfl) rfl ?_
    refine Z_getI (md := mX10_result) (pc := 97) (kTab_at (pc := 97) tX10_result_ok 40 rfl) fl_X10_323 (lay_0 hx1 rfl) (Or.inl rfl) h (fun x7 h => ?_)
    refine K_aload_n (md := mX10_result) (pc := 100) 0 (kTab_at (pc := 100) tX10_result_ok 41 rfl) rfl ?_
    refine Z_getI (md := mX10_result) (pc := 101) (kTab_at (pc := 101) tX10_result_ok 42 rfl) fl_X10_320 (lay_0 hx1 rfl) (Or.inl rfl) h (fun x8 h => ?_)
    refine K_icmp_ge (md := mX10_result) (pc := 104) (kTab_at (pc := 104) tX10_result_ok 43 rfl) (tgt := 111) rfl h (fun h => ?_) (fun h => ?_)
    · refine K_lconst (md := mX10_result) (pc := 111) (x := 0) (kTab_at (pc := 111) tX10_result_ok 46 rfl) rfl ?_
      refine K_sub [] rfl ?_
      refine c_X10_result_112 X p1 p2  0 μ h
    · refine K_lconst (md := mX10_result) (pc := 107) (x := 1) (kTab_at (pc := 107) tX10_result_ok 44 rfl) rfl ?_
      refine K_goto (md := mX10_result) (pc := 108) (tgt := 112) (kTab_at (pc := 108) tX10_result_ok 45 rfl) rfl ?_
      refine K_sub [] rfl ?_
      refine c_X10_result_112 X p1 p2  1 μ h
def f_X10_recount (p1 : Int) (μ : Mu) : Option Res := rb (f_X10_requireCandidate p1 μ) fun μ _ => rb (f_X9_sumOf 1 p1 μ) fun μ x1 => some (μ, 0, x1)
set_option maxRecDepth 100000 in
theorem c_X10_recount (X : kX) (p1 : Int)  (μ : Mu) : Cq X mX10_recount 4 1 μ [.ref (X.1 + 0), .int (iI p1)] (f_X10_recount p1 μ) := by
  intro res h
  refine ct_of (by decide +kernel) rfl (Nat.le_of_ble_eq_true rfl) ?_
  show KK X mX10_recount 4 1 res 0 [(0, .ref (X.1 + 0)), (1, .int (iI p1))] [] μ
  unfold f_X10_recount at h
  refine K_iload_n (md := mX10_recount) (pc := 0) 1 (kTab_at (pc := 0) tX10_recount_ok 0 rfl) rfl ?_
  refine Z_callS (md := mX10_recount) (pc := 1) (st := []) (sv := (fun _ => [])) (kTab_at (pc := 1) tX10_recount_ok 1 rfl) ms_X10_257 rfl (Nat.le_of_ble_eq_true rfl) (by decide) rfl (c_X10_requireCandidate X p1 μ) (fun _ => rfl) h (fun μ _ h => ?_) rfl
  refine K_aload_n (md := mX10_recount) (pc := 4) 0 (kTab_at (pc := 4) tX10_recount_ok 2 rfl) rfl ?_
  refine K_getR (md := mX10_recount) (pc := 5) (b := 227) (kTab_at (pc := 5) tX10_recount_ok 3 rfl) fl_X10_52 sk_0 rfl rfl ?_
  refine K_aload_n (md := mX10_recount) (pc := 8) 0 (kTab_at (pc := 8) tX10_recount_ok 4 rfl) rfl ?_
  refine K_getR (md := mX10_recount) (pc := 9) (b := 1) (kTab_at (pc := 9) tX10_recount_ok 5 rfl) fl_X10_12 sk_0 rfl rfl ?_
  refine K_iload_n (md := mX10_recount) (pc := 12) 1 (kTab_at (pc := 12) tX10_recount_ok 6 rfl) rfl ?_
  refine Z_callV (md := mX10_recount) (pc := 13) (st := []) (sv := (fun x1 => [.int (iI x1)])) (kTab_at (pc := 13) tX10_recount_ok 7 rfl) mv_X10_326 sk_227 rfl (Nat.le_of_ble_eq_true rfl) (by decide) rfl (c_X9_sumOf X 1 p1 lay_now μ) (fun _ => rfl) h (fun μ x1 h => ?_) rfl
  exact Z_iret (md := mX10_recount) (pc := 16) (kTab_at (pc := 16) tX10_recount_ok 8 rfl) rfl rfl rfl h
def f_X10_rankOf_61 (p1 : Int) (k4 : Int → Int → Mu → Option Res) (v2 : Int) (v3 : Int) (μ : Mu) : Option Res := k4 v2 (v3 + 1) μ
set_option maxRecDepth 100000 in
theorem c_X10_rankOf_61 (X : kX) (p1 : Int)  {res : Res} (k4 : Int → Int → Mu → Option Res) (hk4 : ∀ (v2 : Int), ∀ (v3 : Int), ∀ (μ : Mu), k4 v2 v3 μ = some res → KK X mX10_rankOf 2 1 res 4 [(0, .ref (X.1 + 0)), (1, .int (iI p1)), (2, .int (iI v2)), (3, .int (iI v3))] [] μ) (v2 : Int) (v3 : Int) (μ : Mu) (h : f_X10_rankOf_61 p1 k4 v2 v3 μ = some res) : KK X mX10_rankOf 2 1 res 61 [(0, .ref (X.1 + 0)), (1, .int (iI p1)), (2, .int (iI v2)), (3, .int (iI v3))] [] μ := by
  unfold f_X10_rankOf_61 at h
  refine K_iinc (md := mX10_rankOf) (pc := 61) (l' := [(3, .int (iI (v3 + 1))), (0, .ref (X.1 + 0)), (1, .int (iI p1)), (2, .int (iI v2))]) 3 (kTab_at (pc := 61) tX10_rankOf_ok 33 rfl) rfl (Nat.le_of_ble_eq_true rfl) rfl ?_
  refine K_goto (md := mX10_rankOf) (pc := 64) (tgt := 4) (kTab_at (pc := 64) tX10_rankOf_ok 34 rfl) rfl ?_
  refine K_sub [1, 2, 3, 0] rfl ?_
  exact hk4 v2 (v3 + 1) μ h
def f_X10_rankOf_58 (p1 : Int) (k4 : Int → Int → Mu → Option Res) (v2 : Int) (v3 : Int) (μ : Mu) : Option Res := f_X10_rankOf_61 p1 k4 (v2 + 1) v3 μ
set_option maxRecDepth 100000 in
theorem c_X10_rankOf_58 (X : kX) (p1 : Int)  {res : Res} (k4 : Int → Int → Mu → Option Res) (hk4 : ∀ (v2 : Int), ∀ (v3 : Int), ∀ (μ : Mu), k4 v2 v3 μ = some res → KK X mX10_rankOf 2 1 res 4 [(0, .ref (X.1 + 0)), (1, .int (iI p1)), (2, .int (iI v2)), (3, .int (iI v3))] [] μ) (v2 : Int) (v3 : Int) (μ : Mu) (h : f_X10_rankOf_58 p1 k4 v2 v3 μ = some res) : KK X mX10_rankOf 2 1 res 58 [(0, .ref (X.1 + 0)), (1, .int (iI p1)), (2, .int (iI v2)), (3, .int (iI v3))] [] μ := by
  unfold f_X10_rankOf_58 at h
  refine K_iinc (md := mX10_rankOf) (pc := 58) (l' := [(2, .int (iI (v2 + 1))), (0, .ref (X.1 + 0)), (1, .int (iI p1)), (3, .int (iI v3))]) 2 (kTab_at (pc := 58) tX10_rankOf_ok 32 rfl) rfl (Nat.le_of_ble_eq_true rfl) rfl ?_
  refine K_sub [1, 2, 0, 3] rfl ?_
  refine c_X10_rankOf_61 X p1 _ hk4 (v2 + 1) v3 μ h
def f_X10_rankOf_4 (p1 : Int) (k67 : Int → Mu → Option Res) : Nat → Int → Int → Mu → Option Res
  | 0, _, _, _ => none
  | fu + 1, v2, v3, μ => i_lt v3 8 (i_eq v3 p1 (f_X10_rankOf_61 p1 (f_X10_rankOf_4 p1 k67 fu) v2 v3 μ) (rb (f_X1_hasGrade 1 v3 μ) fun μ x1 => i_eq x1 0 (f_X10_rankOf_61 p1 (f_X10_rankOf_4 p1 k67 fu) v2 v3 μ) (rdA 8 v3 (fun j => 232 + 2 * j) fun x2 => rdA 8 p1 (fun j => 232 + 2 * j) fun x3 => rb (f_X5_compareWith x2 x3 μ) fun μ x4 => i_lt 0 x4 (f_X10_rankOf_58 p1 (f_X10_rankOf_4 p1 k67 fu) v2 v3 μ) (i_eq x4 0 (i_lt v3 p1 (f_X10_rankOf_58 p1 (f_X10_rankOf_4 p1 k67 fu) v2 v3 μ) (f_X10_rankOf_61 p1 (f_X10_rankOf_4 p1 k67 fu) v2 v3 μ)) (f_X10_rankOf_61 p1 (f_X10_rankOf_4 p1 k67 fu) v2 v3 μ))))) (k67 v2 μ)
set_option maxRecDepth 100000 in
theorem c_X10_rankOf_4 (X : kX) (p1 : Int)  {res : Res} (k67 : Int → Mu → Option Res) (hk67 : ∀ (v2 : Int), ∀ (μ : Mu), k67 v2 μ = some res → KK X mX10_rankOf 2 1 res 67 [(2, .int (iI v2))] [] μ) : ∀ (fu : Nat)  (v2 : Int) (v3 : Int) (μ : Mu), f_X10_rankOf_4 p1 k67 fu v2 v3 μ = some res → KK X mX10_rankOf 2 1 res 4 [(0, .ref (X.1 + 0)), (1, .int (iI p1)), (2, .int (iI v2)), (3, .int (iI v3))] [] μ := by
  intro fu
  induction fu with
  | zero => intro v2 v3 μ h; exact nomatch h
  | succ fu ih =>
    intro v2 v3 μ h
    refine K_iload_n (md := mX10_rankOf) (pc := 4) 3 (kTab_at (pc := 4) tX10_rankOf_ok 4 rfl) rfl ?_
    refine K_bipush (md := mX10_rankOf) (pc := 5) (x := 8) (kTab_at (pc := 5) tX10_rankOf_ok 5 rfl) (by decide) ?_
    refine K_icmp_ge (md := mX10_rankOf) (pc := 7) (kTab_at (pc := 7) tX10_rankOf_ok 6 rfl) (tgt := 67) rfl h (fun h => ?_) (fun h => ?_)
    · refine K_sub [2] rfl ?_
      exact hk67 v2 μ h
    · refine K_iload_n (md := mX10_rankOf) (pc := 10) 3 (kTab_at (pc := 10) tX10_rankOf_ok 7 rfl) rfl ?_
      refine K_iload_n (md := mX10_rankOf) (pc := 11) 1 (kTab_at (pc := 11) tX10_rankOf_ok 8 rfl) rfl ?_
      refine K_icmp_eq (md := mX10_rankOf) (pc := 12) (kTab_at (pc := 12) tX10_rankOf_ok 9 rfl) (tgt := 61) rfl h (fun h => ?_) (fun h => ?_)
      · refine c_X10_rankOf_61 X p1 _ ih v2 v3 μ h
      · refine K_aload_n (md := mX10_rankOf) (pc := 15) 0 (kTab_at (pc := 15) tX10_rankOf_ok 10 rfl) rfl ?_
        refine K_getR (md := mX10_rankOf) (pc := 16) (b := 1) (kTab_at (pc := 16) tX10_rankOf_ok 11 rfl) fl_X10_12 sk_0 rfl rfl ?_
        refine K_iload_n (md := mX10_rankOf) (pc := 19) 3 (kTab_at (pc := 19) tX10_rankOf_ok 12 rfl) rfl ?_
        refine Z_callV (md := mX10_rankOf) (pc := 20) (st := []) (sv := (fun x1 => [.int (iI x1)])) (kTab_at (pc := 20) tX10_rankOf_ok 13 rfl) mv_X10_330 (lay_0 lay_now rfl) rfl (Nat.le_of_ble_eq_true rfl) (by decide) rfl (c_X1_hasGrade X 1 v3 lay_now μ) (fun _ => rfl) h (fun μ x1 h => ?_) rfl
        refine K_if_eq (md := mX10_rankOf) (pc := 23) (kTab_at (pc := 23) tX10_rankOf_ok 14 rfl) (tgt := 61) rfl h (fun h => ?_) (fun h => ?_)
        · refine c_X10_rankOf_61 X p1 _ ih v2 v3 μ h
        · refine K_aload_n (md := mX10_rankOf) (pc := 26) 0 (kTab_at (pc := 26) tX10_rankOf_ok 15 rfl) rfl ?_
          refine K_getR (md := mX10_rankOf) (pc := 27) (b := 226) (kTab_at (pc := 27) tX10_rankOf_ok 16 rfl) fl_X10_45 sk_0 rfl rfl ?_
          refine K_iload_n (md := mX10_rankOf) (pc := 30) 3 (kTab_at (pc := 30) tX10_rankOf_ok 17 rfl) rfl ?_
          refine Z_aaldL (md := mX10_rankOf) (pc := 31) (ks := ksX5) (kTab_at (pc := 31) tX10_rankOf_ok 18 rfl) sk_226 (Or.inr rfl) (by decide) lay_outs h (fun x2 hx2 h => ?_)
          refine K_aload_n (md := mX10_rankOf) (pc := 32) 0 (kTab_at (pc := 32) tX10_rankOf_ok 19 rfl) rfl ?_
          refine K_getR (md := mX10_rankOf) (pc := 33) (b := 226) (kTab_at (pc := 33) tX10_rankOf_ok 20 rfl) fl_X10_45 sk_0 rfl rfl ?_
          refine K_iload_n (md := mX10_rankOf) (pc := 36) 1 (kTab_at (pc := 36) tX10_rankOf_ok 21 rfl) rfl ?_
          refine Z_aaldL (md := mX10_rankOf) (pc := 37) (ks := ksX5) (kTab_at (pc := 37) tX10_rankOf_ok 22 rfl) sk_226 (Or.inr rfl) (by decide) lay_outs h (fun x3 hx3 h => ?_)
          refine Z_callV (md := mX10_rankOf) (pc := 38) (st := []) (sv := (fun x4 => [.int (iI x4)])) (kTab_at (pc := 38) tX10_rankOf_ok 23 rfl) mv_X10_483 (lay_0 hx2 rfl) rfl (Nat.le_of_ble_eq_true rfl) (by decide) rfl (c_X5_compareWith X x2 x3 hx2 hx3 μ) (fun _ => rfl) h (fun μ x4 h => ?_) rfl
          refine K_istore (md := mX10_rankOf) (pc := 41) (l' := [(4, .int (iI x4)), (0, .ref (X.1 + 0)), (1, .int (iI p1)), (2, .int (iI v2)), (3, .int (iI v3))]) (kTab_at (pc := 41) tX10_rankOf_ok 24 rfl) (Nat.le_of_ble_eq_true rfl) rfl ?_
          refine K_iload (md := mX10_rankOf) (pc := 43) 0 (kTab_at (pc := 43) tX10_rankOf_ok 25 rfl) rfl ?_
          refine K_if_gt (md := mX10_rankOf) (pc := 45) (kTab_at (pc := 45) tX10_rankOf_ok 26 rfl) (tgt := 58) rfl h (fun h => ?_) (fun h => ?_)
          · refine K_sub [1, 2, 3, 4] rfl ?_
            refine c_X10_rankOf_58 X p1 _ ih v2 v3 μ h
          · refine K_iload (md := mX10_rankOf) (pc := 48) 0 (kTab_at (pc := 48) tX10_rankOf_ok 27 rfl) rfl ?_
            refine K_if_ne (md := mX10_rankOf) (pc := 50) (kTab_at (pc := 50) tX10_rankOf_ok 28 rfl) (tgt := 61) rfl h (fun h => ?_) (fun h => ?_)
            · refine K_sub [1, 2, 3, 4] rfl ?_
              refine c_X10_rankOf_61 X p1 _ ih v2 v3 μ h
            · refine K_iload_n (md := mX10_rankOf) (pc := 53) 4 (kTab_at (pc := 53) tX10_rankOf_ok 29 rfl) rfl ?_
              refine K_iload_n (md := mX10_rankOf) (pc := 54) 2 (kTab_at (pc := 54) tX10_rankOf_ok 30 rfl) rfl ?_
              refine K_icmp_ge (md := mX10_rankOf) (pc := 55) (kTab_at (pc := 55) tX10_rankOf_ok 31 rfl) (tgt := 61) rfl h (fun h => ?_) (fun h => ?_)
              · refine K_sub [1, 2, 3, 4] rfl ?_
                refine c_X10_rankOf_61 X p1 _ ih v2 v3 μ h
              · refine K_sub [1, 2, 3, 4] rfl ?_
                refine c_X10_rankOf_58 X p1 _ ih v2 v3 μ h
def f_X10_rankOf (p1 : Int) (μ : Mu) : Option Res := f_X10_rankOf_4 p1 (fun v2 μ => some (μ, 0, v2)) FU 0 0 μ
set_option maxRecDepth 100000 in
theorem c_X10_rankOf (X : kX) (p1 : Int)  (μ : Mu) : Cq X mX10_rankOf 2 1 μ [.ref (X.1 + 0), .int (iI p1)] (f_X10_rankOf p1 μ) := by
  intro res h
  refine ct_of (by decide +kernel) rfl (Nat.le_of_ble_eq_true rfl) ?_
  show KK X mX10_rankOf 2 1 res 0 [(0, .ref (X.1 + 0)), (1, .int (iI p1))] [] μ
  unfold f_X10_rankOf at h
  refine K_iconst (md := mX10_rankOf) (pc := 0) (x := 0) (kTab_at (pc := 0) tX10_rankOf_ok 0 rfl) rfl ?_
  refine K_istore_n (md := mX10_rankOf) (pc := 1) (l' := [(2, .int (iI 0)), (0, .ref (X.1 + 0)), (1, .int (iI p1))]) (kTab_at (pc := 1) tX10_rankOf_ok 1 rfl) (Nat.le_of_ble_eq_true rfl) rfl ?_
  refine K_iconst (md := mX10_rankOf) (pc := 2) (x := 0) (kTab_at (pc := 2) tX10_rankOf_ok 2 rfl) rfl ?_
  refine K_istore_n (md := mX10_rankOf) (pc := 3) (l' := [(3, .int (iI 0)), (2, .int (iI 0)), (0, .ref (X.1 + 0)), (1, .int (iI p1))]) (kTab_at (pc := 3) tX10_rankOf_ok 3 rfl) (Nat.le_of_ble_eq_true rfl) rfl ?_
  refine K_sub [2, 3, 1, 0] rfl ?_
  refine c_X10_rankOf_4 X p1 _ ?_ _ 0 0 μ h
  · intro v2 μ h
    refine K_iload_n (md := mX10_rankOf) (pc := 67) 0 (kTab_at (pc := 67) tX10_rankOf_ok 35 rfl) rfl ?_
    exact Z_iret (md := mX10_rankOf) (pc := 68) (kTab_at (pc := 68) tX10_rankOf_ok 36 rfl) rfl rfl rfl h
def f_X10_ranked_58 (p1 : Int) (k30 : Int → Mu → Option Res) (v2 : Int) (μ : Mu) : Option Res := k30 (v2 + 1) μ
set_option maxRecDepth 100000 in
theorem c_X10_ranked_58 (X : kX) (p1 : Int)  {res : Res} (k30 : Int → Mu → Option Res) (hk30 : ∀ (v2 : Int), ∀ (μ : Mu), k30 v2 μ = some res → KK X mX10_ranked 6 1 res 30 [(0, .ref (X.1 + 0)), (1, .int (iI p1)), (2, .int (iI v2))] [] μ) (v2 : Int) (μ : Mu) (h : f_X10_ranked_58 p1 k30 v2 μ = some res) : KK X mX10_ranked 6 1 res 58 [(0, .ref (X.1 + 0)), (1, .int (iI p1)), (2, .int (iI v2))] [] μ := by
  unfold f_X10_ranked_58 at h
  refine K_iinc (md := mX10_ranked) (pc := 58) (l' := [(2, .int (iI (v2 + 1))), (0, .ref (X.1 + 0)), (1, .int (iI p1))]) 2 (kTab_at (pc := 58) tX10_ranked_ok 32 rfl) rfl (Nat.le_of_ble_eq_true rfl) rfl ?_
  refine K_goto (md := mX10_ranked) (pc := 61) (tgt := 30) (kTab_at (pc := 61) tX10_ranked_ok 33 rfl) rfl ?_
  refine K_sub [1, 2, 0] rfl ?_
  exact hk30 (v2 + 1) μ h
def f_X10_ranked_30 (p1 : Int) (k56 : Int → Mu → Option Res) (k64 : Mu → Option Res) : Nat → Int → Mu → Option Res
  | 0, _, _ => none
  | fu + 1, v2, μ => i_lt v2 8 (rb (f_X1_hasGrade 1 v2 μ) fun μ x1 => i_eq x1 0 (f_X10_ranked_58 p1 (f_X10_ranked_30 p1 k56 k64 fu) v2 μ) (rb (f_X10_rankOf v2 μ) fun μ x2 => i_eq x2 p1 (k56 v2 μ) (f_X10_ranked_58 p1 (f_X10_ranked_30 p1 k56 k64 fu) v2 μ))) (k64 μ)
set_option maxRecDepth 100000 in
theorem c_X10_ranked_30 (X : kX) (p1 : Int)  {res : Res} (k56 : Int → Mu → Option Res) (hk56 : ∀ (v2 : Int), ∀ (μ : Mu), k56 v2 μ = some res → KK X mX10_ranked 6 1 res 56 [(2, .int (iI v2))] [] μ) (k64 : Mu → Option Res) (hk64 : ∀ (μ : Mu), k64 μ = some res → KK X mX10_ranked 6 1 res 64 [] [] μ) : ∀ (fu : Nat)  (v2 : Int) (μ : Mu), f_X10_ranked_30 p1 k56 k64 fu v2 μ = some res → KK X mX10_ranked 6 1 res 30 [(0, .ref (X.1 + 0)), (1, .int (iI p1)), (2, .int (iI v2))] [] μ := by
  intro fu
  induction fu with
  | zero => intro v2 μ h; exact nomatch h
  | succ fu ih =>
    intro v2 μ h
    refine K_iload_n (md := mX10_ranked) (pc := 30) 2 (kTab_at (pc := 30) tX10_ranked_ok 17 rfl) rfl ?_
    refine K_bipush (md := mX10_ranked) (pc := 31) (x := 8) (kTab_at (pc := 31) tX10_ranked_ok 18 rfl) (by decide) ?_
    refine K_icmp_ge (md := mX10_ranked) (pc := 33) (kTab_at (pc := 33) tX10_ranked_ok 19 rfl) (tgt := 64) rfl h (fun h => ?_) (fun h => ?_)
    · refine K_sub [] rfl ?_
      exact hk64 μ h
    · refine K_aload_n (md := mX10_ranked) (pc := 36) 0 (kTab_at (pc := 36) tX10_ranked_ok 20 rfl) rfl ?_
      refine K_getR (md := mX10_ranked) (pc := 37) (b := 1) (kTab_at (pc := 37) tX10_ranked_ok 21 rfl) fl_X10_12 sk_0 rfl rfl ?_
      refine K_iload_n (md := mX10_ranked) (pc := 40) 2 (kTab_at (pc := 40) tX10_ranked_ok 22 rfl) rfl ?_
      refine Z_callV (md := mX10_ranked) (pc := 41) (st := []) (sv := (fun x1 => [.int (iI x1)])) (kTab_at (pc := 41) tX10_ranked_ok 23 rfl) mv_X10_330 (lay_0 lay_now rfl) rfl (Nat.le_of_ble_eq_true rfl) (by decide) rfl (c_X1_hasGrade X 1 v2 lay_now μ) (fun _ => rfl) h (fun μ x1 h => ?_) rfl
      refine K_if_eq (md := mX10_ranked) (pc := 44) (kTab_at (pc := 44) tX10_ranked_ok 24 rfl) (tgt := 58) rfl h (fun h => ?_) (fun h => ?_)
      · refine c_X10_ranked_58 X p1 _ ih v2 μ h
      · refine K_aload_n (md := mX10_ranked) (pc := 47) 0 (kTab_at (pc := 47) tX10_ranked_ok 25 rfl) rfl ?_
        refine K_iload_n (md := mX10_ranked) (pc := 48) 2 (kTab_at (pc := 48) tX10_ranked_ok 26 rfl) rfl ?_
        refine Z_callV (md := mX10_ranked) (pc := 49) (st := []) (sv := (fun x2 => [.int (iI x2)])) (kTab_at (pc := 49) tX10_ranked_ok 27 rfl) mv_X10_333 sk_0 rfl (Nat.le_of_ble_eq_true rfl) (by decide) rfl (c_X10_rankOf X v2 μ) (fun _ => rfl) h (fun μ x2 h => ?_) rfl
        refine K_iload_n (md := mX10_ranked) (pc := 52) 1 (kTab_at (pc := 52) tX10_ranked_ok 28 rfl) rfl ?_
        refine K_icmp_ne (md := mX10_ranked) (pc := 53) (kTab_at (pc := 53) tX10_ranked_ok 29 rfl) (tgt := 58) rfl h (fun h => ?_) (fun h => ?_)
        · refine c_X10_ranked_58 X p1 _ ih v2 μ h
        · refine K_sub [2] rfl ?_
          exact hk56 v2 μ h
def f_X10_ranked_2 (p1 : Int) (k28 : Mu → Option Res) : Nat → Int → Mu → Option Res
  | 0, _, _ => none
  | fu + 1, v2, μ => i_lt v2 8 (rdA 8 v2 (fun j => 232 + 2 * j) fun x1 => rb (f_X5_find x1 1 v2 μ) fun μ _ => (f_X10_ranked_2 p1 k28 fu) (v2 + 1) μ) (k28 μ)
set_option maxRecDepth 100000 in
theorem c_X10_ranked_2 (X : kX) (p1 : Int)  {res : Res} (k28 : Mu → Option Res) (hk28 : ∀ (μ : Mu), k28 μ = some res → KK X mX10_ranked 6 1 res 28 [(0, .ref (X.1 + 0)), (1, .int (iI p1))] [] μ) : ∀ (fu : Nat)  (v2 : Int) (μ : Mu), f_X10_ranked_2 p1 k28 fu v2 μ = some res → KK X mX10_ranked 6 1 res 2 [(0, .ref (X.1 + 0)), (1, .int (iI p1)), (2, .int (iI v2))] [] μ := by
  intro fu
  induction fu with
  | zero => intro v2 μ h; exact nomatch h
  | succ fu ih =>
    intro v2 μ h
    refine K_iload_n (md := mX10_ranked) (pc := 2) 2 (kTab_at (pc := 2) tX10_ranked_ok 2 rfl) rfl ?_
    refine K_bipush (md := mX10_ranked) (pc := 3) (x := 8) (kTab_at (pc := 3) tX10_ranked_ok 3 rfl) (by decide) ?_
    refine K_icmp_ge (md := mX10_ranked) (pc := 5) (kTab_at (pc := 5) tX10_ranked_ok 4 rfl) (tgt := 28) rfl h (fun h => ?_) (fun h => ?_)
    · refine K_sub [0, 1] rfl ?_
      exact hk28 μ h
    · refine K_aload_n (md := mX10_ranked) (pc := 8) 0 (kTab_at (pc := 8) tX10_ranked_ok 5 rfl) rfl ?_
      refine K_getR (md := mX10_ranked) (pc := 9) (b := 226) (kTab_at (pc := 9) tX10_ranked_ok 6 rfl) fl_X10_45 sk_0 rfl rfl ?_
      refine K_iload_n (md := mX10_ranked) (pc := 12) 2 (kTab_at (pc := 12) tX10_ranked_ok 7 rfl) rfl ?_
      refine Z_aaldL (md := mX10_ranked) (pc := 13) (ks := ksX5) (kTab_at (pc := 13) tX10_ranked_ok 8 rfl) sk_226 (Or.inr rfl) (by decide) lay_outs h (fun x1 hx1 h => ?_)
      refine K_aload_n (md := mX10_ranked) (pc := 14) 0 (kTab_at (pc := 14) tX10_ranked_ok 9 rfl) rfl ?_
      refine K_getR (md := mX10_ranked) (pc := 15) (b := 1) (kTab_at (pc := 15) tX10_ranked_ok 10 rfl) fl_X10_12 sk_0 rfl rfl ?_
      refine K_iload_n (md := mX10_ranked) (pc := 18) 2 (kTab_at (pc := 18) tX10_ranked_ok 11 rfl) rfl ?_
      refine Z_callV (md := mX10_ranked) (pc := 19) (st := []) (sv := (fun _ => [])) (kTab_at (pc := 19) tX10_ranked_ok 12 rfl) mv_X10_306 (lay_0 hx1 rfl) rfl (Nat.le_of_ble_eq_true rfl) (by decide) rfl (c_X5_find X x1 1 v2 hx1 lay_now μ) (fun _ => rfl) h (fun μ _ h => ?_) rfl
      refine K_iinc (md := mX10_ranked) (pc := 22) (l' := [(2, .int (iI (v2 + 1))), (0, .ref (X.1 + 0)), (1, .int (iI p1))]) 2 (kTab_at (pc := 22) tX10_ranked_ok 13 rfl) rfl (Nat.le_of_ble_eq_true rfl) rfl ?_
      refine K_goto (md := mX10_ranked) (pc := 25) (tgt := 2) (kTab_at (pc := 25) tX10_ranked_ok 14 rfl) rfl ?_
      refine K_sub [1, 2, 0] rfl ?_
      exact ih (v2 + 1) μ h
def f_X10_ranked (p1 : Int) (μ : Mu) : Option Res := f_X10_ranked_2 p1 (fun μ => f_X10_ranked_30 p1 (fun v2 μ => some (μ, 0, v2)) (fun μ => some (μ, 6, 0)) FU 0 μ) FU 0 μ
set_option maxRecDepth 100000 in
theorem c_X10_ranked (X : kX) (p1 : Int)  (μ : Mu) : Cq X mX10_ranked 6 1 μ [.ref (X.1 + 0), .int (iI p1)] (f_X10_ranked p1 μ) := by
  intro res h
  refine ct_of (by decide +kernel) rfl (Nat.le_of_ble_eq_true rfl) ?_
  show KK X mX10_ranked 6 1 res 0 [(0, .ref (X.1 + 0)), (1, .int (iI p1))] [] μ
  unfold f_X10_ranked at h
  refine K_iconst (md := mX10_ranked) (pc := 0) (x := 0) (kTab_at (pc := 0) tX10_ranked_ok 0 rfl) rfl ?_
  refine K_istore_n (md := mX10_ranked) (pc := 1) (l' := [(2, .int (iI 0)), (0, .ref (X.1 + 0)), (1, .int (iI p1))]) (kTab_at (pc := 1) tX10_ranked_ok 1 rfl) (Nat.le_of_ble_eq_true rfl) rfl ?_
  refine K_sub [1, 2, 0] rfl ?_
  refine c_X10_ranked_2 X p1 _ ?_ _ 0 μ h
  · intro  μ h
    refine K_iconst (md := mX10_ranked) (pc := 28) (x := 0) (kTab_at (pc := 28) tX10_ranked_ok 15 rfl) rfl ?_
    refine K_istore_n (md := mX10_ranked) (pc := 29) (l' := [(2, .int (iI 0)), (0, .ref (X.1 + 0)), (1, .int (iI p1))]) (kTab_at (pc := 29) tX10_ranked_ok 16 rfl) (Nat.le_of_ble_eq_true rfl) rfl ?_
    refine K_sub [1, 2, 0] rfl ?_
    refine c_X10_ranked_30 X p1 _ ?_ _ ?_ _ 0 μ h
    · intro v2 μ h
      refine K_iload_n (md := mX10_ranked) (pc := 56) 0 (kTab_at (pc := 56) tX10_ranked_ok 30 rfl) rfl ?_
      exact Z_iret (md := mX10_ranked) (pc := 57) (kTab_at (pc := 57) tX10_ranked_ok 31 rfl) rfl rfl rfl h
    · intro  μ h
      exact Z_thNW (md := mX10_ranked) (pc := 64) (text := "no such rank") tn_0 ck_5 (by decide +kernel) rfl (kTab_at (pc := 64) tX10_ranked_ok 34 rfl) (kTab_at (pc := 67) tX10_ranked_ok 35 rfl) (kTab_at (pc := 68) tX10_ranked_ok 36 rfl) (kTab_at (pc := 71) tX10_ranked_ok 37 rfl) (kTab_at (pc := 74) tX10_ranked_ok 38 rfl) h
def f_X10_requireGradeNumber (p0 : Int) (μ : Mu) : Option Res := rb (f_X10_isBelow p0 5 μ) fun μ x1 => i_eq x1 0 (some (μ, 3, 0)) (some (μ, 0, 0))
set_option maxRecDepth 100000 in
theorem c_X10_requireGradeNumber (X : kX) (p0 : Int)  (μ : Mu) : Cq X mX10_requireGradeNumber 1 0 μ [.int (iI p0)] (f_X10_requireGradeNumber p0 μ) := by
  intro res h
  refine ct_of (by decide +kernel) rfl (Nat.le_of_ble_eq_true rfl) ?_
  show KK X mX10_requireGradeNumber 1 0 res 0 [(0, .int (iI p0))] [] μ
  unfold f_X10_requireGradeNumber at h
  refine K_iload_n (md := mX10_requireGradeNumber) (pc := 0) 0 (kTab_at (pc := 0) tX10_requireGradeNumber_ok 0 rfl) rfl ?_
  refine K_iconst (md := mX10_requireGradeNumber) (pc := 1) (x := 5) (kTab_at (pc := 1) tX10_requireGradeNumber_ok 1 rfl) rfl ?_
  refine Z_callS (md := mX10_requireGradeNumber) (pc := 2) (st := []) (sv := (fun x1 => [.int (iI x1)])) (kTab_at (pc := 2) tX10_requireGradeNumber_ok 2 rfl) ms_X10_457 rfl (Nat.le_of_ble_eq_true rfl) (by decide) rfl (c_X10_isBelow X p0 5 μ) (fun _ => rfl) h (fun μ x1 h => ?_) rfl
  refine K_if_ne (md := mX10_requireGradeNumber) (pc := 5) (kTab_at (pc := 5) tX10_requireGradeNumber_ok 3 rfl) (tgt := 19) rfl h (fun h => ?_) (fun h => ?_)
  · exact Z_vret (md := mX10_requireGradeNumber) (pc := 19) (kTab_at (pc := 19) tX10_requireGradeNumber_ok 9 rfl) rfl rfl h
  · exact Z_thW (md := mX10_requireGradeNumber) (pc := 8) (text := "no such grade") th_2 ck_2 (by decide +kernel) rfl (kTab_at (pc := 8) tX10_requireGradeNumber_ok 4 rfl) (kTab_at (pc := 11) tX10_requireGradeNumber_ok 5 rfl) (kTab_at (pc := 12) tX10_requireGradeNumber_ok 6 rfl) (kTab_at (pc := 15) tX10_requireGradeNumber_ok 7 rfl) (kTab_at (pc := 18) tX10_requireGradeNumber_ok 8 rfl) h
def f_X10_graded_55 (p1 : Int) (k8 : Int → Int → Mu → Option Res) (v2 : Int) (v3 : Int) (μ : Mu) : Option Res := k8 v2 (v3 + 1) μ
set_option maxRecDepth 100000 in
theorem c_X10_graded_55 (X : kX) (p1 : Int)  {res : Res} (k8 : Int → Int → Mu → Option Res) (hk8 : ∀ (v2 : Int), ∀ (v3 : Int), ∀ (μ : Mu), k8 v2 v3 μ = some res → KK X mX10_graded 6 1 res 8 [(0, .ref (X.1 + 0)), (1, .int (iI p1)), (2, .int (iI v2)), (3, .int (iI v3))] [] μ) (v2 : Int) (v3 : Int) (μ : Mu) (h : f_X10_graded_55 p1 k8 v2 v3 μ = some res) : KK X mX10_graded 6 1 res 55 [(0, .ref (X.1 + 0)), (1, .int (iI p1)), (2, .int (iI v2)), (3, .int (iI v3))] [] μ := by
  unfold f_X10_graded_55 at h
  refine K_iinc (md := mX10_graded) (pc := 55) (l' := [(3, .int (iI (v3 + 1))), (0, .ref (X.1 + 0)), (1, .int (iI p1)), (2, .int (iI v2))]) 3 (kTab_at (pc := 55) tX10_graded_ok 30 rfl) rfl (Nat.le_of_ble_eq_true rfl) rfl ?_
  refine K_goto (md := mX10_graded) (pc := 58) (tgt := 8) (kTab_at (pc := 58) tX10_graded_ok 31 rfl) rfl ?_
  refine K_sub [1, 2, 3, 0] rfl ?_
  exact hk8 v2 (v3 + 1) μ h
def f_X10_graded_8 (p1 : Int) (k61 : Int → Mu → Option Res) : Nat → Int → Int → Mu → Option Res
  | 0, _, _, _ => none
  | fu + 1, v2, v3, μ => i_lt v3 8 (rdA 8 v3 (fun j => 232 + 2 * j) fun x1 => rb (f_X5_find x1 1 v3 μ) fun μ _ => rb (f_X1_hasGrade 1 v3 μ) fun μ x2 => i_eq x2 0 (f_X10_graded_55 p1 (f_X10_graded_8 p1 k61 fu) v2 v3 μ) (rdA 8 v3 (fun j => 232 + 2 * j) fun x3 => rdF μ x3 5 fun x4 => i_eq x4 p1 (f_X10_graded_55 p1 (f_X10_graded_8 p1 k61 fu) (v2 + 1) v3 μ) (f_X10_graded_55 p1 (f_X10_graded_8 p1 k61 fu) v2 v3 μ))) (k61 v2 μ)
set_option maxRecDepth 100000 in
theorem c_X10_graded_8 (X : kX) (p1 : Int)  {res : Res} (k61 : Int → Mu → Option Res) (hk61 : ∀ (v2 : Int), ∀ (μ : Mu), k61 v2 μ = some res → KK X mX10_graded 6 1 res 61 [(2, .int (iI v2))] [] μ) : ∀ (fu : Nat)  (v2 : Int) (v3 : Int) (μ : Mu), f_X10_graded_8 p1 k61 fu v2 v3 μ = some res → KK X mX10_graded 6 1 res 8 [(0, .ref (X.1 + 0)), (1, .int (iI p1)), (2, .int (iI v2)), (3, .int (iI v3))] [] μ := by
  intro fu
  induction fu with
  | zero => intro v2 v3 μ h; exact nomatch h
  | succ fu ih =>
    intro v2 v3 μ h
    refine K_iload_n (md := mX10_graded) (pc := 8) 3 (kTab_at (pc := 8) tX10_graded_ok 6 rfl) rfl ?_
    refine K_bipush (md := mX10_graded) (pc := 9) (x := 8) (kTab_at (pc := 9) tX10_graded_ok 7 rfl) (by decide) ?_
    refine K_icmp_ge (md := mX10_graded) (pc := 11) (kTab_at (pc := 11) tX10_graded_ok 8 rfl) (tgt := 61) rfl h (fun h => ?_) (fun h => ?_)
    · refine K_sub [2] rfl ?_
      exact hk61 v2 μ h
    · refine K_aload_n (md := mX10_graded) (pc := 14) 0 (kTab_at (pc := 14) tX10_graded_ok 9 rfl) rfl ?_
      refine K_getR (md := mX10_graded) (pc := 15) (b := 226) (kTab_at (pc := 15) tX10_graded_ok 10 rfl) fl_X10_45 sk_0 rfl rfl ?_
      refine K_iload_n (md := mX10_graded) (pc := 18) 3 (kTab_at (pc := 18) tX10_graded_ok 11 rfl) rfl ?_
      refine Z_aaldL (md := mX10_graded) (pc := 19) (ks := ksX5) (kTab_at (pc := 19) tX10_graded_ok 12 rfl) sk_226 (Or.inr rfl) (by decide) lay_outs h (fun x1 hx1 h => ?_)
      refine K_aload_n (md := mX10_graded) (pc := 20) 0 (kTab_at (pc := 20) tX10_graded_ok 13 rfl) rfl ?_
      refine K_getR (md := mX10_graded) (pc := 21) (b := 1) (kTab_at (pc := 21) tX10_graded_ok 14 rfl) fl_X10_12 sk_0 rfl rfl ?_
      refine K_iload_n (md := mX10_graded) (pc := 24) 3 (kTab_at (pc := 24) tX10_graded_ok 15 rfl) rfl ?_
      refine Z_callV (md := mX10_graded) (pc := 25) (st := []) (sv := (fun _ => [])) (kTab_at (pc := 25) tX10_graded_ok 16 rfl) mv_X10_306 (lay_0 hx1 rfl) rfl (Nat.le_of_ble_eq_true rfl) (by decide) rfl (c_X5_find X x1 1 v3 hx1 lay_now μ) (fun _ => rfl) h (fun μ _ h => ?_) rfl
      refine K_aload_n (md := mX10_graded) (pc := 28) 0 (kTab_at (pc := 28) tX10_graded_ok 17 rfl) rfl ?_
      refine K_getR (md := mX10_graded) (pc := 29) (b := 1) (kTab_at (pc := 29) tX10_graded_ok 18 rfl) fl_X10_12 sk_0 rfl rfl ?_
      refine K_iload_n (md := mX10_graded) (pc := 32) 3 (kTab_at (pc := 32) tX10_graded_ok 19 rfl) rfl ?_
      refine Z_callV (md := mX10_graded) (pc := 33) (st := []) (sv := (fun x2 => [.int (iI x2)])) (kTab_at (pc := 33) tX10_graded_ok 20 rfl) mv_X10_330 (lay_0 lay_now rfl) rfl (Nat.le_of_ble_eq_true rfl) (by decide) rfl (c_X1_hasGrade X 1 v3 lay_now μ) (fun _ => rfl) h (fun μ x2 h => ?_) rfl
      refine K_if_eq (md := mX10_graded) (pc := 36) (kTab_at (pc := 36) tX10_graded_ok 21 rfl) (tgt := 55) rfl h (fun h => ?_) (fun h => ?_)
      · refine c_X10_graded_55 X p1 _ ih v2 v3 μ h
      · refine K_aload_n (md := mX10_graded) (pc := 39) 0 (kTab_at (pc := 39) tX10_graded_ok 22 rfl) rfl ?_
        refine K_getR (md := mX10_graded) (pc := 40) (b := 226) (kTab_at (pc := 40) tX10_graded_ok 23 rfl) fl_X10_45 sk_0 rfl rfl ?_
        refine K_iload_n (md := mX10_graded) (pc := 43) 3 (kTab_at (pc := 43) tX10_graded_ok 24 rfl) rfl ?_
        refine Z_aaldL (md := mX10_graded) (pc := 44) (ks := ksX5) (kTab_at (pc := 44) tX10_graded_ok 25 rfl) sk_226 (Or.inr rfl) (by decide) lay_outs h (fun x3 hx3 h => ?_)
        refine Z_getI (md := mX10_graded) (pc := 45) (kTab_at (pc := 45) tX10_graded_ok 26 rfl) fl_X10_323 (lay_0 hx3 rfl) (Or.inl rfl) h (fun x4 h => ?_)
        refine K_iload_n (md := mX10_graded) (pc := 48) 1 (kTab_at (pc := 48) tX10_graded_ok 27 rfl) rfl ?_
        refine K_icmp_ne (md := mX10_graded) (pc := 49) (kTab_at (pc := 49) tX10_graded_ok 28 rfl) (tgt := 55) rfl h (fun h => ?_) (fun h => ?_)
        · refine c_X10_graded_55 X p1 _ ih v2 v3 μ h
        · refine K_iinc (md := mX10_graded) (pc := 52) (l' := [(2, .int (iI (v2 + 1))), (0, .ref (X.1 + 0)), (1, .int (iI p1)), (3, .int (iI v3))]) 2 (kTab_at (pc := 52) tX10_graded_ok 29 rfl) rfl (Nat.le_of_ble_eq_true rfl) rfl ?_
          refine K_sub [1, 2, 0, 3] rfl ?_
          refine c_X10_graded_55 X p1 _ ih (v2 + 1) v3 μ h
def f_X10_graded (p1 : Int) (μ : Mu) : Option Res := rb (f_X10_requireGradeNumber p1 μ) fun μ _ => f_X10_graded_8 p1 (fun v2 μ => some (μ, 0, v2)) FU 0 0 μ
set_option maxRecDepth 100000 in
theorem c_X10_graded (X : kX) (p1 : Int)  (μ : Mu) : Cq X mX10_graded 6 1 μ [.ref (X.1 + 0), .int (iI p1)] (f_X10_graded p1 μ) := by
  intro res h
  refine ct_of (by decide +kernel) rfl (Nat.le_of_ble_eq_true rfl) ?_
  show KK X mX10_graded 6 1 res 0 [(0, .ref (X.1 + 0)), (1, .int (iI p1))] [] μ
  unfold f_X10_graded at h
  refine K_iload_n (md := mX10_graded) (pc := 0) 1 (kTab_at (pc := 0) tX10_graded_ok 0 rfl) rfl ?_
  refine Z_callS (md := mX10_graded) (pc := 1) (st := []) (sv := (fun _ => [])) (kTab_at (pc := 1) tX10_graded_ok 1 rfl) ms_X10_338 rfl (Nat.le_of_ble_eq_true rfl) (by decide) rfl (c_X10_requireGradeNumber X p1 μ) (fun _ => rfl) h (fun μ _ h => ?_) rfl
  refine K_iconst (md := mX10_graded) (pc := 4) (x := 0) (kTab_at (pc := 4) tX10_graded_ok 2 rfl) rfl ?_
  refine K_istore_n (md := mX10_graded) (pc := 5) (l' := [(2, .int (iI 0)), (0, .ref (X.1 + 0)), (1, .int (iI p1))]) (kTab_at (pc := 5) tX10_graded_ok 3 rfl) (Nat.le_of_ble_eq_true rfl) rfl ?_
  refine K_iconst (md := mX10_graded) (pc := 6) (x := 0) (kTab_at (pc := 6) tX10_graded_ok 4 rfl) rfl ?_
  refine K_istore_n (md := mX10_graded) (pc := 7) (l' := [(3, .int (iI 0)), (2, .int (iI 0)), (0, .ref (X.1 + 0)), (1, .int (iI p1))]) (kTab_at (pc := 7) tX10_graded_ok 5 rfl) (Nat.le_of_ble_eq_true rfl) rfl ?_
  refine K_sub [2, 3, 1, 0] rfl ?_
  refine c_X10_graded_8 X p1 _ ?_ _ 0 0 μ h
  · intro v2 μ h
    refine K_iload_n (md := mX10_graded) (pc := 61) 0 (kTab_at (pc := 61) tX10_graded_ok 32 rfl) rfl ?_
    exact Z_iret (md := mX10_graded) (pc := 62) (kTab_at (pc := 62) tX10_graded_ok 33 rfl) rfl rfl rfl h
def f_X10_gradeIf (p1 : Int) (p2 : Int) (p3 : Int) (μ : Mu) : Option Res := rb (f_X10_requireScript p1 p2 μ) fun μ _ => rdI μ (1 + 1) 5 p2 fun x1 => rb (f_X10_requireRange p3 0 x1 μ) fun μ _ => rb (f_X10_requireGrade p1 μ) fun μ _ => rdA 8 p1 (fun j => 232 + 2 * j) fun x2 => rb (f_X5_find x2 1 p1 μ) fun μ _ => rb (f_X5_suppose x2 1 p1 p2 p3 μ) fun μ _ => rdF μ x2 5 fun x3 => some (μ, 0, x3)
set_option maxRecDepth 100000 in
theorem c_X10_gradeIf (X : kX) (p1 : Int) (p2 : Int) (p3 : Int)  (μ : Mu) : Cq X mX10_gradeIf 6 1 μ [.ref (X.1 + 0), .int (iI p1), .int (iI p2), .int (iI p3)] (f_X10_gradeIf p1 p2 p3 μ) := by
  intro res h
  refine ct_of (by decide +kernel) rfl (Nat.le_of_ble_eq_true rfl) ?_
  show KK X mX10_gradeIf 6 1 res 0 [(0, .ref (X.1 + 0)), (1, .int (iI p1)), (2, .int (iI p2)), (3, .int (iI p3))] [] μ
  unfold f_X10_gradeIf at h
  refine K_iload_n (md := mX10_gradeIf) (pc := 0) 1 (kTab_at (pc := 0) tX10_gradeIf_ok 0 rfl) rfl ?_
  refine K_iload_n (md := mX10_gradeIf) (pc := 1) 2 (kTab_at (pc := 1) tX10_gradeIf_ok 1 rfl) rfl ?_
  refine Z_callS (md := mX10_gradeIf) (pc := 2) (st := []) (sv := (fun _ => [])) (kTab_at (pc := 2) tX10_gradeIf_ok 2 rfl) ms_X10_142 rfl (Nat.le_of_ble_eq_true rfl) (by decide) rfl (c_X10_requireScript X p1 p2 μ) (fun _ => rfl) h (fun μ _ h => ?_) rfl
  refine K_iload_n (md := mX10_gradeIf) (pc := 5) 3 (kTab_at (pc := 5) tX10_gradeIf_ok 3 rfl) rfl ?_
  refine K_iconst (md := mX10_gradeIf) (pc := 6) (x := 0) (kTab_at (pc := 6) tX10_gradeIf_ok 4 rfl) rfl ?_
  refine K_aload_n (md := mX10_gradeIf) (pc := 7) 0 (kTab_at (pc := 7) tX10_gradeIf_ok 5 rfl) rfl ?_
  refine K_getR (md := mX10_gradeIf) (pc := 8) (b := 1) (kTab_at (pc := 8) tX10_gradeIf_ok 6 rfl) fl_X10_12 sk_0 rfl rfl ?_
  refine K_getR (md := mX10_gradeIf) (pc := 11) (b := (1 + 1)) (kTab_at (pc := 11) tX10_gradeIf_ok 7 rfl) fl_X10_79 (lay_0 lay_now rfl) rfl rfl ?_
  refine K_iload_n (md := mX10_gradeIf) (pc := 14) 2 (kTab_at (pc := 14) tX10_gradeIf_ok 8 rfl) rfl ?_
  refine Z_iald (md := mX10_gradeIf) (pc := 15) (kTab_at (pc := 15) tX10_gradeIf_ok 9 rfl) (lay_at lay_now 1 rfl) (by decide) h (fun x1 h => ?_)
  refine Z_callS (md := mX10_gradeIf) (pc := 16) (st := []) (sv := (fun _ => [])) (kTab_at (pc := 16) tX10_gradeIf_ok 10 rfl) ms_X10_61 rfl (Nat.le_of_ble_eq_true rfl) (by decide) rfl (c_X10_requireRange X p3 0 x1 μ) (fun _ => rfl) h (fun μ _ h => ?_) rfl
  refine K_aload_n (md := mX10_gradeIf) (pc := 19) 0 (kTab_at (pc := 19) tX10_gradeIf_ok 11 rfl) rfl ?_
  refine K_iload_n (md := mX10_gradeIf) (pc := 20) 1 (kTab_at (pc := 20) tX10_gradeIf_ok 12 rfl) rfl ?_
  refine Z_callV (md := mX10_gradeIf) (pc := 21) (st := []) (sv := (fun _ => [])) (kTab_at (pc := 21) tX10_gradeIf_ok 13 rfl) mv_X10_303 sk_0 rfl (Nat.le_of_ble_eq_true rfl) (by decide) rfl (c_X10_requireGrade X p1 μ) (fun _ => rfl) h (fun μ _ h => ?_) rfl
  refine K_aload_n (md := mX10_gradeIf) (pc := 24) 0 (kTab_at (pc := 24) tX10_gradeIf_ok 14 rfl) rfl ?_
  refine K_getR (md := mX10_gradeIf) (pc := 25) (b := 226) (kTab_at (pc := 25) tX10_gradeIf_ok 15 rfl) fl_X10_45 sk_0 rfl rfl ?_
  refine K_iload_n (md := mX10_gradeIf) (pc := 28) 1 (kTab_at (pc := 28) tX10_gradeIf_ok 16 rfl) rfl ?_
  refine Z_aaldL (md := mX10_gradeIf) (pc := 29) (ks := ksX5) (kTab_at (pc := 29) tX10_gradeIf_ok 17 rfl) sk_226 (Or.inr rfl) (by decide) lay_outs h (fun x2 hx2 h => ?_)
  refine K_astore (md := mX10_gradeIf) (pc := 30) (l' := [(4, .ref (X.1 + x2)), (0, .ref (X.1 + 0)), (1, .int (iI p1)), (2, .int (iI p2)), (3, .int (iI p3))]) (kTab_at (pc := 30) tX10_gradeIf_ok 18 rfl) (Nat.le_of_ble_eq_true rfl) rfl ?_
  refine K_aload (md := mX10_gradeIf) (pc := 32) 0 (kTab_at (pc := 32) tX10_gradeIf_ok 19 rfl) rfl ?_
  refine K_aload_n (md := mX10_gradeIf) (pc := 34) 1 (kTab_at (pc := 34) tX10_gradeIf_ok 20 rfl) rfl ?_
  refine K_getR (md := mX10_gradeIf) (pc := 35) (b := 1) (kTab_at (pc := 35) tX10_gradeIf_ok 21 rfl) fl_X10_12 sk_0 rfl rfl ?_
  refine K_iload_n (md := mX10_gradeIf) (pc := 38) 2 (kTab_at (pc := 38) tX10_gradeIf_ok 22 rfl) rfl ?_
  refine Z_callV (md := mX10_gradeIf) (pc := 39) (st := []) (sv := (fun _ => [])) (kTab_at (pc := 39) tX10_gradeIf_ok 23 rfl) mv_X10_306 (lay_0 hx2 rfl) rfl (Nat.le_of_ble_eq_true rfl) (by decide) rfl (c_X5_find X x2 1 p1 hx2 lay_now μ) (fun _ => rfl) h (fun μ _ h => ?_) rfl
  refine K_aload (md := mX10_gradeIf) (pc := 42) 0 (kTab_at (pc := 42) tX10_gradeIf_ok 24 rfl) rfl ?_
  refine K_aload_n (md := mX10_gradeIf) (pc := 44) 1 (kTab_at (pc := 44) tX10_gradeIf_ok 25 rfl) rfl ?_
  refine K_getR (md := mX10_gradeIf) (pc := 45) (b := 1) (kTab_at (pc := 45) tX10_gradeIf_ok 26 rfl) fl_X10_12 sk_0 rfl rfl ?_
  refine K_iload_n (md := mX10_gradeIf) (pc := 48) 2 (kTab_at (pc := 48) tX10_gradeIf_ok 27 rfl) rfl ?_
  refine K_iload_n (md := mX10_gradeIf) (pc := 49) 3 (kTab_at (pc := 49) tX10_gradeIf_ok 28 rfl) rfl ?_
  refine K_iload_n (md := mX10_gradeIf) (pc := 50) 4 (kTab_at (pc := 50) tX10_gradeIf_ok 29 rfl) rfl ?_
  refine Z_callV (md := mX10_gradeIf) (pc := 51) (st := []) (sv := (fun _ => [])) (kTab_at (pc := 51) tX10_gradeIf_ok 30 rfl) mv_X10_341 (lay_0 hx2 rfl) rfl (Nat.le_of_ble_eq_true rfl) (by decide) rfl (c_X5_suppose X x2 1 p1 p2 p3 hx2 lay_now μ) (fun _ => rfl) h (fun μ _ h => ?_) rfl
  refine K_aload (md := mX10_gradeIf) (pc := 54) 0 (kTab_at (pc := 54) tX10_gradeIf_ok 31 rfl) rfl ?_
  refine Z_getI (md := mX10_gradeIf) (pc := 56) (kTab_at (pc := 56) tX10_gradeIf_ok 32 rfl) fl_X10_323 (lay_0 hx2 rfl) (Or.inl rfl) h (fun x3 h => ?_)
  exact Z_iret (md := mX10_gradeIf) (pc := 59) (kTab_at (pc := 59) tX10_gradeIf_ok 33 rfl) rfl rfl rfl h

def f_X5_findRawResult_51 (p0 : Nat) (p1 : Nat) (p2 : Int) (p3 : Int) (k9 : Int → Int → Int → Mu → Option Res) (v4 : Int) (v6 : Int) (v8 : Int) (μ : Mu) : Option Res := k9 v4 v6 (v8 + 1) μ
set_option maxRecDepth 100000 in
theorem c_X5_findRawResult_51 (X : kX) (p0 : Nat) (p1 : Nat) (p2 : Int) (p3 : Int) (h0 : Lay p0 (ksX5 p0)) (h1 : Lay p1 (ksX1 p1)) {res : Res} (k9 : Int → Int → Int → Mu → Option Res) (hk9 : ∀ (v4 : Int), ∀ (v6 : Int), ∀ (v8 : Int), ∀ (μ : Mu), k9 v4 v6 v8 μ = some res → KK X mX5_findRawResult 1 0 res 9 [(0, .ref (X.1 + p0)), (1, .ref (X.1 + p1)), (2, .int (iI p2)), (3, .int (iI p3)), (4, .long (iL v4)), (6, .long (iL v6)), (8, .int (iI v8))] [] μ) (v4 : Int) (v6 : Int) (v8 : Int) (μ : Mu) (h : f_X5_findRawResult_51 p0 p1 p2 p3 k9 v4 v6 v8 μ = some res) : KK X mX5_findRawResult 1 0 res 51 [(0, .ref (X.1 + p0)), (1, .ref (X.1 + p1)), (2, .int (iI p2)), (3, .int (iI p3)), (4, .long (iL v4)), (6, .long (iL v6)), (8, .int (iI v8))] [] μ := by
  unfold f_X5_findRawResult_51 at h
  refine K_iinc (md := mX5_findRawResult) (pc := 51) (l' := [(8, .int (iI (v8 + 1))), (0, .ref (X.1 + p0)), (1, .ref (X.1 + p1)), (2, .int (iI p2)), (3, .int (iI p3)), (4, .long (iL v4)), (6, .long (iL v6))]) 6 (kTab_at (pc := 51) tX5_findRawResult_ok 30 rfl) rfl (Nat.le_of_ble_eq_true rfl) rfl ?_
  refine K_goto (md := mX5_findRawResult) (pc := 54) (tgt := 9) (kTab_at (pc := 54) tX5_findRawResult_ok 31 rfl) rfl ?_
  refine K_sub [1, 2, 3, 4, 5, 6, 0] rfl ?_
  exact hk9 v4 v6 (v8 + 1) μ h
def f_X5_findRawResult_143 (p0 : Nat) (p1 : Nat) (p2 : Int) (p3 : Int)   (μ : Mu) : Option Res := some (μ, 0, 0)
set_option maxRecDepth 100000 in
theorem c_X5_findRawResult_143 (X : kX) (p0 : Nat) (p1 : Nat) (p2 : Int) (p3 : Int) (h0 : Lay p0 (ksX5 p0)) (h1 : Lay p1 (ksX1 p1)) {res : Res}  (μ : Mu) (h : f_X5_findRawResult_143 p0 p1 p2 p3 μ = some res) : KK X mX5_findRawResult 1 0 res 143 [] [] μ := by
  unfold f_X5_findRawResult_143 at h
  exact Z_vret (md := mX5_findRawResult) (pc := 143) (kTab_at (pc := 143) tX5_findRawResult_ok 83 rfl) rfl rfl h
def f_X5_findRawResult_109 (p0 : Nat) (p1 : Nat) (p2 : Int) (p3 : Int)  (v8 : Int) (v10 : Int) (μ : Mu) : Option Res := rb (f_X10_greatestCommonDivisor v8 v10 μ) fun μ x1 => l_lt 0 x1 (l_div v8 x1 fun x2 => wrF μ p0 1 x2 fun μ => l_div v10 x1 fun x3 => wrF μ p0 2 x3 fun μ => f_X5_findRawResult_143 p0 p1 p2 p3 μ) (f_X5_findRawResult_143 p0 p1 p2 p3 μ)
set_option maxRecDepth 100000 in
theorem c_X5_findRawResult_109 (X : kX) (p0 : Nat) (p1 : Nat) (p2 : Int) (p3 : Int) (h0 : Lay p0 (ksX5 p0)) (h1 : Lay p1 (ksX1 p1)) {res : Res}  (v8 : Int) (v10 : Int) (μ : Mu) (h : f_X5_findRawResult_109 p0 p1 p2 p3 v8 v10 μ = some res) : KK X mX5_findRawResult 1 0 res 109 [(0, .ref (X.1 + p0)), (8, .long (iL v8)), (10, .long (iL v10))] [] μ := by
  unfold f_X5_findRawResult_109 at h
  refine K_lload (md := mX5_findRawResult) (pc := 109) 1 (kTab_at (pc := 109) tX5_findRawResult_ok 65 rfl) rfl ?_
  refine K_lload (md := mX5_findRawResult) (pc := 111) 2 (kTab_at (pc := 111) tX5_findRawResult_ok 66 rfl) rfl ?_
  refine Z_callSN (md := mX5_findRawResult) (pc := 113) (st := []) (sv := (fun x1 => [.long (iL x1)])) (kTab_at (pc := 113) tX5_findRawResult_ok 67 rfl) mn_X5_85 rfl (Nat.le_of_ble_eq_true rfl) (by decide) (c_X10_greatestCommonDivisor X v8 v10 μ) (n_X10_greatestCommonDivisor v8 v10 μ) (fun _ => rfl) h (fun μ x1 h => ?_) rfl
  refine K_lstore (md := mX5_findRawResult) (pc := 116) (l' := [(12, .long (iL x1)), (0, .ref (X.1 + p0)), (8, .long (iL v8)), (10, .long (iL v10))]) (kTab_at (pc := 116) tX5_findRawResult_ok 68 rfl) (Nat.le_of_ble_eq_true rfl) rfl ?_
  refine K_lload (md := mX5_findRawResult) (pc := 118) 0 (kTab_at (pc := 118) tX5_findRawResult_ok 69 rfl) rfl ?_
  refine K_lconst (md := mX5_findRawResult) (pc := 120) (x := 0) (kTab_at (pc := 120) tX5_findRawResult_ok 70 rfl) rfl ?_
  refine K_lcmp_le (md := mX5_findRawResult) (pc := 121) (kTab_at (pc := 121) tX5_findRawResult_ok 71 rfl) (kTab_at (pc := 122) tX5_findRawResult_ok 72 rfl) (tgt := 143) rfl h (fun h => ?_) (fun h => ?_)
  · refine K_sub [] rfl ?_
    refine c_X5_findRawResult_143 X p0 p1 p2 p3 h0 h1  μ h
  · refine K_aload_n (md := mX5_findRawResult) (pc := 125) 1 (kTab_at (pc := 125) tX5_findRawResult_ok 73 rfl) rfl ?_
    refine K_lload (md := mX5_findRawResult) (pc := 126) 2 (kTab_at (pc := 126) tX5_findRawResult_ok 74 rfl) rfl ?_
    refine K_lload (md := mX5_findRawResult) (pc := 128) 0 (kTab_at (pc := 128) tX5_findRawResult_ok 75 rfl) rfl ?_
    refine Z_ldiv (md := mX5_findRawResult) (pc := 130) (kTab_at (pc := 130) tX5_findRawResult_ok 76 rfl) h (fun x2 h => ?_)
    refine Z_putL (md := mX5_findRawResult) (pc := 131) (kTab_at (pc := 131) tX5_findRawResult_ok 77 rfl) fl_X5_45 (lay_0 h0 rfl) rfl h (fun μ h => ?_)
    refine K_aload_n (md := mX5_findRawResult) (pc := 134) 1 (kTab_at (pc := 134) tX5_findRawResult_ok 78 rfl) rfl ?_
    refine K_lload (md := mX5_findRawResult) (pc := 135) 3 (kTab_at (pc := 135) tX5_findRawResult_ok 79 rfl) rfl ?_
    refine K_lload (md := mX5_findRawResult) (pc := 137) 0 (kTab_at (pc := 137) tX5_findRawResult_ok 80 rfl) rfl ?_
    refine Z_ldiv (md := mX5_findRawResult) (pc := 139) (kTab_at (pc := 139) tX5_findRawResult_ok 81 rfl) h (fun x3 h => ?_)
    refine Z_putL (md := mX5_findRawResult) (pc := 140) (kTab_at (pc := 140) tX5_findRawResult_ok 82 rfl) fl_X5_15 (lay_0 h0 rfl) rfl h (fun μ h => ?_)
    refine K_sub [] rfl ?_
    refine c_X5_findRawResult_143 X p0 p1 p2 p3 h0 h1  μ h
def f_X5_findRawResult_9 (p0 : Nat) (p1 : Nat) (p2 : Int) (p3 : Int) (k57 : Int → Int → Mu → Option Res) : Nat → Int → Int → Int → Mu → Option Res
  | 0, _, _, _, _ => none
  | fu + 1, v4, v6, v8, μ => i_lt v8 5 (rb (f_X1_isExcused p1 p2 v8 μ) fun μ x1 => i_eq x1 0 (rdI μ (p0 + 1) 5 v8 fun x2 => i_2l x2 (bnd (v4 + x2) fun x3 => rdI μ (p1 + 1) 5 v8 fun x4 => i_2l x4 (bnd (v6 + x4) fun x5 => f_X5_findRawResult_51 p0 p1 p2 p3 (f_X5_findRawResult_9 p0 p1 p2 p3 k57 fu) x3 x5 v8 μ))) (f_X5_findRawResult_51 p0 p1 p2 p3 (f_X5_findRawResult_9 p0 p1 p2 p3 k57 fu) v4 v6 v8 μ)) (k57 v4 v6 μ)
set_option maxRecDepth 100000 in
theorem c_X5_findRawResult_9 (X : kX) (p0 : Nat) (p1 : Nat) (p2 : Int) (p3 : Int) (h0 : Lay p0 (ksX5 p0)) (h1 : Lay p1 (ksX1 p1)) {res : Res} (k57 : Int → Int → Mu → Option Res) (hk57 : ∀ (v4 : Int), ∀ (v6 : Int), ∀ (μ : Mu), k57 v4 v6 μ = some res → KK X mX5_findRawResult 1 0 res 57 [(0, .ref (X.1 + p0)), (1, .ref (X.1 + p1)), (2, .int (iI p2)), (3, .int (iI p3)), (4, .long (iL v4)), (6, .long (iL v6))] [] μ) : ∀ (fu : Nat)  (v4 : Int) (v6 : Int) (v8 : Int) (μ : Mu), f_X5_findRawResult_9 p0 p1 p2 p3 k57 fu v4 v6 v8 μ = some res → KK X mX5_findRawResult 1 0 res 9 [(0, .ref (X.1 + p0)), (1, .ref (X.1 + p1)), (2, .int (iI p2)), (3, .int (iI p3)), (4, .long (iL v4)), (6, .long (iL v6)), (8, .int (iI v8))] [] μ := by
  intro fu
  induction fu with
  | zero => intro v4 v6 v8 μ h; exact nomatch h
  | succ fu ih =>
    intro v4 v6 v8 μ h
    refine K_iload (md := mX5_findRawResult) (pc := 9) 6 (kTab_at (pc := 9) tX5_findRawResult_ok 6 rfl) rfl ?_
    refine K_iconst (md := mX5_findRawResult) (pc := 11) (x := 5) (kTab_at (pc := 11) tX5_findRawResult_ok 7 rfl) rfl ?_
    refine K_icmp_ge (md := mX5_findRawResult) (pc := 12) (kTab_at (pc := 12) tX5_findRawResult_ok 8 rfl) (tgt := 57) rfl h (fun h => ?_) (fun h => ?_)
    · refine K_sub [0, 1, 2, 3, 4, 5] rfl ?_
      exact hk57 v4 v6 μ h
    · refine K_aload_n (md := mX5_findRawResult) (pc := 15) 1 (kTab_at (pc := 15) tX5_findRawResult_ok 9 rfl) rfl ?_
      refine K_iload_n (md := mX5_findRawResult) (pc := 16) 2 (kTab_at (pc := 16) tX5_findRawResult_ok 10 rfl) rfl ?_
      refine K_iload (md := mX5_findRawResult) (pc := 17) 6 (kTab_at (pc := 17) tX5_findRawResult_ok 11 rfl) rfl ?_
      refine Z_callV (md := mX5_findRawResult) (pc := 19) (st := []) (sv := (fun x1 => [.int (iI x1)])) (kTab_at (pc := 19) tX5_findRawResult_ok 12 rfl) mv_X5_73 (lay_0 h1 rfl) rfl (Nat.le_of_ble_eq_true rfl) (by decide) rfl (c_X1_isExcused X p1 p2 v8 h1 μ) (fun _ => rfl) h (fun μ x1 h => ?_) rfl
      refine K_if_ne (md := mX5_findRawResult) (pc := 22) (kTab_at (pc := 22) tX5_findRawResult_ok 13 rfl) (tgt := 51) rfl h (fun h => ?_) (fun h => ?_)
      · refine c_X5_findRawResult_51 X p0 p1 p2 p3 h0 h1 _ ih v4 v6 v8 μ h
      · refine K_lload (md := mX5_findRawResult) (pc := 25) 4 (kTab_at (pc := 25) tX5_findRawResult_ok 14 rfl) rfl ?_
        refine K_aload_n (md := mX5_findRawResult) (pc := 27) 0 (kTab_at (pc := 27) tX5_findRawResult_ok 15 rfl) rfl ?_
        refine K_getR (md := mX5_findRawResult) (pc := 28) (b := (p0 + 1)) (kTab_at (pc := 28) tX5_findRawResult_ok 16 rfl) fl_X5_9 (lay_0 h0 rfl) rfl rfl ?_
        refine K_iload (md := mX5_findRawResult) (pc := 31) 6 (kTab_at (pc := 31) tX5_findRawResult_ok 17 rfl) rfl ?_
        refine Z_iald (md := mX5_findRawResult) (pc := 33) (kTab_at (pc := 33) tX5_findRawResult_ok 18 rfl) (lay_at h0 1 rfl) (by decide) h (fun x2 h => ?_)
        refine K_i2l (md := mX5_findRawResult) (pc := 34) (kTab_at (pc := 34) tX5_findRawResult_ok 19 rfl) h (fun h => ?_)
        refine K_ladd (md := mX5_findRawResult) (pc := 35) (kTab_at (pc := 35) tX5_findRawResult_ok 20 rfl) ?_
        refine Z_bndL (md := mX5_findRawResult) (pc := 36) h (fun x3 h => ?_)
        refine K_lstore (md := mX5_findRawResult) (pc := 36) (l' := [(4, .long (iL x3)), (0, .ref (X.1 + p0)), (1, .ref (X.1 + p1)), (2, .int (iI p2)), (3, .int (iI p3)), (6, .long (iL v6)), (8, .int (iI v8))]) (kTab_at (pc := 36) tX5_findRawResult_ok 21 rfl) (Nat.le_of_ble_eq_true rfl) rfl ?_
        refine K_lload (md := mX5_findRawResult) (pc := 38) 5 (kTab_at (pc := 38) tX5_findRawResult_ok 22 rfl) rfl ?_
        refine K_aload_n (md := mX5_findRawResult) (pc := 40) 2 (kTab_at (pc := 40) tX5_findRawResult_ok 23 rfl) rfl ?_
        refine K_getR (md := mX5_findRawResult) (pc := 41) (b := (p1 + 1)) (kTab_at (pc := 41) tX5_findRawResult_ok 24 rfl) fl_X5_77 (lay_0 h1 rfl) rfl rfl ?_
        refine K_iload (md := mX5_findRawResult) (pc := 44) 6 (kTab_at (pc := 44) tX5_findRawResult_ok 25 rfl) rfl ?_
        refine Z_iald (md := mX5_findRawResult) (pc := 46) (kTab_at (pc := 46) tX5_findRawResult_ok 26 rfl) (lay_at h1 1 rfl) (by decide) h (fun x4 h => ?_)
        refine K_i2l (md := mX5_findRawResult) (pc := 47) (kTab_at (pc := 47) tX5_findRawResult_ok 27 rfl) h (fun h => ?_)
        refine K_ladd (md := mX5_findRawResult) (pc := 48) (kTab_at (pc := 48) tX5_findRawResult_ok 28 rfl) ?_
        refine Z_bndL (md := mX5_findRawResult) (pc := 49) h (fun x5 h => ?_)
        refine K_lstore (md := mX5_findRawResult) (pc := 49) (l' := [(6, .long (iL x5)), (4, .long (iL x3)), (0, .ref (X.1 + p0)), (1, .ref (X.1 + p1)), (2, .int (iI p2)), (3, .int (iI p3)), (8, .int (iI v8))]) (kTab_at (pc := 49) tX5_findRawResult_ok 29 rfl) (Nat.le_of_ble_eq_true rfl) rfl ?_
        refine K_sub [2, 3, 4, 5, 1, 0, 6] rfl ?_
        refine c_X5_findRawResult_51 X p0 p1 p2 p3 h0 h1 _ ih x3 x5 v8 μ h
def f_X5_findRawResult (p0 : Nat) (p1 : Nat) (p2 : Int) (p3 : Int) (μ : Mu) : Option Res := f_X5_findRawResult_9 p0 p1 p2 p3 (fun v4 v6 μ => i_2l p3 (rdI μ (p1 + 5) 8 p2 fun x1 => i_2l (100 + x1) (bnd ((v4 * p3) * (100 + x1)) fun x2 => bnd (v6 * 100) fun x3 => i_2l p3 (l_lt ((p3 * 120) * x3) x2 (i_2l p3 (bnd (p3 * 120) fun x4 => f_X5_findRawResult_109 p0 p1 p2 p3 x4 1 μ)) (f_X5_findRawResult_109 p0 p1 p2 p3 x2 x3 μ))))) FU 0 0 0 μ
set_option maxRecDepth 100000 in
theorem c_X5_findRawResult (X : kX) (p0 : Nat) (p1 : Nat) (p2 : Int) (p3 : Int) (h0 : Lay p0 (ksX5 p0)) (h1 : Lay p1 (ksX1 p1)) (μ : Mu) : Cq X mX5_findRawResult 1 0 μ [.ref (X.1 + p0), .ref (X.1 + p1), .int (iI p2), .int (iI p3)] (f_X5_findRawResult p0 p1 p2 p3 μ) := by
  intro res h
  refine ct_of (by decide +kernel) rfl (Nat.le_of_ble_eq_true rfl) ?_
  show KK X mX5_findRawResult 1 0 res 0 [(0, .ref (X.1 + p0)), (1, .ref (X.1 + p1)), (2, .int (iI p2)), (3, .int (iI p3))] [] μ
  unfold f_X5_findRawResult at h
  refine K_lconst (md := mX5_findRawResult) (pc := 0) (x := 0) (kTab_at (pc := 0) tX5_findRawResult_ok 0 rfl) rfl ?_
  refine K_lstore (md := mX5_findRawResult) (pc := 1) (l' := [(4, .long (iL 0)), (0, .ref (X.1 + p0)), (1, .ref (X.1 + p1)), (2, .int (iI p2)), (3, .int (iI p3))]) (kTab_at (pc := 1) tX5_findRawResult_ok 1 rfl) (Nat.le_of_ble_eq_true rfl) rfl ?_
  refine K_lconst (md := mX5_findRawResult) (pc := 3) (x := 0) (kTab_at (pc := 3) tX5_findRawResult_ok 2 rfl) rfl ?_
  refine K_lstore (md := mX5_findRawResult) (pc := 4) (l' := [(6, .long (iL 0)), (4, .long (iL 0)), (0, .ref (X.1 + p0)), (1, .ref (X.1 + p1)), (2, .int (iI p2)), (3, .int (iI p3))]) (kTab_at (pc := 4) tX5_findRawResult_ok 3 rfl) (Nat.le_of_ble_eq_true rfl) rfl ?_
  refine K_iconst (md := mX5_findRawResult) (pc := 6) (x := 0) (kTab_at (pc := 6) tX5_findRawResult_ok 4 rfl) rfl ?_
  refine K_istore (md := mX5_findRawResult) (pc := 7) (l' := [(8, .int (iI 0)), (6, .long (iL 0)), (4, .long (iL 0)), (0, .ref (X.1 + p0)), (1, .ref (X.1 + p1)), (2, .int (iI p2)), (3, .int (iI p3))]) (kTab_at (pc := 7) tX5_findRawResult_ok 5 rfl) (Nat.le_of_ble_eq_true rfl) rfl ?_
  refine K_sub [3, 4, 5, 6, 2, 1, 0] rfl ?_
  refine c_X5_findRawResult_9 X p0 p1 p2 p3 h0 h1 _ ?_ _ 0 0 0 μ h
  · intro v4 v6 μ h
    refine K_lload (md := mX5_findRawResult) (pc := 57) 4 (kTab_at (pc := 57) tX5_findRawResult_ok 32 rfl) rfl ?_
    refine K_iload_n (md := mX5_findRawResult) (pc := 59) 3 (kTab_at (pc := 59) tX5_findRawResult_ok 33 rfl) rfl ?_
    refine K_i2l (md := mX5_findRawResult) (pc := 60) (kTab_at (pc := 60) tX5_findRawResult_ok 34 rfl) h (fun h => ?_)
    refine K_lmul (md := mX5_findRawResult) (pc := 61) (kTab_at (pc := 61) tX5_findRawResult_ok 35 rfl) ?_
    refine K_bipush (md := mX5_findRawResult) (pc := 62) (x := 100) (kTab_at (pc := 62) tX5_findRawResult_ok 36 rfl) (by decide) ?_
    refine K_aload_n (md := mX5_findRawResult) (pc := 64) 1 (kTab_at (pc := 64) tX5_findRawResult_ok 37 rfl) rfl ?_
    refine K_getR (md := mX5_findRawResult) (pc := 65) (b := (p1 + 5)) (kTab_at (pc := 65) tX5_findRawResult_ok 38 rfl) fl_X5_80 (lay_0 h1 rfl) rfl rfl ?_
    refine K_iload_n (md := mX5_findRawResult) (pc := 68) 2 (kTab_at (pc := 68) tX5_findRawResult_ok 39 rfl) rfl ?_
    refine Z_iald (md := mX5_findRawResult) (pc := 69) (kTab_at (pc := 69) tX5_findRawResult_ok 40 rfl) (lay_at h1 5 rfl) (by decide) h (fun x1 h => ?_)
    refine K_iadd (md := mX5_findRawResult) (pc := 70) (kTab_at (pc := 70) tX5_findRawResult_ok 41 rfl) ?_
    refine K_i2l (md := mX5_findRawResult) (pc := 71) (kTab_at (pc := 71) tX5_findRawResult_ok 42 rfl) h (fun h => ?_)
    refine K_lmul (md := mX5_findRawResult) (pc := 72) (kTab_at (pc := 72) tX5_findRawResult_ok 43 rfl) ?_
    refine Z_bndL (md := mX5_findRawResult) (pc := 73) h (fun x2 h => ?_)
    refine K_lstore (md := mX5_findRawResult) (pc := 73) (l' := [(8, .long (iL x2)), (0, .ref (X.1 + p0)), (1, .ref (X.1 + p1)), (2, .int (iI p2)), (3, .int (iI p3)), (4, .long (iL v4)), (6, .long (iL v6))]) (kTab_at (pc := 73) tX5_findRawResult_ok 44 rfl) (Nat.le_of_ble_eq_true rfl) rfl ?_
    refine K_lload (md := mX5_findRawResult) (pc := 75) 6 (kTab_at (pc := 75) tX5_findRawResult_ok 45 rfl) rfl ?_
    refine K_ldc2 (md := mX5_findRawResult) (pc := 77) (x := 100) (v := 100) (kTab_at (pc := 77) tX5_findRawResult_ok 46 rfl) (inT4 238 (by decide +kernel) rfl) (by decide) ?_
    refine K_lmul (md := mX5_findRawResult) (pc := 80) (kTab_at (pc := 80) tX5_findRawResult_ok 47 rfl) ?_
    refine Z_bndL (md := mX5_findRawResult) (pc := 81) h (fun x3 h => ?_)
    refine K_lstore (md := mX5_findRawResult) (pc := 81) (l' := [(10, .long (iL x3)), (8, .long (iL x2)), (0, .ref (X.1 + p0)), (1, .ref (X.1 + p1)), (2, .int (iI p2)), (3, .int (iI p3)), (4, .long (iL v4)), (6, .long (iL v6))]) (kTab_at (pc := 81) tX5_findRawResult_ok 48 rfl) (Nat.le_of_ble_eq_true rfl) rfl ?_
    refine K_lload (md := mX5_findRawResult) (pc := 83) 1 (kTab_at (pc := 83) tX5_findRawResult_ok 49 rfl) rfl ?_
    refine K_iload_n (md := mX5_findRawResult) (pc := 85) 5 (kTab_at (pc := 85) tX5_findRawResult_ok 50 rfl) rfl ?_
    refine K_i2l (md := mX5_findRawResult) (pc := 86) (kTab_at (pc := 86) tX5_findRawResult_ok 51 rfl) h (fun h => ?_)
    refine K_ldc2 (md := mX5_findRawResult) (pc := 87) (x := 120) (v := 120) (kTab_at (pc := 87) tX5_findRawResult_ok 52 rfl) (inT4 239 (by decide +kernel) rfl) (by decide) ?_
    refine K_lmul (md := mX5_findRawResult) (pc := 90) (kTab_at (pc := 90) tX5_findRawResult_ok 53 rfl) ?_
    refine K_lload (md := mX5_findRawResult) (pc := 91) 0 (kTab_at (pc := 91) tX5_findRawResult_ok 54 rfl) rfl ?_
    refine K_lmul (md := mX5_findRawResult) (pc := 93) (kTab_at (pc := 93) tX5_findRawResult_ok 55 rfl) ?_
    refine K_lcmp_le (md := mX5_findRawResult) (pc := 94) (kTab_at (pc := 94) tX5_findRawResult_ok 56 rfl) (kTab_at (pc := 95) tX5_findRawResult_ok 57 rfl) (tgt := 109) rfl h (fun h => ?_) (fun h => ?_)
    · refine K_sub [2, 1, 0] rfl ?_
      refine c_X5_findRawResult_109 X p0 p1 p2 p3 h0 h1  x2 x3 μ h
    · refine K_iload_n (md := mX5_findRawResult) (pc := 98) 5 (kTab_at (pc := 98) tX5_findRawResult_ok 58 rfl) rfl ?_
      refine K_i2l (md := mX5_findRawResult) (pc := 99) (kTab_at (pc := 99) tX5_findRawResult_ok 59 rfl) h (fun h => ?_)
      refine K_ldc2 (md := mX5_findRawResult) (pc := 100) (x := 120) (v := 120) (kTab_at (pc := 100) tX5_findRawResult_ok 60 rfl) (inT4 239 (by decide +kernel) rfl) (by decide) ?_
      refine K_lmul (md := mX5_findRawResult) (pc := 103) (kTab_at (pc := 103) tX5_findRawResult_ok 61 rfl) ?_
      refine Z_bndL (md := mX5_findRawResult) (pc := 104) h (fun x4 h => ?_)
      refine K_lstore (md := mX5_findRawResult) (pc := 104) (l' := [(8, .long (iL x4)), (10, .long (iL x3)), (0, .ref (X.1 + p0)), (1, .ref (X.1 + p1)), (2, .int (iI p2)), (3, .int (iI p3)), (4, .long (iL v4)), (6, .long (iL v6))]) (kTab_at (pc := 104) tX5_findRawResult_ok 62 rfl) (Nat.le_of_ble_eq_true rfl) rfl ?_
      refine K_lconst (md := mX5_findRawResult) (pc := 106) (x := 1) (kTab_at (pc := 106) tX5_findRawResult_ok 63 rfl) rfl ?_
      refine K_lstore (md := mX5_findRawResult) (pc := 107) (l' := [(10, .long (iL 1)), (8, .long (iL x4)), (0, .ref (X.1 + p0)), (1, .ref (X.1 + p1)), (2, .int (iI p2)), (3, .int (iI p3)), (4, .long (iL v4)), (6, .long (iL v6))]) (kTab_at (pc := 107) tX5_findRawResult_ok 64 rfl) (Nat.le_of_ble_eq_true rfl) rfl ?_
      refine K_sub [2, 1, 0] rfl ?_
      refine c_X5_findRawResult_109 X p0 p1 p2 p3 h0 h1  x4 1 μ h
def f_X5_isLifted_15 (p0 : Nat) (p1 : Nat) (p2 : Int)   (μ : Mu) : Option Res := retZ μ 0
set_option maxRecDepth 100000 in
theorem c_X5_isLifted_15 (X : kX) (p0 : Nat) (p1 : Nat) (p2 : Int) (h0 : Lay p0 (ksX5 p0)) (h1 : Lay p1 (ksX1 p1)) {res : Res}  (μ : Mu) (h : f_X5_isLifted_15 p0 p1 p2 μ = some res) : KK X mX5_isLifted 1 1 res 15 [] [] μ := by
  unfold f_X5_isLifted_15 at h
  refine K_iconst (md := mX5_isLifted) (pc := 15) (x := 0) (kTab_at (pc := 15) tX5_isLifted_ok 7 rfl) rfl ?_
  exact Z_zret (md := mX5_isLifted) (pc := 16) (kTab_at (pc := 16) tX5_isLifted_ok 8 rfl) rfl rfl h
def f_X5_isLifted_92 (p0 : Nat) (p1 : Nat) (p2 : Int) (k38 : Int → Int → Int → Int → Mu → Option Res) (v3 : Int) (v4 : Int) (v5 : Int) (v6 : Int) (μ : Mu) : Option Res := k38 v3 v4 v5 (v6 + 1) μ
set_option maxRecDepth 100000 in
theorem c_X5_isLifted_92 (X : kX) (p0 : Nat) (p1 : Nat) (p2 : Int) (h0 : Lay p0 (ksX5 p0)) (h1 : Lay p1 (ksX1 p1)) {res : Res} (k38 : Int → Int → Int → Int → Mu → Option Res) (hk38 : ∀ (v3 : Int), ∀ (v4 : Int), ∀ (v5 : Int), ∀ (v6 : Int), ∀ (μ : Mu), k38 v3 v4 v5 v6 μ = some res → KK X mX5_isLifted 1 1 res 38 [(0, .ref (X.1 + p0)), (1, .ref (X.1 + p1)), (2, .int (iI p2)), (3, .int (iI v3)), (4, .int (iI v4)), (5, .int (iI v5)), (6, .int (iI v6))] [] μ) (v3 : Int) (v4 : Int) (v5 : Int) (v6 : Int) (μ : Mu) (h : f_X5_isLifted_92 p0 p1 p2 k38 v3 v4 v5 v6 μ = some res) : KK X mX5_isLifted 1 1 res 92 [(0, .ref (X.1 + p0)), (1, .ref (X.1 + p1)), (2, .int (iI p2)), (3, .int (iI v3)), (4, .int (iI v4)), (5, .int (iI v5)), (6, .int (iI v6))] [] μ := by
  unfold f_X5_isLifted_92 at h
  refine K_iinc (md := mX5_isLifted) (pc := 92) (l' := [(6, .int (iI (v6 + 1))), (0, .ref (X.1 + p0)), (1, .ref (X.1 + p1)), (2, .int (iI p2)), (3, .int (iI v3)), (4, .int (iI v4)), (5, .int (iI v5))]) 6 (kTab_at (pc := 92) tX5_isLifted_ok 53 rfl) rfl (Nat.le_of_ble_eq_true rfl) rfl ?_
  refine K_goto (md := mX5_isLifted) (pc := 95) (tgt := 38) (kTab_at (pc := 95) tX5_isLifted_ok 54 rfl) rfl ?_
  refine K_sub [1, 2, 3, 4, 5, 6, 0] rfl ?_
  exact hk38 v3 v4 v5 (v6 + 1) μ h
def f_X5_isLifted_89 (p0 : Nat) (p1 : Nat) (p2 : Int) (k38 : Int → Int → Int → Int → Mu → Option Res) (v3 : Int) (v4 : Int) (v6 : Int) (s0 : Int) (s1 : Int) (μ : Mu) : Option Res := bnd (s0 + s1) fun x1 => f_X5_isLifted_92 p0 p1 p2 k38 v3 v4 x1 v6 μ
set_option maxRecDepth 100000 in
theorem c_X5_isLifted_89 (X : kX) (p0 : Nat) (p1 : Nat) (p2 : Int) (h0 : Lay p0 (ksX5 p0)) (h1 : Lay p1 (ksX1 p1)) {res : Res} (k38 : Int → Int → Int → Int → Mu → Option Res) (hk38 : ∀ (v3 : Int), ∀ (v4 : Int), ∀ (v5 : Int), ∀ (v6 : Int), ∀ (μ : Mu), k38 v3 v4 v5 v6 μ = some res → KK X mX5_isLifted 1 1 res 38 [(0, .ref (X.1 + p0)), (1, .ref (X.1 + p1)), (2, .int (iI p2)), (3, .int (iI v3)), (4, .int (iI v4)), (5, .int (iI v5)), (6, .int (iI v6))] [] μ) (v3 : Int) (v4 : Int) (v6 : Int) (s0 : Int) (s1 : Int) (μ : Mu) (h : f_X5_isLifted_89 p0 p1 p2 k38 v3 v4 v6 s0 s1 μ = some res) : KK X mX5_isLifted 1 1 res 89 [(0, .ref (X.1 + p0)), (1, .ref (X.1 + p1)), (2, .int (iI p2)), (3, .int (iI v3)), (4, .int (iI v4)), (6, .int (iI v6))] [.int (iI s1), .int (iI s0)] μ := by
  unfold f_X5_isLifted_89 at h
  refine K_iadd (md := mX5_isLifted) (pc := 89) (kTab_at (pc := 89) tX5_isLifted_ok 51 rfl) ?_
  refine Z_bnd (md := mX5_isLifted) (pc := 90) h (fun x1 h => ?_)
  refine K_istore (md := mX5_isLifted) (pc := 90) (l' := [(5, .int (iI x1)), (0, .ref (X.1 + p0)), (1, .ref (X.1 + p1)), (2, .int (iI p2)), (3, .int (iI v3)), (4, .int (iI v4)), (6, .int (iI v6))]) (kTab_at (pc := 90) tX5_isLifted_ok 52 rfl) (Nat.le_of_ble_eq_true rfl) rfl ?_
  refine K_sub [1, 2, 3, 4, 5, 0, 6] rfl ?_
  refine c_X5_isLifted_92 X p0 p1 p2 h0 h1 _ hk38 v3 v4 x1 v6 μ h
def f_X5_isLifted_127 (p0 : Nat) (p1 : Nat) (p2 : Int)  (s0 : Int) (μ : Mu) : Option Res := retZ μ s0
set_option maxRecDepth 100000 in
theorem c_X5_isLifted_127 (X : kX) (p0 : Nat) (p1 : Nat) (p2 : Int) (h0 : Lay p0 (ksX5 p0)) (h1 : Lay p1 (ksX1 p1)) {res : Res}  (s0 : Int) (μ : Mu) (h : f_X5_isLifted_127 p0 p1 p2 s0 μ = some res) : KK X mX5_isLifted 1 1 res 127 [] [.int (iI s0)] μ := by
  unfold f_X5_isLifted_127 at h
  exact Z_zret (md := mX5_isLifted) (pc := 127) (kTab_at (pc := 127) tX5_isLifted_ok 72 rfl) rfl rfl h
def f_X5_isLifted_126 (p0 : Nat) (p1 : Nat) (p2 : Int)   (μ : Mu) : Option Res := f_X5_isLifted_127 p0 p1 p2 0 μ
set_option maxRecDepth 100000 in
theorem c_X5_isLifted_126 (X : kX) (p0 : Nat) (p1 : Nat) (p2 : Int) (h0 : Lay p0 (ksX5 p0)) (h1 : Lay p1 (ksX1 p1)) {res : Res}  (μ : Mu) (h : f_X5_isLifted_126 p0 p1 p2 μ = some res) : KK X mX5_isLifted 1 1 res 126 [] [] μ := by
  unfold f_X5_isLifted_126 at h
  refine K_iconst (md := mX5_isLifted) (pc := 126) (x := 0) (kTab_at (pc := 126) tX5_isLifted_ok 71 rfl) rfl ?_
  refine c_X5_isLifted_127 X p0 p1 p2 h0 h1  0 μ h
def f_X5_isLifted_38 (p0 : Nat) (p1 : Nat) (p2 : Int) (k98 : Int → Int → Int → Mu → Option Res) : Nat → Int → Int → Int → Int → Mu → Option Res
  | 0, _, _, _, _, _ => none
  | fu + 1, v3, v4, v5, v6, μ => i_lt v6 5 (rb (f_X1_isExcused p1 p2 v6 μ) fun μ x1 => i_eq x1 0 (rdI μ (p0 + 1) 5 v6 fun x2 => rdI μ (p1 + 1) 5 v6 fun x3 => i_lt (x2 * 100) ((v3 * x3) * 120) (f_X5_isLifted_89 p0 p1 p2 (f_X5_isLifted_38 p0 p1 p2 k98 fu) v3 (v4 + 1) v6 v5 0 μ) (f_X5_isLifted_89 p0 p1 p2 (f_X5_isLifted_38 p0 p1 p2 k98 fu) v3 (v4 + 1) v6 v5 1 μ)) (f_X5_isLifted_92 p0 p1 p2 (f_X5_isLifted_38 p0 p1 p2 k98 fu) v3 v4 v5 v6 μ)) (k98 v3 v4 v5 μ)
set_option maxRecDepth 100000 in
theorem c_X5_isLifted_38 (X : kX) (p0 : Nat) (p1 : Nat) (p2 : Int) (h0 : Lay p0 (ksX5 p0)) (h1 : Lay p1 (ksX1 p1)) {res : Res} (k98 : Int → Int → Int → Mu → Option Res) (hk98 : ∀ (v3 : Int), ∀ (v4 : Int), ∀ (v5 : Int), ∀ (μ : Mu), k98 v3 v4 v5 μ = some res → KK X mX5_isLifted 1 1 res 98 [(0, .ref (X.1 + p0)), (1, .ref (X.1 + p1)), (3, .int (iI v3)), (4, .int (iI v4)), (5, .int (iI v5))] [] μ) : ∀ (fu : Nat)  (v3 : Int) (v4 : Int) (v5 : Int) (v6 : Int) (μ : Mu), f_X5_isLifted_38 p0 p1 p2 k98 fu v3 v4 v5 v6 μ = some res → KK X mX5_isLifted 1 1 res 38 [(0, .ref (X.1 + p0)), (1, .ref (X.1 + p1)), (2, .int (iI p2)), (3, .int (iI v3)), (4, .int (iI v4)), (5, .int (iI v5)), (6, .int (iI v6))] [] μ := by
  intro fu
  induction fu with
  | zero => intro v3 v4 v5 v6 μ h; exact nomatch h
  | succ fu ih =>
    intro v3 v4 v5 v6 μ h
    refine K_iload (md := mX5_isLifted) (pc := 38) 6 (kTab_at (pc := 38) tX5_isLifted_ok 23 rfl) rfl ?_
    refine K_iconst (md := mX5_isLifted) (pc := 40) (x := 5) (kTab_at (pc := 40) tX5_isLifted_ok 24 rfl) rfl ?_
    refine K_icmp_ge (md := mX5_isLifted) (pc := 41) (kTab_at (pc := 41) tX5_isLifted_ok 25 rfl) (tgt := 98) rfl h (fun h => ?_) (fun h => ?_)
    · refine K_sub [0, 1, 3, 4, 5] rfl ?_
      exact hk98 v3 v4 v5 μ h
    · refine K_aload_n (md := mX5_isLifted) (pc := 44) 1 (kTab_at (pc := 44) tX5_isLifted_ok 26 rfl) rfl ?_
      refine K_iload_n (md := mX5_isLifted) (pc := 45) 2 (kTab_at (pc := 45) tX5_isLifted_ok 27 rfl) rfl ?_
      refine K_iload (md := mX5_isLifted) (pc := 46) 6 (kTab_at (pc := 46) tX5_isLifted_ok 28 rfl) rfl ?_
      refine Z_callV (md := mX5_isLifted) (pc := 48) (st := []) (sv := (fun x1 => [.int (iI x1)])) (kTab_at (pc := 48) tX5_isLifted_ok 29 rfl) mv_X5_73 (lay_0 h1 rfl) rfl (Nat.le_of_ble_eq_true rfl) (by decide) rfl (c_X1_isExcused X p1 p2 v6 h1 μ) (fun _ => rfl) h (fun μ x1 h => ?_) rfl
      refine K_if_ne (md := mX5_isLifted) (pc := 51) (kTab_at (pc := 51) tX5_isLifted_ok 30 rfl) (tgt := 92) rfl h (fun h => ?_) (fun h => ?_)
      · refine c_X5_isLifted_92 X p0 p1 p2 h0 h1 _ ih v3 v4 v5 v6 μ h
      · refine K_iinc (md := mX5_isLifted) (pc := 54) (l' := [(4, .int (iI (v4 + 1))), (0, .ref (X.1 + p0)), (1, .ref (X.1 + p1)), (2, .int (iI p2)), (3, .int (iI v3)), (5, .int (iI v5)), (6, .int (iI v6))]) 4 (kTab_at (pc := 54) tX5_isLifted_ok 31 rfl) rfl (Nat.le_of_ble_eq_true rfl) rfl ?_
        refine K_iload (md := mX5_isLifted) (pc := 57) 5 (kTab_at (pc := 57) tX5_isLifted_ok 32 rfl) rfl ?_
        refine K_aload_n (md := mX5_isLifted) (pc := 59) 1 (kTab_at (pc := 59) tX5_isLifted_ok 33 rfl) rfl ?_
        refine K_getR (md := mX5_isLifted) (pc := 60) (b := (p0 + 1)) (kTab_at (pc := 60) tX5_isLifted_ok 34 rfl) fl_X5_9 (lay_0 h0 rfl) rfl rfl ?_
        refine K_iload (md := mX5_isLifted) (pc := 63) 6 (kTab_at (pc := 63) tX5_isLifted_ok 35 rfl) rfl ?_
        refine Z_iald (md := mX5_isLifted) (pc := 65) (kTab_at (pc := 65) tX5_isLifted_ok 36 rfl) (lay_at h0 1 rfl) (by decide) h (fun x2 h => ?_)
        refine K_bipush (md := mX5_isLifted) (pc := 66) (x := 100) (kTab_at (pc := 66) tX5_isLifted_ok 37 rfl) (by decide) ?_
        refine K_imul (md := mX5_isLifted) (pc := 68) (kTab_at (pc := 68) tX5_isLifted_ok 38 rfl) ?_
        refine K_iload_n (md := mX5_isLifted) (pc := 69) 4 (kTab_at (pc := 69) tX5_isLifted_ok 39 rfl) rfl ?_
        refine K_aload_n (md := mX5_isLifted) (pc := 70) 2 (kTab_at (pc := 70) tX5_isLifted_ok 40 rfl) rfl ?_
        refine K_getR (md := mX5_isLifted) (pc := 71) (b := (p1 + 1)) (kTab_at (pc := 71) tX5_isLifted_ok 41 rfl) fl_X5_77 (lay_0 h1 rfl) rfl rfl ?_
        refine K_iload (md := mX5_isLifted) (pc := 74) 6 (kTab_at (pc := 74) tX5_isLifted_ok 42 rfl) rfl ?_
        refine Z_iald (md := mX5_isLifted) (pc := 76) (kTab_at (pc := 76) tX5_isLifted_ok 43 rfl) (lay_at h1 1 rfl) (by decide) h (fun x3 h => ?_)
        refine K_imul (md := mX5_isLifted) (pc := 77) (kTab_at (pc := 77) tX5_isLifted_ok 44 rfl) ?_
        refine K_bipush (md := mX5_isLifted) (pc := 78) (x := 120) (kTab_at (pc := 78) tX5_isLifted_ok 45 rfl) (by decide) ?_
        refine K_imul (md := mX5_isLifted) (pc := 80) (kTab_at (pc := 80) tX5_isLifted_ok 46 rfl) ?_
        refine K_icmp_lt (md := mX5_isLifted) (pc := 81) (kTab_at (pc := 81) tX5_isLifted_ok 47 rfl) (tgt := 88) rfl h (fun h => ?_) (fun h => ?_)
        · refine K_iconst (md := mX5_isLifted) (pc := 88) (x := 0) (kTab_at (pc := 88) tX5_isLifted_ok 50 rfl) rfl ?_
          refine K_sub [1, 2, 3, 4, 0, 6] rfl ?_
          refine c_X5_isLifted_89 X p0 p1 p2 h0 h1 _ ih v3 (v4 + 1) v6 v5 0 μ h
        · refine K_iconst (md := mX5_isLifted) (pc := 84) (x := 1) (kTab_at (pc := 84) tX5_isLifted_ok 48 rfl) rfl ?_
          refine K_goto (md := mX5_isLifted) (pc := 85) (tgt := 89) (kTab_at (pc := 85) tX5_isLifted_ok 49 rfl) rfl ?_
          refine K_sub [1, 2, 3, 4, 0, 6] rfl ?_
          refine c_X5_isLifted_89 X p0 p1 p2 h0 h1 _ ih v3 (v4 + 1) v6 v5 1 μ h
def f_X5_isLifted (p0 : Nat) (p1 : Nat) (p2 : Int) (μ : Mu) : Option Res := rdF μ p0 4 fun x1 => i_lt 0 x1 (rdF μ p0 4 fun x2 => i_lt x2 5 (rdF μ p0 4 fun x3 => rdI μ (p1 + 3) 4 (x3 - 1) fun x4 => f_X5_isLifted_38 p0 p1 p2 (fun v3 v4 v5 μ => rdF μ p0 3 fun x5 => rdI μ (p1 + 2) 5 3 fun x6 => i_lt x6 (v3 - x5) (f_X5_isLifted_126 p0 p1 p2 μ) (i_lt (2 * v5) v4 (f_X5_isLifted_126 p0 p1 p2 μ) (f_X5_isLifted_127 p0 p1 p2 1 μ))) FU x4 0 0 0 μ) (f_X5_isLifted_15 p0 p1 p2 μ)) (f_X5_isLifted_15 p0 p1 p2 μ)
set_option maxRecDepth 100000 in
theorem c_X5_isLifted (X : kX) (p0 : Nat) (p1 : Nat) (p2 : Int) (h0 : Lay p0 (ksX5 p0)) (h1 : Lay p1 (ksX1 p1)) (μ : Mu) : Cq X mX5_isLifted 1 1 μ [.ref (X.1 + p0), .ref (X.1 + p1), .int (iI p2)] (f_X5_isLifted p0 p1 p2 μ) := by
  intro res h
  refine ct_of (by decide +kernel) rfl (Nat.le_of_ble_eq_true rfl) ?_
  show KK X mX5_isLifted 1 1 res 0 [(0, .ref (X.1 + p0)), (1, .ref (X.1 + p1)), (2, .int (iI p2))] [] μ
  unfold f_X5_isLifted at h
  refine K_aload_n (md := mX5_isLifted) (pc := 0) 0 (kTab_at (pc := 0) tX5_isLifted_ok 0 rfl) rfl ?_
  refine Z_getI (md := mX5_isLifted) (pc := 1) (kTab_at (pc := 1) tX5_isLifted_ok 1 rfl) fl_X5_63 (lay_0 h0 rfl) (Or.inl rfl) h (fun x1 h => ?_)
  refine K_if_le (md := mX5_isLifted) (pc := 4) (kTab_at (pc := 4) tX5_isLifted_ok 2 rfl) (tgt := 15) rfl h (fun h => ?_) (fun h => ?_)
  · refine K_sub [] rfl ?_
    refine c_X5_isLifted_15 X p0 p1 p2 h0 h1  μ h
  · refine K_aload_n (md := mX5_isLifted) (pc := 7) 0 (kTab_at (pc := 7) tX5_isLifted_ok 3 rfl) rfl ?_
    refine Z_getI (md := mX5_isLifted) (pc := 8) (kTab_at (pc := 8) tX5_isLifted_ok 4 rfl) fl_X5_63 (lay_0 h0 rfl) (Or.inl rfl) h (fun x2 h => ?_)
    refine K_iconst (md := mX5_isLifted) (pc := 11) (x := 5) (kTab_at (pc := 11) tX5_isLifted_ok 5 rfl) rfl ?_
    refine K_icmp_lt (md := mX5_isLifted) (pc := 12) (kTab_at (pc := 12) tX5_isLifted_ok 6 rfl) (tgt := 17) rfl h (fun h => ?_) (fun h => ?_)
    · refine K_aload_n (md := mX5_isLifted) (pc := 17) 1 (kTab_at (pc := 17) tX5_isLifted_ok 9 rfl) rfl ?_
      refine K_getR (md := mX5_isLifted) (pc := 18) (b := (p1 + 3)) (kTab_at (pc := 18) tX5_isLifted_ok 10 rfl) fl_X5_89 (lay_0 h1 rfl) rfl rfl ?_
      refine K_aload_n (md := mX5_isLifted) (pc := 21) 0 (kTab_at (pc := 21) tX5_isLifted_ok 11 rfl) rfl ?_
      refine Z_getI (md := mX5_isLifted) (pc := 22) (kTab_at (pc := 22) tX5_isLifted_ok 12 rfl) fl_X5_63 (lay_0 h0 rfl) (Or.inl rfl) h (fun x3 h => ?_)
      refine K_iconst (md := mX5_isLifted) (pc := 25) (x := 1) (kTab_at (pc := 25) tX5_isLifted_ok 13 rfl) rfl ?_
      refine K_isub (md := mX5_isLifted) (pc := 26) (kTab_at (pc := 26) tX5_isLifted_ok 14 rfl) ?_
      refine Z_iald (md := mX5_isLifted) (pc := 27) (kTab_at (pc := 27) tX5_isLifted_ok 15 rfl) (lay_at h1 3 rfl) (by decide) h (fun x4 h => ?_)
      refine K_istore_n (md := mX5_isLifted) (pc := 28) (l' := [(3, .int (iI x4)), (0, .ref (X.1 + p0)), (1, .ref (X.1 + p1)), (2, .int (iI p2))]) (kTab_at (pc := 28) tX5_isLifted_ok 16 rfl) (Nat.le_of_ble_eq_true rfl) rfl ?_
      refine K_iconst (md := mX5_isLifted) (pc := 29) (x := 0) (kTab_at (pc := 29) tX5_isLifted_ok 17 rfl) rfl ?_
      refine K_istore (md := mX5_isLifted) (pc := 30) (l' := [(4, .int (iI 0)), (3, .int (iI x4)), (0, .ref (X.1 + p0)), (1, .ref (X.1 + p1)), (2, .int (iI p2))]) (kTab_at (pc := 30) tX5_isLifted_ok 18 rfl) (Nat.le_of_ble_eq_true rfl) rfl ?_
      refine K_iconst (md := mX5_isLifted) (pc := 32) (x := 0) (kTab_at (pc := 32) tX5_isLifted_ok 19 rfl) rfl ?_
      refine K_istore (md := mX5_isLifted) (pc := 33) (l' := [(5, .int (iI 0)), (4, .int (iI 0)), (3, .int (iI x4)), (0, .ref (X.1 + p0)), (1, .ref (X.1 + p1)), (2, .int (iI p2))]) (kTab_at (pc := 33) tX5_isLifted_ok 20 rfl) (Nat.le_of_ble_eq_true rfl) rfl ?_
      refine K_iconst (md := mX5_isLifted) (pc := 35) (x := 0) (kTab_at (pc := 35) tX5_isLifted_ok 21 rfl) rfl ?_
      refine K_istore (md := mX5_isLifted) (pc := 36) (l' := [(6, .int (iI 0)), (5, .int (iI 0)), (4, .int (iI 0)), (3, .int (iI x4)), (0, .ref (X.1 + p0)), (1, .ref (X.1 + p1)), (2, .int (iI p2))]) (kTab_at (pc := 36) tX5_isLifted_ok 22 rfl) (Nat.le_of_ble_eq_true rfl) rfl ?_
      refine K_sub [4, 5, 6, 3, 2, 1, 0] rfl ?_
      refine c_X5_isLifted_38 X p0 p1 p2 h0 h1 _ ?_ _ x4 0 0 0 μ h
      · intro v3 v4 v5 μ h
        refine K_iload_n (md := mX5_isLifted) (pc := 98) 2 (kTab_at (pc := 98) tX5_isLifted_ok 55 rfl) rfl ?_
        refine K_aload_n (md := mX5_isLifted) (pc := 99) 0 (kTab_at (pc := 99) tX5_isLifted_ok 56 rfl) rfl ?_
        refine Z_getI (md := mX5_isLifted) (pc := 100) (kTab_at (pc := 100) tX5_isLifted_ok 57 rfl) fl_X5_56 (lay_0 h0 rfl) (Or.inl rfl) h (fun x5 h => ?_)
        refine K_isub (md := mX5_isLifted) (pc := 103) (kTab_at (pc := 103) tX5_isLifted_ok 58 rfl) ?_
        refine K_aload_n (md := mX5_isLifted) (pc := 104) 1 (kTab_at (pc := 104) tX5_isLifted_ok 59 rfl) rfl ?_
        refine K_getR (md := mX5_isLifted) (pc := 105) (b := (p1 + 2)) (kTab_at (pc := 105) tX5_isLifted_ok 60 rfl) fl_X5_92 (lay_0 h1 rfl) rfl rfl ?_
        refine K_iconst (md := mX5_isLifted) (pc := 108) (x := 3) (kTab_at (pc := 108) tX5_isLifted_ok 61 rfl) rfl ?_
        refine Z_iald (md := mX5_isLifted) (pc := 109) (kTab_at (pc := 109) tX5_isLifted_ok 62 rfl) (lay_at h1 2 rfl) (by decide) h (fun x6 h => ?_)
        refine K_icmp_gt (md := mX5_isLifted) (pc := 110) (kTab_at (pc := 110) tX5_isLifted_ok 63 rfl) (tgt := 126) rfl h (fun h => ?_) (fun h => ?_)
        · refine K_sub [] rfl ?_
          refine c_X5_isLifted_126 X p0 p1 p2 h0 h1  μ h
        · refine K_iconst (md := mX5_isLifted) (pc := 113) (x := 2) (kTab_at (pc := 113) tX5_isLifted_ok 64 rfl) rfl ?_
          refine K_iload (md := mX5_isLifted) (pc := 114) 4 (kTab_at (pc := 114) tX5_isLifted_ok 65 rfl) rfl ?_
          refine K_imul (md := mX5_isLifted) (pc := 116) (kTab_at (pc := 116) tX5_isLifted_ok 66 rfl) ?_
          refine K_iload (md := mX5_isLifted) (pc := 117) 3 (kTab_at (pc := 117) tX5_isLifted_ok 67 rfl) rfl ?_
          refine K_icmp_lt (md := mX5_isLifted) (pc := 119) (kTab_at (pc := 119) tX5_isLifted_ok 68 rfl) (tgt := 126) rfl h (fun h => ?_) (fun h => ?_)
          · refine K_sub [] rfl ?_
            refine c_X5_isLifted_126 X p0 p1 p2 h0 h1  μ h
          · refine K_iconst (md := mX5_isLifted) (pc := 122) (x := 1) (kTab_at (pc := 122) tX5_isLifted_ok 69 rfl) rfl ?_
            refine K_goto (md := mX5_isLifted) (pc := 123) (tgt := 127) (kTab_at (pc := 123) tX5_isLifted_ok 70 rfl) rfl ?_
            refine K_sub [] rfl ?_
            refine c_X5_isLifted_127 X p0 p1 p2 h0 h1  1 μ h
    · refine K_sub [] rfl ?_
      refine c_X5_isLifted_15 X p0 p1 p2 h0 h1  μ h
def f_X5_assess_71 (p0 : Nat) (p1 : Nat) (p2 : Int)  (s1 : Int) (μ : Mu) : Option Res := wrF μ p0 5 s1 fun μ => some (μ, 0, 0)
set_option maxRecDepth 100000 in
theorem c_X5_assess_71 (X : kX) (p0 : Nat) (p1 : Nat) (p2 : Int) (h0 : Lay p0 (ksX5 p0)) (h1 : Lay p1 (ksX1 p1)) {res : Res}  (s1 : Int) (μ : Mu) (h : f_X5_assess_71 p0 p1 p2 s1 μ = some res) : KK X mX5_assess 3 0 res 71 [] [.int (iI s1), .ref (X.1 + p0)] μ := by
  unfold f_X5_assess_71 at h
  refine Z_putI (md := mX5_assess) (pc := 71) (kTab_at (pc := 71) tX5_assess_ok 39 rfl) fl_X5_70 (lay_0 h0 rfl) rfl h (fun μ h => ?_)
  exact Z_vret (md := mX5_assess) (pc := 74) (kTab_at (pc := 74) tX5_assess_ok 40 rfl) rfl rfl h
def f_X5_assess (p0 : Nat) (p1 : Nat) (p2 : Int) (μ : Mu) : Option Res := rb (f_X1_fullMaximum p1 μ) fun μ x1 => rb (f_X5_findRawResult p0 p1 p2 x1 μ) fun μ _ => rdF μ p0 1 fun x2 => rdF μ p0 2 fun x3 => rb (f_X2_scale (p1 + 16) x2 (x3 * 120) x1 μ) fun μ x4 => wrF μ p0 3 x4 fun μ => rdF μ p0 3 fun x5 => rb (f_X1_plainGradeOf p1 x5 μ) fun μ x6 => wrF μ p0 4 x6 fun μ => rb (f_X5_isLifted p0 p1 p2 μ) fun μ x7 => i_eq x7 0 (rdF μ p0 4 fun x8 => f_X5_assess_71 p0 p1 p2 x8 μ) (rdF μ p0 4 fun x9 => f_X5_assess_71 p0 p1 p2 (x9 - 1) μ)
set_option maxRecDepth 100000 in
theorem c_X5_assess (X : kX) (p0 : Nat) (p1 : Nat) (p2 : Int) (h0 : Lay p0 (ksX5 p0)) (h1 : Lay p1 (ksX1 p1)) (μ : Mu) : Cq X mX5_assess 3 0 μ [.ref (X.1 + p0), .ref (X.1 + p1), .int (iI p2)] (f_X5_assess p0 p1 p2 μ) := by
  intro res h
  refine ct_of (by decide +kernel) rfl (Nat.le_of_ble_eq_true rfl) ?_
  show KK X mX5_assess 3 0 res 0 [(0, .ref (X.1 + p0)), (1, .ref (X.1 + p1)), (2, .int (iI p2))] [] μ
  unfold f_X5_assess at h
  refine K_aload_n (md := mX5_assess) (pc := 0) 1 (kTab_at (pc := 0) tX5_assess_ok 0 rfl) rfl ?_
  refine Z_callV (md := mX5_assess) (pc := 1) (st := []) (sv := (fun x1 => [.int (iI x1)])) (kTab_at (pc := 1) tX5_assess_ok 1 rfl) mv_X5_33 (lay_0 h1 rfl) rfl (Nat.le_of_ble_eq_true rfl) (by decide) rfl (c_X1_fullMaximum X p1 h1 μ) (fun _ => rfl) h (fun μ x1 h => ?_) rfl
  refine K_istore_n (md := mX5_assess) (pc := 4) (l' := [(3, .int (iI x1)), (0, .ref (X.1 + p0)), (1, .ref (X.1 + p1)), (2, .int (iI p2))]) (kTab_at (pc := 4) tX5_assess_ok 2 rfl) (Nat.le_of_ble_eq_true rfl) rfl ?_
  refine K_aload_n (md := mX5_assess) (pc := 5) 1 (kTab_at (pc := 5) tX5_assess_ok 3 rfl) rfl ?_
  refine K_aload_n (md := mX5_assess) (pc := 6) 2 (kTab_at (pc := 6) tX5_assess_ok 4 rfl) rfl ?_
  refine K_iload_n (md := mX5_assess) (pc := 7) 3 (kTab_at (pc := 7) tX5_assess_ok 5 rfl) rfl ?_
  refine K_iload_n (md := mX5_assess) (pc := 8) 0 (kTab_at (pc := 8) tX5_assess_ok 6 rfl) rfl ?_
  refine Z_callV (md := mX5_assess) (pc := 9) (st := []) (sv := (fun _ => [])) (kTab_at (pc := 9) tX5_assess_ok 7 rfl) mv_X5_37 (lay_0 h0 rfl) rfl (Nat.le_of_ble_eq_true rfl) (by decide) rfl (c_X5_findRawResult X p0 p1 p2 x1 h0 h1 μ) (fun _ => rfl) h (fun μ _ h => ?_) rfl
  refine K_aload_n (md := mX5_assess) (pc := 12) 1 (kTab_at (pc := 12) tX5_assess_ok 8 rfl) rfl ?_
  refine K_aload_n (md := mX5_assess) (pc := 13) 2 (kTab_at (pc := 13) tX5_assess_ok 9 rfl) rfl ?_
  refine K_getR (md := mX5_assess) (pc := 14) (b := (p1 + 16)) (kTab_at (pc := 14) tX5_assess_ok 10 rfl) fl_X5_41 (lay_0 h1 rfl) rfl rfl ?_
  refine K_aload_n (md := mX5_assess) (pc := 17) 1 (kTab_at (pc := 17) tX5_assess_ok 11 rfl) rfl ?_
  refine Z_getL (md := mX5_assess) (pc := 18) (kTab_at (pc := 18) tX5_assess_ok 12 rfl) fl_X5_45 (lay_0 h0 rfl) rfl h (fun x2 h => ?_)
  refine K_aload_n (md := mX5_assess) (pc := 21) 1 (kTab_at (pc := 21) tX5_assess_ok 13 rfl) rfl ?_
  refine Z_getL (md := mX5_assess) (pc := 22) (kTab_at (pc := 22) tX5_assess_ok 14 rfl) fl_X5_15 (lay_0 h0 rfl) rfl h (fun x3 h => ?_)
  refine K_ldc2 (md := mX5_assess) (pc := 25) (x := 120) (v := 120) (kTab_at (pc := 25) tX5_assess_ok 15 rfl) (inT4 239 (by decide +kernel) rfl) (by decide) ?_
  refine K_lmul (md := mX5_assess) (pc := 28) (kTab_at (pc := 28) tX5_assess_ok 16 rfl) ?_
  refine K_iload_n (md := mX5_assess) (pc := 29) 0 (kTab_at (pc := 29) tX5_assess_ok 17 rfl) rfl ?_
  refine Z_callV (md := mX5_assess) (pc := 30) (st := [.ref (X.1 + p0)]) (sv := (fun x4 => [.int (iI x4), .ref (X.1 + p0)])) (kTab_at (pc := 30) tX5_assess_ok 18 rfl) mv_X5_50 (lay_0 (lay_curve h1) rfl) rfl (Nat.le_of_ble_eq_true rfl) (by decide) rfl (c_X2_scale X (p1 + 16) x2 (x3 * 120) x1 (lay_curve h1) μ) (fun _ => rfl) h (fun μ x4 h => ?_) rfl
  refine Z_putI (md := mX5_assess) (pc := 33) (kTab_at (pc := 33) tX5_assess_ok 19 rfl) fl_X5_56 (lay_0 h0 rfl) rfl h (fun μ h => ?_)
  refine K_aload_n (md := mX5_assess) (pc := 36) 1 (kTab_at (pc := 36) tX5_assess_ok 20 rfl) rfl ?_
  refine K_aload_n (md := mX5_assess) (pc := 37) 2 (kTab_at (pc := 37) tX5_assess_ok 21 rfl) rfl ?_
  refine K_aload_n (md := mX5_assess) (pc := 38) 1 (kTab_at (pc := 38) tX5_assess_ok 22 rfl) rfl ?_
  refine Z_getI (md := mX5_assess) (pc := 39) (kTab_at (pc := 39) tX5_assess_ok 23 rfl) fl_X5_56 (lay_0 h0 rfl) (Or.inl rfl) h (fun x5 h => ?_)
  refine Z_callV (md := mX5_assess) (pc := 42) (st := [.ref (X.1 + p0)]) (sv := (fun x6 => [.int (iI x6), .ref (X.1 + p0)])) (kTab_at (pc := 42) tX5_assess_ok 24 rfl) mv_X5_60 (lay_0 h1 rfl) rfl (Nat.le_of_ble_eq_true rfl) (by decide) rfl (c_X1_plainGradeOf X p1 x5 h1 μ) (fun _ => rfl) h (fun μ x6 h => ?_) rfl
  refine Z_putI (md := mX5_assess) (pc := 45) (kTab_at (pc := 45) tX5_assess_ok 25 rfl) fl_X5_63 (lay_0 h0 rfl) rfl h (fun μ h => ?_)
  refine K_aload_n (md := mX5_assess) (pc := 48) 1 (kTab_at (pc := 48) tX5_assess_ok 26 rfl) rfl ?_
  refine K_aload_n (md := mX5_assess) (pc := 49) 1 (kTab_at (pc := 49) tX5_assess_ok 27 rfl) rfl ?_
  refine K_aload_n (md := mX5_assess) (pc := 50) 2 (kTab_at (pc := 50) tX5_assess_ok 28 rfl) rfl ?_
  refine K_iload_n (md := mX5_assess) (pc := 51) 3 (kTab_at (pc := 51) tX5_assess_ok 29 rfl) rfl ?_
  refine Z_callV (md := mX5_assess) (pc := 52) (st := [.ref (X.1 + p0)]) (sv := (fun x7 => [.int (iI x7), .ref (X.1 + p0)])) (kTab_at (pc := 52) tX5_assess_ok 30 rfl) mv_X5_66 (lay_0 h0 rfl) rfl (Nat.le_of_ble_eq_true rfl) (by decide) rfl (c_X5_isLifted X p0 p1 p2 h0 h1 μ) (fun _ => rfl) h (fun μ x7 h => ?_) rfl
  refine K_if_eq (md := mX5_assess) (pc := 55) (kTab_at (pc := 55) tX5_assess_ok 31 rfl) (tgt := 67) rfl h (fun h => ?_) (fun h => ?_)
  · refine K_aload_n (md := mX5_assess) (pc := 67) 1 (kTab_at (pc := 67) tX5_assess_ok 37 rfl) rfl ?_
    refine Z_getI (md := mX5_assess) (pc := 68) (kTab_at (pc := 68) tX5_assess_ok 38 rfl) fl_X5_63 (lay_0 h0 rfl) (Or.inl rfl) h (fun x8 h => ?_)
    refine K_sub [] rfl ?_
    refine c_X5_assess_71 X p0 p1 p2 h0 h1  x8 μ h
  · refine K_aload_n (md := mX5_assess) (pc := 58) 1 (kTab_at (pc := 58) tX5_assess_ok 32 rfl) rfl ?_
    refine Z_getI (md := mX5_assess) (pc := 59) (kTab_at (pc := 59) tX5_assess_ok 33 rfl) fl_X5_63 (lay_0 h0 rfl) (Or.inl rfl) h (fun x9 h => ?_)
    refine K_iconst (md := mX5_assess) (pc := 62) (x := 1) (kTab_at (pc := 62) tX5_assess_ok 34 rfl) rfl ?_
    refine K_isub (md := mX5_assess) (pc := 63) (kTab_at (pc := 63) tX5_assess_ok 35 rfl) ?_
    refine K_goto (md := mX5_assess) (pc := 64) (tgt := 71) (kTab_at (pc := 64) tX5_assess_ok 36 rfl) rfl ?_
    refine K_sub [] rfl ?_
    refine c_X5_assess_71 X p0 p1 p2 h0 h1  (x9 - 1) μ h
def f_X5_find_2 (p0 : Nat) (p1 : Nat) (p2 : Int) (k28 : Mu → Option Res) : Nat → Int → Mu → Option Res
  | 0, _, _ => none
  | fu + 1, v3, μ => i_lt v3 5 (rb (f_X10_scriptOf p2 v3 μ) fun μ x1 => rb (f_X1_settledOf p1 x1 μ) fun μ x2 => wrI μ (p0 + 1) 5 v3 x2 fun μ => (f_X5_find_2 p0 p1 p2 k28 fu) (v3 + 1) μ) (k28 μ)
set_option maxRecDepth 100000 in
theorem c_X5_find_2 (X : kX) (p0 : Nat) (p1 : Nat) (p2 : Int) (h0 : Lay p0 (ksX5 p0)) (h1 : Lay p1 (ksX1 p1)) {res : Res} (k28 : Mu → Option Res) (hk28 : ∀ (μ : Mu), k28 μ = some res → KK X mX5_find 5 0 res 28 [(0, .ref (X.1 + p0)), (1, .ref (X.1 + p1)), (2, .int (iI p2))] [] μ) : ∀ (fu : Nat)  (v3 : Int) (μ : Mu), f_X5_find_2 p0 p1 p2 k28 fu v3 μ = some res → KK X mX5_find 5 0 res 2 [(0, .ref (X.1 + p0)), (1, .ref (X.1 + p1)), (2, .int (iI p2)), (3, .int (iI v3))] [] μ := by
  intro fu
  induction fu with
  | zero => intro v3 μ h; exact nomatch h
  | succ fu ih =>
    intro v3 μ h
    refine K_iload_n (md := mX5_find) (pc := 2) 3 (kTab_at (pc := 2) tX5_find_ok 2 rfl) rfl ?_
    refine K_iconst (md := mX5_find) (pc := 3) (x := 5) (kTab_at (pc := 3) tX5_find_ok 3 rfl) rfl ?_
    refine K_icmp_ge (md := mX5_find) (pc := 4) (kTab_at (pc := 4) tX5_find_ok 4 rfl) (tgt := 28) rfl h (fun h => ?_) (fun h => ?_)
    · refine K_sub [0, 1, 2] rfl ?_
      exact hk28 μ h
    · refine K_aload_n (md := mX5_find) (pc := 7) 0 (kTab_at (pc := 7) tX5_find_ok 5 rfl) rfl ?_
      refine K_getR (md := mX5_find) (pc := 8) (b := (p0 + 1)) (kTab_at (pc := 8) tX5_find_ok 6 rfl) fl_X5_9 (lay_0 h0 rfl) rfl rfl ?_
      refine K_iload_n (md := mX5_find) (pc := 11) 3 (kTab_at (pc := 11) tX5_find_ok 7 rfl) rfl ?_
      refine K_aload_n (md := mX5_find) (pc := 12) 1 (kTab_at (pc := 12) tX5_find_ok 8 rfl) rfl ?_
      refine K_iload_n (md := mX5_find) (pc := 13) 2 (kTab_at (pc := 13) tX5_find_ok 9 rfl) rfl ?_
      refine K_iload_n (md := mX5_find) (pc := 14) 3 (kTab_at (pc := 14) tX5_find_ok 10 rfl) rfl ?_
      refine Z_callSN (md := mX5_find) (pc := 15) (st := [.ref (X.1 + p1), .int (iI v3), .ref (X.1 + (p0 + 1))]) (sv := (fun x1 => [.int (iI x1), .ref (X.1 + p1), .int (iI v3), .ref (X.1 + (p0 + 1))])) (kTab_at (pc := 15) tX5_find_ok 11 rfl) mn_X5_19 rfl (Nat.le_of_ble_eq_true rfl) (by decide) (c_X10_scriptOf X p2 v3 μ) (n_X10_scriptOf p2 v3 μ) (fun _ => rfl) h (fun μ x1 h => ?_) rfl
      refine Z_callV (md := mX5_find) (pc := 18) (st := [.int (iI v3), .ref (X.1 + (p0 + 1))]) (sv := (fun x2 => [.int (iI x2), .int (iI v3), .ref (X.1 + (p0 + 1))])) (kTab_at (pc := 18) tX5_find_ok 12 rfl) mv_X5_23 (lay_0 h1 rfl) rfl (Nat.le_of_ble_eq_true rfl) (by decide) rfl (c_X1_settledOf X p1 x1 h1 μ) (fun _ => rfl) h (fun μ x2 h => ?_) rfl
      refine Z_iast (md := mX5_find) (pc := 21) (kTab_at (pc := 21) tX5_find_ok 13 rfl) (lay_at h0 1 rfl) (by decide) h (fun μ h => ?_)
      refine K_iinc (md := mX5_find) (pc := 22) (l' := [(3, .int (iI (v3 + 1))), (0, .ref (X.1 + p0)), (1, .ref (X.1 + p1)), (2, .int (iI p2))]) 3 (kTab_at (pc := 22) tX5_find_ok 14 rfl) rfl (Nat.le_of_ble_eq_true rfl) rfl ?_
      refine K_goto (md := mX5_find) (pc := 25) (tgt := 2) (kTab_at (pc := 25) tX5_find_ok 15 rfl) rfl ?_
      refine K_sub [1, 2, 3, 0] rfl ?_
      exact ih (v3 + 1) μ h
def f_X5_find (p0 : Nat) (p1 : Nat) (p2 : Int) (μ : Mu) : Option Res := f_X5_find_2 p0 p1 p2 (fun μ => rb (f_X5_assess p0 p1 p2 μ) fun μ _ => some (μ, 0, 0)) FU 0 μ
set_option maxRecDepth 100000 in
theorem c_X5_find (X : kX) (p0 : Nat) (p1 : Nat) (p2 : Int) (h0 : Lay p0 (ksX5 p0)) (h1 : Lay p1 (ksX1 p1)) (μ : Mu) : Cq X mX5_find 5 0 μ [.ref (X.1 + p0), .ref (X.1 + p1), .int (iI p2)] (f_X5_find p0 p1 p2 μ) := by
  intro res h
  refine ct_of (by decide +kernel) rfl (Nat.le_of_ble_eq_true rfl) ?_
  show KK X mX5_find 5 0 res 0 [(0, .ref (X.1 + p0)), (1, .ref (X.1 + p1)), (2, .int (iI p2))] [] μ
  unfold f_X5_find at h
  refine K_iconst (md := mX5_find) (pc := 0) (x := 0) (kTab_at (pc := 0) tX5_find_ok 0 rfl) rfl ?_
  refine K_istore_n (md := mX5_find) (pc := 1) (l' := [(3, .int (iI 0)), (0, .ref (X.1 + p0)), (1, .ref (X.1 + p1)), (2, .int (iI p2))]) (kTab_at (pc := 1) tX5_find_ok 1 rfl) (Nat.le_of_ble_eq_true rfl) rfl ?_
  refine K_sub [1, 2, 3, 0] rfl ?_
  refine c_X5_find_2 X p0 p1 p2 h0 h1 _ ?_ _ 0 μ h
  · intro  μ h
    refine K_aload_n (md := mX5_find) (pc := 28) 0 (kTab_at (pc := 28) tX5_find_ok 16 rfl) rfl ?_
    refine K_aload_n (md := mX5_find) (pc := 29) 1 (kTab_at (pc := 29) tX5_find_ok 17 rfl) rfl ?_
    refine K_iload_n (md := mX5_find) (pc := 30) 2 (kTab_at (pc := 30) tX5_find_ok 18 rfl) rfl ?_
    refine Z_callV (md := mX5_find) (pc := 31) (st := []) (sv := (fun _ => [])) (kTab_at (pc := 31) tX5_find_ok 19 rfl) mv_X5_29 (lay_0 h0 rfl) rfl (Nat.le_of_ble_eq_true rfl) (by decide) rfl (c_X5_assess X p0 p1 p2 h0 h1 μ) (fun _ => rfl) h (fun μ _ h => ?_) rfl
    exact Z_vret (md := mX5_find) (pc := 34) (kTab_at (pc := 34) tX5_find_ok 20 rfl) rfl rfl h
def f_X5_suppose (p0 : Nat) (p1 : Nat) (p2 : Int) (p3 : Int) (p4 : Int) (μ : Mu) : Option Res := wrI μ (p0 + 1) 5 p3 (p4 * 120) fun μ => rb (f_X5_assess p0 p1 p2 μ) fun μ _ => some (μ, 0, 0)
set_option maxRecDepth 100000 in
theorem c_X5_suppose (X : kX) (p0 : Nat) (p1 : Nat) (p2 : Int) (p3 : Int) (p4 : Int) (h0 : Lay p0 (ksX5 p0)) (h1 : Lay p1 (ksX1 p1)) (μ : Mu) : Cq X mX5_suppose 4 0 μ [.ref (X.1 + p0), .ref (X.1 + p1), .int (iI p2), .int (iI p3), .int (iI p4)] (f_X5_suppose p0 p1 p2 p3 p4 μ) := by
  intro res h
  refine ct_of (by decide +kernel) rfl (Nat.le_of_ble_eq_true rfl) ?_
  show KK X mX5_suppose 4 0 res 0 [(0, .ref (X.1 + p0)), (1, .ref (X.1 + p1)), (2, .int (iI p2)), (3, .int (iI p3)), (4, .int (iI p4))] [] μ
  unfold f_X5_suppose at h
  refine K_aload_n (md := mX5_suppose) (pc := 0) 0 (kTab_at (pc := 0) tX5_suppose_ok 0 rfl) rfl ?_
  refine K_getR (md := mX5_suppose) (pc := 1) (b := (p0 + 1)) (kTab_at (pc := 1) tX5_suppose_ok 1 rfl) fl_X5_9 (lay_0 h0 rfl) rfl rfl ?_
  refine K_iload_n (md := mX5_suppose) (pc := 4) 3 (kTab_at (pc := 4) tX5_suppose_ok 2 rfl) rfl ?_
  refine K_iload (md := mX5_suppose) (pc := 5) 4 (kTab_at (pc := 5) tX5_suppose_ok 3 rfl) rfl ?_
  refine K_bipush (md := mX5_suppose) (pc := 7) (x := 120) (kTab_at (pc := 7) tX5_suppose_ok 4 rfl) (by decide) ?_
  refine K_imul (md := mX5_suppose) (pc := 9) (kTab_at (pc := 9) tX5_suppose_ok 5 rfl) ?_
  refine Z_iast (md := mX5_suppose) (pc := 10) (kTab_at (pc := 10) tX5_suppose_ok 6 rfl) (lay_at h0 1 rfl) (by decide) h (fun μ h => ?_)
  refine K_aload_n (md := mX5_suppose) (pc := 11) 0 (kTab_at (pc := 11) tX5_suppose_ok 7 rfl) rfl ?_
  refine K_aload_n (md := mX5_suppose) (pc := 12) 1 (kTab_at (pc := 12) tX5_suppose_ok 8 rfl) rfl ?_
  refine K_iload_n (md := mX5_suppose) (pc := 13) 2 (kTab_at (pc := 13) tX5_suppose_ok 9 rfl) rfl ?_
  refine Z_callV (md := mX5_suppose) (pc := 14) (st := []) (sv := (fun _ => [])) (kTab_at (pc := 14) tX5_suppose_ok 10 rfl) mv_X5_29 (lay_0 h0 rfl) rfl (Nat.le_of_ble_eq_true rfl) (by decide) rfl (c_X5_assess X p0 p1 p2 h0 h1 μ) (fun _ => rfl) h (fun μ _ h => ?_) rfl
  exact Z_vret (md := mX5_suppose) (pc := 17) (kTab_at (pc := 17) tX5_suppose_ok 11 rfl) rfl rfl h
def f_J13_compare_74951_21 (p0 : Int) (p2 : Int)  (s0 : Int) (μ : Mu) : Option Res := some (μ, 0, s0)
set_option maxRecDepth 100000 in
theorem c_J13_compare_74951_21 (X : kX) (p0 : Int) (p2 : Int)  {res : Res}  (s0 : Int) (μ : Mu) (h : f_J13_compare_74951_21 p0 p2 s0 μ = some res) : KK X mJ13_compare_74951 0 1 res 21 [] [.int (iI s0)] μ := by
  unfold f_J13_compare_74951_21 at h
  exact Z_iret (md := mJ13_compare_74951) (pc := 21) (kTab_at (pc := 21) tJ13_compare_74951_ok 13 rfl) rfl rfl rfl h
def f_J13_compare_74951 (p0 : Int) (p2 : Int) (μ : Mu) : Option Res := l_lt p0 p2 (f_J13_compare_74951_21 p0 p2 (-1) μ) (l_eq p0 p2 (f_J13_compare_74951_21 p0 p2 0 μ) (f_J13_compare_74951_21 p0 p2 1 μ))
set_option maxRecDepth 100000 in
theorem c_J13_compare_74951 (X : kX) (p0 : Int) (p2 : Int)  (μ : Mu) : Cq X mJ13_compare_74951 0 1 μ [.long (iL p0), .long (iL p2)] (f_J13_compare_74951 p0 p2 μ) := by
  intro res h
  refine ct_ofF (by decide +kernel) rfl (Nat.le_of_ble_eq_true rfl) ?_
  show KK X mJ13_compare_74951 0 1 res 0 [(0, .long (iL p0)), (2, .long (iL p2))] [] μ
  unfold f_J13_compare_74951 at h
  refine K_lload_n (md := mJ13_compare_74951) (pc := 0) 0 (kTab_at (pc := 0) tJ13_compare_74951_ok 0 rfl) rfl ?_
  refine K_lload_n (md := mJ13_compare_74951) (pc := 1) 1 (kTab_at (pc := 1) tJ13_compare_74951_ok 1 rfl) rfl ?_
  refine K_lcmp_ge (md := mJ13_compare_74951) (pc := 2) (kTab_at (pc := 2) tJ13_compare_74951_ok 2 rfl) (kTab_at (pc := 3) tJ13_compare_74951_ok 3 rfl) (tgt := 10) rfl h (fun h => ?_) (fun h => ?_)
  · refine K_lload_n (md := mJ13_compare_74951) (pc := 10) 0 (kTab_at (pc := 10) tJ13_compare_74951_ok 6 rfl) rfl ?_
    refine K_lload_n (md := mJ13_compare_74951) (pc := 11) 1 (kTab_at (pc := 11) tJ13_compare_74951_ok 7 rfl) rfl ?_
    refine K_lcmp_ne (md := mJ13_compare_74951) (pc := 12) (kTab_at (pc := 12) tJ13_compare_74951_ok 8 rfl) (kTab_at (pc := 13) tJ13_compare_74951_ok 9 rfl) (tgt := 20) rfl h (fun h => ?_) (fun h => ?_)
    · refine K_iconst (md := mJ13_compare_74951) (pc := 20) (x := 1) (kTab_at (pc := 20) tJ13_compare_74951_ok 12 rfl) rfl ?_
      refine K_sub [] rfl ?_
      refine c_J13_compare_74951_21 X p0 p2  1 μ h
    · refine K_iconst (md := mJ13_compare_74951) (pc := 16) (x := 0) (kTab_at (pc := 16) tJ13_compare_74951_ok 10 rfl) rfl ?_
      refine K_goto (md := mJ13_compare_74951) (pc := 17) (tgt := 21) (kTab_at (pc := 17) tJ13_compare_74951_ok 11 rfl) rfl ?_
      refine K_sub [] rfl ?_
      refine c_J13_compare_74951_21 X p0 p2  0 μ h
  · refine K_iconst (md := mJ13_compare_74951) (pc := 6) (x := -1) (kTab_at (pc := 6) tJ13_compare_74951_ok 4 rfl) rfl ?_
    refine K_goto (md := mJ13_compare_74951) (pc := 7) (tgt := 21) (kTab_at (pc := 7) tJ13_compare_74951_ok 5 rfl) rfl ?_
    refine K_sub [] rfl ?_
    refine c_J13_compare_74951_21 X p0 p2  (-1) μ h
def f_X5_compareWith_27 (p0 : Nat) (p1 : Nat)  (s0 : Int) (μ : Mu) : Option Res := some (μ, 0, s0)
set_option maxRecDepth 100000 in
theorem c_X5_compareWith_27 (X : kX) (p0 : Nat) (p1 : Nat) (h0 : Lay p0 (ksX5 p0)) (h1 : Lay p1 (ksX5 p1)) {res : Res}  (s0 : Int) (μ : Mu) (h : f_X5_compareWith_27 p0 p1 s0 μ = some res) : KK X mX5_compareWith 1 1 res 27 [] [.int (iI s0)] μ := by
  unfold f_X5_compareWith_27 at h
  exact Z_iret (md := mX5_compareWith) (pc := 27) (kTab_at (pc := 27) tX5_compareWith_ok 13 rfl) rfl rfl rfl h
def f_X5_compareWith (p0 : Nat) (p1 : Nat) (μ : Mu) : Option Res := rdF μ p0 3 fun x1 => rdF μ p1 3 fun x2 => i_eq x1 x2 (rdF μ p0 1 fun x3 => rdF μ p1 2 fun x4 => rdF μ p1 1 fun x5 => rdF μ p0 2 fun x6 => rb (f_J13_compare_74951 (x3 * x4) (x5 * x6) μ) fun μ x7 => some (μ, 0, x7)) (rdF μ p0 3 fun x8 => rdF μ p1 3 fun x9 => i_lt x9 x8 (f_X5_compareWith_27 p0 p1 1 μ) (f_X5_compareWith_27 p0 p1 (-1) μ))
set_option maxRecDepth 100000 in
theorem c_X5_compareWith (X : kX) (p0 : Nat) (p1 : Nat) (h0 : Lay p0 (ksX5 p0)) (h1 : Lay p1 (ksX5 p1)) (μ : Mu) : Cq X mX5_compareWith 1 1 μ [.ref (X.1 + p0), .ref (X.1 + p1)] (f_X5_compareWith p0 p1 μ) := by
  intro res h
  refine ct_of (by decide +kernel) rfl (Nat.le_of_ble_eq_true rfl) ?_
  show KK X mX5_compareWith 1 1 res 0 [(0, .ref (X.1 + p0)), (1, .ref (X.1 + p1))] [] μ
  unfold f_X5_compareWith at h
  refine K_aload_n (md := mX5_compareWith) (pc := 0) 0 (kTab_at (pc := 0) tX5_compareWith_ok 0 rfl) rfl ?_
  refine Z_getI (md := mX5_compareWith) (pc := 1) (kTab_at (pc := 1) tX5_compareWith_ok 1 rfl) fl_X5_56 (lay_0 h0 rfl) (Or.inl rfl) h (fun x1 h => ?_)
  refine K_aload_n (md := mX5_compareWith) (pc := 4) 1 (kTab_at (pc := 4) tX5_compareWith_ok 2 rfl) rfl ?_
  refine Z_getI (md := mX5_compareWith) (pc := 5) (kTab_at (pc := 5) tX5_compareWith_ok 3 rfl) fl_X5_56 (lay_0 h1 rfl) (Or.inl rfl) h (fun x2 h => ?_)
  refine K_icmp_eq (md := mX5_compareWith) (pc := 8) (kTab_at (pc := 8) tX5_compareWith_ok 4 rfl) (tgt := 28) rfl h (fun h => ?_) (fun h => ?_)
  · refine K_aload_n (md := mX5_compareWith) (pc := 28) 0 (kTab_at (pc := 28) tX5_compareWith_ok 14 rfl) rfl ?_
    refine Z_getL (md := mX5_compareWith) (pc := 29) (kTab_at (pc := 29) tX5_compareWith_ok 15 rfl) fl_X5_45 (lay_0 h0 rfl) rfl h (fun x3 h => ?_)
    refine K_aload_n (md := mX5_compareWith) (pc := 32) 1 (kTab_at (pc := 32) tX5_compareWith_ok 16 rfl) rfl ?_
    refine Z_getL (md := mX5_compareWith) (pc := 33) (kTab_at (pc := 33) tX5_compareWith_ok 17 rfl) fl_X5_15 (lay_0 h1 rfl) rfl h (fun x4 h => ?_)
    refine K_lmul (md := mX5_compareWith) (pc := 36) (kTab_at (pc := 36) tX5_compareWith_ok 18 rfl) ?_
    refine K_aload_n (md := mX5_compareWith) (pc := 37) 1 (kTab_at (pc := 37) tX5_compareWith_ok 19 rfl) rfl ?_
    refine Z_getL (md := mX5_compareWith) (pc := 38) (kTab_at (pc := 38) tX5_compareWith_ok 20 rfl) fl_X5_45 (lay_0 h1 rfl) rfl h (fun x5 h => ?_)
    refine K_aload_n (md := mX5_compareWith) (pc := 41) 0 (kTab_at (pc := 41) tX5_compareWith_ok 21 rfl) rfl ?_
    refine Z_getL (md := mX5_compareWith) (pc := 42) (kTab_at (pc := 42) tX5_compareWith_ok 22 rfl) fl_X5_15 (lay_0 h0 rfl) rfl h (fun x6 h => ?_)
    refine K_lmul (md := mX5_compareWith) (pc := 45) (kTab_at (pc := 45) tX5_compareWith_ok 23 rfl) ?_
    refine Z_callS (md := mX5_compareWith) (pc := 46) (st := []) (sv := (fun x7 => [.int (iI x7)])) (kTab_at (pc := 46) tX5_compareWith_ok 24 rfl) ms_X5_95 rfl (Nat.le_of_ble_eq_true rfl) (by decide) rfl (c_J13_compare_74951 X (x3 * x4) (x5 * x6) μ) (fun _ => rfl) h (fun μ x7 h => ?_) rfl
    exact Z_iret (md := mX5_compareWith) (pc := 49) (kTab_at (pc := 49) tX5_compareWith_ok 25 rfl) rfl rfl rfl h
  · refine K_aload_n (md := mX5_compareWith) (pc := 11) 0 (kTab_at (pc := 11) tX5_compareWith_ok 5 rfl) rfl ?_
    refine Z_getI (md := mX5_compareWith) (pc := 12) (kTab_at (pc := 12) tX5_compareWith_ok 6 rfl) fl_X5_56 (lay_0 h0 rfl) (Or.inl rfl) h (fun x8 h => ?_)
    refine K_aload_n (md := mX5_compareWith) (pc := 15) 1 (kTab_at (pc := 15) tX5_compareWith_ok 7 rfl) rfl ?_
    refine Z_getI (md := mX5_compareWith) (pc := 16) (kTab_at (pc := 16) tX5_compareWith_ok 8 rfl) fl_X5_56 (lay_0 h1 rfl) (Or.inl rfl) h (fun x9 h => ?_)
    refine K_icmp_le (md := mX5_compareWith) (pc := 19) (kTab_at (pc := 19) tX5_compareWith_ok 9 rfl) (tgt := 26) rfl h (fun h => ?_) (fun h => ?_)
    · refine K_iconst (md := mX5_compareWith) (pc := 26) (x := -1) (kTab_at (pc := 26) tX5_compareWith_ok 12 rfl) rfl ?_
      refine K_sub [] rfl ?_
      refine c_X5_compareWith_27 X p0 p1 h0 h1  (-1) μ h
    · refine K_iconst (md := mX5_compareWith) (pc := 22) (x := 1) (kTab_at (pc := 22) tX5_compareWith_ok 10 rfl) rfl ?_
      refine K_goto (md := mX5_compareWith) (pc := 23) (tgt := 27) (kTab_at (pc := 23) tX5_compareWith_ok 11 rfl) rfl ?_
      refine K_sub [] rfl ?_
      refine c_X5_compareWith_27 X p0 p1 h0 h1  1 μ h
def f_X6_tell (p1 : Int) (p2 : Int) (p3 : Int) (p4 : Int) (μ : Mu) : Option Res := wrI μ 224 2 0 p1 fun μ => wrI μ 225 2 0 p2 fun μ => wrI μ 224 2 1 p3 fun μ => wrI μ 225 2 1 p4 fun μ => wrF μ 223 2 2 fun μ => retZ μ 1
set_option maxRecDepth 100000 in
theorem c_X6_tell (X : kX) (p1 : Int) (p2 : Int) (p3 : Int) (p4 : Int)  (μ : Mu) : Cq X mX6_tell 0 1 μ [.ref (X.1 + 223), .int (iI p1), .int (iI p2), .int (iI p3), .int (iI p4)] (f_X6_tell p1 p2 p3 p4 μ) := by
  intro res h
  refine ct_of (by decide +kernel) rfl (Nat.le_of_ble_eq_true rfl) ?_
  show KK X mX6_tell 0 1 res 0 [(0, .ref (X.1 + 223)), (1, .int (iI p1)), (2, .int (iI p2)), (3, .int (iI p3)), (4, .int (iI p4))] [] μ
  unfold f_X6_tell at h
  refine K_aload_n (md := mX6_tell) (pc := 0) 0 (kTab_at (pc := 0) tX6_tell_ok 0 rfl) rfl ?_
  refine K_getR (md := mX6_tell) (pc := 1) (b := 224) (kTab_at (pc := 1) tX6_tell_ok 1 rfl) fl_X6_9 sk_223 rfl rfl ?_
  refine K_iconst (md := mX6_tell) (pc := 4) (x := 0) (kTab_at (pc := 4) tX6_tell_ok 2 rfl) rfl ?_
  refine K_iload_n (md := mX6_tell) (pc := 5) 1 (kTab_at (pc := 5) tX6_tell_ok 3 rfl) rfl ?_
  refine Z_iast (md := mX6_tell) (pc := 6) (kTab_at (pc := 6) tX6_tell_ok 4 rfl) sk_224 (by decide) h (fun μ h => ?_)
  refine K_aload_n (md := mX6_tell) (pc := 7) 0 (kTab_at (pc := 7) tX6_tell_ok 5 rfl) rfl ?_
  refine K_getR (md := mX6_tell) (pc := 8) (b := 225) (kTab_at (pc := 8) tX6_tell_ok 6 rfl) fl_X6_13 sk_223 rfl rfl ?_
  refine K_iconst (md := mX6_tell) (pc := 11) (x := 0) (kTab_at (pc := 11) tX6_tell_ok 7 rfl) rfl ?_
  refine K_iload_n (md := mX6_tell) (pc := 12) 2 (kTab_at (pc := 12) tX6_tell_ok 8 rfl) rfl ?_
  refine Z_iast (md := mX6_tell) (pc := 13) (kTab_at (pc := 13) tX6_tell_ok 9 rfl) sk_225 (by decide) h (fun μ h => ?_)
  refine K_aload_n (md := mX6_tell) (pc := 14) 0 (kTab_at (pc := 14) tX6_tell_ok 10 rfl) rfl ?_
  refine K_getR (md := mX6_tell) (pc := 15) (b := 224) (kTab_at (pc := 15) tX6_tell_ok 11 rfl) fl_X6_9 sk_223 rfl rfl ?_
  refine K_iconst (md := mX6_tell) (pc := 18) (x := 1) (kTab_at (pc := 18) tX6_tell_ok 12 rfl) rfl ?_
  refine K_iload_n (md := mX6_tell) (pc := 19) 3 (kTab_at (pc := 19) tX6_tell_ok 13 rfl) rfl ?_
  refine Z_iast (md := mX6_tell) (pc := 20) (kTab_at (pc := 20) tX6_tell_ok 14 rfl) sk_224 (by decide) h (fun μ h => ?_)
  refine K_aload_n (md := mX6_tell) (pc := 21) 0 (kTab_at (pc := 21) tX6_tell_ok 15 rfl) rfl ?_
  refine K_getR (md := mX6_tell) (pc := 22) (b := 225) (kTab_at (pc := 22) tX6_tell_ok 16 rfl) fl_X6_13 sk_223 rfl rfl ?_
  refine K_iconst (md := mX6_tell) (pc := 25) (x := 1) (kTab_at (pc := 25) tX6_tell_ok 17 rfl) rfl ?_
  refine K_iload (md := mX6_tell) (pc := 26) 4 (kTab_at (pc := 26) tX6_tell_ok 18 rfl) rfl ?_
  refine Z_iast (md := mX6_tell) (pc := 28) (kTab_at (pc := 28) tX6_tell_ok 19 rfl) sk_225 (by decide) h (fun μ h => ?_)
  refine K_aload_n (md := mX6_tell) (pc := 29) 0 (kTab_at (pc := 29) tX6_tell_ok 20 rfl) rfl ?_
  refine K_iconst (md := mX6_tell) (pc := 30) (x := 2) (kTab_at (pc := 30) tX6_tell_ok 21 rfl) rfl ?_
  refine Z_putI (md := mX6_tell) (pc := 31) (kTab_at (pc := 31) tX6_tell_ok 22 rfl) fl_X6_16 sk_223 rfl h (fun μ h => ?_)
  refine K_iconst (md := mX6_tell) (pc := 34) (x := 1) (kTab_at (pc := 34) tX6_tell_ok 23 rfl) rfl ?_
  exact Z_zret (md := mX6_tell) (pc := 35) (kTab_at (pc := 35) tX6_tell_ok 24 rfl) rfl rfl h
def f_X7_define_32 (p0 : Nat) (p1 : Int) (p2 : Int)  (v3 : Int) (μ : Mu) : Option Res := some (μ, 0, v3)
set_option maxRecDepth 100000 in
theorem c_X7_define_32 (X : kX) (p0 : Nat) (p1 : Int) (p2 : Int) (h0 : Lay p0 (ksX7 p0)) {res : Res}  (v3 : Int) (μ : Mu) (h : f_X7_define_32 p0 p1 p2 v3 μ = some res) : KK X mX7_define 0 1 res 32 [(3, .int (iI v3))] [] μ := by
  unfold f_X7_define_32 at h
  refine K_iload_n (md := mX7_define) (pc := 32) 0 (kTab_at (pc := 32) tX7_define_ok 24 rfl) rfl ?_
  exact Z_iret (md := mX7_define) (pc := 33) (kTab_at (pc := 33) tX7_define_ok 25 rfl) rfl rfl rfl h
def f_X7_define (p0 : Nat) (p1 : Int) (p2 : Int) (μ : Mu) : Option Res := rdI μ (p0 + 1) 5 p1 fun x1 => i_lt x1 5 (wrI μ (p0 + 2) 25 ((p1 * 5) + x1) p2 fun μ => wrI μ (p0 + 1) 5 p1 (x1 + 1) fun μ => f_X7_define_32 p0 p1 p2 x1 μ) (f_X7_define_32 p0 p1 p2 x1 μ)
set_option maxRecDepth 100000 in
theorem c_X7_define (X : kX) (p0 : Nat) (p1 : Int) (p2 : Int) (h0 : Lay p0 (ksX7 p0)) (μ : Mu) : Cq X mX7_define 0 1 μ [.ref (X.1 + p0), .int (iI p1), .int (iI p2)] (f_X7_define p0 p1 p2 μ) := by
  intro res h
  refine ct_of (by decide +kernel) rfl (Nat.le_of_ble_eq_true rfl) ?_
  show KK X mX7_define 0 1 res 0 [(0, .ref (X.1 + p0)), (1, .int (iI p1)), (2, .int (iI p2))] [] μ
  unfold f_X7_define at h
  refine K_aload_n (md := mX7_define) (pc := 0) 0 (kTab_at (pc := 0) tX7_define_ok 0 rfl) rfl ?_
  refine K_getR (md := mX7_define) (pc := 1) (b := (p0 + 1)) (kTab_at (pc := 1) tX7_define_ok 1 rfl) fl_X7_9 (lay_0 h0 rfl) rfl rfl ?_
  refine K_iload_n (md := mX7_define) (pc := 4) 1 (kTab_at (pc := 4) tX7_define_ok 2 rfl) rfl ?_
  refine Z_iald (md := mX7_define) (pc := 5) (kTab_at (pc := 5) tX7_define_ok 3 rfl) (lay_at h0 1 rfl) (by decide) h (fun x1 h => ?_)
  refine K_istore_n (md := mX7_define) (pc := 6) (l' := [(3, .int (iI x1)), (0, .ref (X.1 + p0)), (1, .int (iI p1)), (2, .int (iI p2))]) (kTab_at (pc := 6) tX7_define_ok 4 rfl) (Nat.le_of_ble_eq_true rfl) rfl ?_
  refine K_iload_n (md := mX7_define) (pc := 7) 0 (kTab_at (pc := 7) tX7_define_ok 5 rfl) rfl ?_
  refine K_iconst (md := mX7_define) (pc := 8) (x := 5) (kTab_at (pc := 8) tX7_define_ok 6 rfl) rfl ?_
  refine K_icmp_ge (md := mX7_define) (pc := 9) (kTab_at (pc := 9) tX7_define_ok 7 rfl) (tgt := 32) rfl h (fun h => ?_) (fun h => ?_)
  · refine K_sub [0] rfl ?_
    refine c_X7_define_32 X p0 p1 p2 h0  x1 μ h
  · refine K_aload_n (md := mX7_define) (pc := 12) 1 (kTab_at (pc := 12) tX7_define_ok 8 rfl) rfl ?_
    refine K_getR (md := mX7_define) (pc := 13) (b := (p0 + 2)) (kTab_at (pc := 13) tX7_define_ok 9 rfl) fl_X7_15 (lay_0 h0 rfl) rfl rfl ?_
    refine K_iload_n (md := mX7_define) (pc := 16) 2 (kTab_at (pc := 16) tX7_define_ok 10 rfl) rfl ?_
    refine K_iconst (md := mX7_define) (pc := 17) (x := 5) (kTab_at (pc := 17) tX7_define_ok 11 rfl) rfl ?_
    refine K_imul (md := mX7_define) (pc := 18) (kTab_at (pc := 18) tX7_define_ok 12 rfl) ?_
    refine K_iload_n (md := mX7_define) (pc := 19) 0 (kTab_at (pc := 19) tX7_define_ok 13 rfl) rfl ?_
    refine K_iadd (md := mX7_define) (pc := 20) (kTab_at (pc := 20) tX7_define_ok 14 rfl) ?_
    refine K_iload_n (md := mX7_define) (pc := 21) 3 (kTab_at (pc := 21) tX7_define_ok 15 rfl) rfl ?_
    refine Z_iast (md := mX7_define) (pc := 22) (kTab_at (pc := 22) tX7_define_ok 16 rfl) (lay_at h0 2 rfl) (by decide) h (fun μ h => ?_)
    refine K_aload_n (md := mX7_define) (pc := 23) 1 (kTab_at (pc := 23) tX7_define_ok 17 rfl) rfl ?_
    refine K_getR (md := mX7_define) (pc := 24) (b := (p0 + 1)) (kTab_at (pc := 24) tX7_define_ok 18 rfl) fl_X7_9 (lay_0 h0 rfl) rfl rfl ?_
    refine K_iload_n (md := mX7_define) (pc := 27) 2 (kTab_at (pc := 27) tX7_define_ok 19 rfl) rfl ?_
    refine K_iload_n (md := mX7_define) (pc := 28) 0 (kTab_at (pc := 28) tX7_define_ok 20 rfl) rfl ?_
    refine K_iconst (md := mX7_define) (pc := 29) (x := 1) (kTab_at (pc := 29) tX7_define_ok 21 rfl) rfl ?_
    refine K_iadd (md := mX7_define) (pc := 30) (kTab_at (pc := 30) tX7_define_ok 22 rfl) ?_
    refine Z_iast (md := mX7_define) (pc := 31) (kTab_at (pc := 31) tX7_define_ok 23 rfl) (lay_at h0 1 rfl) (by decide) h (fun μ h => ?_)
    refine K_sub [0] rfl ?_
    refine c_X7_define_32 X p0 p1 p2 h0  x1 μ h
def f_X7_give (p0 : Nat) (p1 : Int) (p2 : Int) (p3 : Int) (p4 : Int) (μ : Mu) : Option Res := rb (f_X7_placeOf p0 p1 p2 p3 μ) fun μ x1 => wrI μ (p0 + 3) 100 x1 p4 fun μ => rdI μ (p0 + 2) 25 ((p2 * 5) + p3) fun x2 => some (μ, 0, (p4 - x2))
set_option maxRecDepth 100000 in
theorem c_X7_give (X : kX) (p0 : Nat) (p1 : Int) (p2 : Int) (p3 : Int) (p4 : Int) (h0 : Lay p0 (ksX7 p0)) (μ : Mu) : Cq X mX7_give 1 1 μ [.ref (X.1 + p0), .int (iI p1), .int (iI p2), .int (iI p3), .int (iI p4)] (f_X7_give p0 p1 p2 p3 p4 μ) := by
  intro res h
  refine ct_of (by decide +kernel) rfl (Nat.le_of_ble_eq_true rfl) ?_
  show KK X mX7_give 1 1 res 0 [(0, .ref (X.1 + p0)), (1, .int (iI p1)), (2, .int (iI p2)), (3, .int (iI p3)), (4, .int (iI p4))] [] μ
  unfold f_X7_give at h
  refine K_aload_n (md := mX7_give) (pc := 0) 0 (kTab_at (pc := 0) tX7_give_ok 0 rfl) rfl ?_
  refine K_getR (md := mX7_give) (pc := 1) (b := (p0 + 3)) (kTab_at (pc := 1) tX7_give_ok 1 rfl) fl_X7_18 (lay_0 h0 rfl) rfl rfl ?_
  refine K_aload_n (md := mX7_give) (pc := 4) 0 (kTab_at (pc := 4) tX7_give_ok 2 rfl) rfl ?_
  refine K_iload_n (md := mX7_give) (pc := 5) 1 (kTab_at (pc := 5) tX7_give_ok 3 rfl) rfl ?_
  refine K_iload_n (md := mX7_give) (pc := 6) 2 (kTab_at (pc := 6) tX7_give_ok 4 rfl) rfl ?_
  refine K_iload_n (md := mX7_give) (pc := 7) 3 (kTab_at (pc := 7) tX7_give_ok 5 rfl) rfl ?_
  refine Z_callV (md := mX7_give) (pc := 8) (st := [.ref (X.1 + (p0 + 3))]) (sv := (fun x1 => [.int (iI x1), .ref (X.1 + (p0 + 3))])) (kTab_at (pc := 8) tX7_give_ok 6 rfl) mv_X7_31 (lay_0 h0 rfl) rfl (Nat.le_of_ble_eq_true rfl) (by decide) rfl (c_X7_placeOf X p0 p1 p2 p3 h0 μ) (fun _ => rfl) h (fun μ x1 h => ?_) rfl
  refine K_iload (md := mX7_give) (pc := 11) 4 (kTab_at (pc := 11) tX7_give_ok 7 rfl) rfl ?_
  refine Z_iast (md := mX7_give) (pc := 13) (kTab_at (pc := 13) tX7_give_ok 8 rfl) (lay_at h0 3 rfl) (by decide) h (fun μ h => ?_)
  refine K_iload (md := mX7_give) (pc := 14) 4 (kTab_at (pc := 14) tX7_give_ok 9 rfl) rfl ?_
  refine K_aload_n (md := mX7_give) (pc := 16) 0 (kTab_at (pc := 16) tX7_give_ok 10 rfl) rfl ?_
  refine K_getR (md := mX7_give) (pc := 17) (b := (p0 + 2)) (kTab_at (pc := 17) tX7_give_ok 11 rfl) fl_X7_15 (lay_0 h0 rfl) rfl rfl ?_
  refine K_iload_n (md := mX7_give) (pc := 20) 2 (kTab_at (pc := 20) tX7_give_ok 12 rfl) rfl ?_
  refine K_iconst (md := mX7_give) (pc := 21) (x := 5) (kTab_at (pc := 21) tX7_give_ok 13 rfl) rfl ?_
  refine K_imul (md := mX7_give) (pc := 22) (kTab_at (pc := 22) tX7_give_ok 14 rfl) ?_
  refine K_iload_n (md := mX7_give) (pc := 23) 3 (kTab_at (pc := 23) tX7_give_ok 15 rfl) rfl ?_
  refine K_iadd (md := mX7_give) (pc := 24) (kTab_at (pc := 24) tX7_give_ok 16 rfl) ?_
  refine Z_iald (md := mX7_give) (pc := 25) (kTab_at (pc := 25) tX7_give_ok 17 rfl) (lay_at h0 2 rfl) (by decide) h (fun x2 h => ?_)
  refine K_isub (md := mX7_give) (pc := 26) (kTab_at (pc := 26) tX7_give_ok 18 rfl) ?_
  exact Z_iret (md := mX7_give) (pc := 27) (kTab_at (pc := 27) tX7_give_ok 19 rfl) rfl rfl rfl h
def f_X7_isMarked_21 (p0 : Nat) (p1 : Int) (p2 : Int) (p3 : Int)  (s0 : Int) (μ : Mu) : Option Res := retZ μ s0
set_option maxRecDepth 100000 in
theorem c_X7_isMarked_21 (X : kX) (p0 : Nat) (p1 : Int) (p2 : Int) (p3 : Int) (h0 : Lay p0 (ksX7 p0)) {res : Res}  (s0 : Int) (μ : Mu) (h : f_X7_isMarked_21 p0 p1 p2 p3 s0 μ = some res) : KK X mX7_isMarked 1 1 res 21 [] [.int (iI s0)] μ := by
  unfold f_X7_isMarked_21 at h
  exact Z_zret (md := mX7_isMarked) (pc := 21) (kTab_at (pc := 21) tX7_isMarked_ok 13 rfl) rfl rfl h
def f_X7_isMarked (p0 : Nat) (p1 : Int) (p2 : Int) (p3 : Int) (μ : Mu) : Option Res := rb (f_X7_placeOf p0 p1 p2 p3 μ) fun μ x1 => rdI μ (p0 + 3) 100 x1 fun x2 => i_eq x2 (-1) (f_X7_isMarked_21 p0 p1 p2 p3 0 μ) (f_X7_isMarked_21 p0 p1 p2 p3 1 μ)
set_option maxRecDepth 100000 in
theorem c_X7_isMarked (X : kX) (p0 : Nat) (p1 : Int) (p2 : Int) (p3 : Int) (h0 : Lay p0 (ksX7 p0)) (μ : Mu) : Cq X mX7_isMarked 1 1 μ [.ref (X.1 + p0), .int (iI p1), .int (iI p2), .int (iI p3)] (f_X7_isMarked p0 p1 p2 p3 μ) := by
  intro res h
  refine ct_of (by decide +kernel) rfl (Nat.le_of_ble_eq_true rfl) ?_
  show KK X mX7_isMarked 1 1 res 0 [(0, .ref (X.1 + p0)), (1, .int (iI p1)), (2, .int (iI p2)), (3, .int (iI p3))] [] μ
  unfold f_X7_isMarked at h
  refine K_aload_n (md := mX7_isMarked) (pc := 0) 0 (kTab_at (pc := 0) tX7_isMarked_ok 0 rfl) rfl ?_
  refine K_getR (md := mX7_isMarked) (pc := 1) (b := (p0 + 3)) (kTab_at (pc := 1) tX7_isMarked_ok 1 rfl) fl_X7_18 (lay_0 h0 rfl) rfl rfl ?_
  refine K_aload_n (md := mX7_isMarked) (pc := 4) 0 (kTab_at (pc := 4) tX7_isMarked_ok 2 rfl) rfl ?_
  refine K_iload_n (md := mX7_isMarked) (pc := 5) 1 (kTab_at (pc := 5) tX7_isMarked_ok 3 rfl) rfl ?_
  refine K_iload_n (md := mX7_isMarked) (pc := 6) 2 (kTab_at (pc := 6) tX7_isMarked_ok 4 rfl) rfl ?_
  refine K_iload_n (md := mX7_isMarked) (pc := 7) 3 (kTab_at (pc := 7) tX7_isMarked_ok 5 rfl) rfl ?_
  refine Z_callV (md := mX7_isMarked) (pc := 8) (st := [.ref (X.1 + (p0 + 3))]) (sv := (fun x1 => [.int (iI x1), .ref (X.1 + (p0 + 3))])) (kTab_at (pc := 8) tX7_isMarked_ok 6 rfl) mv_X7_31 (lay_0 h0 rfl) rfl (Nat.le_of_ble_eq_true rfl) (by decide) rfl (c_X7_placeOf X p0 p1 p2 p3 h0 μ) (fun _ => rfl) h (fun μ x1 h => ?_) rfl
  refine Z_iald (md := mX7_isMarked) (pc := 11) (kTab_at (pc := 11) tX7_isMarked_ok 7 rfl) (lay_at h0 3 rfl) (by decide) h (fun x2 h => ?_)
  refine K_iconst (md := mX7_isMarked) (pc := 12) (x := -1) (kTab_at (pc := 12) tX7_isMarked_ok 8 rfl) rfl ?_
  refine K_icmp_eq (md := mX7_isMarked) (pc := 13) (kTab_at (pc := 13) tX7_isMarked_ok 9 rfl) (tgt := 20) rfl h (fun h => ?_) (fun h => ?_)
  · refine K_iconst (md := mX7_isMarked) (pc := 20) (x := 0) (kTab_at (pc := 20) tX7_isMarked_ok 12 rfl) rfl ?_
    refine K_sub [] rfl ?_
    refine c_X7_isMarked_21 X p0 p1 p2 p3 h0  0 μ h
  · refine K_iconst (md := mX7_isMarked) (pc := 16) (x := 1) (kTab_at (pc := 16) tX7_isMarked_ok 10 rfl) rfl ?_
    refine K_goto (md := mX7_isMarked) (pc := 17) (tgt := 21) (kTab_at (pc := 17) tX7_isMarked_ok 11 rfl) rfl ?_
    refine K_sub [] rfl ?_
    refine c_X7_isMarked_21 X p0 p1 p2 p3 h0  1 μ h
def f_X7_markedSeeds_29 (p0 : Nat) (k4 : Int → Int → Mu → Option Res) (v2 : Int) (s0 : Int) (s1 : Int) (μ : Mu) : Option Res := bnd (s0 + s1) fun x1 => k4 x1 (v2 + 1) μ
set_option maxRecDepth 100000 in
theorem c_X7_markedSeeds_29 (X : kX) (p0 : Nat) (h0 : Lay p0 (ksX7 p0)) {res : Res} (k4 : Int → Int → Mu → Option Res) (hk4 : ∀ (v1 : Int), ∀ (v2 : Int), ∀ (μ : Mu), k4 v1 v2 μ = some res → KK X mX7_markedSeeds 0 1 res 4 [(0, .ref (X.1 + p0)), (1, .int (iI v1)), (2, .int (iI v2))] [] μ) (v2 : Int) (s0 : Int) (s1 : Int) (μ : Mu) (h : f_X7_markedSeeds_29 p0 k4 v2 s0 s1 μ = some res) : KK X mX7_markedSeeds 0 1 res 29 [(0, .ref (X.1 + p0)), (2, .int (iI v2))] [.int (iI s1), .int (iI s0)] μ := by
  unfold f_X7_markedSeeds_29 at h
  refine K_iadd (md := mX7_markedSeeds) (pc := 29) (kTab_at (pc := 29) tX7_markedSeeds_ok 19 rfl) ?_
  refine Z_bnd (md := mX7_markedSeeds) (pc := 30) h (fun x1 h => ?_)
  refine K_istore_n (md := mX7_markedSeeds) (pc := 30) (l' := [(1, .int (iI x1)), (0, .ref (X.1 + p0)), (2, .int (iI v2))]) (kTab_at (pc := 30) tX7_markedSeeds_ok 20 rfl) (Nat.le_of_ble_eq_true rfl) rfl ?_
  refine K_iinc (md := mX7_markedSeeds) (pc := 31) (l' := [(2, .int (iI (v2 + 1))), (1, .int (iI x1)), (0, .ref (X.1 + p0))]) 2 (kTab_at (pc := 31) tX7_markedSeeds_ok 21 rfl) rfl (Nat.le_of_ble_eq_true rfl) rfl ?_
  refine K_goto (md := mX7_markedSeeds) (pc := 34) (tgt := 4) (kTab_at (pc := 34) tX7_markedSeeds_ok 22 rfl) rfl ?_
  refine K_sub [2, 1, 0] rfl ?_
  exact hk4 x1 (v2 + 1) μ h
def f_X7_markedSeeds_4 (p0 : Nat) (k37 : Int → Mu → Option Res) : Nat → Int → Int → Mu → Option Res
  | 0, _, _, _ => none
  | fu + 1, v1, v2, μ => i_lt v2 ((100 : Nat) : Int) (rdI μ (p0 + 3) 100 v2 fun x1 => i_eq x1 (-1) (f_X7_markedSeeds_29 p0 (f_X7_markedSeeds_4 p0 k37 fu) v2 v1 0 μ) (f_X7_markedSeeds_29 p0 (f_X7_markedSeeds_4 p0 k37 fu) v2 v1 1 μ)) (k37 v1 μ)
set_option maxRecDepth 100000 in
theorem c_X7_markedSeeds_4 (X : kX) (p0 : Nat) (h0 : Lay p0 (ksX7 p0)) {res : Res} (k37 : Int → Mu → Option Res) (hk37 : ∀ (v1 : Int), ∀ (μ : Mu), k37 v1 μ = some res → KK X mX7_markedSeeds 0 1 res 37 [(1, .int (iI v1))] [] μ) : ∀ (fu : Nat)  (v1 : Int) (v2 : Int) (μ : Mu), f_X7_markedSeeds_4 p0 k37 fu v1 v2 μ = some res → KK X mX7_markedSeeds 0 1 res 4 [(0, .ref (X.1 + p0)), (1, .int (iI v1)), (2, .int (iI v2))] [] μ := by
  intro fu
  induction fu with
  | zero => intro v1 v2 μ h; exact nomatch h
  | succ fu ih =>
    intro v1 v2 μ h
    refine K_iload_n (md := mX7_markedSeeds) (pc := 4) 2 (kTab_at (pc := 4) tX7_markedSeeds_ok 4 rfl) rfl ?_
    refine K_aload_n (md := mX7_markedSeeds) (pc := 5) 0 (kTab_at (pc := 5) tX7_markedSeeds_ok 5 rfl) rfl ?_
    refine K_getR (md := mX7_markedSeeds) (pc := 6) (b := (p0 + 3)) (kTab_at (pc := 6) tX7_markedSeeds_ok 6 rfl) fl_X7_18 (lay_0 h0 rfl) rfl rfl ?_
    refine K_alen (md := mX7_markedSeeds) (pc := 9) (kTab_at (pc := 9) tX7_markedSeeds_ok 7 rfl) (lay_at h0 3 rfl) (by decide) ?_
    refine K_icmp_ge (md := mX7_markedSeeds) (pc := 10) (kTab_at (pc := 10) tX7_markedSeeds_ok 8 rfl) (tgt := 37) rfl h (fun h => ?_) (fun h => ?_)
    · refine K_sub [1] rfl ?_
      exact hk37 v1 μ h
    · refine K_iload_n (md := mX7_markedSeeds) (pc := 13) 1 (kTab_at (pc := 13) tX7_markedSeeds_ok 9 rfl) rfl ?_
      refine K_aload_n (md := mX7_markedSeeds) (pc := 14) 0 (kTab_at (pc := 14) tX7_markedSeeds_ok 10 rfl) rfl ?_
      refine K_getR (md := mX7_markedSeeds) (pc := 15) (b := (p0 + 3)) (kTab_at (pc := 15) tX7_markedSeeds_ok 11 rfl) fl_X7_18 (lay_0 h0 rfl) rfl rfl ?_
      refine K_iload_n (md := mX7_markedSeeds) (pc := 18) 2 (kTab_at (pc := 18) tX7_markedSeeds_ok 12 rfl) rfl ?_
      refine Z_iald (md := mX7_markedSeeds) (pc := 19) (kTab_at (pc := 19) tX7_markedSeeds_ok 13 rfl) (lay_at h0 3 rfl) (by decide) h (fun x1 h => ?_)
      refine K_iconst (md := mX7_markedSeeds) (pc := 20) (x := -1) (kTab_at (pc := 20) tX7_markedSeeds_ok 14 rfl) rfl ?_
      refine K_icmp_eq (md := mX7_markedSeeds) (pc := 21) (kTab_at (pc := 21) tX7_markedSeeds_ok 15 rfl) (tgt := 28) rfl h (fun h => ?_) (fun h => ?_)
      · refine K_iconst (md := mX7_markedSeeds) (pc := 28) (x := 0) (kTab_at (pc := 28) tX7_markedSeeds_ok 18 rfl) rfl ?_
        refine K_sub [0, 2] rfl ?_
        refine c_X7_markedSeeds_29 X p0 h0 _ ih v2 v1 0 μ h
      · refine K_iconst (md := mX7_markedSeeds) (pc := 24) (x := 1) (kTab_at (pc := 24) tX7_markedSeeds_ok 16 rfl) rfl ?_
        refine K_goto (md := mX7_markedSeeds) (pc := 25) (tgt := 29) (kTab_at (pc := 25) tX7_markedSeeds_ok 17 rfl) rfl ?_
        refine K_sub [0, 2] rfl ?_
        refine c_X7_markedSeeds_29 X p0 h0 _ ih v2 v1 1 μ h
def f_X7_markedSeeds (p0 : Nat) (μ : Mu) : Option Res := f_X7_markedSeeds_4 p0 (fun v1 μ => some (μ, 0, v1)) FU 0 0 μ
set_option maxRecDepth 100000 in
theorem c_X7_markedSeeds (X : kX) (p0 : Nat) (h0 : Lay p0 (ksX7 p0)) (μ : Mu) : Cq X mX7_markedSeeds 0 1 μ [.ref (X.1 + p0)] (f_X7_markedSeeds p0 μ) := by
  intro res h
  refine ct_of (by decide +kernel) rfl (Nat.le_of_ble_eq_true rfl) ?_
  show KK X mX7_markedSeeds 0 1 res 0 [(0, .ref (X.1 + p0))] [] μ
  unfold f_X7_markedSeeds at h
  refine K_iconst (md := mX7_markedSeeds) (pc := 0) (x := 0) (kTab_at (pc := 0) tX7_markedSeeds_ok 0 rfl) rfl ?_
  refine K_istore_n (md := mX7_markedSeeds) (pc := 1) (l' := [(1, .int (iI 0)), (0, .ref (X.1 + p0))]) (kTab_at (pc := 1) tX7_markedSeeds_ok 1 rfl) (Nat.le_of_ble_eq_true rfl) rfl ?_
  refine K_iconst (md := mX7_markedSeeds) (pc := 2) (x := 0) (kTab_at (pc := 2) tX7_markedSeeds_ok 2 rfl) rfl ?_
  refine K_istore_n (md := mX7_markedSeeds) (pc := 3) (l' := [(2, .int (iI 0)), (1, .int (iI 0)), (0, .ref (X.1 + p0))]) (kTab_at (pc := 3) tX7_markedSeeds_ok 3 rfl) (Nat.le_of_ble_eq_true rfl) rfl ?_
  refine K_sub [2, 1, 0] rfl ?_
  refine c_X7_markedSeeds_4 X p0 h0 _ ?_ _ 0 0 μ h
  · intro v1 μ h
    refine K_iload_n (md := mX7_markedSeeds) (pc := 37) 0 (kTab_at (pc := 37) tX7_markedSeeds_ok 23 rfl) rfl ?_
    exact Z_iret (md := mX7_markedSeeds) (pc := 38) (kTab_at (pc := 38) tX7_markedSeeds_ok 24 rfl) rfl rfl rfl h
def f_X8_store_34 (p1 : Int)   (μ : Mu) : Option Res := some (μ, 0, 0)
set_option maxRecDepth 100000 in
theorem c_X8_store_34 (X : kX) (p1 : Int)  {res : Res}  (μ : Mu) (h : f_X8_store_34 p1 μ = some res) : KK X mX8_store 0 0 res 34 [] [] μ := by
  unfold f_X8_store_34 at h
  exact Z_vret (md := mX8_store) (pc := 34) (kTab_at (pc := 34) tX8_store_ok 19 rfl) rfl rfl h
def f_X8_store (p1 : Int) (μ : Mu) : Option Res := i_eq p1 0 (f_X8_store_34 p1 μ) (rdF μ 219 2 fun x1 => i_lt x1 60 (rdF μ 219 2 fun x2 => wrC μ 220 60 x2 (charI p1) fun μ => rdF μ 219 2 fun x3 => wrF μ 219 2 (x3 + 1) fun μ => f_X8_store_34 p1 μ) (f_X8_store_34 p1 μ))
set_option maxRecDepth 100000 in
theorem c_X8_store (X : kX) (p1 : Int)  (μ : Mu) : Cq X mX8_store 0 0 μ [.ref (X.1 + 219), .int (iI p1)] (f_X8_store p1 μ) := by
  intro res h
  refine ct_of (by decide +kernel) rfl (Nat.le_of_ble_eq_true rfl) ?_
  show KK X mX8_store 0 0 res 0 [(0, .ref (X.1 + 219)), (1, .int (iI p1))] [] μ
  unfold f_X8_store at h
  refine K_iload_n (md := mX8_store) (pc := 0) 1 (kTab_at (pc := 0) tX8_store_ok 0 rfl) rfl ?_
  refine K_if_eq (md := mX8_store) (pc := 1) (kTab_at (pc := 1) tX8_store_ok 1 rfl) (tgt := 34) rfl h (fun h => ?_) (fun h => ?_)
  · refine K_sub [] rfl ?_
    refine c_X8_store_34 X p1  μ h
  · refine K_aload_n (md := mX8_store) (pc := 4) 0 (kTab_at (pc := 4) tX8_store_ok 2 rfl) rfl ?_
    refine Z_getI (md := mX8_store) (pc := 5) (kTab_at (pc := 5) tX8_store_ok 3 rfl) fl_X8_26 sk_219 (Or.inl rfl) h (fun x1 h => ?_)
    refine K_bipush (md := mX8_store) (pc := 8) (x := 60) (kTab_at (pc := 8) tX8_store_ok 4 rfl) (by decide) ?_
    refine K_icmp_ge (md := mX8_store) (pc := 10) (kTab_at (pc := 10) tX8_store_ok 5 rfl) (tgt := 34) rfl h (fun h => ?_) (fun h => ?_)
    · refine K_sub [] rfl ?_
      refine c_X8_store_34 X p1  μ h
    · refine K_aload_n (md := mX8_store) (pc := 13) 0 (kTab_at (pc := 13) tX8_store_ok 6 rfl) rfl ?_
      refine K_getR (md := mX8_store) (pc := 14) (b := 220) (kTab_at (pc := 14) tX8_store_ok 7 rfl) fl_X8_11 sk_219 rfl rfl ?_
      refine K_aload_n (md := mX8_store) (pc := 17) 0 (kTab_at (pc := 17) tX8_store_ok 8 rfl) rfl ?_
      refine Z_getI (md := mX8_store) (pc := 18) (kTab_at (pc := 18) tX8_store_ok 9 rfl) fl_X8_26 sk_219 (Or.inl rfl) h (fun x2 h => ?_)
      refine K_iload_n (md := mX8_store) (pc := 21) 1 (kTab_at (pc := 21) tX8_store_ok 10 rfl) rfl ?_
      refine K_i2c (md := mX8_store) (pc := 22) (kTab_at (pc := 22) tX8_store_ok 11 rfl) ?_
      refine Z_cast (md := mX8_store) (pc := 23) (kTab_at (pc := 23) tX8_store_ok 12 rfl) sk_220 (by decide) h (fun μ h => ?_)
      refine K_aload_n (md := mX8_store) (pc := 24) 0 (kTab_at (pc := 24) tX8_store_ok 13 rfl) rfl ?_
      refine K_dup (md := mX8_store) (pc := 25) (kTab_at (pc := 25) tX8_store_ok 14 rfl) rfl ?_
      refine Z_getI (md := mX8_store) (pc := 26) (kTab_at (pc := 26) tX8_store_ok 15 rfl) fl_X8_26 sk_219 (Or.inl rfl) h (fun x3 h => ?_)
      refine K_iconst (md := mX8_store) (pc := 29) (x := 1) (kTab_at (pc := 29) tX8_store_ok 16 rfl) rfl ?_
      refine K_iadd (md := mX8_store) (pc := 30) (kTab_at (pc := 30) tX8_store_ok 17 rfl) ?_
      refine Z_putI (md := mX8_store) (pc := 31) (kTab_at (pc := 31) tX8_store_ok 18 rfl) fl_X8_26 sk_219 rfl h (fun μ h => ?_)
      refine K_sub [] rfl ?_
      refine c_X8_store_34 X p1  μ h
def f_X8_goesOn (p1 : Int) (p2 : Int) (μ : Mu) : Option Res := wrF μ 219 1 p2 fun μ => retZ μ p1
set_option maxRecDepth 100000 in
theorem c_X8_goesOn (X : kX) (p1 : Int) (p2 : Int)  (μ : Mu) : Cq X mX8_goesOn 0 1 μ [.ref (X.1 + 219), .int (iI p1), .int (iI p2)] (f_X8_goesOn p1 p2 μ) := by
  intro res h
  refine ct_of (by decide +kernel) rfl (Nat.le_of_ble_eq_true rfl) ?_
  show KK X mX8_goesOn 0 1 res 0 [(0, .ref (X.1 + 219)), (1, .int (iI p1)), (2, .int (iI p2))] [] μ
  unfold f_X8_goesOn at h
  refine K_aload_n (md := mX8_goesOn) (pc := 0) 0 (kTab_at (pc := 0) tX8_goesOn_ok 0 rfl) rfl ?_
  refine K_iload_n (md := mX8_goesOn) (pc := 1) 2 (kTab_at (pc := 1) tX8_goesOn_ok 1 rfl) rfl ?_
  refine Z_putI (md := mX8_goesOn) (pc := 2) (kTab_at (pc := 2) tX8_goesOn_ok 2 rfl) fl_X8_29 sk_219 rfl h (fun μ h => ?_)
  refine K_iload_n (md := mX8_goesOn) (pc := 5) 1 (kTab_at (pc := 5) tX8_goesOn_ok 3 rfl) rfl ?_
  exact Z_zret (md := mX8_goesOn) (pc := 6) (kTab_at (pc := 6) tX8_goesOn_ok 4 rfl) rfl rfl h
def f_X8_startsEntry (p1 : Int) (μ : Mu) : Option Res := rdF μ 219 6 fun x1 => i_lt x1 20 (rdF μ 219 6 fun x2 => wrI μ 221 20 x2 p1 fun μ => rdF μ 219 6 fun x3 => wrI μ 222 20 x3 0 fun μ => rdF μ 219 6 fun x4 => wrF μ 219 6 (x4 + 1) fun μ => rb (f_X8_goesOn 1 5 μ) fun μ x5 => retZ μ x5) (retZ μ 0)
set_option maxRecDepth 100000 in
theorem c_X8_startsEntry (X : kX) (p1 : Int)  (μ : Mu) : Cq X mX8_startsEntry 1 1 μ [.ref (X.1 + 219), .int (iI p1)] (f_X8_startsEntry p1 μ) := by
  intro res h
  refine ct_of (by decide +kernel) rfl (Nat.le_of_ble_eq_true rfl) ?_
  show KK X mX8_startsEntry 1 1 res 0 [(0, .ref (X.1 + 219)), (1, .int (iI p1))] [] μ
  unfold f_X8_startsEntry at h
  refine K_aload_n (md := mX8_startsEntry) (pc := 0) 0 (kTab_at (pc := 0) tX8_startsEntry_ok 0 rfl) rfl ?_
  refine Z_getI (md := mX8_startsEntry) (pc := 1) (kTab_at (pc := 1) tX8_startsEntry_ok 1 rfl) fl_X8_32 sk_219 (Or.inl rfl) h (fun x1 h => ?_)
  refine K_bipush (md := mX8_startsEntry) (pc := 4) (x := 20) (kTab_at (pc := 4) tX8_startsEntry_ok 2 rfl) (by decide) ?_
  refine K_icmp_lt (md := mX8_startsEntry) (pc := 6) (kTab_at (pc := 6) tX8_startsEntry_ok 3 rfl) (tgt := 11) rfl h (fun h => ?_) (fun h => ?_)
  · refine K_aload_n (md := mX8_startsEntry) (pc := 11) 0 (kTab_at (pc := 11) tX8_startsEntry_ok 6 rfl) rfl ?_
    refine K_getR (md := mX8_startsEntry) (pc := 12) (b := 221) (kTab_at (pc := 12) tX8_startsEntry_ok 7 rfl) fl_X8_19 sk_219 rfl rfl ?_
    refine K_aload_n (md := mX8_startsEntry) (pc := 15) 0 (kTab_at (pc := 15) tX8_startsEntry_ok 8 rfl) rfl ?_
    refine Z_getI (md := mX8_startsEntry) (pc := 16) (kTab_at (pc := 16) tX8_startsEntry_ok 9 rfl) fl_X8_32 sk_219 (Or.inl rfl) h (fun x2 h => ?_)
    refine K_iload_n (md := mX8_startsEntry) (pc := 19) 1 (kTab_at (pc := 19) tX8_startsEntry_ok 10 rfl) rfl ?_
    refine Z_iast (md := mX8_startsEntry) (pc := 20) (kTab_at (pc := 20) tX8_startsEntry_ok 11 rfl) sk_221 (by decide) h (fun μ h => ?_)
    refine K_aload_n (md := mX8_startsEntry) (pc := 21) 0 (kTab_at (pc := 21) tX8_startsEntry_ok 12 rfl) rfl ?_
    refine K_getR (md := mX8_startsEntry) (pc := 22) (b := 222) (kTab_at (pc := 22) tX8_startsEntry_ok 13 rfl) fl_X8_23 sk_219 rfl rfl ?_
    refine K_aload_n (md := mX8_startsEntry) (pc := 25) 0 (kTab_at (pc := 25) tX8_startsEntry_ok 14 rfl) rfl ?_
    refine Z_getI (md := mX8_startsEntry) (pc := 26) (kTab_at (pc := 26) tX8_startsEntry_ok 15 rfl) fl_X8_32 sk_219 (Or.inl rfl) h (fun x3 h => ?_)
    refine K_iconst (md := mX8_startsEntry) (pc := 29) (x := 0) (kTab_at (pc := 29) tX8_startsEntry_ok 16 rfl) rfl ?_
    refine Z_iast (md := mX8_startsEntry) (pc := 30) (kTab_at (pc := 30) tX8_startsEntry_ok 17 rfl) sk_222 (by decide) h (fun μ h => ?_)
    refine K_aload_n (md := mX8_startsEntry) (pc := 31) 0 (kTab_at (pc := 31) tX8_startsEntry_ok 18 rfl) rfl ?_
    refine K_dup (md := mX8_startsEntry) (pc := 32) (kTab_at (pc := 32) tX8_startsEntry_ok 19 rfl) rfl ?_
    refine Z_getI (md := mX8_startsEntry) (pc := 33) (kTab_at (pc := 33) tX8_startsEntry_ok 20 rfl) fl_X8_32 sk_219 (Or.inl rfl) h (fun x4 h => ?_)
    refine K_iconst (md := mX8_startsEntry) (pc := 36) (x := 1) (kTab_at (pc := 36) tX8_startsEntry_ok 21 rfl) rfl ?_
    refine K_iadd (md := mX8_startsEntry) (pc := 37) (kTab_at (pc := 37) tX8_startsEntry_ok 22 rfl) ?_
    refine Z_putI (md := mX8_startsEntry) (pc := 38) (kTab_at (pc := 38) tX8_startsEntry_ok 23 rfl) fl_X8_32 sk_219 rfl h (fun μ h => ?_)
    refine K_aload_n (md := mX8_startsEntry) (pc := 41) 0 (kTab_at (pc := 41) tX8_startsEntry_ok 24 rfl) rfl ?_
    refine K_iconst (md := mX8_startsEntry) (pc := 42) (x := 1) (kTab_at (pc := 42) tX8_startsEntry_ok 25 rfl) rfl ?_
    refine K_iconst (md := mX8_startsEntry) (pc := 43) (x := 5) (kTab_at (pc := 43) tX8_startsEntry_ok 26 rfl) rfl ?_
    refine Z_callV (md := mX8_startsEntry) (pc := 44) (st := []) (sv := (fun x5 => [.int (iI x5)])) (kTab_at (pc := 44) tX8_startsEntry_ok 27 rfl) mv_X8_50 sk_219 rfl (Nat.le_of_ble_eq_true rfl) (by decide) rfl (c_X8_goesOn X 1 5 μ) (fun _ => rfl) h (fun μ x5 h => ?_) rfl
    exact Z_zret (md := mX8_startsEntry) (pc := 47) (kTab_at (pc := 47) tX8_startsEntry_ok 28 rfl) rfl rfl h
  · refine K_iconst (md := mX8_startsEntry) (pc := 9) (x := 0) (kTab_at (pc := 9) tX8_startsEntry_ok 4 rfl) rfl ?_
    exact Z_zret (md := mX8_startsEntry) (pc := 10) (kTab_at (pc := 10) tX8_startsEntry_ok 5 rfl) rfl rfl h
def f_X8_takesDigit (p1 : Int) (p2 : Int) (μ : Mu) : Option Res := rdF μ 219 6 fun x1 => i_lt 0 x1 (rdF μ 219 6 fun x2 => rdF μ 219 6 fun x3 => rdI μ 222 20 (x3 - 1) fun x4 => wrI μ 222 20 (x2 - 1) ((x4 * 10) + p1) fun μ => rb (f_X8_goesOn 1 p2 μ) fun μ x5 => retZ μ x5) (retZ μ 0)
set_option maxRecDepth 100000 in
theorem c_X8_takesDigit (X : kX) (p1 : Int) (p2 : Int)  (μ : Mu) : Cq X mX8_takesDigit 1 1 μ [.ref (X.1 + 219), .int (iI p1), .int (iI p2)] (f_X8_takesDigit p1 p2 μ) := by
  intro res h
  refine ct_of (by decide +kernel) rfl (Nat.le_of_ble_eq_true rfl) ?_
  show KK X mX8_takesDigit 1 1 res 0 [(0, .ref (X.1 + 219)), (1, .int (iI p1)), (2, .int (iI p2))] [] μ
  unfold f_X8_takesDigit at h
  refine K_aload_n (md := mX8_takesDigit) (pc := 0) 0 (kTab_at (pc := 0) tX8_takesDigit_ok 0 rfl) rfl ?_
  refine Z_getI (md := mX8_takesDigit) (pc := 1) (kTab_at (pc := 1) tX8_takesDigit_ok 1 rfl) fl_X8_32 sk_219 (Or.inl rfl) h (fun x1 h => ?_)
  refine K_if_gt (md := mX8_takesDigit) (pc := 4) (kTab_at (pc := 4) tX8_takesDigit_ok 2 rfl) (tgt := 9) rfl h (fun h => ?_) (fun h => ?_)
  · refine K_aload_n (md := mX8_takesDigit) (pc := 9) 0 (kTab_at (pc := 9) tX8_takesDigit_ok 5 rfl) rfl ?_
    refine K_getR (md := mX8_takesDigit) (pc := 10) (b := 222) (kTab_at (pc := 10) tX8_takesDigit_ok 6 rfl) fl_X8_23 sk_219 rfl rfl ?_
    refine K_aload_n (md := mX8_takesDigit) (pc := 13) 0 (kTab_at (pc := 13) tX8_takesDigit_ok 7 rfl) rfl ?_
    refine Z_getI (md := mX8_takesDigit) (pc := 14) (kTab_at (pc := 14) tX8_takesDigit_ok 8 rfl) fl_X8_32 sk_219 (Or.inl rfl) h (fun x2 h => ?_)
    refine K_iconst (md := mX8_takesDigit) (pc := 17) (x := 1) (kTab_at (pc := 17) tX8_takesDigit_ok 9 rfl) rfl ?_
    refine K_isub (md := mX8_takesDigit) (pc := 18) (kTab_at (pc := 18) tX8_takesDigit_ok 10 rfl) ?_
    refine K_aload_n (md := mX8_takesDigit) (pc := 19) 0 (kTab_at (pc := 19) tX8_takesDigit_ok 11 rfl) rfl ?_
    refine K_getR (md := mX8_takesDigit) (pc := 20) (b := 222) (kTab_at (pc := 20) tX8_takesDigit_ok 12 rfl) fl_X8_23 sk_219 rfl rfl ?_
    refine K_aload_n (md := mX8_takesDigit) (pc := 23) 0 (kTab_at (pc := 23) tX8_takesDigit_ok 13 rfl) rfl ?_
    refine Z_getI (md := mX8_takesDigit) (pc := 24) (kTab_at (pc := 24) tX8_takesDigit_ok 14 rfl) fl_X8_32 sk_219 (Or.inl rfl) h (fun x3 h => ?_)
    refine K_iconst (md := mX8_takesDigit) (pc := 27) (x := 1) (kTab_at (pc := 27) tX8_takesDigit_ok 15 rfl) rfl ?_
    refine K_isub (md := mX8_takesDigit) (pc := 28) (kTab_at (pc := 28) tX8_takesDigit_ok 16 rfl) ?_
    refine Z_iald (md := mX8_takesDigit) (pc := 29) (kTab_at (pc := 29) tX8_takesDigit_ok 17 rfl) sk_222 (by decide) h (fun x4 h => ?_)
    refine K_bipush (md := mX8_takesDigit) (pc := 30) (x := 10) (kTab_at (pc := 30) tX8_takesDigit_ok 18 rfl) (by decide) ?_
    refine K_imul (md := mX8_takesDigit) (pc := 32) (kTab_at (pc := 32) tX8_takesDigit_ok 19 rfl) ?_
    refine K_iload_n (md := mX8_takesDigit) (pc := 33) 1 (kTab_at (pc := 33) tX8_takesDigit_ok 20 rfl) rfl ?_
    refine K_iadd (md := mX8_takesDigit) (pc := 34) (kTab_at (pc := 34) tX8_takesDigit_ok 21 rfl) ?_
    refine Z_iast (md := mX8_takesDigit) (pc := 35) (kTab_at (pc := 35) tX8_takesDigit_ok 22 rfl) sk_222 (by decide) h (fun μ h => ?_)
    refine K_aload_n (md := mX8_takesDigit) (pc := 36) 0 (kTab_at (pc := 36) tX8_takesDigit_ok 23 rfl) rfl ?_
    refine K_iconst (md := mX8_takesDigit) (pc := 37) (x := 1) (kTab_at (pc := 37) tX8_takesDigit_ok 24 rfl) rfl ?_
    refine K_iload_n (md := mX8_takesDigit) (pc := 38) 2 (kTab_at (pc := 38) tX8_takesDigit_ok 25 rfl) rfl ?_
    refine Z_callV (md := mX8_takesDigit) (pc := 39) (st := []) (sv := (fun x5 => [.int (iI x5)])) (kTab_at (pc := 39) tX8_takesDigit_ok 26 rfl) mv_X8_50 sk_219 rfl (Nat.le_of_ble_eq_true rfl) (by decide) rfl (c_X8_goesOn X 1 p2 μ) (fun _ => rfl) h (fun μ x5 h => ?_) rfl
    exact Z_zret (md := mX8_takesDigit) (pc := 42) (kTab_at (pc := 42) tX8_takesDigit_ok 27 rfl) rfl rfl h
  · refine K_iconst (md := mX8_takesDigit) (pc := 7) (x := 0) (kTab_at (pc := 7) tX8_takesDigit_ok 3 rfl) rfl ?_
    exact Z_zret (md := mX8_takesDigit) (pc := 8) (kTab_at (pc := 8) tX8_takesDigit_ok 4 rfl) rfl rfl h

def f_X10_remark_172 (p1 : Int) (p2 : Int) (p3 : Int) (p4 : Int)  (s0 : Int) (μ : Mu) : Option Res := some (μ, 0, s0)
set_option maxRecDepth 100000 in
theorem c_X10_remark_172 (X : kX) (p1 : Int) (p2 : Int) (p3 : Int) (p4 : Int)  {res : Res}  (s0 : Int) (μ : Mu) (h : f_X10_remark_172 p1 p2 p3 p4 s0 μ = some res) : KK X mX10_remark 6 1 res 172 [] [.int (iI s0)] μ := by
  unfold f_X10_remark_172 at h
  exact Z_iret (md := mX10_remark) (pc := 172) (kTab_at (pc := 172) tX10_remark_ok 84 rfl) rfl rfl rfl h
def f_X10_remark_118 (p1 : Int) (p2 : Int) (p3 : Int) (p4 : Int)  (v5 : Int) (v6 : Nat) (v7 : Int) (s0 : Int) (μ : Mu) : Option Res := rb (f_X0_close (1 + 19) v5 p4 s0 μ) fun μ _ => rb (f_X5_find v6 1 p2 μ) fun μ _ => rdF μ v6 5 fun x1 => i_lt x1 v7 (rb (f_X0_refund (1 + 19) v5 μ) fun μ x2 => f_X10_remark_172 p1 p2 p3 p4 x2 μ) (f_X10_remark_172 p1 p2 p3 p4 0 μ)
set_option maxRecDepth 100000 in
theorem c_X10_remark_118 (X : kX) (p1 : Int) (p2 : Int) (p3 : Int) (p4 : Int)  {res : Res}  (v5 : Int) (v6 : Nat) (hv6 : Lay v6 (ksX5 v6)) (v7 : Int) (s0 : Int) (μ : Mu) (h : f_X10_remark_118 p1 p2 p3 p4 v5 v6 v7 s0 μ = some res) : KK X mX10_remark 6 1 res 118 [(0, .ref (X.1 + 0)), (2, .int (iI p2)), (4, .int (iI p4)), (5, .int (iI v5)), (6, .ref (X.1 + v6)), (7, .int (iI v7))] [.int (iI s0)] μ := by
  unfold f_X10_remark_118 at h
  refine K_istore (md := mX10_remark) (pc := 118) (l' := [(8, .int (iI s0)), (0, .ref (X.1 + 0)), (2, .int (iI p2)), (4, .int (iI p4)), (5, .int (iI v5)), (6, .ref (X.1 + v6)), (7, .int (iI v7))]) (kTab_at (pc := 118) tX10_remark_ok 60 rfl) (Nat.le_of_ble_eq_true rfl) rfl ?_
  refine K_aload_n (md := mX10_remark) (pc := 120) 1 (kTab_at (pc := 120) tX10_remark_ok 61 rfl) rfl ?_
  refine K_getR (md := mX10_remark) (pc := 121) (b := 1) (kTab_at (pc := 121) tX10_remark_ok 62 rfl) fl_X10_12 sk_0 rfl rfl ?_
  refine K_getR (md := mX10_remark) (pc := 124) (b := (1 + 19)) (kTab_at (pc := 124) tX10_remark_ok 63 rfl) fl_X10_234 (lay_0 lay_now rfl) rfl rfl ?_
  refine K_iload (md := mX10_remark) (pc := 127) 4 (kTab_at (pc := 127) tX10_remark_ok 64 rfl) rfl ?_
  refine K_iload (md := mX10_remark) (pc := 129) 3 (kTab_at (pc := 129) tX10_remark_ok 65 rfl) rfl ?_
  refine K_iload (md := mX10_remark) (pc := 131) 0 (kTab_at (pc := 131) tX10_remark_ok 66 rfl) rfl ?_
  refine Z_callV (md := mX10_remark) (pc := 133) (st := []) (sv := (fun _ => [])) (kTab_at (pc := 133) tX10_remark_ok 67 rfl) mv_X10_406 (lay_0 (lay_appeals lay_now) rfl) rfl (Nat.le_of_ble_eq_true rfl) (by decide) rfl (c_X0_close X (1 + 19) v5 p4 s0 (lay_appeals lay_now) μ) (fun _ => rfl) h (fun μ _ h => ?_) rfl
  refine K_aload (md := mX10_remark) (pc := 136) 5 (kTab_at (pc := 136) tX10_remark_ok 68 rfl) rfl ?_
  refine K_aload_n (md := mX10_remark) (pc := 138) 1 (kTab_at (pc := 138) tX10_remark_ok 69 rfl) rfl ?_
  refine K_getR (md := mX10_remark) (pc := 139) (b := 1) (kTab_at (pc := 139) tX10_remark_ok 70 rfl) fl_X10_12 sk_0 rfl rfl ?_
  refine K_iload_n (md := mX10_remark) (pc := 142) 2 (kTab_at (pc := 142) tX10_remark_ok 71 rfl) rfl ?_
  refine Z_callV (md := mX10_remark) (pc := 143) (st := []) (sv := (fun _ => [])) (kTab_at (pc := 143) tX10_remark_ok 72 rfl) mv_X10_306 (lay_0 hv6 rfl) rfl (Nat.le_of_ble_eq_true rfl) (by decide) rfl (c_X5_find X v6 1 p2 hv6 lay_now μ) (fun _ => rfl) h (fun μ _ h => ?_) rfl
  refine K_aload (md := mX10_remark) (pc := 146) 5 (kTab_at (pc := 146) tX10_remark_ok 73 rfl) rfl ?_
  refine Z_getI (md := mX10_remark) (pc := 148) (kTab_at (pc := 148) tX10_remark_ok 74 rfl) fl_X10_323 (lay_0 hv6 rfl) (Or.inl rfl) h (fun x1 h => ?_)
  refine K_iload (md := mX10_remark) (pc := 151) 6 (kTab_at (pc := 151) tX10_remark_ok 75 rfl) rfl ?_
  refine K_icmp_ge (md := mX10_remark) (pc := 153) (kTab_at (pc := 153) tX10_remark_ok 76 rfl) (tgt := 171) rfl h (fun h => ?_) (fun h => ?_)
  · refine K_iconst (md := mX10_remark) (pc := 171) (x := 0) (kTab_at (pc := 171) tX10_remark_ok 83 rfl) rfl ?_
    refine K_sub [] rfl ?_
    refine c_X10_remark_172 X p1 p2 p3 p4  0 μ h
  · refine K_aload_n (md := mX10_remark) (pc := 156) 1 (kTab_at (pc := 156) tX10_remark_ok 77 rfl) rfl ?_
    refine K_getR (md := mX10_remark) (pc := 157) (b := 1) (kTab_at (pc := 157) tX10_remark_ok 78 rfl) fl_X10_12 sk_0 rfl rfl ?_
    refine K_getR (md := mX10_remark) (pc := 160) (b := (1 + 19)) (kTab_at (pc := 160) tX10_remark_ok 79 rfl) fl_X10_234 (lay_0 lay_now rfl) rfl rfl ?_
    refine K_iload (md := mX10_remark) (pc := 163) 4 (kTab_at (pc := 163) tX10_remark_ok 80 rfl) rfl ?_
    refine Z_callV (md := mX10_remark) (pc := 165) (st := []) (sv := (fun x2 => [.int (iI x2)])) (kTab_at (pc := 165) tX10_remark_ok 81 rfl) mv_X10_410 (lay_0 (lay_appeals lay_now) rfl) rfl (Nat.le_of_ble_eq_true rfl) (by decide) rfl (c_X0_refund X (1 + 19) v5 (lay_appeals lay_now) μ) (fun _ => rfl) h (fun μ x2 h => ?_) rfl
    refine K_goto (md := mX10_remark) (pc := 168) (tgt := 172) (kTab_at (pc := 168) tX10_remark_ok 82 rfl) rfl ?_
    refine K_sub [] rfl ?_
    refine c_X10_remark_172 X p1 p2 p3 p4  x2 μ h
def f_X10_remark (p1 : Int) (p2 : Int) (p3 : Int) (p4 : Int) (μ : Mu) : Option Res := rb (f_X10_requireMarker p1 μ) fun μ _ => rb (f_X10_requireScript p2 p3 μ) fun μ _ => rb (f_X10_requireNotNegative p4 μ) fun μ _ => rb (f_X10_refusesRemark p1 p2 p3 p4 μ) fun μ x1 => i_eq x1 0 (rb (f_X4_keep 1 μ) fun μ _ => rb (f_X1_earn 1 p1 p3 μ) fun μ _ => rb (f_X10_scriptOf p2 p3 μ) fun μ x2 => rdA 8 p2 (fun j => 232 + 2 * j) fun x3 => rb (f_X5_find x3 1 p2 μ) fun μ _ => rdF μ x3 5 fun x4 => rb (f_X1_settledOf 1 x2 μ) fun μ x5 => rb (f_X1_agree 1 (p4 * 120) x5 μ) fun μ x6 => i_eq x6 0 (f_X10_remark_118 p1 p2 p3 p4 x2 x3 x4 1 μ) (f_X10_remark_118 p1 p2 p3 p4 x2 x3 x4 0 μ)) (some (μ, 5, 0))
set_option maxRecDepth 100000 in
theorem c_X10_remark (X : kX) (p1 : Int) (p2 : Int) (p3 : Int) (p4 : Int)  (μ : Mu) : Cq X mX10_remark 6 1 μ [.ref (X.1 + 0), .int (iI p1), .int (iI p2), .int (iI p3), .int (iI p4)] (f_X10_remark p1 p2 p3 p4 μ) := by
  intro res h
  refine ct_of (by decide +kernel) rfl (Nat.le_of_ble_eq_true rfl) ?_
  show KK X mX10_remark 6 1 res 0 [(0, .ref (X.1 + 0)), (1, .int (iI p1)), (2, .int (iI p2)), (3, .int (iI p3)), (4, .int (iI p4))] [] μ
  unfold f_X10_remark at h
  refine K_iload_n (md := mX10_remark) (pc := 0) 1 (kTab_at (pc := 0) tX10_remark_ok 0 rfl) rfl ?_
  refine Z_callS (md := mX10_remark) (pc := 1) (st := []) (sv := (fun _ => [])) (kTab_at (pc := 1) tX10_remark_ok 1 rfl) ms_X10_116 rfl (Nat.le_of_ble_eq_true rfl) (by decide) rfl (c_X10_requireMarker X p1 μ) (fun _ => rfl) h (fun μ _ h => ?_) rfl
  refine K_iload_n (md := mX10_remark) (pc := 4) 2 (kTab_at (pc := 4) tX10_remark_ok 2 rfl) rfl ?_
  refine K_iload_n (md := mX10_remark) (pc := 5) 3 (kTab_at (pc := 5) tX10_remark_ok 3 rfl) rfl ?_
  refine Z_callS (md := mX10_remark) (pc := 6) (st := []) (sv := (fun _ => [])) (kTab_at (pc := 6) tX10_remark_ok 4 rfl) ms_X10_142 rfl (Nat.le_of_ble_eq_true rfl) (by decide) rfl (c_X10_requireScript X p2 p3 μ) (fun _ => rfl) h (fun μ _ h => ?_) rfl
  refine K_iload (md := mX10_remark) (pc := 9) 4 (kTab_at (pc := 9) tX10_remark_ok 5 rfl) rfl ?_
  refine Z_callS (md := mX10_remark) (pc := 11) (st := []) (sv := (fun _ => [])) (kTab_at (pc := 11) tX10_remark_ok 6 rfl) ms_X10_145 rfl (Nat.le_of_ble_eq_true rfl) (by decide) rfl (c_X10_requireNotNegative X p4 μ) (fun _ => rfl) h (fun μ _ h => ?_) rfl
  refine K_aload_n (md := mX10_remark) (pc := 14) 0 (kTab_at (pc := 14) tX10_remark_ok 7 rfl) rfl ?_
  refine K_iload_n (md := mX10_remark) (pc := 15) 1 (kTab_at (pc := 15) tX10_remark_ok 8 rfl) rfl ?_
  refine K_iload_n (md := mX10_remark) (pc := 16) 2 (kTab_at (pc := 16) tX10_remark_ok 9 rfl) rfl ?_
  refine K_iload_n (md := mX10_remark) (pc := 17) 3 (kTab_at (pc := 17) tX10_remark_ok 10 rfl) rfl ?_
  refine K_iload (md := mX10_remark) (pc := 18) 4 (kTab_at (pc := 18) tX10_remark_ok 11 rfl) rfl ?_
  refine Z_callV (md := mX10_remark) (pc := 20) (st := []) (sv := (fun x1 => [.int (iI x1)])) (kTab_at (pc := 20) tX10_remark_ok 12 rfl) mv_X10_397 sk_0 rfl (Nat.le_of_ble_eq_true rfl) (by decide) rfl (c_X10_refusesRemark X p1 p2 p3 p4 μ) (fun _ => rfl) h (fun μ x1 h => ?_) rfl
  refine K_if_eq (md := mX10_remark) (pc := 23) (kTab_at (pc := 23) tX10_remark_ok 13 rfl) (tgt := 37) rfl h (fun h => ?_) (fun h => ?_)
  · refine K_aload_n (md := mX10_remark) (pc := 37) 0 (kTab_at (pc := 37) tX10_remark_ok 19 rfl) rfl ?_
    refine K_getR (md := mX10_remark) (pc := 38) (b := 73) (kTab_at (pc := 38) tX10_remark_ok 20 rfl) fl_X10_25 sk_0 rfl rfl ?_
    refine K_aload_n (md := mX10_remark) (pc := 41) 0 (kTab_at (pc := 41) tX10_remark_ok 21 rfl) rfl ?_
    refine K_getR (md := mX10_remark) (pc := 42) (b := 1) (kTab_at (pc := 42) tX10_remark_ok 22 rfl) fl_X10_12 sk_0 rfl rfl ?_
    refine Z_callV (md := mX10_remark) (pc := 45) (st := []) (sv := (fun _ => [])) (kTab_at (pc := 45) tX10_remark_ok 23 rfl) mv_X10_83 sk_73 rfl (Nat.le_of_ble_eq_true rfl) (by decide) rfl (c_X4_keep X 1 lay_now μ) (fun _ => rfl) h (fun μ _ h => ?_) rfl
    refine K_aload_n (md := mX10_remark) (pc := 48) 0 (kTab_at (pc := 48) tX10_remark_ok 24 rfl) rfl ?_
    refine K_getR (md := mX10_remark) (pc := 49) (b := 1) (kTab_at (pc := 49) tX10_remark_ok 25 rfl) fl_X10_12 sk_0 rfl rfl ?_
    refine K_iload_n (md := mX10_remark) (pc := 52) 1 (kTab_at (pc := 52) tX10_remark_ok 26 rfl) rfl ?_
    refine K_iload_n (md := mX10_remark) (pc := 53) 3 (kTab_at (pc := 53) tX10_remark_ok 27 rfl) rfl ?_
    refine Z_callV (md := mX10_remark) (pc := 54) (st := []) (sv := (fun _ => [])) (kTab_at (pc := 54) tX10_remark_ok 28 rfl) mv_X10_127 (lay_0 lay_now rfl) rfl (Nat.le_of_ble_eq_true rfl) (by decide) rfl (c_X1_earn X 1 p1 p3 lay_now μ) (fun _ => rfl) h (fun μ _ h => ?_) rfl
    refine K_iload_n (md := mX10_remark) (pc := 57) 2 (kTab_at (pc := 57) tX10_remark_ok 29 rfl) rfl ?_
    refine K_iload_n (md := mX10_remark) (pc := 58) 3 (kTab_at (pc := 58) tX10_remark_ok 30 rfl) rfl ?_
    refine Z_callS (md := mX10_remark) (pc := 59) (st := []) (sv := (fun x2 => [.int (iI x2)])) (kTab_at (pc := 59) tX10_remark_ok 31 rfl) ms_X10_148 rfl (Nat.le_of_ble_eq_true rfl) (by decide) rfl (c_X10_scriptOf X p2 p3 μ) (fun _ => rfl) h (fun μ x2 h => ?_) rfl
    refine K_istore (md := mX10_remark) (pc := 62) (l' := [(5, .int (iI x2)), (0, .ref (X.1 + 0)), (1, .int (iI p1)), (2, .int (iI p2)), (3, .int (iI p3)), (4, .int (iI p4))]) (kTab_at (pc := 62) tX10_remark_ok 32 rfl) (Nat.le_of_ble_eq_true rfl) rfl ?_
    refine K_aload_n (md := mX10_remark) (pc := 64) 1 (kTab_at (pc := 64) tX10_remark_ok 33 rfl) rfl ?_
    refine K_getR (md := mX10_remark) (pc := 65) (b := 226) (kTab_at (pc := 65) tX10_remark_ok 34 rfl) fl_X10_45 sk_0 rfl rfl ?_
    refine K_iload_n (md := mX10_remark) (pc := 68) 3 (kTab_at (pc := 68) tX10_remark_ok 35 rfl) rfl ?_
    refine Z_aaldL (md := mX10_remark) (pc := 69) (ks := ksX5) (kTab_at (pc := 69) tX10_remark_ok 36 rfl) sk_226 (Or.inr rfl) (by decide) lay_outs h (fun x3 hx3 h => ?_)
    refine K_astore (md := mX10_remark) (pc := 70) (l' := [(6, .ref (X.1 + x3)), (5, .int (iI x2)), (0, .ref (X.1 + 0)), (1, .int (iI p1)), (2, .int (iI p2)), (3, .int (iI p3)), (4, .int (iI p4))]) (kTab_at (pc := 70) tX10_remark_ok 37 rfl) (Nat.le_of_ble_eq_true rfl) rfl ?_
    refine K_aload (md := mX10_remark) (pc := 72) 0 (kTab_at (pc := 72) tX10_remark_ok 38 rfl) rfl ?_
    refine K_aload_n (md := mX10_remark) (pc := 74) 2 (kTab_at (pc := 74) tX10_remark_ok 39 rfl) rfl ?_
    refine K_getR (md := mX10_remark) (pc := 75) (b := 1) (kTab_at (pc := 75) tX10_remark_ok 40 rfl) fl_X10_12 sk_0 rfl rfl ?_
    refine K_iload_n (md := mX10_remark) (pc := 78) 4 (kTab_at (pc := 78) tX10_remark_ok 41 rfl) rfl ?_
    refine Z_callV (md := mX10_remark) (pc := 79) (st := []) (sv := (fun _ => [])) (kTab_at (pc := 79) tX10_remark_ok 42 rfl) mv_X10_306 (lay_0 hx3 rfl) rfl (Nat.le_of_ble_eq_true rfl) (by decide) rfl (c_X5_find X x3 1 p2 hx3 lay_now μ) (fun _ => rfl) h (fun μ _ h => ?_) rfl
    refine K_aload (md := mX10_remark) (pc := 82) 0 (kTab_at (pc := 82) tX10_remark_ok 43 rfl) rfl ?_
    refine Z_getI (md := mX10_remark) (pc := 84) (kTab_at (pc := 84) tX10_remark_ok 44 rfl) fl_X10_323 (lay_0 hx3 rfl) (Or.inl rfl) h (fun x4 h => ?_)
    refine K_istore (md := mX10_remark) (pc := 87) (l' := [(7, .int (iI x4)), (6, .ref (X.1 + x3)), (5, .int (iI x2)), (0, .ref (X.1 + 0)), (1, .int (iI p1)), (2, .int (iI p2)), (3, .int (iI p3)), (4, .int (iI p4))]) (kTab_at (pc := 87) tX10_remark_ok 45 rfl) (Nat.le_of_ble_eq_true rfl) rfl ?_
    refine K_aload_n (md := mX10_remark) (pc := 89) 3 (kTab_at (pc := 89) tX10_remark_ok 46 rfl) rfl ?_
    refine K_getR (md := mX10_remark) (pc := 90) (b := 1) (kTab_at (pc := 90) tX10_remark_ok 47 rfl) fl_X10_12 sk_0 rfl rfl ?_
    refine K_iload (md := mX10_remark) (pc := 93) 7 (kTab_at (pc := 93) tX10_remark_ok 48 rfl) rfl ?_
    refine K_bipush (md := mX10_remark) (pc := 95) (x := 120) (kTab_at (pc := 95) tX10_remark_ok 49 rfl) (by decide) ?_
    refine K_imul (md := mX10_remark) (pc := 97) (kTab_at (pc := 97) tX10_remark_ok 50 rfl) ?_
    refine K_aload_n (md := mX10_remark) (pc := 98) 3 (kTab_at (pc := 98) tX10_remark_ok 51 rfl) rfl ?_
    refine K_getR (md := mX10_remark) (pc := 99) (b := 1) (kTab_at (pc := 99) tX10_remark_ok 52 rfl) fl_X10_12 sk_0 rfl rfl ?_
    refine K_iload (md := mX10_remark) (pc := 102) 2 (kTab_at (pc := 102) tX10_remark_ok 53 rfl) rfl ?_
    refine Z_callV (md := mX10_remark) (pc := 104) (st := [.int (iI (p4 * 120)), .ref (X.1 + 1)]) (sv := (fun x5 => [.int (iI x5), .int (iI (p4 * 120)), .ref (X.1 + 1)])) (kTab_at (pc := 104) tX10_remark_ok 54 rfl) mv_X10_225 (lay_0 lay_now rfl) rfl (Nat.le_of_ble_eq_true rfl) (by decide) rfl (c_X1_settledOf X 1 x2 lay_now μ) (fun _ => rfl) h (fun μ x5 h => ?_) rfl
    refine Z_callV (md := mX10_remark) (pc := 107) (st := []) (sv := (fun x6 => [.int (iI x6)])) (kTab_at (pc := 107) tX10_remark_ok 55 rfl) mv_X10_403 (lay_0 lay_now rfl) rfl (Nat.le_of_ble_eq_true rfl) (by decide) rfl (c_X1_agree X 1 (p4 * 120) x5 lay_now μ) (fun _ => rfl) h (fun μ x6 h => ?_) rfl
    refine K_if_ne (md := mX10_remark) (pc := 110) (kTab_at (pc := 110) tX10_remark_ok 56 rfl) (tgt := 117) rfl h (fun h => ?_) (fun h => ?_)
    · refine K_iconst (md := mX10_remark) (pc := 117) (x := 0) (kTab_at (pc := 117) tX10_remark_ok 59 rfl) rfl ?_
      refine K_sub [3, 5, 7, 2, 1, 0] rfl ?_
      refine c_X10_remark_118 X p1 p2 p3 p4  x2 x3 hx3 x4 0 μ h
    · refine K_iconst (md := mX10_remark) (pc := 113) (x := 1) (kTab_at (pc := 113) tX10_remark_ok 57 rfl) rfl ?_
      refine K_goto (md := mX10_remark) (pc := 114) (tgt := 118) (kTab_at (pc := 114) tX10_remark_ok 58 rfl) rfl ?_
      refine K_sub [3, 5, 7, 2, 1, 0] rfl ?_
      refine c_X10_remark_118 X p1 p2 p3 p4  x2 x3 hx3 x4 1 μ h
  · exact Z_thW (md := mX10_remark) (pc := 26) (text := "the remark is refused") th_4 ck_4 (by decide +kernel) rfl (kTab_at (pc := 26) tX10_remark_ok 14 rfl) (kTab_at (pc := 29) tX10_remark_ok 15 rfl) (kTab_at (pc := 30) tX10_remark_ok 16 rfl) (kTab_at (pc := 33) tX10_remark_ok 17 rfl) (kTab_at (pc := 36) tX10_remark_ok 18 rfl) h
def f_X10_account (p1 : Int) (μ : Mu) : Option Res := rb (f_X10_requireRange p1 0 8 μ) fun μ _ => i_lt p1 4 (rdI μ (1 + 6) 4 p1 fun x6 => some (μ, 0, x6)) (i_sw p1 4 [rb (f_X10_sumOf (1 + 6) 4 μ) fun μ x1 => some (μ, 0, x1), rb (f_X10_sumOf ((1 + 19) + 2) 40 μ) fun μ x2 => some (μ, 0, x2), rdF μ (1 + 19) 3 fun x3 => some (μ, 0, x3), rb (f_X0_made (1 + 19) μ) fun μ x4 => some (μ, 0, x4)] (rb (f_X0_inState (1 + 19) 1 0 40 μ) fun μ x5 => some (μ, 0, x5)))
set_option maxRecDepth 100000 in
theorem c_X10_account (X : kX) (p1 : Int)  (μ : Mu) : Cq X mX10_account 2 1 μ [.ref (X.1 + 0), .int (iI p1)] (f_X10_account p1 μ) := by
  intro res h
  refine ct_of (by decide +kernel) rfl (Nat.le_of_ble_eq_true rfl) ?_
  show KK X mX10_account 2 1 res 0 [(0, .ref (X.1 + 0)), (1, .int (iI p1))] [] μ
  unfold f_X10_account at h
  refine K_iload_n (md := mX10_account) (pc := 0) 1 (kTab_at (pc := 0) tX10_account_ok 0 rfl) rfl ?_
  refine K_iconst (md := mX10_account) (pc := 1) (x := 0) (kTab_at (pc := 1) tX10_account_ok 1 rfl) rfl ?_
  refine K_bipush (md := mX10_account) (pc := 2) (x := 8) (kTab_at (pc := 2) tX10_account_ok 2 rfl) (by decide) ?_
  refine Z_callS (md := mX10_account) (pc := 4) (st := []) (sv := (fun _ => [])) (kTab_at (pc := 4) tX10_account_ok 3 rfl) ms_X10_61 rfl (Nat.le_of_ble_eq_true rfl) (by decide) rfl (c_X10_requireRange X p1 0 8 μ) (fun _ => rfl) h (fun μ _ h => ?_) rfl
  refine K_iload_n (md := mX10_account) (pc := 7) 1 (kTab_at (pc := 7) tX10_account_ok 4 rfl) rfl ?_
  refine K_iconst (md := mX10_account) (pc := 8) (x := 4) (kTab_at (pc := 8) tX10_account_ok 5 rfl) rfl ?_
  refine K_icmp_ge (md := mX10_account) (pc := 9) (kTab_at (pc := 9) tX10_account_ok 6 rfl) (tgt := 22) rfl h (fun h => ?_) (fun h => ?_)
  · refine K_iload_n (md := mX10_account) (pc := 22) 1 (kTab_at (pc := 22) tX10_account_ok 13 rfl) rfl ?_
    refine K_tsw (md := mX10_account) (pc := 23) (dt := 99) (kTab_at (pc := 23) tX10_account_ok 14 rfl) rfl rfl h (And.intro (fun h => ⟨52, rfl, ?_⟩) (And.intro (fun h => ⟨63, rfl, ?_⟩) (And.intro (fun h => ⟨77, rfl, ?_⟩) (And.intro (fun h => ⟨88, rfl, ?_⟩) (True.intro))))) (fun h => ?_)
    · refine K_aload_n (md := mX10_account) (pc := 52) 0 (kTab_at (pc := 52) tX10_account_ok 15 rfl) rfl ?_
      refine K_getR (md := mX10_account) (pc := 53) (b := 1) (kTab_at (pc := 53) tX10_account_ok 16 rfl) fl_X10_12 sk_0 rfl rfl ?_
      refine K_getR (md := mX10_account) (pc := 56) (b := (1 + 6)) (kTab_at (pc := 56) tX10_account_ok 17 rfl) fl_X10_413 (lay_0 lay_now rfl) rfl rfl ?_
      refine Z_callS (md := mX10_account) (pc := 59) (st := []) (sv := (fun x1 => [.int (iI x1)])) (kTab_at (pc := 59) tX10_account_ok 18 rfl) ms_X10_416 rfl (Nat.le_of_ble_eq_true rfl) (by decide) rfl (c_X10_sumOf X (1 + 6) 4 (lay_at lay_now 6 rfl) (by decide) μ) (fun _ => rfl) h (fun μ x1 h => ?_) rfl
      exact Z_iret (md := mX10_account) (pc := 62) (kTab_at (pc := 62) tX10_account_ok 19 rfl) rfl rfl rfl h
    · refine K_aload_n (md := mX10_account) (pc := 63) 0 (kTab_at (pc := 63) tX10_account_ok 20 rfl) rfl ?_
      refine K_getR (md := mX10_account) (pc := 64) (b := 1) (kTab_at (pc := 64) tX10_account_ok 21 rfl) fl_X10_12 sk_0 rfl rfl ?_
      refine K_getR (md := mX10_account) (pc := 67) (b := (1 + 19)) (kTab_at (pc := 67) tX10_account_ok 22 rfl) fl_X10_234 (lay_0 lay_now rfl) rfl rfl ?_
      refine K_getR (md := mX10_account) (pc := 70) (b := ((1 + 19) + 2)) (kTab_at (pc := 70) tX10_account_ok 23 rfl) fl_X10_419 (lay_0 (lay_appeals lay_now) rfl) rfl rfl ?_
      refine Z_callS (md := mX10_account) (pc := 73) (st := []) (sv := (fun x2 => [.int (iI x2)])) (kTab_at (pc := 73) tX10_account_ok 24 rfl) ms_X10_416 rfl (Nat.le_of_ble_eq_true rfl) (by decide) rfl (c_X10_sumOf X ((1 + 19) + 2) 40 (lay_at (lay_appeals lay_now) 2 rfl) (by decide) μ) (fun _ => rfl) h (fun μ x2 h => ?_) rfl
      exact Z_iret (md := mX10_account) (pc := 76) (kTab_at (pc := 76) tX10_account_ok 25 rfl) rfl rfl rfl h
    · refine K_aload_n (md := mX10_account) (pc := 77) 0 (kTab_at (pc := 77) tX10_account_ok 26 rfl) rfl ?_
      refine K_getR (md := mX10_account) (pc := 78) (b := 1) (kTab_at (pc := 78) tX10_account_ok 27 rfl) fl_X10_12 sk_0 rfl rfl ?_
      refine K_getR (md := mX10_account) (pc := 81) (b := (1 + 19)) (kTab_at (pc := 81) tX10_account_ok 28 rfl) fl_X10_234 (lay_0 lay_now rfl) rfl rfl ?_
      refine Z_getI (md := mX10_account) (pc := 84) (kTab_at (pc := 84) tX10_account_ok 29 rfl) fl_X10_422 (lay_0 (lay_appeals lay_now) rfl) (Or.inl rfl) h (fun x3 h => ?_)
      exact Z_iret (md := mX10_account) (pc := 87) (kTab_at (pc := 87) tX10_account_ok 30 rfl) rfl rfl rfl h
    · refine K_aload_n (md := mX10_account) (pc := 88) 0 (kTab_at (pc := 88) tX10_account_ok 31 rfl) rfl ?_
      refine K_getR (md := mX10_account) (pc := 89) (b := 1) (kTab_at (pc := 89) tX10_account_ok 32 rfl) fl_X10_12 sk_0 rfl rfl ?_
      refine K_getR (md := mX10_account) (pc := 92) (b := (1 + 19)) (kTab_at (pc := 92) tX10_account_ok 33 rfl) fl_X10_234 (lay_0 lay_now rfl) rfl rfl ?_
      refine Z_callV (md := mX10_account) (pc := 95) (st := []) (sv := (fun x4 => [.int (iI x4)])) (kTab_at (pc := 95) tX10_account_ok 34 rfl) mv_X10_384 (lay_0 (lay_appeals lay_now) rfl) rfl (Nat.le_of_ble_eq_true rfl) (by decide) rfl (c_X0_made X (1 + 19) (lay_appeals lay_now) μ) (fun _ => rfl) h (fun μ x4 h => ?_) rfl
      exact Z_iret (md := mX10_account) (pc := 98) (kTab_at (pc := 98) tX10_account_ok 35 rfl) rfl rfl rfl h
    · refine K_aload_n (md := mX10_account) (pc := 99) 0 (kTab_at (pc := 99) tX10_account_ok 36 rfl) rfl ?_
      refine K_getR (md := mX10_account) (pc := 100) (b := 1) (kTab_at (pc := 100) tX10_account_ok 37 rfl) fl_X10_12 sk_0 rfl rfl ?_
      refine K_getR (md := mX10_account) (pc := 103) (b := (1 + 19)) (kTab_at (pc := 103) tX10_account_ok 38 rfl) fl_X10_234 (lay_0 lay_now rfl) rfl rfl ?_
      refine K_iconst (md := mX10_account) (pc := 106) (x := 1) (kTab_at (pc := 106) tX10_account_ok 39 rfl) rfl ?_
      refine K_iconst (md := mX10_account) (pc := 107) (x := 0) (kTab_at (pc := 107) tX10_account_ok 40 rfl) rfl ?_
      refine K_bipush (md := mX10_account) (pc := 108) (x := 40) (kTab_at (pc := 108) tX10_account_ok 41 rfl) (by decide) ?_
      refine Z_callV (md := mX10_account) (pc := 110) (st := []) (sv := (fun x5 => [.int (iI x5)])) (kTab_at (pc := 110) tX10_account_ok 42 rfl) mv_X10_425 (lay_0 (lay_appeals lay_now) rfl) rfl (Nat.le_of_ble_eq_true rfl) (by decide) rfl (c_X0_inState X (1 + 19) 1 0 40 (lay_appeals lay_now) μ) (fun _ => rfl) h (fun μ x5 h => ?_) rfl
      exact Z_iret (md := mX10_account) (pc := 113) (kTab_at (pc := 113) tX10_account_ok 43 rfl) rfl rfl rfl h
  · refine K_aload_n (md := mX10_account) (pc := 12) 0 (kTab_at (pc := 12) tX10_account_ok 7 rfl) rfl ?_
    refine K_getR (md := mX10_account) (pc := 13) (b := 1) (kTab_at (pc := 13) tX10_account_ok 8 rfl) fl_X10_12 sk_0 rfl rfl ?_
    refine K_getR (md := mX10_account) (pc := 16) (b := (1 + 6)) (kTab_at (pc := 16) tX10_account_ok 9 rfl) fl_X10_413 (lay_0 lay_now rfl) rfl rfl ?_
    refine K_iload_n (md := mX10_account) (pc := 19) 1 (kTab_at (pc := 19) tX10_account_ok 10 rfl) rfl ?_
    refine Z_iald (md := mX10_account) (pc := 20) (kTab_at (pc := 20) tX10_account_ok 11 rfl) (lay_at lay_now 6 rfl) (by decide) h (fun x6 h => ?_)
    exact Z_iret (md := mX10_account) (pc := 21) (kTab_at (pc := 21) tX10_account_ok 12 rfl) rfl rfl rfl h
def f_X10_levels  (μ : Mu) : Option Res := rdF μ 223 2 fun x1 => some (μ, 0, x1)
set_option maxRecDepth 100000 in
theorem c_X10_levels (X : kX)   (μ : Mu) : Cq X mX10_levels 0 1 μ [.ref (X.1 + 0)] (f_X10_levels  μ) := by
  intro res h
  refine ct_of (by decide +kernel) rfl (Nat.le_of_ble_eq_true rfl) ?_
  show KK X mX10_levels 0 1 res 0 [(0, .ref (X.1 + 0))] [] μ
  unfold f_X10_levels at h
  refine K_aload_n (md := mX10_levels) (pc := 0) 0 (kTab_at (pc := 0) tX10_levels_ok 0 rfl) rfl ?_
  refine K_getR (md := mX10_levels) (pc := 1) (b := 223) (kTab_at (pc := 1) tX10_levels_ok 1 rfl) fl_X10_39 sk_0 rfl rfl ?_
  refine Z_getI (md := mX10_levels) (pc := 4) (kTab_at (pc := 4) tX10_levels_ok 2 rfl) fl_X10_428 sk_223 (Or.inl rfl) h (fun x1 h => ?_)
  exact Z_iret (md := mX10_levels) (pc := 7) (kTab_at (pc := 7) tX10_levels_ok 3 rfl) rfl rfl rfl h
def f_X10_report_20 (p1 : Int) (p2 : Int)   (μ : Mu) : Option Res := some (μ, 6, 0)
set_option maxRecDepth 100000 in
theorem c_X10_report_20 (X : kX) (p1 : Int) (p2 : Int)  {res : Res}  (μ : Mu) (h : f_X10_report_20 p1 p2 μ = some res) : KK X mX10_report 1 1 res 20 [] [] μ := by
  unfold f_X10_report_20 at h
  exact Z_thNW (md := mX10_report) (pc := 20) (text := "no such level") tn_0 ck_5 (by decide +kernel) rfl (kTab_at (pc := 20) tX10_report_ok 10 rfl) (kTab_at (pc := 23) tX10_report_ok 11 rfl) (kTab_at (pc := 24) tX10_report_ok 12 rfl) (kTab_at (pc := 27) tX10_report_ok 13 rfl) (kTab_at (pc := 30) tX10_report_ok 14 rfl) h
def f_X10_report_62 (p1 : Int) (p2 : Int)  (s0 : Int) (μ : Mu) : Option Res := some (μ, 0, s0)
set_option maxRecDepth 100000 in
theorem c_X10_report_62 (X : kX) (p1 : Int) (p2 : Int)  {res : Res}  (s0 : Int) (μ : Mu) (h : f_X10_report_62 p1 p2 s0 μ = some res) : KK X mX10_report 1 1 res 62 [] [.int (iI s0)] μ := by
  unfold f_X10_report_62 at h
  exact Z_iret (md := mX10_report) (pc := 62) (kTab_at (pc := 62) tX10_report_ok 32 rfl) rfl rfl rfl h
def f_X10_report (p1 : Int) (p2 : Int) (μ : Mu) : Option Res := i_lt p1 0 (f_X10_report_20 p1 p2 μ) (rdF μ 223 2 fun x1 => i_lt p1 x1 (i_lt p1 2 (rb (f_X10_requireRange p2 0 1 μ) fun μ _ => i_eq p2 0 (rdI μ 224 2 p1 fun x3 => f_X10_report_62 p1 p2 x3 μ) (rdI μ 225 2 p1 fun x2 => f_X10_report_62 p1 p2 x2 μ)) (f_X10_report_20 p1 p2 μ)) (f_X10_report_20 p1 p2 μ))
set_option maxRecDepth 100000 in
theorem c_X10_report (X : kX) (p1 : Int) (p2 : Int)  (μ : Mu) : Cq X mX10_report 1 1 μ [.ref (X.1 + 0), .int (iI p1), .int (iI p2)] (f_X10_report p1 p2 μ) := by
  intro res h
  refine ct_of (by decide +kernel) rfl (Nat.le_of_ble_eq_true rfl) ?_
  show KK X mX10_report 1 1 res 0 [(0, .ref (X.1 + 0)), (1, .int (iI p1)), (2, .int (iI p2))] [] μ
  unfold f_X10_report at h
  refine K_iload_n (md := mX10_report) (pc := 0) 1 (kTab_at (pc := 0) tX10_report_ok 0 rfl) rfl ?_
  refine K_if_lt (md := mX10_report) (pc := 1) (kTab_at (pc := 1) tX10_report_ok 1 rfl) (tgt := 20) rfl h (fun h => ?_) (fun h => ?_)
  · refine K_sub [] rfl ?_
    refine c_X10_report_20 X p1 p2  μ h
  · refine K_iload_n (md := mX10_report) (pc := 4) 1 (kTab_at (pc := 4) tX10_report_ok 2 rfl) rfl ?_
    refine K_aload_n (md := mX10_report) (pc := 5) 0 (kTab_at (pc := 5) tX10_report_ok 3 rfl) rfl ?_
    refine K_getR (md := mX10_report) (pc := 6) (b := 223) (kTab_at (pc := 6) tX10_report_ok 4 rfl) fl_X10_39 sk_0 rfl rfl ?_
    refine Z_getI (md := mX10_report) (pc := 9) (kTab_at (pc := 9) tX10_report_ok 5 rfl) fl_X10_428 sk_223 (Or.inl rfl) h (fun x1 h => ?_)
    refine K_icmp_ge (md := mX10_report) (pc := 12) (kTab_at (pc := 12) tX10_report_ok 6 rfl) (tgt := 20) rfl h (fun h => ?_) (fun h => ?_)
    · refine K_sub [] rfl ?_
      refine c_X10_report_20 X p1 p2  μ h
    · refine K_iload_n (md := mX10_report) (pc := 15) 1 (kTab_at (pc := 15) tX10_report_ok 7 rfl) rfl ?_
      refine K_iconst (md := mX10_report) (pc := 16) (x := 2) (kTab_at (pc := 16) tX10_report_ok 8 rfl) rfl ?_
      refine K_icmp_lt (md := mX10_report) (pc := 17) (kTab_at (pc := 17) tX10_report_ok 9 rfl) (tgt := 31) rfl h (fun h => ?_) (fun h => ?_)
      · refine K_iload_n (md := mX10_report) (pc := 31) 2 (kTab_at (pc := 31) tX10_report_ok 15 rfl) rfl ?_
        refine K_iconst (md := mX10_report) (pc := 32) (x := 0) (kTab_at (pc := 32) tX10_report_ok 16 rfl) rfl ?_
        refine K_iconst (md := mX10_report) (pc := 33) (x := 1) (kTab_at (pc := 33) tX10_report_ok 17 rfl) rfl ?_
        refine Z_callS (md := mX10_report) (pc := 34) (st := []) (sv := (fun _ => [])) (kTab_at (pc := 34) tX10_report_ok 18 rfl) ms_X10_61 rfl (Nat.le_of_ble_eq_true rfl) (by decide) rfl (c_X10_requireRange X p2 0 1 μ) (fun _ => rfl) h (fun μ _ h => ?_) rfl
        refine K_iload_n (md := mX10_report) (pc := 37) 2 (kTab_at (pc := 37) tX10_report_ok 19 rfl) rfl ?_
        refine K_if_ne (md := mX10_report) (pc := 38) (kTab_at (pc := 38) tX10_report_ok 20 rfl) (tgt := 53) rfl h (fun h => ?_) (fun h => ?_)
        · refine K_aload_n (md := mX10_report) (pc := 53) 0 (kTab_at (pc := 53) tX10_report_ok 27 rfl) rfl ?_
          refine K_getR (md := mX10_report) (pc := 54) (b := 223) (kTab_at (pc := 54) tX10_report_ok 28 rfl) fl_X10_39 sk_0 rfl rfl ?_
          refine K_getR (md := mX10_report) (pc := 57) (b := 225) (kTab_at (pc := 57) tX10_report_ok 29 rfl) fl_X10_434 sk_223 rfl rfl ?_
          refine K_iload_n (md := mX10_report) (pc := 60) 1 (kTab_at (pc := 60) tX10_report_ok 30 rfl) rfl ?_
          refine Z_iald (md := mX10_report) (pc := 61) (kTab_at (pc := 61) tX10_report_ok 31 rfl) sk_225 (by decide) h (fun x2 h => ?_)
          refine K_sub [] rfl ?_
          refine c_X10_report_62 X p1 p2  x2 μ h
        · refine K_aload_n (md := mX10_report) (pc := 41) 0 (kTab_at (pc := 41) tX10_report_ok 21 rfl) rfl ?_
          refine K_getR (md := mX10_report) (pc := 42) (b := 223) (kTab_at (pc := 42) tX10_report_ok 22 rfl) fl_X10_39 sk_0 rfl rfl ?_
          refine K_getR (md := mX10_report) (pc := 45) (b := 224) (kTab_at (pc := 45) tX10_report_ok 23 rfl) fl_X10_431 sk_223 rfl rfl ?_
          refine K_iload_n (md := mX10_report) (pc := 48) 1 (kTab_at (pc := 48) tX10_report_ok 24 rfl) rfl ?_
          refine Z_iald (md := mX10_report) (pc := 49) (kTab_at (pc := 49) tX10_report_ok 25 rfl) sk_224 (by decide) h (fun x3 h => ?_)
          refine K_goto (md := mX10_report) (pc := 50) (tgt := 62) (kTab_at (pc := 50) tX10_report_ok 26 rfl) rfl ?_
          refine K_sub [] rfl ?_
          refine c_X10_report_62 X p1 p2  x3 μ h
      · refine K_sub [] rfl ?_
        refine c_X10_report_20 X p1 p2  μ h
def f_X10_count_130 (p1 : Int)  (s0 : Int) (μ : Mu) : Option Res := some (μ, 0, s0)
set_option maxRecDepth 100000 in
theorem c_X10_count_130 (X : kX) (p1 : Int)  {res : Res}  (s0 : Int) (μ : Mu) (h : f_X10_count_130 p1 s0 μ = some res) : KK X mX10_count 6 1 res 130 [] [.int (iI s0)] μ := by
  unfold f_X10_count_130 at h
  exact Z_iret (md := mX10_count) (pc := 130) (kTab_at (pc := 130) tX10_count_ok 38 rfl) rfl rfl rfl h
def f_X10_count (p1 : Int) (μ : Mu) : Option Res := rb (f_X10_requireRange p1 0 9 μ) fun μ _ => i_sw p1 0 [rdF μ (1 + 11) 4 fun x1 => some (μ, 0, x1), rb (f_X1_gradedCandidates 1 μ) fun μ x2 => some (μ, 0, x2), rb (f_X10_sumOf ((1 + 7) + 1) 5 μ) fun μ x3 => some (μ, 0, x3), rb (f_X7_markedSeeds (1 + 7) μ) fun μ x4 => some (μ, 0, x4), rdF μ (1 + 16) 2 fun x5 => some (μ, 0, x5), rdF μ 1 10 fun x6 => i_eq x6 0 (f_X10_count_130 p1 0 μ) (f_X10_count_130 p1 1 μ), rb (f_X1_fullMaximum 1 μ) fun μ x7 => some (μ, 0, x7), rdF μ 219 2 fun x8 => some (μ, 0, x8), rdF μ 73 2 fun x9 => some (μ, 0, x9)] (rb (f_X1_disputedScripts 1 μ) fun μ x10 => some (μ, 0, x10))
set_option maxRecDepth 100000 in
theorem c_X10_count (X : kX) (p1 : Int)  (μ : Mu) : Cq X mX10_count 6 1 μ [.ref (X.1 + 0), .int (iI p1)] (f_X10_count p1 μ) := by
  intro res h
  refine ct_of (by decide +kernel) rfl (Nat.le_of_ble_eq_true rfl) ?_
  show KK X mX10_count 6 1 res 0 [(0, .ref (X.1 + 0)), (1, .int (iI p1))] [] μ
  unfold f_X10_count at h
  refine K_iload_n (md := mX10_count) (pc := 0) 1 (kTab_at (pc := 0) tX10_count_ok 0 rfl) rfl ?_
  refine K_iconst (md := mX10_count) (pc := 1) (x := 0) (kTab_at (pc := 1) tX10_count_ok 1 rfl) rfl ?_
  refine K_bipush (md := mX10_count) (pc := 2) (x := 9) (kTab_at (pc := 2) tX10_count_ok 2 rfl) (by decide) ?_
  refine Z_callS (md := mX10_count) (pc := 4) (st := []) (sv := (fun _ => [])) (kTab_at (pc := 4) tX10_count_ok 3 rfl) ms_X10_61 rfl (Nat.le_of_ble_eq_true rfl) (by decide) rfl (c_X10_requireRange X p1 0 9 μ) (fun _ => rfl) h (fun μ _ h => ?_) rfl
  refine K_iload_n (md := mX10_count) (pc := 7) 1 (kTab_at (pc := 7) tX10_count_ok 4 rfl) rfl ?_
  refine K_tsw (md := mX10_count) (pc := 8) (dt := 155) (kTab_at (pc := 8) tX10_count_ok 5 rfl) rfl rfl h (And.intro (fun h => ⟨60, rfl, ?_⟩) (And.intro (fun h => ⟨71, rfl, ?_⟩) (And.intro (fun h => ⟨79, rfl, ?_⟩) (And.intro (fun h => ⟨93, rfl, ?_⟩) (And.intro (fun h => ⟨104, rfl, ?_⟩) (And.intro (fun h => ⟨115, rfl, ?_⟩) (And.intro (fun h => ⟨131, rfl, ?_⟩) (And.intro (fun h => ⟨139, rfl, ?_⟩) (And.intro (fun h => ⟨147, rfl, ?_⟩) (True.intro)))))))))) (fun h => ?_)
  · refine K_aload_n (md := mX10_count) (pc := 60) 0 (kTab_at (pc := 60) tX10_count_ok 6 rfl) rfl ?_
    refine K_getR (md := mX10_count) (pc := 61) (b := 1) (kTab_at (pc := 61) tX10_count_ok 7 rfl) fl_X10_12 sk_0 rfl rfl ?_
    refine K_getR (md := mX10_count) (pc := 64) (b := (1 + 11)) (kTab_at (pc := 64) tX10_count_ok 8 rfl) fl_X10_203 (lay_0 lay_now rfl) rfl rfl ?_
    refine Z_getI (md := mX10_count) (pc := 67) (kTab_at (pc := 67) tX10_count_ok 9 rfl) fl_X10_437 (lay_0 (lay_entries lay_now) rfl) (Or.inl rfl) h (fun x1 h => ?_)
    exact Z_iret (md := mX10_count) (pc := 70) (kTab_at (pc := 70) tX10_count_ok 10 rfl) rfl rfl rfl h
  · refine K_aload_n (md := mX10_count) (pc := 71) 0 (kTab_at (pc := 71) tX10_count_ok 11 rfl) rfl ?_
    refine K_getR (md := mX10_count) (pc := 72) (b := 1) (kTab_at (pc := 72) tX10_count_ok 12 rfl) fl_X10_12 sk_0 rfl rfl ?_
    refine Z_callV (md := mX10_count) (pc := 75) (st := []) (sv := (fun x2 => [.int (iI x2)])) (kTab_at (pc := 75) tX10_count_ok 13 rfl) mv_X10_379 (lay_0 lay_now rfl) rfl (Nat.le_of_ble_eq_true rfl) (by decide) rfl (c_X1_gradedCandidates X 1 lay_now μ) (fun _ => rfl) h (fun μ x2 h => ?_) rfl
    exact Z_iret (md := mX10_count) (pc := 78) (kTab_at (pc := 78) tX10_count_ok 14 rfl) rfl rfl rfl h
  · refine K_aload_n (md := mX10_count) (pc := 79) 0 (kTab_at (pc := 79) tX10_count_ok 15 rfl) rfl ?_
    refine K_getR (md := mX10_count) (pc := 80) (b := 1) (kTab_at (pc := 80) tX10_count_ok 16 rfl) fl_X10_12 sk_0 rfl rfl ?_
    refine K_getR (md := mX10_count) (pc := 83) (b := (1 + 7)) (kTab_at (pc := 83) tX10_count_ok 17 rfl) fl_X10_101 (lay_0 lay_now rfl) rfl rfl ?_
    refine K_getR (md := mX10_count) (pc := 86) (b := ((1 + 7) + 1)) (kTab_at (pc := 86) tX10_count_ok 18 rfl) fl_X10_105 (lay_0 (lay_seeds lay_now) rfl) rfl rfl ?_
    refine Z_callS (md := mX10_count) (pc := 89) (st := []) (sv := (fun x3 => [.int (iI x3)])) (kTab_at (pc := 89) tX10_count_ok 19 rfl) ms_X10_416 rfl (Nat.le_of_ble_eq_true rfl) (by decide) rfl (c_X10_sumOf X ((1 + 7) + 1) 5 (lay_at (lay_seeds lay_now) 1 rfl) (by decide) μ) (fun _ => rfl) h (fun μ x3 h => ?_) rfl
    exact Z_iret (md := mX10_count) (pc := 92) (kTab_at (pc := 92) tX10_count_ok 20 rfl) rfl rfl rfl h
  · refine K_aload_n (md := mX10_count) (pc := 93) 0 (kTab_at (pc := 93) tX10_count_ok 21 rfl) rfl ?_
    refine K_getR (md := mX10_count) (pc := 94) (b := 1) (kTab_at (pc := 94) tX10_count_ok 22 rfl) fl_X10_12 sk_0 rfl rfl ?_
    refine K_getR (md := mX10_count) (pc := 97) (b := (1 + 7)) (kTab_at (pc := 97) tX10_count_ok 23 rfl) fl_X10_101 (lay_0 lay_now rfl) rfl rfl ?_
    refine Z_callV (md := mX10_count) (pc := 100) (st := []) (sv := (fun x4 => [.int (iI x4)])) (kTab_at (pc := 100) tX10_count_ok 24 rfl) mv_X10_440 (lay_0 (lay_seeds lay_now) rfl) rfl (Nat.le_of_ble_eq_true rfl) (by decide) rfl (c_X7_markedSeeds X (1 + 7) (lay_seeds lay_now) μ) (fun _ => rfl) h (fun μ x4 h => ?_) rfl
    exact Z_iret (md := mX10_count) (pc := 103) (kTab_at (pc := 103) tX10_count_ok 25 rfl) rfl rfl rfl h
  · refine K_aload_n (md := mX10_count) (pc := 104) 0 (kTab_at (pc := 104) tX10_count_ok 26 rfl) rfl ?_
    refine K_getR (md := mX10_count) (pc := 105) (b := 1) (kTab_at (pc := 105) tX10_count_ok 27 rfl) fl_X10_12 sk_0 rfl rfl ?_
    refine K_getR (md := mX10_count) (pc := 108) (b := (1 + 16)) (kTab_at (pc := 108) tX10_count_ok 28 rfl) fl_X10_263 (lay_0 lay_now rfl) rfl rfl ?_
    refine Z_getI (md := mX10_count) (pc := 111) (kTab_at (pc := 111) tX10_count_ok 29 rfl) fl_X10_267 (lay_0 (lay_curve lay_now) rfl) (Or.inl rfl) h (fun x5 h => ?_)
    exact Z_iret (md := mX10_count) (pc := 114) (kTab_at (pc := 114) tX10_count_ok 30 rfl) rfl rfl rfl h
  · refine K_aload_n (md := mX10_count) (pc := 115) 0 (kTab_at (pc := 115) tX10_count_ok 31 rfl) rfl ?_
    refine K_getR (md := mX10_count) (pc := 116) (b := 1) (kTab_at (pc := 116) tX10_count_ok 32 rfl) fl_X10_12 sk_0 rfl rfl ?_
    refine Z_getI (md := mX10_count) (pc := 119) (kTab_at (pc := 119) tX10_count_ok 33 rfl) fl_X10_367 (lay_0 lay_now rfl) (Or.inr rfl) h (fun x6 h => ?_)
    refine K_if_eq (md := mX10_count) (pc := 122) (kTab_at (pc := 122) tX10_count_ok 34 rfl) (tgt := 129) rfl h (fun h => ?_) (fun h => ?_)
    · refine K_iconst (md := mX10_count) (pc := 129) (x := 0) (kTab_at (pc := 129) tX10_count_ok 37 rfl) rfl ?_
      refine K_sub [] rfl ?_
      refine c_X10_count_130 X p1  0 μ h
    · refine K_iconst (md := mX10_count) (pc := 125) (x := 1) (kTab_at (pc := 125) tX10_count_ok 35 rfl) rfl ?_
      refine K_goto (md := mX10_count) (pc := 126) (tgt := 130) (kTab_at (pc := 126) tX10_count_ok 36 rfl) rfl ?_
      refine K_sub [] rfl ?_
      refine c_X10_count_130 X p1  1 μ h
  · refine K_aload_n (md := mX10_count) (pc := 131) 0 (kTab_at (pc := 131) tX10_count_ok 39 rfl) rfl ?_
    refine K_getR (md := mX10_count) (pc := 132) (b := 1) (kTab_at (pc := 132) tX10_count_ok 40 rfl) fl_X10_12 sk_0 rfl rfl ?_
    refine Z_callV (md := mX10_count) (pc := 135) (st := []) (sv := (fun x7 => [.int (iI x7)])) (kTab_at (pc := 135) tX10_count_ok 41 rfl) mv_X10_285 (lay_0 lay_now rfl) rfl (Nat.le_of_ble_eq_true rfl) (by decide) rfl (c_X1_fullMaximum X 1 lay_now μ) (fun _ => rfl) h (fun μ x7 h => ?_) rfl
    exact Z_iret (md := mX10_count) (pc := 138) (kTab_at (pc := 138) tX10_count_ok 42 rfl) rfl rfl rfl h
  · refine K_aload_n (md := mX10_count) (pc := 139) 0 (kTab_at (pc := 139) tX10_count_ok 43 rfl) rfl ?_
    refine K_getR (md := mX10_count) (pc := 140) (b := 219) (kTab_at (pc := 140) tX10_count_ok 44 rfl) fl_X10_32 sk_0 rfl rfl ?_
    refine Z_getI (md := mX10_count) (pc := 143) (kTab_at (pc := 143) tX10_count_ok 45 rfl) fl_X10_163 sk_219 (Or.inl rfl) h (fun x8 h => ?_)
    exact Z_iret (md := mX10_count) (pc := 146) (kTab_at (pc := 146) tX10_count_ok 46 rfl) rfl rfl rfl h
  · refine K_aload_n (md := mX10_count) (pc := 147) 0 (kTab_at (pc := 147) tX10_count_ok 47 rfl) rfl ?_
    refine K_getR (md := mX10_count) (pc := 148) (b := 73) (kTab_at (pc := 148) tX10_count_ok 48 rfl) fl_X10_25 sk_0 rfl rfl ?_
    refine Z_getI (md := mX10_count) (pc := 151) (kTab_at (pc := 151) tX10_count_ok 49 rfl) fl_X10_443 sk_73 (Or.inl rfl) h (fun x9 h => ?_)
    exact Z_iret (md := mX10_count) (pc := 154) (kTab_at (pc := 154) tX10_count_ok 50 rfl) rfl rfl rfl h
  · refine K_aload_n (md := mX10_count) (pc := 155) 0 (kTab_at (pc := 155) tX10_count_ok 51 rfl) rfl ?_
    refine K_getR (md := mX10_count) (pc := 156) (b := 1) (kTab_at (pc := 156) tX10_count_ok 52 rfl) fl_X10_12 sk_0 rfl rfl ?_
    refine Z_callV (md := mX10_count) (pc := 159) (st := []) (sv := (fun x10 => [.int (iI x10)])) (kTab_at (pc := 159) tX10_count_ok 53 rfl) mv_X10_444 (lay_0 lay_now rfl) rfl (Nat.le_of_ble_eq_true rfl) (by decide) rfl (c_X1_disputedScripts X 1 lay_now μ) (fun _ => rfl) h (fun μ x10 h => ?_) rfl
    exact Z_iret (md := mX10_count) (pc := 162) (kTab_at (pc := 162) tX10_count_ok 54 rfl) rfl rfl rfl h
def f_X10_undo  (μ : Mu) : Option Res := rdF μ 73 2 fun x1 => i_lt 0 x1 (rb (f_X4_takeBack 1 μ) fun μ _ => rdF μ 73 2 fun x2 => some (μ, 0, x2)) (some (μ, 1, 0))
set_option maxRecDepth 100000 in
theorem c_X10_undo (X : kX)   (μ : Mu) : Cq X mX10_undo 4 1 μ [.ref (X.1 + 0)] (f_X10_undo  μ) := by
  intro res h
  refine ct_of (by decide +kernel) rfl (Nat.le_of_ble_eq_true rfl) ?_
  show KK X mX10_undo 4 1 res 0 [(0, .ref (X.1 + 0))] [] μ
  unfold f_X10_undo at h
  refine K_aload_n (md := mX10_undo) (pc := 0) 0 (kTab_at (pc := 0) tX10_undo_ok 0 rfl) rfl ?_
  refine K_getR (md := mX10_undo) (pc := 1) (b := 73) (kTab_at (pc := 1) tX10_undo_ok 1 rfl) fl_X10_25 sk_0 rfl rfl ?_
  refine Z_getI (md := mX10_undo) (pc := 4) (kTab_at (pc := 4) tX10_undo_ok 2 rfl) fl_X10_443 sk_73 (Or.inl rfl) h (fun x1 h => ?_)
  refine K_if_gt (md := mX10_undo) (pc := 7) (kTab_at (pc := 7) tX10_undo_ok 3 rfl) (tgt := 21) rfl h (fun h => ?_) (fun h => ?_)
  · refine K_aload_n (md := mX10_undo) (pc := 21) 0 (kTab_at (pc := 21) tX10_undo_ok 9 rfl) rfl ?_
    refine K_getR (md := mX10_undo) (pc := 22) (b := 73) (kTab_at (pc := 22) tX10_undo_ok 10 rfl) fl_X10_25 sk_0 rfl rfl ?_
    refine K_aload_n (md := mX10_undo) (pc := 25) 0 (kTab_at (pc := 25) tX10_undo_ok 11 rfl) rfl ?_
    refine K_getR (md := mX10_undo) (pc := 26) (b := 1) (kTab_at (pc := 26) tX10_undo_ok 12 rfl) fl_X10_12 sk_0 rfl rfl ?_
    refine Z_callV (md := mX10_undo) (pc := 29) (st := []) (sv := (fun _ => [])) (kTab_at (pc := 29) tX10_undo_ok 13 rfl) mv_X10_449 sk_73 rfl (Nat.le_of_ble_eq_true rfl) (by decide) rfl (c_X4_takeBack X 1 lay_now μ) (fun _ => rfl) h (fun μ _ h => ?_) rfl
    refine K_aload_n (md := mX10_undo) (pc := 32) 0 (kTab_at (pc := 32) tX10_undo_ok 14 rfl) rfl ?_
    refine K_getR (md := mX10_undo) (pc := 33) (b := 73) (kTab_at (pc := 33) tX10_undo_ok 15 rfl) fl_X10_25 sk_0 rfl rfl ?_
    refine Z_getI (md := mX10_undo) (pc := 36) (kTab_at (pc := 36) tX10_undo_ok 16 rfl) fl_X10_443 sk_73 (Or.inl rfl) h (fun x2 h => ?_)
    exact Z_iret (md := mX10_undo) (pc := 39) (kTab_at (pc := 39) tX10_undo_ok 17 rfl) rfl rfl rfl h
  · exact Z_thW (md := mX10_undo) (pc := 10) (text := "no change can be taken back") th_0 ck_0 (by decide +kernel) rfl (kTab_at (pc := 10) tX10_undo_ok 4 rfl) (kTab_at (pc := 13) tX10_undo_ok 5 rfl) (kTab_at (pc := 14) tX10_undo_ok 6 rfl) (kTab_at (pc := 17) tX10_undo_ok 7 rfl) (kTab_at (pc := 20) tX10_undo_ok 8 rfl) h
def f_X10_save  (μ : Mu) : Option Res := rb (f_X1_copyFrom 49 1 μ) fun μ _ => wrZ μ 0 3 1 fun μ => rdF μ (1 + 11) 4 fun x1 => some (μ, 0, x1)
set_option maxRecDepth 100000 in
theorem c_X10_save (X : kX)   (μ : Mu) : Cq X mX10_save 3 1 μ [.ref (X.1 + 0)] (f_X10_save  μ) := by
  intro res h
  refine ct_of (by decide +kernel) rfl (Nat.le_of_ble_eq_true rfl) ?_
  show KK X mX10_save 3 1 res 0 [(0, .ref (X.1 + 0))] [] μ
  unfold f_X10_save at h
  refine K_aload_n (md := mX10_save) (pc := 0) 0 (kTab_at (pc := 0) tX10_save_ok 0 rfl) rfl ?_
  refine K_getR (md := mX10_save) (pc := 1) (b := 49) (kTab_at (pc := 1) tX10_save_ok 1 rfl) fl_X10_19 sk_0 rfl rfl ?_
  refine K_aload_n (md := mX10_save) (pc := 4) 0 (kTab_at (pc := 4) tX10_save_ok 2 rfl) rfl ?_
  refine K_getR (md := mX10_save) (pc := 5) (b := 1) (kTab_at (pc := 5) tX10_save_ok 3 rfl) fl_X10_12 sk_0 rfl rfl ?_
  refine Z_callV (md := mX10_save) (pc := 8) (st := []) (sv := (fun _ => [])) (kTab_at (pc := 8) tX10_save_ok 4 rfl) mv_X10_183 (lay_0 lay_saved rfl) rfl (Nat.le_of_ble_eq_true rfl) (by decide) rfl (c_X1_copyFrom X 49 1 lay_saved lay_now μ) (fun _ => rfl) h (fun μ _ h => ?_) rfl
  refine K_aload_n (md := mX10_save) (pc := 11) 0 (kTab_at (pc := 11) tX10_save_ok 5 rfl) rfl ?_
  refine K_iconst (md := mX10_save) (pc := 12) (x := 1) (kTab_at (pc := 12) tX10_save_ok 6 rfl) rfl ?_
  refine Z_putZ (md := mX10_save) (pc := 13) (kTab_at (pc := 13) tX10_save_ok 7 rfl) fl_X10_452 sk_0 rfl h (fun μ h => ?_)
  refine K_aload_n (md := mX10_save) (pc := 16) 0 (kTab_at (pc := 16) tX10_save_ok 8 rfl) rfl ?_
  refine K_getR (md := mX10_save) (pc := 17) (b := 1) (kTab_at (pc := 17) tX10_save_ok 9 rfl) fl_X10_12 sk_0 rfl rfl ?_
  refine K_getR (md := mX10_save) (pc := 20) (b := (1 + 11)) (kTab_at (pc := 20) tX10_save_ok 10 rfl) fl_X10_203 (lay_0 lay_now rfl) rfl rfl ?_
  refine Z_getI (md := mX10_save) (pc := 23) (kTab_at (pc := 23) tX10_save_ok 11 rfl) fl_X10_437 (lay_0 (lay_entries lay_now) rfl) (Or.inl rfl) h (fun x1 h => ?_)
  exact Z_iret (md := mX10_save) (pc := 26) (kTab_at (pc := 26) tX10_save_ok 12 rfl) rfl rfl rfl h
def f_X10_restore  (μ : Mu) : Option Res := rdF μ 0 3 fun x1 => i_eq x1 0 (some (μ, 1, 0)) (rb (f_X4_keep 1 μ) fun μ _ => rb (f_X1_copyFrom 1 49 μ) fun μ _ => rdF μ (1 + 11) 4 fun x2 => some (μ, 0, x2))
set_option maxRecDepth 100000 in
theorem c_X10_restore (X : kX)   (μ : Mu) : Cq X mX10_restore 4 1 μ [.ref (X.1 + 0)] (f_X10_restore  μ) := by
  intro res h
  refine ct_of (by decide +kernel) rfl (Nat.le_of_ble_eq_true rfl) ?_
  show KK X mX10_restore 4 1 res 0 [(0, .ref (X.1 + 0))] [] μ
  unfold f_X10_restore at h
  refine K_aload_n (md := mX10_restore) (pc := 0) 0 (kTab_at (pc := 0) tX10_restore_ok 0 rfl) rfl ?_
  refine Z_getI (md := mX10_restore) (pc := 1) (kTab_at (pc := 1) tX10_restore_ok 1 rfl) fl_X10_452 sk_0 (Or.inr rfl) h (fun x1 h => ?_)
  refine K_if_ne (md := mX10_restore) (pc := 4) (kTab_at (pc := 4) tX10_restore_ok 2 rfl) (tgt := 18) rfl h (fun h => ?_) (fun h => ?_)
  · refine K_aload_n (md := mX10_restore) (pc := 18) 0 (kTab_at (pc := 18) tX10_restore_ok 8 rfl) rfl ?_
    refine K_getR (md := mX10_restore) (pc := 19) (b := 73) (kTab_at (pc := 19) tX10_restore_ok 9 rfl) fl_X10_25 sk_0 rfl rfl ?_
    refine K_aload_n (md := mX10_restore) (pc := 22) 0 (kTab_at (pc := 22) tX10_restore_ok 10 rfl) rfl ?_
    refine K_getR (md := mX10_restore) (pc := 23) (b := 1) (kTab_at (pc := 23) tX10_restore_ok 11 rfl) fl_X10_12 sk_0 rfl rfl ?_
    refine Z_callV (md := mX10_restore) (pc := 26) (st := []) (sv := (fun _ => [])) (kTab_at (pc := 26) tX10_restore_ok 12 rfl) mv_X10_83 sk_73 rfl (Nat.le_of_ble_eq_true rfl) (by decide) rfl (c_X4_keep X 1 lay_now μ) (fun _ => rfl) h (fun μ _ h => ?_) rfl
    refine K_aload_n (md := mX10_restore) (pc := 29) 0 (kTab_at (pc := 29) tX10_restore_ok 13 rfl) rfl ?_
    refine K_getR (md := mX10_restore) (pc := 30) (b := 1) (kTab_at (pc := 30) tX10_restore_ok 14 rfl) fl_X10_12 sk_0 rfl rfl ?_
    refine K_aload_n (md := mX10_restore) (pc := 33) 0 (kTab_at (pc := 33) tX10_restore_ok 15 rfl) rfl ?_
    refine K_getR (md := mX10_restore) (pc := 34) (b := 49) (kTab_at (pc := 34) tX10_restore_ok 16 rfl) fl_X10_19 sk_0 rfl rfl ?_
    refine Z_callV (md := mX10_restore) (pc := 37) (st := []) (sv := (fun _ => [])) (kTab_at (pc := 37) tX10_restore_ok 17 rfl) mv_X10_183 (lay_0 lay_now rfl) rfl (Nat.le_of_ble_eq_true rfl) (by decide) rfl (c_X1_copyFrom X 1 49 lay_now lay_saved μ) (fun _ => rfl) h (fun μ _ h => ?_) rfl
    refine K_aload_n (md := mX10_restore) (pc := 40) 0 (kTab_at (pc := 40) tX10_restore_ok 18 rfl) rfl ?_
    refine K_getR (md := mX10_restore) (pc := 41) (b := 1) (kTab_at (pc := 41) tX10_restore_ok 19 rfl) fl_X10_12 sk_0 rfl rfl ?_
    refine K_getR (md := mX10_restore) (pc := 44) (b := (1 + 11)) (kTab_at (pc := 44) tX10_restore_ok 20 rfl) fl_X10_203 (lay_0 lay_now rfl) rfl rfl ?_
    refine Z_getI (md := mX10_restore) (pc := 47) (kTab_at (pc := 47) tX10_restore_ok 21 rfl) fl_X10_437 (lay_0 (lay_entries lay_now) rfl) (Or.inl rfl) h (fun x2 h => ?_)
    exact Z_iret (md := mX10_restore) (pc := 50) (kTab_at (pc := 50) tX10_restore_ok 22 rfl) rfl rfl rfl h
  · exact Z_thW (md := mX10_restore) (pc := 7) (text := "nothing was saved") th_0 ck_0 (by decide +kernel) rfl (kTab_at (pc := 7) tX10_restore_ok 3 rfl) (kTab_at (pc := 10) tX10_restore_ok 4 rfl) (kTab_at (pc := 11) tX10_restore_ok 5 rfl) (kTab_at (pc := 14) tX10_restore_ok 6 rfl) (kTab_at (pc := 17) tX10_restore_ok 7 rfl) h
def f_X11_thrown  (μ : Mu) : Option Res := rdF μ 248 0 fun x1 => some (μ, 0, x1)
set_option maxRecDepth 100000 in
theorem c_X11_thrown (X : kX)   (μ : Mu) : Cq X mX11_thrown 0 1 μ [.ref (X.1 + 248)] (f_X11_thrown  μ) := by
  intro res h
  refine ct_of (by decide +kernel) rfl (Nat.le_of_ble_eq_true rfl) ?_
  show KK X mX11_thrown 0 1 res 0 [(0, .ref (X.1 + 248))] [] μ
  unfold f_X11_thrown at h
  refine K_aload_n (md := mX11_thrown) (pc := 0) 0 (kTab_at (pc := 0) tX11_thrown_ok 0 rfl) rfl ?_
  refine Z_getI (md := mX11_thrown) (pc := 1) (kTab_at (pc := 1) tX11_thrown_ok 1 rfl) fl_X11_48 sk_248 (Or.inl rfl) h (fun x1 h => ?_)
  exact Z_iret (md := mX11_thrown) (pc := 4) (kTab_at (pc := 4) tX11_thrown_ok 2 rfl) rfl rfl rfl h
def f_X11_fails (p1 : Int) (μ : Mu) : Option Res := wrF μ 248 0 p1 fun μ => some (μ, 0, 0)
set_option maxRecDepth 100000 in
theorem c_X11_fails (X : kX) (p1 : Int)  (μ : Mu) : Cq X mX11_fails 0 1 μ [.ref (X.1 + 248), .int (iI p1)] (f_X11_fails p1 μ) := by
  intro res h
  refine ct_of (by decide +kernel) rfl (Nat.le_of_ble_eq_true rfl) ?_
  show KK X mX11_fails 0 1 res 0 [(0, .ref (X.1 + 248)), (1, .int (iI p1))] [] μ
  unfold f_X11_fails at h
  refine K_aload_n (md := mX11_fails) (pc := 0) 0 (kTab_at (pc := 0) tX11_fails_ok 0 rfl) rfl ?_
  refine K_iload_n (md := mX11_fails) (pc := 1) 1 (kTab_at (pc := 1) tX11_fails_ok 1 rfl) rfl ?_
  refine Z_putI (md := mX11_fails) (pc := 2) (kTab_at (pc := 2) tX11_fails_ok 2 rfl) fl_X11_48 sk_248 rfl h (fun μ h => ?_)
  refine K_iconst (md := mX11_fails) (pc := 5) (x := 0) (kTab_at (pc := 5) tX11_fails_ok 3 rfl) rfl ?_
  exact Z_iret (md := mX11_fails) (pc := 6) (kTab_at (pc := 6) tX11_fails_ok 4 rfl) rfl rfl rfl h
def f_X11_in_15 (p0 : Int) (p1 : Int) (p2 : Int)  (s0 : Int) (μ : Mu) : Option Res := retZ μ s0
set_option maxRecDepth 100000 in
theorem c_X11_in_15 (X : kX) (p0 : Int) (p1 : Int) (p2 : Int)  {res : Res}  (s0 : Int) (μ : Mu) (h : f_X11_in_15 p0 p1 p2 s0 μ = some res) : KK X mX11_in 0 1 res 15 [] [.int (iI s0)] μ := by
  unfold f_X11_in_15 at h
  exact Z_zret (md := mX11_in) (pc := 15) (kTab_at (pc := 15) tX11_in_ok 9 rfl) rfl rfl h
def f_X11_in_14 (p0 : Int) (p1 : Int) (p2 : Int)   (μ : Mu) : Option Res := f_X11_in_15 p0 p1 p2 0 μ
set_option maxRecDepth 100000 in
theorem c_X11_in_14 (X : kX) (p0 : Int) (p1 : Int) (p2 : Int)  {res : Res}  (μ : Mu) (h : f_X11_in_14 p0 p1 p2 μ = some res) : KK X mX11_in 0 1 res 14 [] [] μ := by
  unfold f_X11_in_14 at h
  refine K_iconst (md := mX11_in) (pc := 14) (x := 0) (kTab_at (pc := 14) tX11_in_ok 8 rfl) rfl ?_
  refine c_X11_in_15 X p0 p1 p2  0 μ h
def f_X11_in (p0 : Int) (p1 : Int) (p2 : Int) (μ : Mu) : Option Res := i_lt p0 p1 (f_X11_in_14 p0 p1 p2 μ) (i_lt p2 p0 (f_X11_in_14 p0 p1 p2 μ) (f_X11_in_15 p0 p1 p2 1 μ))
set_option maxRecDepth 100000 in
theorem c_X11_in (X : kX) (p0 : Int) (p1 : Int) (p2 : Int)  (μ : Mu) : Cq X mX11_in 0 1 μ [.int (iI p0), .int (iI p1), .int (iI p2)] (f_X11_in p0 p1 p2 μ) := by
  intro res h
  refine ct_of (by decide +kernel) rfl (Nat.le_of_ble_eq_true rfl) ?_
  show KK X mX11_in 0 1 res 0 [(0, .int (iI p0)), (1, .int (iI p1)), (2, .int (iI p2))] [] μ
  unfold f_X11_in at h
  refine K_iload_n (md := mX11_in) (pc := 0) 0 (kTab_at (pc := 0) tX11_in_ok 0 rfl) rfl ?_
  refine K_iload_n (md := mX11_in) (pc := 1) 1 (kTab_at (pc := 1) tX11_in_ok 1 rfl) rfl ?_
  refine K_icmp_lt (md := mX11_in) (pc := 2) (kTab_at (pc := 2) tX11_in_ok 2 rfl) (tgt := 14) rfl h (fun h => ?_) (fun h => ?_)
  · refine K_sub [] rfl ?_
    refine c_X11_in_14 X p0 p1 p2  μ h
  · refine K_iload_n (md := mX11_in) (pc := 5) 0 (kTab_at (pc := 5) tX11_in_ok 3 rfl) rfl ?_
    refine K_iload_n (md := mX11_in) (pc := 6) 2 (kTab_at (pc := 6) tX11_in_ok 4 rfl) rfl ?_
    refine K_icmp_gt (md := mX11_in) (pc := 7) (kTab_at (pc := 7) tX11_in_ok 5 rfl) (tgt := 14) rfl h (fun h => ?_) (fun h => ?_)
    · refine K_sub [] rfl ?_
      refine c_X11_in_14 X p0 p1 p2  μ h
    · refine K_iconst (md := mX11_in) (pc := 10) (x := 1) (kTab_at (pc := 10) tX11_in_ok 6 rfl) rfl ?_
      refine K_goto (md := mX11_in) (pc := 11) (tgt := 15) (kTab_at (pc := 11) tX11_in_ok 7 rfl) rfl ?_
      refine K_sub [] rfl ?_
      refine c_X11_in_15 X p0 p1 p2  1 μ h
def f_X11_isCandidate (p0 : Int) (μ : Mu) : Option Res := rb (f_X11_in p0 0 7 μ) fun μ x1 => retZ μ x1
set_option maxRecDepth 100000 in
theorem c_X11_isCandidate (X : kX) (p0 : Int)  (μ : Mu) : Cq X mX11_isCandidate 1 1 μ [.int (iI p0)] (f_X11_isCandidate p0 μ) := by
  intro res h
  refine ct_of (by decide +kernel) rfl (Nat.le_of_ble_eq_true rfl) ?_
  show KK X mX11_isCandidate 1 1 res 0 [(0, .int (iI p0))] [] μ
  unfold f_X11_isCandidate at h
  refine K_iload_n (md := mX11_isCandidate) (pc := 0) 0 (kTab_at (pc := 0) tX11_isCandidate_ok 0 rfl) rfl ?_
  refine K_iconst (md := mX11_isCandidate) (pc := 1) (x := 0) (kTab_at (pc := 1) tX11_isCandidate_ok 1 rfl) rfl ?_
  refine K_bipush (md := mX11_isCandidate) (pc := 2) (x := 7) (kTab_at (pc := 2) tX11_isCandidate_ok 2 rfl) (by decide) ?_
  refine Z_callS (md := mX11_isCandidate) (pc := 4) (st := []) (sv := (fun x1 => [.int (iI x1)])) (kTab_at (pc := 4) tX11_isCandidate_ok 3 rfl) ms_X11_51 rfl (Nat.le_of_ble_eq_true rfl) (by decide) rfl (c_X11_in X p0 0 7 μ) (fun _ => rfl) h (fun μ x1 h => ?_) rfl
  exact Z_zret (md := mX11_isCandidate) (pc := 7) (kTab_at (pc := 7) tX11_isCandidate_ok 4 rfl) rfl rfl h
def f_X11_isQuestion (p0 : Int) (μ : Mu) : Option Res := rb (f_X11_in p0 0 4 μ) fun μ x1 => retZ μ x1
set_option maxRecDepth 100000 in
theorem c_X11_isQuestion (X : kX) (p0 : Int)  (μ : Mu) : Cq X mX11_isQuestion 1 1 μ [.int (iI p0)] (f_X11_isQuestion p0 μ) := by
  intro res h
  refine ct_of (by decide +kernel) rfl (Nat.le_of_ble_eq_true rfl) ?_
  show KK X mX11_isQuestion 1 1 res 0 [(0, .int (iI p0))] [] μ
  unfold f_X11_isQuestion at h
  refine K_iload_n (md := mX11_isQuestion) (pc := 0) 0 (kTab_at (pc := 0) tX11_isQuestion_ok 0 rfl) rfl ?_
  refine K_iconst (md := mX11_isQuestion) (pc := 1) (x := 0) (kTab_at (pc := 1) tX11_isQuestion_ok 1 rfl) rfl ?_
  refine K_iconst (md := mX11_isQuestion) (pc := 2) (x := 4) (kTab_at (pc := 2) tX11_isQuestion_ok 2 rfl) rfl ?_
  refine Z_callS (md := mX11_isQuestion) (pc := 3) (st := []) (sv := (fun x1 => [.int (iI x1)])) (kTab_at (pc := 3) tX11_isQuestion_ok 3 rfl) ms_X11_51 rfl (Nat.le_of_ble_eq_true rfl) (by decide) rfl (c_X11_in X p0 0 4 μ) (fun _ => rfl) h (fun μ x1 h => ?_) rfl
  exact Z_zret (md := mX11_isQuestion) (pc := 6) (kTab_at (pc := 6) tX11_isQuestion_ok 4 rfl) rfl rfl h
def f_X11_isMarker (p0 : Int) (μ : Mu) : Option Res := rb (f_X11_in p0 0 3 μ) fun μ x1 => retZ μ x1
set_option maxRecDepth 100000 in
theorem c_X11_isMarker (X : kX) (p0 : Int)  (μ : Mu) : Cq X mX11_isMarker 1 1 μ [.int (iI p0)] (f_X11_isMarker p0 μ) := by
  intro res h
  refine ct_of (by decide +kernel) rfl (Nat.le_of_ble_eq_true rfl) ?_
  show KK X mX11_isMarker 1 1 res 0 [(0, .int (iI p0))] [] μ
  unfold f_X11_isMarker at h
  refine K_iload_n (md := mX11_isMarker) (pc := 0) 0 (kTab_at (pc := 0) tX11_isMarker_ok 0 rfl) rfl ?_
  refine K_iconst (md := mX11_isMarker) (pc := 1) (x := 0) (kTab_at (pc := 1) tX11_isMarker_ok 1 rfl) rfl ?_
  refine K_iconst (md := mX11_isMarker) (pc := 2) (x := 3) (kTab_at (pc := 2) tX11_isMarker_ok 2 rfl) rfl ?_
  refine Z_callS (md := mX11_isMarker) (pc := 3) (st := []) (sv := (fun x1 => [.int (iI x1)])) (kTab_at (pc := 3) tX11_isMarker_ok 3 rfl) ms_X11_51 rfl (Nat.le_of_ble_eq_true rfl) (by decide) rfl (c_X11_in X p0 0 3 μ) (fun _ => rfl) h (fun μ x1 h => ?_) rfl
  exact Z_zret (md := mX11_isMarker) (pc := 6) (kTab_at (pc := 6) tX11_isMarker_ok 4 rfl) rfl rfl h
def f_X11_amount_10 (p0 : Int)  (s0 : Int) (μ : Mu) : Option Res := some (μ, 0, s0)
set_option maxRecDepth 100000 in
theorem c_X11_amount_10 (X : kX) (p0 : Int)  {res : Res}  (s0 : Int) (μ : Mu) (h : f_X11_amount_10 p0 s0 μ = some res) : KK X mX11_amount 0 1 res 10 [] [.int (iI s0)] μ := by
  unfold f_X11_amount_10 at h
  exact Z_iret (md := mX11_amount) (pc := 10) (kTab_at (pc := 10) tX11_amount_ok 6 rfl) rfl rfl rfl h
def f_X11_amount (p0 : Int) (μ : Mu) : Option Res := i_lt p0 0 (f_X11_amount_10 p0 (-p0) μ) (f_X11_amount_10 p0 p0 μ)
set_option maxRecDepth 100000 in
theorem c_X11_amount (X : kX) (p0 : Int)  (μ : Mu) : Cq X mX11_amount 0 1 μ [.int (iI p0)] (f_X11_amount p0 μ) := by
  intro res h
  refine ct_of (by decide +kernel) rfl (Nat.le_of_ble_eq_true rfl) ?_
  show KK X mX11_amount 0 1 res 0 [(0, .int (iI p0))] [] μ
  unfold f_X11_amount at h
  refine K_iload_n (md := mX11_amount) (pc := 0) 0 (kTab_at (pc := 0) tX11_amount_ok 0 rfl) rfl ?_
  refine K_if_ge (md := mX11_amount) (pc := 1) (kTab_at (pc := 1) tX11_amount_ok 1 rfl) (tgt := 9) rfl h (fun h => ?_) (fun h => ?_)
  · refine K_iload_n (md := mX11_amount) (pc := 9) 0 (kTab_at (pc := 9) tX11_amount_ok 5 rfl) rfl ?_
    refine K_sub [] rfl ?_
    refine c_X11_amount_10 X p0  p0 μ h
  · refine K_iload_n (md := mX11_amount) (pc := 4) 0 (kTab_at (pc := 4) tX11_amount_ok 2 rfl) rfl ?_
    refine K_ineg (md := mX11_amount) (pc := 5) (kTab_at (pc := 5) tX11_amount_ok 3 rfl) ?_
    refine K_goto (md := mX11_amount) (pc := 6) (tgt := 10) (kTab_at (pc := 6) tX11_amount_ok 4 rfl) rfl ?_
    refine K_sub [] rfl ?_
    refine c_X11_amount_10 X p0  (-p0) μ h
def f_X11_setting (p1 : Int) (μ : Mu) : Option Res := rdI μ 249 779 (5 + p1) fun x1 => some (μ, 0, x1)
set_option maxRecDepth 100000 in
theorem c_X11_setting (X : kX) (p1 : Int)  (μ : Mu) : Cq X mX11_setting 0 1 μ [.ref (X.1 + 248), .int (iI p1)] (f_X11_setting p1 μ) := by
  intro res h
  refine ct_of (by decide +kernel) rfl (Nat.le_of_ble_eq_true rfl) ?_
  show KK X mX11_setting 0 1 res 0 [(0, .ref (X.1 + 248)), (1, .int (iI p1))] [] μ
  unfold f_X11_setting at h
  refine K_aload_n (md := mX11_setting) (pc := 0) 0 (kTab_at (pc := 0) tX11_setting_ok 0 rfl) rfl ?_
  refine K_getR (md := mX11_setting) (pc := 1) (b := 249) (kTab_at (pc := 1) tX11_setting_ok 1 rfl) fl_X11_7 sk_248 rfl rfl ?_
  refine K_iconst (md := mX11_setting) (pc := 4) (x := 5) (kTab_at (pc := 4) tX11_setting_ok 2 rfl) rfl ?_
  refine K_iload_n (md := mX11_setting) (pc := 5) 1 (kTab_at (pc := 5) tX11_setting_ok 3 rfl) rfl ?_
  refine K_iadd (md := mX11_setting) (pc := 6) (kTab_at (pc := 6) tX11_setting_ok 4 rfl) ?_
  refine Z_iald (md := mX11_setting) (pc := 7) (kTab_at (pc := 7) tX11_setting_ok 5 rfl) sk_249 (by decide) h (fun x1 h => ?_)
  exact Z_iret (md := mX11_setting) (pc := 8) (kTab_at (pc := 8) tX11_setting_ok 6 rfl) rfl rfl rfl h
def f_X11_isPublished_17   (s0 : Int) (μ : Mu) : Option Res := retZ μ s0
set_option maxRecDepth 100000 in
theorem c_X11_isPublished_17 (X : kX)   {res : Res}  (s0 : Int) (μ : Mu) (h : f_X11_isPublished_17 s0 μ = some res) : KK X mX11_isPublished 0 1 res 17 [] [.int (iI s0)] μ := by
  unfold f_X11_isPublished_17 at h
  exact Z_zret (md := mX11_isPublished) (pc := 17) (kTab_at (pc := 17) tX11_isPublished_ok 9 rfl) rfl rfl h
def f_X11_isPublished  (μ : Mu) : Option Res := rdI μ 249 779 652 fun x1 => i_eq x1 1 (f_X11_isPublished_17 1 μ) (f_X11_isPublished_17 0 μ)
set_option maxRecDepth 100000 in
theorem c_X11_isPublished (X : kX)   (μ : Mu) : Cq X mX11_isPublished 0 1 μ [.ref (X.1 + 248)] (f_X11_isPublished  μ) := by
  intro res h
  refine ct_of (by decide +kernel) rfl (Nat.le_of_ble_eq_true rfl) ?_
  show KK X mX11_isPublished 0 1 res 0 [(0, .ref (X.1 + 248))] [] μ
  unfold f_X11_isPublished at h
  refine K_aload_n (md := mX11_isPublished) (pc := 0) 0 (kTab_at (pc := 0) tX11_isPublished_ok 0 rfl) rfl ?_
  refine K_getR (md := mX11_isPublished) (pc := 1) (b := 249) (kTab_at (pc := 1) tX11_isPublished_ok 1 rfl) fl_X11_7 sk_248 rfl rfl ?_
  refine K_sipush (md := mX11_isPublished) (pc := 4) (x := 652) (kTab_at (pc := 4) tX11_isPublished_ok 2 rfl) (by decide) ?_
  refine Z_iald (md := mX11_isPublished) (pc := 7) (kTab_at (pc := 7) tX11_isPublished_ok 3 rfl) sk_249 (by decide) h (fun x1 h => ?_)
  refine K_iconst (md := mX11_isPublished) (pc := 8) (x := 1) (kTab_at (pc := 8) tX11_isPublished_ok 4 rfl) rfl ?_
  refine K_icmp_ne (md := mX11_isPublished) (pc := 9) (kTab_at (pc := 9) tX11_isPublished_ok 5 rfl) (tgt := 16) rfl h (fun h => ?_) (fun h => ?_)
  · refine K_iconst (md := mX11_isPublished) (pc := 16) (x := 0) (kTab_at (pc := 16) tX11_isPublished_ok 8 rfl) rfl ?_
    refine K_sub [] rfl ?_
    refine c_X11_isPublished_17 X   0 μ h
  · refine K_iconst (md := mX11_isPublished) (pc := 12) (x := 1) (kTab_at (pc := 12) tX11_isPublished_ok 6 rfl) rfl ?_
    refine K_goto (md := mX11_isPublished) (pc := 13) (tgt := 17) (kTab_at (pc := 13) tX11_isPublished_ok 7 rfl) rfl ?_
    refine K_sub [] rfl ?_
    refine c_X11_isPublished_17 X   1 μ h
def f_X11_full_4  (k26 : Int → Mu → Option Res) : Nat → Int → Int → Mu → Option Res
  | 0, _, _, _ => none
  | fu + 1, v1, v2, μ => i_lt v2 5 (rdI μ 249 779 (0 + v2) fun x1 => bnd (v1 + x1) fun x2 => (f_X11_full_4 k26 fu) x2 (v2 + 1) μ) (k26 v1 μ)
set_option maxRecDepth 100000 in
theorem c_X11_full_4 (X : kX)   {res : Res} (k26 : Int → Mu → Option Res) (hk26 : ∀ (v1 : Int), ∀ (μ : Mu), k26 v1 μ = some res → KK X mX11_full 0 1 res 26 [(1, .int (iI v1))] [] μ) : ∀ (fu : Nat)  (v1 : Int) (v2 : Int) (μ : Mu), f_X11_full_4 k26 fu v1 v2 μ = some res → KK X mX11_full 0 1 res 4 [(0, .ref (X.1 + 248)), (1, .int (iI v1)), (2, .int (iI v2))] [] μ := by
  intro fu
  induction fu with
  | zero => intro v1 v2 μ h; exact nomatch h
  | succ fu ih =>
    intro v1 v2 μ h
    refine K_iload_n (md := mX11_full) (pc := 4) 2 (kTab_at (pc := 4) tX11_full_ok 4 rfl) rfl ?_
    refine K_iconst (md := mX11_full) (pc := 5) (x := 5) (kTab_at (pc := 5) tX11_full_ok 5 rfl) rfl ?_
    refine K_icmp_ge (md := mX11_full) (pc := 6) (kTab_at (pc := 6) tX11_full_ok 6 rfl) (tgt := 26) rfl h (fun h => ?_) (fun h => ?_)
    · refine K_sub [1] rfl ?_
      exact hk26 v1 μ h
    · refine K_iload_n (md := mX11_full) (pc := 9) 1 (kTab_at (pc := 9) tX11_full_ok 7 rfl) rfl ?_
      refine K_aload_n (md := mX11_full) (pc := 10) 0 (kTab_at (pc := 10) tX11_full_ok 8 rfl) rfl ?_
      refine K_getR (md := mX11_full) (pc := 11) (b := 249) (kTab_at (pc := 11) tX11_full_ok 9 rfl) fl_X11_7 sk_248 rfl rfl ?_
      refine K_iconst (md := mX11_full) (pc := 14) (x := 0) (kTab_at (pc := 14) tX11_full_ok 10 rfl) rfl ?_
      refine K_iload_n (md := mX11_full) (pc := 15) 2 (kTab_at (pc := 15) tX11_full_ok 11 rfl) rfl ?_
      refine K_iadd (md := mX11_full) (pc := 16) (kTab_at (pc := 16) tX11_full_ok 12 rfl) ?_
      refine Z_iald (md := mX11_full) (pc := 17) (kTab_at (pc := 17) tX11_full_ok 13 rfl) sk_249 (by decide) h (fun x1 h => ?_)
      refine K_iadd (md := mX11_full) (pc := 18) (kTab_at (pc := 18) tX11_full_ok 14 rfl) ?_
      refine Z_bnd (md := mX11_full) (pc := 19) h (fun x2 h => ?_)
      refine K_istore_n (md := mX11_full) (pc := 19) (l' := [(1, .int (iI x2)), (0, .ref (X.1 + 248)), (2, .int (iI v2))]) (kTab_at (pc := 19) tX11_full_ok 15 rfl) (Nat.le_of_ble_eq_true rfl) rfl ?_
      refine K_iinc (md := mX11_full) (pc := 20) (l' := [(2, .int (iI (v2 + 1))), (1, .int (iI x2)), (0, .ref (X.1 + 248))]) 2 (kTab_at (pc := 20) tX11_full_ok 16 rfl) rfl (Nat.le_of_ble_eq_true rfl) rfl ?_
      refine K_goto (md := mX11_full) (pc := 23) (tgt := 4) (kTab_at (pc := 23) tX11_full_ok 17 rfl) rfl ?_
      refine K_sub [2, 1, 0] rfl ?_
      exact ih x2 (v2 + 1) μ h
def f_X11_full  (μ : Mu) : Option Res := f_X11_full_4 (fun v1 μ => some (μ, 0, v1)) FU 0 0 μ
set_option maxRecDepth 100000 in
theorem c_X11_full (X : kX)   (μ : Mu) : Cq X mX11_full 0 1 μ [.ref (X.1 + 248)] (f_X11_full  μ) := by
  intro res h
  refine ct_of (by decide +kernel) rfl (Nat.le_of_ble_eq_true rfl) ?_
  show KK X mX11_full 0 1 res 0 [(0, .ref (X.1 + 248))] [] μ
  unfold f_X11_full at h
  refine K_iconst (md := mX11_full) (pc := 0) (x := 0) (kTab_at (pc := 0) tX11_full_ok 0 rfl) rfl ?_
  refine K_istore_n (md := mX11_full) (pc := 1) (l' := [(1, .int (iI 0)), (0, .ref (X.1 + 248))]) (kTab_at (pc := 1) tX11_full_ok 1 rfl) (Nat.le_of_ble_eq_true rfl) rfl ?_
  refine K_iconst (md := mX11_full) (pc := 2) (x := 0) (kTab_at (pc := 2) tX11_full_ok 2 rfl) rfl ?_
  refine K_istore_n (md := mX11_full) (pc := 3) (l' := [(2, .int (iI 0)), (1, .int (iI 0)), (0, .ref (X.1 + 248))]) (kTab_at (pc := 3) tX11_full_ok 3 rfl) (Nat.le_of_ble_eq_true rfl) rfl ?_
  refine K_sub [2, 1, 0] rfl ?_
  refine c_X11_full_4 X  _ ?_ _ 0 0 μ h
  · intro v1 μ h
    refine K_iload_n (md := mX11_full) (pc := 26) 0 (kTab_at (pc := 26) tX11_full_ok 18 rfl) rfl ?_
    exact Z_iret (md := mX11_full) (pc := 27) (kTab_at (pc := 27) tX11_full_ok 19 rfl) rfl rfl rfl h
def f_X11_frames_2  (k27 : Mu → Option Res) : Nat → Int → Mu → Option Res
  | 0, _, _ => none
  | fu + 1, v1, μ => i_lt v1 779 (rdI μ 249 779 v1 fun x1 => wrI μ 251 779 v1 x1 fun μ => (f_X11_frames_2 k27 fu) (v1 + 1) μ) (k27 μ)
set_option maxRecDepth 100000 in
theorem c_X11_frames_2 (X : kX)   {res : Res} (k27 : Mu → Option Res) (hk27 : ∀ (μ : Mu), k27 μ = some res → KK X mX11_frames 0 0 res 27 [] [] μ) : ∀ (fu : Nat)  (v1 : Int) (μ : Mu), f_X11_frames_2 k27 fu v1 μ = some res → KK X mX11_frames 0 0 res 2 [(0, .ref (X.1 + 248)), (1, .int (iI v1))] [] μ := by
  intro fu
  induction fu with
  | zero => intro v1 μ h; exact nomatch h
  | succ fu ih =>
    intro v1 μ h
    refine K_iload_n (md := mX11_frames) (pc := 2) 1 (kTab_at (pc := 2) tX11_frames_ok 2 rfl) rfl ?_
    refine K_sipush (md := mX11_frames) (pc := 3) (x := 779) (kTab_at (pc := 3) tX11_frames_ok 3 rfl) (by decide) ?_
    refine K_icmp_ge (md := mX11_frames) (pc := 6) (kTab_at (pc := 6) tX11_frames_ok 4 rfl) (tgt := 27) rfl h (fun h => ?_) (fun h => ?_)
    · refine K_sub [] rfl ?_
      exact hk27 μ h
    · refine K_aload_n (md := mX11_frames) (pc := 9) 0 (kTab_at (pc := 9) tX11_frames_ok 5 rfl) rfl ?_
      refine K_getR (md := mX11_frames) (pc := 10) (b := 251) (kTab_at (pc := 10) tX11_frames_ok 6 rfl) fl_X11_16 sk_248 rfl rfl ?_
      refine K_iload_n (md := mX11_frames) (pc := 13) 1 (kTab_at (pc := 13) tX11_frames_ok 7 rfl) rfl ?_
      refine K_aload_n (md := mX11_frames) (pc := 14) 0 (kTab_at (pc := 14) tX11_frames_ok 8 rfl) rfl ?_
      refine K_getR (md := mX11_frames) (pc := 15) (b := 249) (kTab_at (pc := 15) tX11_frames_ok 9 rfl) fl_X11_7 sk_248 rfl rfl ?_
      refine K_iload_n (md := mX11_frames) (pc := 18) 1 (kTab_at (pc := 18) tX11_frames_ok 10 rfl) rfl ?_
      refine Z_iald (md := mX11_frames) (pc := 19) (kTab_at (pc := 19) tX11_frames_ok 11 rfl) sk_249 (by decide) h (fun x1 h => ?_)
      refine Z_iast (md := mX11_frames) (pc := 20) (kTab_at (pc := 20) tX11_frames_ok 12 rfl) sk_251 (by decide) h (fun μ h => ?_)
      refine K_iinc (md := mX11_frames) (pc := 21) (l' := [(1, .int (iI (v1 + 1))), (0, .ref (X.1 + 248))]) 1 (kTab_at (pc := 21) tX11_frames_ok 13 rfl) rfl (Nat.le_of_ble_eq_true rfl) rfl ?_
      refine K_goto (md := mX11_frames) (pc := 24) (tgt := 2) (kTab_at (pc := 24) tX11_frames_ok 14 rfl) rfl ?_
      refine K_sub [1, 0] rfl ?_
      exact ih (v1 + 1) μ h
def f_X11_frames  (μ : Mu) : Option Res := f_X11_frames_2 (fun μ => some (μ, 0, 0)) FU 0 μ
set_option maxRecDepth 100000 in
theorem c_X11_frames (X : kX)   (μ : Mu) : Cq X mX11_frames 0 0 μ [.ref (X.1 + 248)] (f_X11_frames  μ) := by
  intro res h
  refine ct_of (by decide +kernel) rfl (Nat.le_of_ble_eq_true rfl) ?_
  show KK X mX11_frames 0 0 res 0 [(0, .ref (X.1 + 248))] [] μ
  unfold f_X11_frames at h
  refine K_iconst (md := mX11_frames) (pc := 0) (x := 0) (kTab_at (pc := 0) tX11_frames_ok 0 rfl) rfl ?_
  refine K_istore_n (md := mX11_frames) (pc := 1) (l' := [(1, .int (iI 0)), (0, .ref (X.1 + 248))]) (kTab_at (pc := 1) tX11_frames_ok 1 rfl) (Nat.le_of_ble_eq_true rfl) rfl ?_
  refine K_sub [1, 0] rfl ?_
  refine c_X11_frames_2 X  _ ?_ _ 0 μ h
  · intro  μ h
    exact Z_vret (md := mX11_frames) (pc := 27) (kTab_at (pc := 27) tX11_frames_ok 15 rfl) rfl rfl h
def f_X11_keeps_55  (k91 : Mu → Option Res) : Nat → Int → Mu → Option Res
  | 0, _, _ => none
  | fu + 1, v1, μ => i_lt v1 779 (rdF μ 248 5 fun x1 => rdI μ 251 779 v1 fun x2 => wrI μ 252 4674 ((779 * (x1 - 1)) + v1) x2 fun μ => (f_X11_keeps_55 k91 fu) (v1 + 1) μ) (k91 μ)
set_option maxRecDepth 100000 in
theorem c_X11_keeps_55 (X : kX)   {res : Res} (k91 : Mu → Option Res) (hk91 : ∀ (μ : Mu), k91 μ = some res → KK X mX11_keeps 0 0 res 91 [] [] μ) : ∀ (fu : Nat)  (v1 : Int) (μ : Mu), f_X11_keeps_55 k91 fu v1 μ = some res → KK X mX11_keeps 0 0 res 55 [(0, .ref (X.1 + 248)), (1, .int (iI v1))] [] μ := by
  intro fu
  induction fu with
  | zero => intro v1 μ h; exact nomatch h
  | succ fu ih =>
    intro v1 μ h
    refine K_iload_n (md := mX11_keeps) (pc := 55) 1 (kTab_at (pc := 55) tX11_keeps_ok 30 rfl) rfl ?_
    refine K_sipush (md := mX11_keeps) (pc := 56) (x := 779) (kTab_at (pc := 56) tX11_keeps_ok 31 rfl) (by decide) ?_
    refine K_icmp_ge (md := mX11_keeps) (pc := 59) (kTab_at (pc := 59) tX11_keeps_ok 32 rfl) (tgt := 91) rfl h (fun h => ?_) (fun h => ?_)
    · refine K_sub [] rfl ?_
      exact hk91 μ h
    · refine K_aload_n (md := mX11_keeps) (pc := 62) 0 (kTab_at (pc := 62) tX11_keeps_ok 33 rfl) rfl ?_
      refine K_getR (md := mX11_keeps) (pc := 63) (b := 252) (kTab_at (pc := 63) tX11_keeps_ok 34 rfl) fl_X11_19 sk_248 rfl rfl ?_
      refine K_sipush (md := mX11_keeps) (pc := 66) (x := 779) (kTab_at (pc := 66) tX11_keeps_ok 35 rfl) (by decide) ?_
      refine K_aload_n (md := mX11_keeps) (pc := 69) 0 (kTab_at (pc := 69) tX11_keeps_ok 36 rfl) rfl ?_
      refine Z_getI (md := mX11_keeps) (pc := 70) (kTab_at (pc := 70) tX11_keeps_ok 37 rfl) fl_X11_55 sk_248 (Or.inl rfl) h (fun x1 h => ?_)
      refine K_iconst (md := mX11_keeps) (pc := 73) (x := 1) (kTab_at (pc := 73) tX11_keeps_ok 38 rfl) rfl ?_
      refine K_isub (md := mX11_keeps) (pc := 74) (kTab_at (pc := 74) tX11_keeps_ok 39 rfl) ?_
      refine K_imul (md := mX11_keeps) (pc := 75) (kTab_at (pc := 75) tX11_keeps_ok 40 rfl) ?_
      refine K_iload_n (md := mX11_keeps) (pc := 76) 1 (kTab_at (pc := 76) tX11_keeps_ok 41 rfl) rfl ?_
      refine K_iadd (md := mX11_keeps) (pc := 77) (kTab_at (pc := 77) tX11_keeps_ok 42 rfl) ?_
      refine K_aload_n (md := mX11_keeps) (pc := 78) 0 (kTab_at (pc := 78) tX11_keeps_ok 43 rfl) rfl ?_
      refine K_getR (md := mX11_keeps) (pc := 79) (b := 251) (kTab_at (pc := 79) tX11_keeps_ok 44 rfl) fl_X11_16 sk_248 rfl rfl ?_
      refine K_iload_n (md := mX11_keeps) (pc := 82) 1 (kTab_at (pc := 82) tX11_keeps_ok 45 rfl) rfl ?_
      refine Z_iald (md := mX11_keeps) (pc := 83) (kTab_at (pc := 83) tX11_keeps_ok 46 rfl) sk_251 (by decide) h (fun x2 h => ?_)
      refine Z_iast (md := mX11_keeps) (pc := 84) (kTab_at (pc := 84) tX11_keeps_ok 47 rfl) sk_252 (by decide) h (fun μ h => ?_)
      refine K_iinc (md := mX11_keeps) (pc := 85) (l' := [(1, .int (iI (v1 + 1))), (0, .ref (X.1 + 248))]) 1 (kTab_at (pc := 85) tX11_keeps_ok 48 rfl) rfl (Nat.le_of_ble_eq_true rfl) rfl ?_
      refine K_goto (md := mX11_keeps) (pc := 88) (tgt := 55) (kTab_at (pc := 88) tX11_keeps_ok 49 rfl) rfl ?_
      refine K_sub [1, 0] rfl ?_
      exact ih (v1 + 1) μ h
def f_X11_keeps_53    (μ : Mu) : Option Res := f_X11_keeps_55 (fun μ => some (μ, 0, 0)) FU 0 μ
set_option maxRecDepth 100000 in
theorem c_X11_keeps_53 (X : kX)   {res : Res}  (μ : Mu) (h : f_X11_keeps_53 μ = some res) : KK X mX11_keeps 0 0 res 53 [(0, .ref (X.1 + 248))] [] μ := by
  unfold f_X11_keeps_53 at h
  refine K_iconst (md := mX11_keeps) (pc := 53) (x := 0) (kTab_at (pc := 53) tX11_keeps_ok 28 rfl) rfl ?_
  refine K_istore_n (md := mX11_keeps) (pc := 54) (l' := [(1, .int (iI 0)), (0, .ref (X.1 + 248))]) (kTab_at (pc := 54) tX11_keeps_ok 29 rfl) (Nat.le_of_ble_eq_true rfl) rfl ?_
  refine K_sub [1, 0] rfl ?_
  refine c_X11_keeps_55 X  _ ?_ _ 0 μ h
  · intro  μ h
    exact Z_vret (md := mX11_keeps) (pc := 91) (kTab_at (pc := 91) tX11_keeps_ok 50 rfl) rfl rfl h
def f_X11_keeps_11  (k40 : Mu → Option Res) : Nat → Int → Mu → Option Res
  | 0, _, _ => none
  | fu + 1, v1, μ => i_lt v1 3895 (rdI μ 252 4674 (v1 + 779) fun x1 => wrI μ 252 4674 v1 x1 fun μ => (f_X11_keeps_11 k40 fu) (v1 + 1) μ) (k40 μ)
set_option maxRecDepth 100000 in
theorem c_X11_keeps_11 (X : kX)   {res : Res} (k40 : Mu → Option Res) (hk40 : ∀ (μ : Mu), k40 μ = some res → KK X mX11_keeps 0 0 res 40 [(0, .ref (X.1 + 248))] [] μ) : ∀ (fu : Nat)  (v1 : Int) (μ : Mu), f_X11_keeps_11 k40 fu v1 μ = some res → KK X mX11_keeps 0 0 res 11 [(0, .ref (X.1 + 248)), (1, .int (iI v1))] [] μ := by
  intro fu
  induction fu with
  | zero => intro v1 μ h; exact nomatch h
  | succ fu ih =>
    intro v1 μ h
    refine K_iload_n (md := mX11_keeps) (pc := 11) 1 (kTab_at (pc := 11) tX11_keeps_ok 6 rfl) rfl ?_
    refine K_sipush (md := mX11_keeps) (pc := 12) (x := 3895) (kTab_at (pc := 12) tX11_keeps_ok 7 rfl) (by decide) ?_
    refine K_icmp_ge (md := mX11_keeps) (pc := 15) (kTab_at (pc := 15) tX11_keeps_ok 8 rfl) (tgt := 40) rfl h (fun h => ?_) (fun h => ?_)
    · refine K_sub [0] rfl ?_
      exact hk40 μ h
    · refine K_aload_n (md := mX11_keeps) (pc := 18) 0 (kTab_at (pc := 18) tX11_keeps_ok 9 rfl) rfl ?_
      refine K_getR (md := mX11_keeps) (pc := 19) (b := 252) (kTab_at (pc := 19) tX11_keeps_ok 10 rfl) fl_X11_19 sk_248 rfl rfl ?_
      refine K_iload_n (md := mX11_keeps) (pc := 22) 1 (kTab_at (pc := 22) tX11_keeps_ok 11 rfl) rfl ?_
      refine K_aload_n (md := mX11_keeps) (pc := 23) 0 (kTab_at (pc := 23) tX11_keeps_ok 12 rfl) rfl ?_
      refine K_getR (md := mX11_keeps) (pc := 24) (b := 252) (kTab_at (pc := 24) tX11_keeps_ok 13 rfl) fl_X11_19 sk_248 rfl rfl ?_
      refine K_iload_n (md := mX11_keeps) (pc := 27) 1 (kTab_at (pc := 27) tX11_keeps_ok 14 rfl) rfl ?_
      refine K_sipush (md := mX11_keeps) (pc := 28) (x := 779) (kTab_at (pc := 28) tX11_keeps_ok 15 rfl) (by decide) ?_
      refine K_iadd (md := mX11_keeps) (pc := 31) (kTab_at (pc := 31) tX11_keeps_ok 16 rfl) ?_
      refine Z_iald (md := mX11_keeps) (pc := 32) (kTab_at (pc := 32) tX11_keeps_ok 17 rfl) sk_252 (by decide) h (fun x1 h => ?_)
      refine Z_iast (md := mX11_keeps) (pc := 33) (kTab_at (pc := 33) tX11_keeps_ok 18 rfl) sk_252 (by decide) h (fun μ h => ?_)
      refine K_iinc (md := mX11_keeps) (pc := 34) (l' := [(1, .int (iI (v1 + 1))), (0, .ref (X.1 + 248))]) 1 (kTab_at (pc := 34) tX11_keeps_ok 19 rfl) rfl (Nat.le_of_ble_eq_true rfl) rfl ?_
      refine K_goto (md := mX11_keeps) (pc := 37) (tgt := 11) (kTab_at (pc := 37) tX11_keeps_ok 20 rfl) rfl ?_
      refine K_sub [1, 0] rfl ?_
      exact ih (v1 + 1) μ h
def f_X11_keeps  (μ : Mu) : Option Res := rdF μ 248 5 fun x1 => i_eq x1 6 (f_X11_keeps_11 (fun μ => f_X11_keeps_53 μ) FU 0 μ) (rdF μ 248 5 fun x2 => wrF μ 248 5 (x2 + 1) fun μ => f_X11_keeps_53 μ)
set_option maxRecDepth 100000 in
theorem c_X11_keeps (X : kX)   (μ : Mu) : Cq X mX11_keeps 0 0 μ [.ref (X.1 + 248)] (f_X11_keeps  μ) := by
  intro res h
  refine ct_of (by decide +kernel) rfl (Nat.le_of_ble_eq_true rfl) ?_
  show KK X mX11_keeps 0 0 res 0 [(0, .ref (X.1 + 248))] [] μ
  unfold f_X11_keeps at h
  refine K_aload_n (md := mX11_keeps) (pc := 0) 0 (kTab_at (pc := 0) tX11_keeps_ok 0 rfl) rfl ?_
  refine Z_getI (md := mX11_keeps) (pc := 1) (kTab_at (pc := 1) tX11_keeps_ok 1 rfl) fl_X11_55 sk_248 (Or.inl rfl) h (fun x1 h => ?_)
  refine K_bipush (md := mX11_keeps) (pc := 4) (x := 6) (kTab_at (pc := 4) tX11_keeps_ok 2 rfl) (by decide) ?_
  refine K_icmp_ne (md := mX11_keeps) (pc := 6) (kTab_at (pc := 6) tX11_keeps_ok 3 rfl) (tgt := 43) rfl h (fun h => ?_) (fun h => ?_)
  · refine K_aload_n (md := mX11_keeps) (pc := 43) 0 (kTab_at (pc := 43) tX11_keeps_ok 22 rfl) rfl ?_
    refine K_dup (md := mX11_keeps) (pc := 44) (kTab_at (pc := 44) tX11_keeps_ok 23 rfl) rfl ?_
    refine Z_getI (md := mX11_keeps) (pc := 45) (kTab_at (pc := 45) tX11_keeps_ok 24 rfl) fl_X11_55 sk_248 (Or.inl rfl) h (fun x2 h => ?_)
    refine K_iconst (md := mX11_keeps) (pc := 48) (x := 1) (kTab_at (pc := 48) tX11_keeps_ok 25 rfl) rfl ?_
    refine K_iadd (md := mX11_keeps) (pc := 49) (kTab_at (pc := 49) tX11_keeps_ok 26 rfl) ?_
    refine Z_putI (md := mX11_keeps) (pc := 50) (kTab_at (pc := 50) tX11_keeps_ok 27 rfl) fl_X11_55 sk_248 rfl h (fun μ h => ?_)
    refine c_X11_keeps_53 X   μ h
  · refine K_iconst (md := mX11_keeps) (pc := 9) (x := 0) (kTab_at (pc := 9) tX11_keeps_ok 4 rfl) rfl ?_
    refine K_istore_n (md := mX11_keeps) (pc := 10) (l' := [(1, .int (iI 0)), (0, .ref (X.1 + 248))]) (kTab_at (pc := 10) tX11_keeps_ok 5 rfl) (Nat.le_of_ble_eq_true rfl) rfl ?_
    refine K_sub [1, 0] rfl ?_
    refine c_X11_keeps_11 X  _ ?_ _ 0 μ h
    · intro  μ h
      refine K_goto (md := mX11_keeps) (pc := 40) (tgt := 53) (kTab_at (pc := 40) tX11_keeps_ok 21 rfl) rfl ?_
      refine c_X11_keeps_53 X   μ h
def f_X11_changes  (μ : Mu) : Option Res := rb (f_X11_frames μ) fun μ _ => rb (f_X11_keeps μ) fun μ _ => some (μ, 0, 0)
set_option maxRecDepth 100000 in
theorem c_X11_changes (X : kX)   (μ : Mu) : Cq X mX11_changes 1 0 μ [.ref (X.1 + 248)] (f_X11_changes  μ) := by
  intro res h
  refine ct_of (by decide +kernel) rfl (Nat.le_of_ble_eq_true rfl) ?_
  show KK X mX11_changes 1 0 res 0 [(0, .ref (X.1 + 248))] [] μ
  unfold f_X11_changes at h
  refine K_aload_n (md := mX11_changes) (pc := 0) 0 (kTab_at (pc := 0) tX11_changes_ok 0 rfl) rfl ?_
  refine Z_callV (md := mX11_changes) (pc := 1) (st := []) (sv := (fun _ => [])) (kTab_at (pc := 1) tX11_changes_ok 1 rfl) mv_X11_58 sk_248 rfl (Nat.le_of_ble_eq_true rfl) (by decide) rfl (c_X11_frames X μ) (fun _ => rfl) h (fun μ _ h => ?_) rfl
  refine K_aload_n (md := mX11_changes) (pc := 4) 0 (kTab_at (pc := 4) tX11_changes_ok 2 rfl) rfl ?_
  refine Z_callV (md := mX11_changes) (pc := 5) (st := []) (sv := (fun _ => [])) (kTab_at (pc := 5) tX11_changes_ok 3 rfl) mv_X11_61 sk_248 rfl (Nat.le_of_ble_eq_true rfl) (by decide) rfl (c_X11_keeps X μ) (fun _ => rfl) h (fun μ _ h => ?_) rfl
  exact Z_vret (md := mX11_changes) (pc := 8) (kTab_at (pc := 8) tX11_changes_ok 4 rfl) rfl rfl h
def f_X11_markedAt (p0 : Int) (p1 : Int) (p2 : Int) (μ : Mu) : Option Res := some (μ, 0, (((44 + (25 * p0)) + (5 * p1)) + p2))
set_option maxRecDepth 100000 in
theorem c_X11_markedAt (X : kX) (p0 : Int) (p1 : Int) (p2 : Int)  (μ : Mu) : Cq X mX11_markedAt 0 1 μ [.int (iI p0), .int (iI p1), .int (iI p2)] (f_X11_markedAt p0 p1 p2 μ) := by
  intro res h
  refine ct_of (by decide +kernel) rfl (Nat.le_of_ble_eq_true rfl) ?_
  show KK X mX11_markedAt 0 1 res 0 [(0, .int (iI p0)), (1, .int (iI p1)), (2, .int (iI p2))] [] μ
  unfold f_X11_markedAt at h
  refine K_bipush (md := mX11_markedAt) (pc := 0) (x := 44) (kTab_at (pc := 0) tX11_markedAt_ok 0 rfl) (by decide) ?_
  refine K_bipush (md := mX11_markedAt) (pc := 2) (x := 25) (kTab_at (pc := 2) tX11_markedAt_ok 1 rfl) (by decide) ?_
  refine K_iload_n (md := mX11_markedAt) (pc := 4) 0 (kTab_at (pc := 4) tX11_markedAt_ok 2 rfl) rfl ?_
  refine K_imul (md := mX11_markedAt) (pc := 5) (kTab_at (pc := 5) tX11_markedAt_ok 3 rfl) ?_
  refine K_iadd (md := mX11_markedAt) (pc := 6) (kTab_at (pc := 6) tX11_markedAt_ok 4 rfl) ?_
  refine K_iconst (md := mX11_markedAt) (pc := 7) (x := 5) (kTab_at (pc := 7) tX11_markedAt_ok 5 rfl) rfl ?_
  refine K_iload_n (md := mX11_markedAt) (pc := 8) 1 (kTab_at (pc := 8) tX11_markedAt_ok 6 rfl) rfl ?_
  refine K_imul (md := mX11_markedAt) (pc := 9) (kTab_at (pc := 9) tX11_markedAt_ok 7 rfl) ?_
  refine K_iadd (md := mX11_markedAt) (pc := 10) (kTab_at (pc := 10) tX11_markedAt_ok 8 rfl) ?_
  refine K_iload_n (md := mX11_markedAt) (pc := 11) 2 (kTab_at (pc := 11) tX11_markedAt_ok 9 rfl) rfl ?_
  refine K_iadd (md := mX11_markedAt) (pc := 12) (kTab_at (pc := 12) tX11_markedAt_ok 10 rfl) ?_
  exact Z_iret (md := mX11_markedAt) (pc := 13) (kTab_at (pc := 13) tX11_markedAt_ok 11 rfl) rfl rfl rfl h
def f_X11_deviation (p1 : Int) (p2 : Int) (p3 : Int) (μ : Mu) : Option Res := rb (f_X11_markedAt p1 p2 p3 μ) fun μ x1 => rdI μ 249 779 x1 fun x2 => rdI μ 249 779 ((19 + (5 * p2)) + p3) fun x3 => some (μ, 0, ((x2 - 1) - x3))
set_option maxRecDepth 100000 in
theorem c_X11_deviation (X : kX) (p1 : Int) (p2 : Int) (p3 : Int)  (μ : Mu) : Cq X mX11_deviation 1 1 μ [.ref (X.1 + 248), .int (iI p1), .int (iI p2), .int (iI p3)] (f_X11_deviation p1 p2 p3 μ) := by
  intro res h
  refine ct_of (by decide +kernel) rfl (Nat.le_of_ble_eq_true rfl) ?_
  show KK X mX11_deviation 1 1 res 0 [(0, .ref (X.1 + 248)), (1, .int (iI p1)), (2, .int (iI p2)), (3, .int (iI p3))] [] μ
  unfold f_X11_deviation at h
  refine K_aload_n (md := mX11_deviation) (pc := 0) 0 (kTab_at (pc := 0) tX11_deviation_ok 0 rfl) rfl ?_
  refine K_getR (md := mX11_deviation) (pc := 1) (b := 249) (kTab_at (pc := 1) tX11_deviation_ok 1 rfl) fl_X11_7 sk_248 rfl rfl ?_
  refine K_iload_n (md := mX11_deviation) (pc := 4) 1 (kTab_at (pc := 4) tX11_deviation_ok 2 rfl) rfl ?_
  refine K_iload_n (md := mX11_deviation) (pc := 5) 2 (kTab_at (pc := 5) tX11_deviation_ok 3 rfl) rfl ?_
  refine K_iload_n (md := mX11_deviation) (pc := 6) 3 (kTab_at (pc := 6) tX11_deviation_ok 4 rfl) rfl ?_
  refine Z_callS (md := mX11_deviation) (pc := 7) (st := [.ref (X.1 + 249)]) (sv := (fun x1 => [.int (iI x1), .ref (X.1 + 249)])) (kTab_at (pc := 7) tX11_deviation_ok 5 rfl) ms_X11_64 rfl (Nat.le_of_ble_eq_true rfl) (by decide) rfl (c_X11_markedAt X p1 p2 p3 μ) (fun _ => rfl) h (fun μ x1 h => ?_) rfl
  refine Z_iald (md := mX11_deviation) (pc := 10) (kTab_at (pc := 10) tX11_deviation_ok 6 rfl) sk_249 (by decide) h (fun x2 h => ?_)
  refine K_iconst (md := mX11_deviation) (pc := 11) (x := 1) (kTab_at (pc := 11) tX11_deviation_ok 7 rfl) rfl ?_
  refine K_isub (md := mX11_deviation) (pc := 12) (kTab_at (pc := 12) tX11_deviation_ok 8 rfl) ?_
  refine K_aload_n (md := mX11_deviation) (pc := 13) 0 (kTab_at (pc := 13) tX11_deviation_ok 9 rfl) rfl ?_
  refine K_getR (md := mX11_deviation) (pc := 14) (b := 249) (kTab_at (pc := 14) tX11_deviation_ok 10 rfl) fl_X11_7 sk_248 rfl rfl ?_
  refine K_bipush (md := mX11_deviation) (pc := 17) (x := 19) (kTab_at (pc := 17) tX11_deviation_ok 11 rfl) (by decide) ?_
  refine K_iconst (md := mX11_deviation) (pc := 19) (x := 5) (kTab_at (pc := 19) tX11_deviation_ok 12 rfl) rfl ?_
  refine K_iload_n (md := mX11_deviation) (pc := 20) 2 (kTab_at (pc := 20) tX11_deviation_ok 13 rfl) rfl ?_
  refine K_imul (md := mX11_deviation) (pc := 21) (kTab_at (pc := 21) tX11_deviation_ok 14 rfl) ?_
  refine K_iadd (md := mX11_deviation) (pc := 22) (kTab_at (pc := 22) tX11_deviation_ok 15 rfl) ?_
  refine K_iload_n (md := mX11_deviation) (pc := 23) 3 (kTab_at (pc := 23) tX11_deviation_ok 16 rfl) rfl ?_
  refine K_iadd (md := mX11_deviation) (pc := 24) (kTab_at (pc := 24) tX11_deviation_ok 17 rfl) ?_
  refine Z_iald (md := mX11_deviation) (pc := 25) (kTab_at (pc := 25) tX11_deviation_ok 18 rfl) sk_249 (by decide) h (fun x3 h => ?_)
  refine K_isub (md := mX11_deviation) (pc := 26) (kTab_at (pc := 26) tX11_deviation_ok 19 rfl) ?_
  exact Z_iret (md := mX11_deviation) (pc := 27) (kTab_at (pc := 27) tX11_deviation_ok 20 rfl) rfl rfl rfl h
def f_X11_hasMarked_19 (p1 : Int) (p2 : Int) (p3 : Int)  (s0 : Int) (μ : Mu) : Option Res := retZ μ s0
set_option maxRecDepth 100000 in
theorem c_X11_hasMarked_19 (X : kX) (p1 : Int) (p2 : Int) (p3 : Int)  {res : Res}  (s0 : Int) (μ : Mu) (h : f_X11_hasMarked_19 p1 p2 p3 s0 μ = some res) : KK X mX11_hasMarked 1 1 res 19 [] [.int (iI s0)] μ := by
  unfold f_X11_hasMarked_19 at h
  exact Z_zret (md := mX11_hasMarked) (pc := 19) (kTab_at (pc := 19) tX11_hasMarked_ok 11 rfl) rfl rfl h
def f_X11_hasMarked (p1 : Int) (p2 : Int) (p3 : Int) (μ : Mu) : Option Res := rb (f_X11_markedAt p1 p2 p3 μ) fun μ x1 => rdI μ 249 779 x1 fun x2 => i_lt 0 x2 (f_X11_hasMarked_19 p1 p2 p3 1 μ) (f_X11_hasMarked_19 p1 p2 p3 0 μ)
set_option maxRecDepth 100000 in
theorem c_X11_hasMarked (X : kX) (p1 : Int) (p2 : Int) (p3 : Int)  (μ : Mu) : Cq X mX11_hasMarked 1 1 μ [.ref (X.1 + 248), .int (iI p1), .int (iI p2), .int (iI p3)] (f_X11_hasMarked p1 p2 p3 μ) := by
  intro res h
  refine ct_of (by decide +kernel) rfl (Nat.le_of_ble_eq_true rfl) ?_
  show KK X mX11_hasMarked 1 1 res 0 [(0, .ref (X.1 + 248)), (1, .int (iI p1)), (2, .int (iI p2)), (3, .int (iI p3))] [] μ
  unfold f_X11_hasMarked at h
  refine K_aload_n (md := mX11_hasMarked) (pc := 0) 0 (kTab_at (pc := 0) tX11_hasMarked_ok 0 rfl) rfl ?_
  refine K_getR (md := mX11_hasMarked) (pc := 1) (b := 249) (kTab_at (pc := 1) tX11_hasMarked_ok 1 rfl) fl_X11_7 sk_248 rfl rfl ?_
  refine K_iload_n (md := mX11_hasMarked) (pc := 4) 1 (kTab_at (pc := 4) tX11_hasMarked_ok 2 rfl) rfl ?_
  refine K_iload_n (md := mX11_hasMarked) (pc := 5) 2 (kTab_at (pc := 5) tX11_hasMarked_ok 3 rfl) rfl ?_
  refine K_iload_n (md := mX11_hasMarked) (pc := 6) 3 (kTab_at (pc := 6) tX11_hasMarked_ok 4 rfl) rfl ?_
  refine Z_callS (md := mX11_hasMarked) (pc := 7) (st := [.ref (X.1 + 249)]) (sv := (fun x1 => [.int (iI x1), .ref (X.1 + 249)])) (kTab_at (pc := 7) tX11_hasMarked_ok 5 rfl) ms_X11_64 rfl (Nat.le_of_ble_eq_true rfl) (by decide) rfl (c_X11_markedAt X p1 p2 p3 μ) (fun _ => rfl) h (fun μ x1 h => ?_) rfl
  refine Z_iald (md := mX11_hasMarked) (pc := 10) (kTab_at (pc := 10) tX11_hasMarked_ok 6 rfl) sk_249 (by decide) h (fun x2 h => ?_)
  refine K_if_le (md := mX11_hasMarked) (pc := 11) (kTab_at (pc := 11) tX11_hasMarked_ok 7 rfl) (tgt := 18) rfl h (fun h => ?_) (fun h => ?_)
  · refine K_iconst (md := mX11_hasMarked) (pc := 18) (x := 0) (kTab_at (pc := 18) tX11_hasMarked_ok 10 rfl) rfl ?_
    refine K_sub [] rfl ?_
    refine c_X11_hasMarked_19 X p1 p2 p3  0 μ h
  · refine K_iconst (md := mX11_hasMarked) (pc := 14) (x := 1) (kTab_at (pc := 14) tX11_hasMarked_ok 8 rfl) rfl ?_
    refine K_goto (md := mX11_hasMarked) (pc := 15) (tgt := 19) (kTab_at (pc := 15) tX11_hasMarked_ok 9 rfl) rfl ?_
    refine K_sub [] rfl ?_
    refine c_X11_hasMarked_19 X p1 p2 p3  1 μ h
def f_X11_suspended_58 (p1 : Int) (p2 : Int) (k5 : Int → Int → Mu → Option Res) (v4 : Int) (s0 : Int) (μ : Mu) : Option Res := k5 s0 (v4 + 1) μ
set_option maxRecDepth 100000 in
theorem c_X11_suspended_58 (X : kX) (p1 : Int) (p2 : Int)  {res : Res} (k5 : Int → Int → Mu → Option Res) (hk5 : ∀ (v3 : Int), ∀ (v4 : Int), ∀ (μ : Mu), k5 v3 v4 μ = some res → KK X mX11_suspended 2 1 res 5 [(0, .ref (X.1 + 248)), (1, .int (iI p1)), (2, .int (iI p2)), (3, .int (iI v3)), (4, .int (iI v4))] [] μ) (v4 : Int) (s0 : Int) (μ : Mu) (h : f_X11_suspended_58 p1 p2 k5 v4 s0 μ = some res) : KK X mX11_suspended 2 1 res 58 [(0, .ref (X.1 + 248)), (1, .int (iI p1)), (2, .int (iI p2)), (4, .int (iI v4))] [.int (iI s0)] μ := by
  unfold f_X11_suspended_58 at h
  refine K_istore_n (md := mX11_suspended) (pc := 58) (l' := [(3, .int (iI s0)), (0, .ref (X.1 + 248)), (1, .int (iI p1)), (2, .int (iI p2)), (4, .int (iI v4))]) (kTab_at (pc := 58) tX11_suspended_ok 33 rfl) (Nat.le_of_ble_eq_true rfl) rfl ?_
  refine K_iinc (md := mX11_suspended) (pc := 59) (l' := [(4, .int (iI (v4 + 1))), (3, .int (iI s0)), (0, .ref (X.1 + 248)), (1, .int (iI p1)), (2, .int (iI p2))]) 4 (kTab_at (pc := 59) tX11_suspended_ok 34 rfl) rfl (Nat.le_of_ble_eq_true rfl) rfl ?_
  refine K_goto (md := mX11_suspended) (pc := 62) (tgt := 5) (kTab_at (pc := 62) tX11_suspended_ok 35 rfl) rfl ?_
  refine K_sub [2, 3, 4, 1, 0] rfl ?_
  exact hk5 s0 (v4 + 1) μ h
def f_X11_suspended_53 (p1 : Int) (p2 : Int) (k5 : Int → Int → Mu → Option Res) (v4 : Int) (μ : Mu) : Option Res := f_X11_suspended_58 p1 p2 k5 v4 1 μ
set_option maxRecDepth 100000 in
theorem c_X11_suspended_53 (X : kX) (p1 : Int) (p2 : Int)  {res : Res} (k5 : Int → Int → Mu → Option Res) (hk5 : ∀ (v3 : Int), ∀ (v4 : Int), ∀ (μ : Mu), k5 v3 v4 μ = some res → KK X mX11_suspended 2 1 res 5 [(0, .ref (X.1 + 248)), (1, .int (iI p1)), (2, .int (iI p2)), (3, .int (iI v3)), (4, .int (iI v4))] [] μ) (v4 : Int) (μ : Mu) (h : f_X11_suspended_53 p1 p2 k5 v4 μ = some res) : KK X mX11_suspended 2 1 res 53 [(0, .ref (X.1 + 248)), (1, .int (iI p1)), (2, .int (iI p2)), (4, .int (iI v4))] [] μ := by
  unfold f_X11_suspended_53 at h
  refine K_iconst (md := mX11_suspended) (pc := 53) (x := 1) (kTab_at (pc := 53) tX11_suspended_ok 30 rfl) rfl ?_
  refine K_goto (md := mX11_suspended) (pc := 54) (tgt := 58) (kTab_at (pc := 54) tX11_suspended_ok 31 rfl) rfl ?_
  refine c_X11_suspended_58 X p1 p2 _ hk5 v4 1 μ h
def f_X11_suspended_57 (p1 : Int) (p2 : Int) (k5 : Int → Int → Mu → Option Res) (v4 : Int) (μ : Mu) : Option Res := f_X11_suspended_58 p1 p2 k5 v4 0 μ
set_option maxRecDepth 100000 in
theorem c_X11_suspended_57 (X : kX) (p1 : Int) (p2 : Int)  {res : Res} (k5 : Int → Int → Mu → Option Res) (hk5 : ∀ (v3 : Int), ∀ (v4 : Int), ∀ (μ : Mu), k5 v3 v4 μ = some res → KK X mX11_suspended 2 1 res 5 [(0, .ref (X.1 + 248)), (1, .int (iI p1)), (2, .int (iI p2)), (3, .int (iI v3)), (4, .int (iI v4))] [] μ) (v4 : Int) (μ : Mu) (h : f_X11_suspended_57 p1 p2 k5 v4 μ = some res) : KK X mX11_suspended 2 1 res 57 [(0, .ref (X.1 + 248)), (1, .int (iI p1)), (2, .int (iI p2)), (4, .int (iI v4))] [] μ := by
  unfold f_X11_suspended_57 at h
  refine K_iconst (md := mX11_suspended) (pc := 57) (x := 0) (kTab_at (pc := 57) tX11_suspended_ok 32 rfl) rfl ?_
  refine c_X11_suspended_58 X p1 p2 _ hk5 v4 0 μ h
def f_X11_suspended_5 (p1 : Int) (p2 : Int) (k65 : Int → Mu → Option Res) : Nat → Int → Int → Mu → Option Res
  | 0, _, _, _ => none
  | fu + 1, v3, v4, μ => rdI μ 249 779 (14 + p2) fun x1 => i_lt v4 x1 (i_eq v3 0 (rb (f_X11_hasMarked p1 p2 v4 μ) fun μ x2 => i_eq x2 0 (f_X11_suspended_57 p1 p2 (f_X11_suspended_5 p1 p2 k65 fu) v4 μ) (rb (f_X11_deviation p1 p2 v4 μ) fun μ x3 => rb (f_X11_amount x3 μ) fun μ x4 => rb (f_X11_setting 1 μ) fun μ x5 => i_lt x5 x4 (f_X11_suspended_53 p1 p2 (f_X11_suspended_5 p1 p2 k65 fu) v4 μ) (f_X11_suspended_57 p1 p2 (f_X11_suspended_5 p1 p2 k65 fu) v4 μ))) (f_X11_suspended_53 p1 p2 (f_X11_suspended_5 p1 p2 k65 fu) v4 μ)) (k65 v3 μ)
set_option maxRecDepth 100000 in
theorem c_X11_suspended_5 (X : kX) (p1 : Int) (p2 : Int)  {res : Res} (k65 : Int → Mu → Option Res) (hk65 : ∀ (v3 : Int), ∀ (μ : Mu), k65 v3 μ = some res → KK X mX11_suspended 2 1 res 65 [(3, .int (iI v3))] [] μ) : ∀ (fu : Nat)  (v3 : Int) (v4 : Int) (μ : Mu), f_X11_suspended_5 p1 p2 k65 fu v3 v4 μ = some res → KK X mX11_suspended 2 1 res 5 [(0, .ref (X.1 + 248)), (1, .int (iI p1)), (2, .int (iI p2)), (3, .int (iI v3)), (4, .int (iI v4))] [] μ := by
  intro fu
  induction fu with
  | zero => intro v3 v4 μ h; exact nomatch h
  | succ fu ih =>
    intro v3 v4 μ h
    refine K_iload (md := mX11_suspended) (pc := 5) 4 (kTab_at (pc := 5) tX11_suspended_ok 4 rfl) rfl ?_
    refine K_aload_n (md := mX11_suspended) (pc := 7) 0 (kTab_at (pc := 7) tX11_suspended_ok 5 rfl) rfl ?_
    refine K_getR (md := mX11_suspended) (pc := 8) (b := 249) (kTab_at (pc := 8) tX11_suspended_ok 6 rfl) fl_X11_7 sk_248 rfl rfl ?_
    refine K_bipush (md := mX11_suspended) (pc := 11) (x := 14) (kTab_at (pc := 11) tX11_suspended_ok 7 rfl) (by decide) ?_
    refine K_iload_n (md := mX11_suspended) (pc := 13) 2 (kTab_at (pc := 13) tX11_suspended_ok 8 rfl) rfl ?_
    refine K_iadd (md := mX11_suspended) (pc := 14) (kTab_at (pc := 14) tX11_suspended_ok 9 rfl) ?_
    refine Z_iald (md := mX11_suspended) (pc := 15) (kTab_at (pc := 15) tX11_suspended_ok 10 rfl) sk_249 (by decide) h (fun x1 h => ?_)
    refine K_icmp_ge (md := mX11_suspended) (pc := 16) (kTab_at (pc := 16) tX11_suspended_ok 11 rfl) (tgt := 65) rfl h (fun h => ?_) (fun h => ?_)
    · refine K_sub [3] rfl ?_
      exact hk65 v3 μ h
    · refine K_iload_n (md := mX11_suspended) (pc := 19) 3 (kTab_at (pc := 19) tX11_suspended_ok 12 rfl) rfl ?_
      refine K_if_ne (md := mX11_suspended) (pc := 20) (kTab_at (pc := 20) tX11_suspended_ok 13 rfl) (tgt := 53) rfl h (fun h => ?_) (fun h => ?_)
      · refine K_sub [0, 1, 2, 4] rfl ?_
        refine c_X11_suspended_53 X p1 p2 _ ih v4 μ h
      · refine K_aload_n (md := mX11_suspended) (pc := 23) 0 (kTab_at (pc := 23) tX11_suspended_ok 14 rfl) rfl ?_
        refine K_iload_n (md := mX11_suspended) (pc := 24) 1 (kTab_at (pc := 24) tX11_suspended_ok 15 rfl) rfl ?_
        refine K_iload_n (md := mX11_suspended) (pc := 25) 2 (kTab_at (pc := 25) tX11_suspended_ok 16 rfl) rfl ?_
        refine K_iload (md := mX11_suspended) (pc := 26) 4 (kTab_at (pc := 26) tX11_suspended_ok 17 rfl) rfl ?_
        refine Z_callV (md := mX11_suspended) (pc := 28) (st := []) (sv := (fun x2 => [.int (iI x2)])) (kTab_at (pc := 28) tX11_suspended_ok 18 rfl) mv_X11_68 sk_248 rfl (Nat.le_of_ble_eq_true rfl) (by decide) rfl (c_X11_hasMarked X p1 p2 v4 μ) (fun _ => rfl) h (fun μ x2 h => ?_) rfl
        refine K_if_eq (md := mX11_suspended) (pc := 31) (kTab_at (pc := 31) tX11_suspended_ok 19 rfl) (tgt := 57) rfl h (fun h => ?_) (fun h => ?_)
        · refine K_sub [0, 1, 2, 4] rfl ?_
          refine c_X11_suspended_57 X p1 p2 _ ih v4 μ h
        · refine K_aload_n (md := mX11_suspended) (pc := 34) 0 (kTab_at (pc := 34) tX11_suspended_ok 20 rfl) rfl ?_
          refine K_iload_n (md := mX11_suspended) (pc := 35) 1 (kTab_at (pc := 35) tX11_suspended_ok 21 rfl) rfl ?_
          refine K_iload_n (md := mX11_suspended) (pc := 36) 2 (kTab_at (pc := 36) tX11_suspended_ok 22 rfl) rfl ?_
          refine K_iload (md := mX11_suspended) (pc := 37) 4 (kTab_at (pc := 37) tX11_suspended_ok 23 rfl) rfl ?_
          refine Z_callV (md := mX11_suspended) (pc := 39) (st := []) (sv := (fun x3 => [.int (iI x3)])) (kTab_at (pc := 39) tX11_suspended_ok 24 rfl) mv_X11_71 sk_248 rfl (Nat.le_of_ble_eq_true rfl) (by decide) rfl (c_X11_deviation X p1 p2 v4 μ) (fun _ => rfl) h (fun μ x3 h => ?_) rfl
          refine Z_callS (md := mX11_suspended) (pc := 42) (st := []) (sv := (fun x4 => [.int (iI x4)])) (kTab_at (pc := 42) tX11_suspended_ok 25 rfl) ms_X11_74 rfl (Nat.le_of_ble_eq_true rfl) (by decide) rfl (c_X11_amount X x3 μ) (fun _ => rfl) h (fun μ x4 h => ?_) rfl
          refine K_aload_n (md := mX11_suspended) (pc := 45) 0 (kTab_at (pc := 45) tX11_suspended_ok 26 rfl) rfl ?_
          refine K_iconst (md := mX11_suspended) (pc := 46) (x := 1) (kTab_at (pc := 46) tX11_suspended_ok 27 rfl) rfl ?_
          refine Z_callV (md := mX11_suspended) (pc := 47) (st := [.int (iI x4)]) (sv := (fun x5 => [.int (iI x5), .int (iI x4)])) (kTab_at (pc := 47) tX11_suspended_ok 28 rfl) mv_X11_78 sk_248 rfl (Nat.le_of_ble_eq_true rfl) (by decide) rfl (c_X11_setting X 1 μ) (fun _ => rfl) h (fun μ x5 h => ?_) rfl
          refine K_icmp_le (md := mX11_suspended) (pc := 50) (kTab_at (pc := 50) tX11_suspended_ok 29 rfl) (tgt := 57) rfl h (fun h => ?_) (fun h => ?_)
          · refine K_sub [0, 1, 2, 4] rfl ?_
            refine c_X11_suspended_57 X p1 p2 _ ih v4 μ h
          · refine K_sub [0, 1, 2, 4] rfl ?_
            refine c_X11_suspended_53 X p1 p2 _ ih v4 μ h
def f_X11_suspended (p1 : Int) (p2 : Int) (μ : Mu) : Option Res := f_X11_suspended_5 p1 p2 (fun v3 μ => retZ μ v3) FU 0 0 μ
set_option maxRecDepth 100000 in
theorem c_X11_suspended (X : kX) (p1 : Int) (p2 : Int)  (μ : Mu) : Cq X mX11_suspended 2 1 μ [.ref (X.1 + 248), .int (iI p1), .int (iI p2)] (f_X11_suspended p1 p2 μ) := by
  intro res h
  refine ct_of (by decide +kernel) rfl (Nat.le_of_ble_eq_true rfl) ?_
  show KK X mX11_suspended 2 1 res 0 [(0, .ref (X.1 + 248)), (1, .int (iI p1)), (2, .int (iI p2))] [] μ
  unfold f_X11_suspended at h
  refine K_iconst (md := mX11_suspended) (pc := 0) (x := 0) (kTab_at (pc := 0) tX11_suspended_ok 0 rfl) rfl ?_
  refine K_istore_n (md := mX11_suspended) (pc := 1) (l' := [(3, .int (iI 0)), (0, .ref (X.1 + 248)), (1, .int (iI p1)), (2, .int (iI p2))]) (kTab_at (pc := 1) tX11_suspended_ok 1 rfl) (Nat.le_of_ble_eq_true rfl) rfl ?_
  refine K_iconst (md := mX11_suspended) (pc := 2) (x := 0) (kTab_at (pc := 2) tX11_suspended_ok 2 rfl) rfl ?_
  refine K_istore (md := mX11_suspended) (pc := 3) (l' := [(4, .int (iI 0)), (3, .int (iI 0)), (0, .ref (X.1 + 248)), (1, .int (iI p1)), (2, .int (iI p2))]) (kTab_at (pc := 3) tX11_suspended_ok 3 rfl) (Nat.le_of_ble_eq_true rfl) rfl ?_
  refine K_sub [2, 3, 4, 1, 0] rfl ?_
  refine c_X11_suspended_5 X p1 p2 _ ?_ _ 0 0 μ h
  · intro v3 μ h
    refine K_iload_n (md := mX11_suspended) (pc := 65) 0 (kTab_at (pc := 65) tX11_suspended_ok 36 rfl) rfl ?_
    exact Z_zret (md := mX11_suspended) (pc := 66) (kTab_at (pc := 66) tX11_suspended_ok 37 rfl) rfl rfl h

def f_X10_set_9 (p1 : Int) (p2 : Int)   (μ : Mu) : Option Res := some (μ, 3, 0)
set_option maxRecDepth 100000 in
theorem c_X10_set_9 (X : kX) (p1 : Int) (p2 : Int)  {res : Res}  (μ : Mu) (h : f_X10_set_9 p1 p2 μ = some res) : KK X mX10_set 4 1 res 9 [] [] μ := by
  unfold f_X10_set_9 at h
  exact Z_th (md := mX10_set) (pc := 9) (text := "no such setting") th_2 ck_2 (by decide +kernel) rfl (kTab_at (pc := 9) tX10_set_ok 5 rfl) (kTab_at (pc := 12) tX10_set_ok 6 rfl) (kTab_at (pc := 13) tX10_set_ok 7 rfl) (kTab_at (pc := 15) tX10_set_ok 8 rfl) (kTab_at (pc := 18) tX10_set_ok 9 rfl) h
def f_X10_set_42 (p1 : Int) (p2 : Int)   (μ : Mu) : Option Res := rdI μ (1 + 2) 5 p1 fun x1 => rb (f_X4_keep 1 μ) fun μ _ => wrI μ (1 + 2) 5 p1 p2 fun μ => some (μ, 0, x1)
set_option maxRecDepth 100000 in
theorem c_X10_set_42 (X : kX) (p1 : Int) (p2 : Int)  {res : Res}  (μ : Mu) (h : f_X10_set_42 p1 p2 μ = some res) : KK X mX10_set 4 1 res 42 [(0, .ref (X.1 + 0)), (1, .int (iI p1)), (2, .int (iI p2))] [] μ := by
  unfold f_X10_set_42 at h
  refine K_aload_n (md := mX10_set) (pc := 42) 0 (kTab_at (pc := 42) tX10_set_ok 23 rfl) rfl ?_
  refine K_getR (md := mX10_set) (pc := 43) (b := 1) (kTab_at (pc := 43) tX10_set_ok 24 rfl) fl_X10_12 sk_0 rfl rfl ?_
  refine K_getR (md := mX10_set) (pc := 46) (b := (1 + 2)) (kTab_at (pc := 46) tX10_set_ok 25 rfl) fl_X10_98 (lay_0 lay_now rfl) rfl rfl ?_
  refine K_iload_n (md := mX10_set) (pc := 49) 1 (kTab_at (pc := 49) tX10_set_ok 26 rfl) rfl ?_
  refine Z_iald (md := mX10_set) (pc := 50) (kTab_at (pc := 50) tX10_set_ok 27 rfl) (lay_at lay_now 2 rfl) (by decide) h (fun x1 h => ?_)
  refine K_istore_n (md := mX10_set) (pc := 51) (l' := [(3, .int (iI x1)), (0, .ref (X.1 + 0)), (1, .int (iI p1)), (2, .int (iI p2))]) (kTab_at (pc := 51) tX10_set_ok 28 rfl) (Nat.le_of_ble_eq_true rfl) rfl ?_
  refine K_aload_n (md := mX10_set) (pc := 52) 1 (kTab_at (pc := 52) tX10_set_ok 29 rfl) rfl ?_
  refine K_getR (md := mX10_set) (pc := 53) (b := 73) (kTab_at (pc := 53) tX10_set_ok 30 rfl) fl_X10_25 sk_0 rfl rfl ?_
  refine K_aload_n (md := mX10_set) (pc := 56) 1 (kTab_at (pc := 56) tX10_set_ok 31 rfl) rfl ?_
  refine K_getR (md := mX10_set) (pc := 57) (b := 1) (kTab_at (pc := 57) tX10_set_ok 32 rfl) fl_X10_12 sk_0 rfl rfl ?_
  refine Z_callV (md := mX10_set) (pc := 60) (st := []) (sv := (fun _ => [])) (kTab_at (pc := 60) tX10_set_ok 33 rfl) mv_X10_83 sk_73 rfl (Nat.le_of_ble_eq_true rfl) (by decide) rfl (c_X4_keep X 1 lay_now μ) (fun _ => rfl) h (fun μ _ h => ?_) rfl
  refine K_aload_n (md := mX10_set) (pc := 63) 1 (kTab_at (pc := 63) tX10_set_ok 34 rfl) rfl ?_
  refine K_getR (md := mX10_set) (pc := 64) (b := 1) (kTab_at (pc := 64) tX10_set_ok 35 rfl) fl_X10_12 sk_0 rfl rfl ?_
  refine K_getR (md := mX10_set) (pc := 67) (b := (1 + 2)) (kTab_at (pc := 67) tX10_set_ok 36 rfl) fl_X10_98 (lay_0 lay_now rfl) rfl rfl ?_
  refine K_iload_n (md := mX10_set) (pc := 70) 2 (kTab_at (pc := 70) tX10_set_ok 37 rfl) rfl ?_
  refine K_iload_n (md := mX10_set) (pc := 71) 3 (kTab_at (pc := 71) tX10_set_ok 38 rfl) rfl ?_
  refine Z_iast (md := mX10_set) (pc := 72) (kTab_at (pc := 72) tX10_set_ok 39 rfl) (lay_at lay_now 2 rfl) (by decide) h (fun μ h => ?_)
  refine K_iload_n (md := mX10_set) (pc := 73) 0 (kTab_at (pc := 73) tX10_set_ok 40 rfl) rfl ?_
  exact Z_iret (md := mX10_set) (pc := 74) (kTab_at (pc := 74) tX10_set_ok 41 rfl) rfl rfl rfl h
def f_X10_set (p1 : Int) (p2 : Int) (μ : Mu) : Option Res := i_lt p1 0 (f_X10_set_9 p1 p2 μ) (i_lt p1 5 (rdC 5 p1 (fun j => (if j = 1 then 1 else 0)) fun x1 => rdC 5 p1 (fun j => (if j = 0 then 5 else if j = 1 then 40 else if j = 2 then 10 else if j = 3 then 5 else 99)) fun x2 => rb (f_X10_requireRange p2 x1 x2 μ) fun μ _ => i_eq p1 4 (f_X10_set_42 p1 p2 μ) (rb (f_X10_requireUnpublished μ) fun μ _ => f_X10_set_42 p1 p2 μ)) (f_X10_set_9 p1 p2 μ))
set_option maxRecDepth 100000 in
theorem c_X10_set (X : kX) (p1 : Int) (p2 : Int)  (μ : Mu) : Cq X mX10_set 4 1 μ [.ref (X.1 + 0), .int (iI p1), .int (iI p2)] (f_X10_set p1 p2 μ) := by
  intro res h
  refine ct_of (by decide +kernel) rfl (Nat.le_of_ble_eq_true rfl) ?_
  show KK X mX10_set 4 1 res 0 [(0, .ref (X.1 + 0)), (1, .int (iI p1)), (2, .int (iI p2))] [] μ
  unfold f_X10_set at h
  refine K_iload_n (md := mX10_set) (pc := 0) 1 (kTab_at (pc := 0) tX10_set_ok 0 rfl) rfl ?_
  refine K_if_lt (md := mX10_set) (pc := 1) (kTab_at (pc := 1) tX10_set_ok 1 rfl) (tgt := 9) rfl h (fun h => ?_) (fun h => ?_)
  · refine K_sub [] rfl ?_
    refine c_X10_set_9 X p1 p2  μ h
  · refine K_iload_n (md := mX10_set) (pc := 4) 1 (kTab_at (pc := 4) tX10_set_ok 2 rfl) rfl ?_
    refine K_iconst (md := mX10_set) (pc := 5) (x := 5) (kTab_at (pc := 5) tX10_set_ok 3 rfl) rfl ?_
    refine K_icmp_lt (md := mX10_set) (pc := 6) (kTab_at (pc := 6) tX10_set_ok 4 rfl) (tgt := 19) rfl h (fun h => ?_) (fun h => ?_)
    · refine K_iload_n (md := mX10_set) (pc := 19) 2 (kTab_at (pc := 19) tX10_set_ok 10 rfl) rfl ?_
      refine Z_least (md := mX10_set) (pc := 20) 1 (kTab_at (pc := 20) tX10_set_ok 11 rfl) (inT3 122 (by decide +kernel) rfl) (kTab_at (pc := 23) tX10_set_ok 12 rfl) rfl (kTab_at (pc := 24) tX10_set_ok 13 rfl) h (fun x1 h => ?_)
      refine Z_great (md := mX10_set) (pc := 25) 1 (kTab_at (pc := 25) tX10_set_ok 14 rfl) (inT3 124 (by decide +kernel) rfl) (kTab_at (pc := 28) tX10_set_ok 15 rfl) rfl (kTab_at (pc := 29) tX10_set_ok 16 rfl) h (fun x2 h => ?_)
      refine Z_callS (md := mX10_set) (pc := 30) (st := []) (sv := (fun _ => [])) (kTab_at (pc := 30) tX10_set_ok 17 rfl) ms_X10_61 rfl (Nat.le_of_ble_eq_true rfl) (by decide) rfl (c_X10_requireRange X p2 x1 x2 μ) (fun _ => rfl) h (fun μ _ h => ?_) rfl
      refine K_iload_n (md := mX10_set) (pc := 33) 1 (kTab_at (pc := 33) tX10_set_ok 18 rfl) rfl ?_
      refine K_iconst (md := mX10_set) (pc := 34) (x := 4) (kTab_at (pc := 34) tX10_set_ok 19 rfl) rfl ?_
      refine K_icmp_eq (md := mX10_set) (pc := 35) (kTab_at (pc := 35) tX10_set_ok 20 rfl) (tgt := 42) rfl h (fun h => ?_) (fun h => ?_)
      · refine c_X10_set_42 X p1 p2  μ h
      · refine K_aload_n (md := mX10_set) (pc := 38) 0 (kTab_at (pc := 38) tX10_set_ok 21 rfl) rfl ?_
        refine Z_callV (md := mX10_set) (pc := 39) (st := []) (sv := (fun _ => [])) (kTab_at (pc := 39) tX10_set_ok 22 rfl) mv_X10_65 sk_0 rfl (Nat.le_of_ble_eq_true rfl) (by decide) rfl (c_X10_requireUnpublished X μ) (fun _ => rfl) h (fun μ _ h => ?_) rfl
        refine c_X10_set_42 X p1 p2  μ h
    · refine K_sub [] rfl ?_
      refine c_X10_set_9 X p1 p2  μ h
def f_X10_addSeed (p1 : Int) (p2 : Int) (μ : Mu) : Option Res := rb (f_X10_requireQuestion p1 μ) fun μ _ => rdI μ (1 + 1) 5 p1 fun x1 => rb (f_X10_requireRange p2 0 x1 μ) fun μ _ => rb (f_X10_requireUnpublished μ) fun μ _ => rdI μ ((1 + 7) + 1) 5 p1 fun x2 => i_lt x2 5 (rb (f_X4_keep 1 μ) fun μ _ => rb (f_X7_define (1 + 7) p1 p2 μ) fun μ x3 => some (μ, 0, x3)) (some (μ, 1, 0))
set_option maxRecDepth 100000 in
theorem c_X10_addSeed (X : kX) (p1 : Int) (p2 : Int)  (μ : Mu) : Cq X mX10_addSeed 4 1 μ [.ref (X.1 + 0), .int (iI p1), .int (iI p2)] (f_X10_addSeed p1 p2 μ) := by
  intro res h
  refine ct_of (by decide +kernel) rfl (Nat.le_of_ble_eq_true rfl) ?_
  show KK X mX10_addSeed 4 1 res 0 [(0, .ref (X.1 + 0)), (1, .int (iI p1)), (2, .int (iI p2))] [] μ
  unfold f_X10_addSeed at h
  refine K_iload_n (md := mX10_addSeed) (pc := 0) 1 (kTab_at (pc := 0) tX10_addSeed_ok 0 rfl) rfl ?_
  refine Z_callS (md := mX10_addSeed) (pc := 1) (st := []) (sv := (fun _ => [])) (kTab_at (pc := 1) tX10_addSeed_ok 1 rfl) ms_X10_57 rfl (Nat.le_of_ble_eq_true rfl) (by decide) rfl (c_X10_requireQuestion X p1 μ) (fun _ => rfl) h (fun μ _ h => ?_) rfl
  refine K_iload_n (md := mX10_addSeed) (pc := 4) 2 (kTab_at (pc := 4) tX10_addSeed_ok 2 rfl) rfl ?_
  refine K_iconst (md := mX10_addSeed) (pc := 5) (x := 0) (kTab_at (pc := 5) tX10_addSeed_ok 3 rfl) rfl ?_
  refine K_aload_n (md := mX10_addSeed) (pc := 6) 0 (kTab_at (pc := 6) tX10_addSeed_ok 4 rfl) rfl ?_
  refine K_getR (md := mX10_addSeed) (pc := 7) (b := 1) (kTab_at (pc := 7) tX10_addSeed_ok 5 rfl) fl_X10_12 sk_0 rfl rfl ?_
  refine K_getR (md := mX10_addSeed) (pc := 10) (b := (1 + 1)) (kTab_at (pc := 10) tX10_addSeed_ok 6 rfl) fl_X10_79 (lay_0 lay_now rfl) rfl rfl ?_
  refine K_iload_n (md := mX10_addSeed) (pc := 13) 1 (kTab_at (pc := 13) tX10_addSeed_ok 7 rfl) rfl ?_
  refine Z_iald (md := mX10_addSeed) (pc := 14) (kTab_at (pc := 14) tX10_addSeed_ok 8 rfl) (lay_at lay_now 1 rfl) (by decide) h (fun x1 h => ?_)
  refine Z_callS (md := mX10_addSeed) (pc := 15) (st := []) (sv := (fun _ => [])) (kTab_at (pc := 15) tX10_addSeed_ok 9 rfl) ms_X10_61 rfl (Nat.le_of_ble_eq_true rfl) (by decide) rfl (c_X10_requireRange X p2 0 x1 μ) (fun _ => rfl) h (fun μ _ h => ?_) rfl
  refine K_aload_n (md := mX10_addSeed) (pc := 18) 0 (kTab_at (pc := 18) tX10_addSeed_ok 10 rfl) rfl ?_
  refine Z_callV (md := mX10_addSeed) (pc := 19) (st := []) (sv := (fun _ => [])) (kTab_at (pc := 19) tX10_addSeed_ok 11 rfl) mv_X10_65 sk_0 rfl (Nat.le_of_ble_eq_true rfl) (by decide) rfl (c_X10_requireUnpublished X μ) (fun _ => rfl) h (fun μ _ h => ?_) rfl
  refine K_aload_n (md := mX10_addSeed) (pc := 22) 0 (kTab_at (pc := 22) tX10_addSeed_ok 12 rfl) rfl ?_
  refine K_getR (md := mX10_addSeed) (pc := 23) (b := 1) (kTab_at (pc := 23) tX10_addSeed_ok 13 rfl) fl_X10_12 sk_0 rfl rfl ?_
  refine K_getR (md := mX10_addSeed) (pc := 26) (b := (1 + 7)) (kTab_at (pc := 26) tX10_addSeed_ok 14 rfl) fl_X10_101 (lay_0 lay_now rfl) rfl rfl ?_
  refine K_getR (md := mX10_addSeed) (pc := 29) (b := ((1 + 7) + 1)) (kTab_at (pc := 29) tX10_addSeed_ok 15 rfl) fl_X10_105 (lay_0 (lay_seeds lay_now) rfl) rfl rfl ?_
  refine K_iload_n (md := mX10_addSeed) (pc := 32) 1 (kTab_at (pc := 32) tX10_addSeed_ok 16 rfl) rfl ?_
  refine Z_iald (md := mX10_addSeed) (pc := 33) (kTab_at (pc := 33) tX10_addSeed_ok 17 rfl) (lay_at (lay_seeds lay_now) 1 rfl) (by decide) h (fun x2 h => ?_)
  refine K_iconst (md := mX10_addSeed) (pc := 34) (x := 5) (kTab_at (pc := 34) tX10_addSeed_ok 18 rfl) rfl ?_
  refine K_icmp_lt (md := mX10_addSeed) (pc := 35) (kTab_at (pc := 35) tX10_addSeed_ok 19 rfl) (tgt := 48) rfl h (fun h => ?_) (fun h => ?_)
  · refine K_aload_n (md := mX10_addSeed) (pc := 48) 0 (kTab_at (pc := 48) tX10_addSeed_ok 25 rfl) rfl ?_
    refine K_getR (md := mX10_addSeed) (pc := 49) (b := 73) (kTab_at (pc := 49) tX10_addSeed_ok 26 rfl) fl_X10_25 sk_0 rfl rfl ?_
    refine K_aload_n (md := mX10_addSeed) (pc := 52) 0 (kTab_at (pc := 52) tX10_addSeed_ok 27 rfl) rfl ?_
    refine K_getR (md := mX10_addSeed) (pc := 53) (b := 1) (kTab_at (pc := 53) tX10_addSeed_ok 28 rfl) fl_X10_12 sk_0 rfl rfl ?_
    refine Z_callV (md := mX10_addSeed) (pc := 56) (st := []) (sv := (fun _ => [])) (kTab_at (pc := 56) tX10_addSeed_ok 29 rfl) mv_X10_83 sk_73 rfl (Nat.le_of_ble_eq_true rfl) (by decide) rfl (c_X4_keep X 1 lay_now μ) (fun _ => rfl) h (fun μ _ h => ?_) rfl
    refine K_aload_n (md := mX10_addSeed) (pc := 59) 0 (kTab_at (pc := 59) tX10_addSeed_ok 30 rfl) rfl ?_
    refine K_getR (md := mX10_addSeed) (pc := 60) (b := 1) (kTab_at (pc := 60) tX10_addSeed_ok 31 rfl) fl_X10_12 sk_0 rfl rfl ?_
    refine K_getR (md := mX10_addSeed) (pc := 63) (b := (1 + 7)) (kTab_at (pc := 63) tX10_addSeed_ok 32 rfl) fl_X10_101 (lay_0 lay_now rfl) rfl rfl ?_
    refine K_iload_n (md := mX10_addSeed) (pc := 66) 1 (kTab_at (pc := 66) tX10_addSeed_ok 33 rfl) rfl ?_
    refine K_iload_n (md := mX10_addSeed) (pc := 67) 2 (kTab_at (pc := 67) tX10_addSeed_ok 34 rfl) rfl ?_
    refine Z_callV (md := mX10_addSeed) (pc := 68) (st := []) (sv := (fun x3 => [.int (iI x3)])) (kTab_at (pc := 68) tX10_addSeed_ok 35 rfl) mv_X10_112 (lay_0 (lay_seeds lay_now) rfl) rfl (Nat.le_of_ble_eq_true rfl) (by decide) rfl (c_X7_define X (1 + 7) p1 p2 (lay_seeds lay_now) μ) (fun _ => rfl) h (fun μ x3 h => ?_) rfl
    exact Z_iret (md := mX10_addSeed) (pc := 71) (kTab_at (pc := 71) tX10_addSeed_ok 36 rfl) rfl rfl rfl h
  · exact Z_th (md := mX10_addSeed) (pc := 38) (text := "the question has all its seeds") th_0 ck_0 (by decide +kernel) rfl (kTab_at (pc := 38) tX10_addSeed_ok 20 rfl) (kTab_at (pc := 41) tX10_addSeed_ok 21 rfl) (kTab_at (pc := 42) tX10_addSeed_ok 22 rfl) (kTab_at (pc := 44) tX10_addSeed_ok 23 rfl) (kTab_at (pc := 47) tX10_addSeed_ok 24 rfl) h
def f_X10_requireMarker (p0 : Int) (μ : Mu) : Option Res := rb (f_X10_isBelow p0 4 μ) fun μ x1 => i_eq x1 0 (some (μ, 3, 0)) (some (μ, 0, 0))
set_option maxRecDepth 100000 in
theorem c_X10_requireMarker (X : kX) (p0 : Int)  (μ : Mu) : Cq X mX10_requireMarker 1 0 μ [.int (iI p0)] (f_X10_requireMarker p0 μ) := by
  intro res h
  refine ct_of (by decide +kernel) rfl (Nat.le_of_ble_eq_true rfl) ?_
  show KK X mX10_requireMarker 1 0 res 0 [(0, .int (iI p0))] [] μ
  unfold f_X10_requireMarker at h
  refine K_iload_n (md := mX10_requireMarker) (pc := 0) 0 (kTab_at (pc := 0) tX10_requireMarker_ok 0 rfl) rfl ?_
  refine K_iconst (md := mX10_requireMarker) (pc := 1) (x := 4) (kTab_at (pc := 1) tX10_requireMarker_ok 1 rfl) rfl ?_
  refine Z_callS (md := mX10_requireMarker) (pc := 2) (st := []) (sv := (fun x1 => [.int (iI x1)])) (kTab_at (pc := 2) tX10_requireMarker_ok 2 rfl) ms_X10_457 rfl (Nat.le_of_ble_eq_true rfl) (by decide) rfl (c_X10_isBelow X p0 4 μ) (fun _ => rfl) h (fun μ x1 h => ?_) rfl
  refine K_if_ne (md := mX10_requireMarker) (pc := 5) (kTab_at (pc := 5) tX10_requireMarker_ok 3 rfl) (tgt := 19) rfl h (fun h => ?_) (fun h => ?_)
  · exact Z_vret (md := mX10_requireMarker) (pc := 19) (kTab_at (pc := 19) tX10_requireMarker_ok 9 rfl) rfl rfl h
  · exact Z_thW (md := mX10_requireMarker) (pc := 8) (text := "no such marker") th_2 ck_2 (by decide +kernel) rfl (kTab_at (pc := 8) tX10_requireMarker_ok 4 rfl) (kTab_at (pc := 11) tX10_requireMarker_ok 5 rfl) (kTab_at (pc := 12) tX10_requireMarker_ok 6 rfl) (kTab_at (pc := 15) tX10_requireMarker_ok 7 rfl) (kTab_at (pc := 18) tX10_requireMarker_ok 8 rfl) h
def f_X10_markSeed_28 (p1 : Int) (p2 : Int) (p3 : Int) (p4 : Int)   (μ : Mu) : Option Res := some (μ, 3, 0)
set_option maxRecDepth 100000 in
theorem c_X10_markSeed_28 (X : kX) (p1 : Int) (p2 : Int) (p3 : Int) (p4 : Int)  {res : Res}  (μ : Mu) (h : f_X10_markSeed_28 p1 p2 p3 p4 μ = some res) : KK X mX10_markSeed 4 1 res 28 [] [] μ := by
  unfold f_X10_markSeed_28 at h
  exact Z_th (md := mX10_markSeed) (pc := 28) (text := "no such seed") th_2 ck_2 (by decide +kernel) rfl (kTab_at (pc := 28) tX10_markSeed_ok 14 rfl) (kTab_at (pc := 31) tX10_markSeed_ok 15 rfl) (kTab_at (pc := 32) tX10_markSeed_ok 16 rfl) (kTab_at (pc := 34) tX10_markSeed_ok 17 rfl) (kTab_at (pc := 37) tX10_markSeed_ok 18 rfl) h
def f_X10_markSeed (p1 : Int) (p2 : Int) (p3 : Int) (p4 : Int) (μ : Mu) : Option Res := rb (f_X10_requireMarker p1 μ) fun μ _ => rb (f_X10_requireQuestion p2 μ) fun μ _ => i_lt p3 0 (f_X10_markSeed_28 p1 p2 p3 p4 μ) (rdI μ ((1 + 7) + 1) 5 p2 fun x1 => i_lt p3 x1 (rdI μ (1 + 1) 5 p2 fun x2 => rb (f_X10_requireRange p4 0 x2 μ) fun μ _ => rb (f_X10_requireUnpublished μ) fun μ _ => rb (f_X7_isMarked (1 + 7) p1 p2 p3 μ) fun μ x3 => i_eq x3 0 (rb (f_X4_keep 1 μ) fun μ _ => rb (f_X1_earn 1 p1 p2 μ) fun μ _ => rb (f_X7_give (1 + 7) p1 p2 p3 p4 μ) fun μ x4 => some (μ, 0, x4)) (some (μ, 1, 0))) (f_X10_markSeed_28 p1 p2 p3 p4 μ))
set_option maxRecDepth 100000 in
theorem c_X10_markSeed (X : kX) (p1 : Int) (p2 : Int) (p3 : Int) (p4 : Int)  (μ : Mu) : Cq X mX10_markSeed 4 1 μ [.ref (X.1 + 0), .int (iI p1), .int (iI p2), .int (iI p3), .int (iI p4)] (f_X10_markSeed p1 p2 p3 p4 μ) := by
  intro res h
  refine ct_of (by decide +kernel) rfl (Nat.le_of_ble_eq_true rfl) ?_
  show KK X mX10_markSeed 4 1 res 0 [(0, .ref (X.1 + 0)), (1, .int (iI p1)), (2, .int (iI p2)), (3, .int (iI p3)), (4, .int (iI p4))] [] μ
  unfold f_X10_markSeed at h
  refine K_iload_n (md := mX10_markSeed) (pc := 0) 1 (kTab_at (pc := 0) tX10_markSeed_ok 0 rfl) rfl ?_
  refine Z_callS (md := mX10_markSeed) (pc := 1) (st := []) (sv := (fun _ => [])) (kTab_at (pc := 1) tX10_markSeed_ok 1 rfl) ms_X10_116 rfl (Nat.le_of_ble_eq_true rfl) (by decide) rfl (c_X10_requireMarker X p1 μ) (fun _ => rfl) h (fun μ _ h => ?_) rfl
  refine K_iload_n (md := mX10_markSeed) (pc := 4) 2 (kTab_at (pc := 4) tX10_markSeed_ok 2 rfl) rfl ?_
  refine Z_callS (md := mX10_markSeed) (pc := 5) (st := []) (sv := (fun _ => [])) (kTab_at (pc := 5) tX10_markSeed_ok 3 rfl) ms_X10_57 rfl (Nat.le_of_ble_eq_true rfl) (by decide) rfl (c_X10_requireQuestion X p2 μ) (fun _ => rfl) h (fun μ _ h => ?_) rfl
  refine K_iload_n (md := mX10_markSeed) (pc := 8) 3 (kTab_at (pc := 8) tX10_markSeed_ok 4 rfl) rfl ?_
  refine K_if_lt (md := mX10_markSeed) (pc := 9) (kTab_at (pc := 9) tX10_markSeed_ok 5 rfl) (tgt := 28) rfl h (fun h => ?_) (fun h => ?_)
  · refine K_sub [] rfl ?_
    refine c_X10_markSeed_28 X p1 p2 p3 p4  μ h
  · refine K_iload_n (md := mX10_markSeed) (pc := 12) 3 (kTab_at (pc := 12) tX10_markSeed_ok 6 rfl) rfl ?_
    refine K_aload_n (md := mX10_markSeed) (pc := 13) 0 (kTab_at (pc := 13) tX10_markSeed_ok 7 rfl) rfl ?_
    refine K_getR (md := mX10_markSeed) (pc := 14) (b := 1) (kTab_at (pc := 14) tX10_markSeed_ok 8 rfl) fl_X10_12 sk_0 rfl rfl ?_
    refine K_getR (md := mX10_markSeed) (pc := 17) (b := (1 + 7)) (kTab_at (pc := 17) tX10_markSeed_ok 9 rfl) fl_X10_101 (lay_0 lay_now rfl) rfl rfl ?_
    refine K_getR (md := mX10_markSeed) (pc := 20) (b := ((1 + 7) + 1)) (kTab_at (pc := 20) tX10_markSeed_ok 10 rfl) fl_X10_105 (lay_0 (lay_seeds lay_now) rfl) rfl rfl ?_
    refine K_iload_n (md := mX10_markSeed) (pc := 23) 2 (kTab_at (pc := 23) tX10_markSeed_ok 11 rfl) rfl ?_
    refine Z_iald (md := mX10_markSeed) (pc := 24) (kTab_at (pc := 24) tX10_markSeed_ok 12 rfl) (lay_at (lay_seeds lay_now) 1 rfl) (by decide) h (fun x1 h => ?_)
    refine K_icmp_lt (md := mX10_markSeed) (pc := 25) (kTab_at (pc := 25) tX10_markSeed_ok 13 rfl) (tgt := 38) rfl h (fun h => ?_) (fun h => ?_)
    · refine K_iload (md := mX10_markSeed) (pc := 38) 4 (kTab_at (pc := 38) tX10_markSeed_ok 19 rfl) rfl ?_
      refine K_iconst (md := mX10_markSeed) (pc := 40) (x := 0) (kTab_at (pc := 40) tX10_markSeed_ok 20 rfl) rfl ?_
      refine K_aload_n (md := mX10_markSeed) (pc := 41) 0 (kTab_at (pc := 41) tX10_markSeed_ok 21 rfl) rfl ?_
      refine K_getR (md := mX10_markSeed) (pc := 42) (b := 1) (kTab_at (pc := 42) tX10_markSeed_ok 22 rfl) fl_X10_12 sk_0 rfl rfl ?_
      refine K_getR (md := mX10_markSeed) (pc := 45) (b := (1 + 1)) (kTab_at (pc := 45) tX10_markSeed_ok 23 rfl) fl_X10_79 (lay_0 lay_now rfl) rfl rfl ?_
      refine K_iload_n (md := mX10_markSeed) (pc := 48) 2 (kTab_at (pc := 48) tX10_markSeed_ok 24 rfl) rfl ?_
      refine Z_iald (md := mX10_markSeed) (pc := 49) (kTab_at (pc := 49) tX10_markSeed_ok 25 rfl) (lay_at lay_now 1 rfl) (by decide) h (fun x2 h => ?_)
      refine Z_callS (md := mX10_markSeed) (pc := 50) (st := []) (sv := (fun _ => [])) (kTab_at (pc := 50) tX10_markSeed_ok 26 rfl) ms_X10_61 rfl (Nat.le_of_ble_eq_true rfl) (by decide) rfl (c_X10_requireRange X p4 0 x2 μ) (fun _ => rfl) h (fun μ _ h => ?_) rfl
      refine K_aload_n (md := mX10_markSeed) (pc := 53) 0 (kTab_at (pc := 53) tX10_markSeed_ok 27 rfl) rfl ?_
      refine Z_callV (md := mX10_markSeed) (pc := 54) (st := []) (sv := (fun _ => [])) (kTab_at (pc := 54) tX10_markSeed_ok 28 rfl) mv_X10_65 sk_0 rfl (Nat.le_of_ble_eq_true rfl) (by decide) rfl (c_X10_requireUnpublished X μ) (fun _ => rfl) h (fun μ _ h => ?_) rfl
      refine K_aload_n (md := mX10_markSeed) (pc := 57) 0 (kTab_at (pc := 57) tX10_markSeed_ok 29 rfl) rfl ?_
      refine K_getR (md := mX10_markSeed) (pc := 58) (b := 1) (kTab_at (pc := 58) tX10_markSeed_ok 30 rfl) fl_X10_12 sk_0 rfl rfl ?_
      refine K_getR (md := mX10_markSeed) (pc := 61) (b := (1 + 7)) (kTab_at (pc := 61) tX10_markSeed_ok 31 rfl) fl_X10_101 (lay_0 lay_now rfl) rfl rfl ?_
      refine K_iload_n (md := mX10_markSeed) (pc := 64) 1 (kTab_at (pc := 64) tX10_markSeed_ok 32 rfl) rfl ?_
      refine K_iload_n (md := mX10_markSeed) (pc := 65) 2 (kTab_at (pc := 65) tX10_markSeed_ok 33 rfl) rfl ?_
      refine K_iload_n (md := mX10_markSeed) (pc := 66) 3 (kTab_at (pc := 66) tX10_markSeed_ok 34 rfl) rfl ?_
      refine Z_callV (md := mX10_markSeed) (pc := 67) (st := []) (sv := (fun x3 => [.int (iI x3)])) (kTab_at (pc := 67) tX10_markSeed_ok 35 rfl) mv_X10_121 (lay_0 (lay_seeds lay_now) rfl) rfl (Nat.le_of_ble_eq_true rfl) (by decide) rfl (c_X7_isMarked X (1 + 7) p1 p2 p3 (lay_seeds lay_now) μ) (fun _ => rfl) h (fun μ x3 h => ?_) rfl
      refine K_if_eq (md := mX10_markSeed) (pc := 70) (kTab_at (pc := 70) tX10_markSeed_ok 36 rfl) (tgt := 83) rfl h (fun h => ?_) (fun h => ?_)
      · refine K_aload_n (md := mX10_markSeed) (pc := 83) 0 (kTab_at (pc := 83) tX10_markSeed_ok 42 rfl) rfl ?_
        refine K_getR (md := mX10_markSeed) (pc := 84) (b := 73) (kTab_at (pc := 84) tX10_markSeed_ok 43 rfl) fl_X10_25 sk_0 rfl rfl ?_
        refine K_aload_n (md := mX10_markSeed) (pc := 87) 0 (kTab_at (pc := 87) tX10_markSeed_ok 44 rfl) rfl ?_
        refine K_getR (md := mX10_markSeed) (pc := 88) (b := 1) (kTab_at (pc := 88) tX10_markSeed_ok 45 rfl) fl_X10_12 sk_0 rfl rfl ?_
        refine Z_callV (md := mX10_markSeed) (pc := 91) (st := []) (sv := (fun _ => [])) (kTab_at (pc := 91) tX10_markSeed_ok 46 rfl) mv_X10_83 sk_73 rfl (Nat.le_of_ble_eq_true rfl) (by decide) rfl (c_X4_keep X 1 lay_now μ) (fun _ => rfl) h (fun μ _ h => ?_) rfl
        refine K_aload_n (md := mX10_markSeed) (pc := 94) 0 (kTab_at (pc := 94) tX10_markSeed_ok 47 rfl) rfl ?_
        refine K_getR (md := mX10_markSeed) (pc := 95) (b := 1) (kTab_at (pc := 95) tX10_markSeed_ok 48 rfl) fl_X10_12 sk_0 rfl rfl ?_
        refine K_iload_n (md := mX10_markSeed) (pc := 98) 1 (kTab_at (pc := 98) tX10_markSeed_ok 49 rfl) rfl ?_
        refine K_iload_n (md := mX10_markSeed) (pc := 99) 2 (kTab_at (pc := 99) tX10_markSeed_ok 50 rfl) rfl ?_
        refine Z_callV (md := mX10_markSeed) (pc := 100) (st := []) (sv := (fun _ => [])) (kTab_at (pc := 100) tX10_markSeed_ok 51 rfl) mv_X10_127 (lay_0 lay_now rfl) rfl (Nat.le_of_ble_eq_true rfl) (by decide) rfl (c_X1_earn X 1 p1 p2 lay_now μ) (fun _ => rfl) h (fun μ _ h => ?_) rfl
        refine K_aload_n (md := mX10_markSeed) (pc := 103) 0 (kTab_at (pc := 103) tX10_markSeed_ok 52 rfl) rfl ?_
        refine K_getR (md := mX10_markSeed) (pc := 104) (b := 1) (kTab_at (pc := 104) tX10_markSeed_ok 53 rfl) fl_X10_12 sk_0 rfl rfl ?_
        refine K_getR (md := mX10_markSeed) (pc := 107) (b := (1 + 7)) (kTab_at (pc := 107) tX10_markSeed_ok 54 rfl) fl_X10_101 (lay_0 lay_now rfl) rfl rfl ?_
        refine K_iload_n (md := mX10_markSeed) (pc := 110) 1 (kTab_at (pc := 110) tX10_markSeed_ok 55 rfl) rfl ?_
        refine K_iload_n (md := mX10_markSeed) (pc := 111) 2 (kTab_at (pc := 111) tX10_markSeed_ok 56 rfl) rfl ?_
        refine K_iload_n (md := mX10_markSeed) (pc := 112) 3 (kTab_at (pc := 112) tX10_markSeed_ok 57 rfl) rfl ?_
        refine K_iload (md := mX10_markSeed) (pc := 113) 4 (kTab_at (pc := 113) tX10_markSeed_ok 58 rfl) rfl ?_
        refine Z_callV (md := mX10_markSeed) (pc := 115) (st := []) (sv := (fun x4 => [.int (iI x4)])) (kTab_at (pc := 115) tX10_markSeed_ok 59 rfl) mv_X10_131 (lay_0 (lay_seeds lay_now) rfl) rfl (Nat.le_of_ble_eq_true rfl) (by decide) rfl (c_X7_give X (1 + 7) p1 p2 p3 p4 (lay_seeds lay_now) μ) (fun _ => rfl) h (fun μ x4 h => ?_) rfl
        exact Z_iret (md := mX10_markSeed) (pc := 118) (kTab_at (pc := 118) tX10_markSeed_ok 60 rfl) rfl rfl rfl h
      · exact Z_th (md := mX10_markSeed) (pc := 73) (text := "the marker marked this seed already") th_0 ck_0 (by decide +kernel) rfl (kTab_at (pc := 73) tX10_markSeed_ok 37 rfl) (kTab_at (pc := 76) tX10_markSeed_ok 38 rfl) (kTab_at (pc := 77) tX10_markSeed_ok 39 rfl) (kTab_at (pc := 79) tX10_markSeed_ok 40 rfl) (kTab_at (pc := 82) tX10_markSeed_ok 41 rfl) h
    · refine K_sub [] rfl ?_
      refine c_X10_markSeed_28 X p1 p2 p3 p4  μ h
def f_X10_correction (p1 : Int) (p2 : Int) (μ : Mu) : Option Res := rb (f_X10_requireMarker p1 μ) fun μ _ => rb (f_X10_requireQuestion p2 μ) fun μ _ => rdI μ (1 + 2) 5 0 fun x1 => rb (f_X7_correctionOf (1 + 7) p1 p2 x1 μ) fun μ x2 => some (μ, 0, x2)
set_option maxRecDepth 100000 in
theorem c_X10_correction (X : kX) (p1 : Int) (p2 : Int)  (μ : Mu) : Cq X mX10_correction 2 1 μ [.ref (X.1 + 0), .int (iI p1), .int (iI p2)] (f_X10_correction p1 p2 μ) := by
  intro res h
  refine ct_of (by decide +kernel) rfl (Nat.le_of_ble_eq_true rfl) ?_
  show KK X mX10_correction 2 1 res 0 [(0, .ref (X.1 + 0)), (1, .int (iI p1)), (2, .int (iI p2))] [] μ
  unfold f_X10_correction at h
  refine K_iload_n (md := mX10_correction) (pc := 0) 1 (kTab_at (pc := 0) tX10_correction_ok 0 rfl) rfl ?_
  refine Z_callS (md := mX10_correction) (pc := 1) (st := []) (sv := (fun _ => [])) (kTab_at (pc := 1) tX10_correction_ok 1 rfl) ms_X10_116 rfl (Nat.le_of_ble_eq_true rfl) (by decide) rfl (c_X10_requireMarker X p1 μ) (fun _ => rfl) h (fun μ _ h => ?_) rfl
  refine K_iload_n (md := mX10_correction) (pc := 4) 2 (kTab_at (pc := 4) tX10_correction_ok 2 rfl) rfl ?_
  refine Z_callS (md := mX10_correction) (pc := 5) (st := []) (sv := (fun _ => [])) (kTab_at (pc := 5) tX10_correction_ok 3 rfl) ms_X10_57 rfl (Nat.le_of_ble_eq_true rfl) (by decide) rfl (c_X10_requireQuestion X p2 μ) (fun _ => rfl) h (fun μ _ h => ?_) rfl
  refine K_aload_n (md := mX10_correction) (pc := 8) 0 (kTab_at (pc := 8) tX10_correction_ok 4 rfl) rfl ?_
  refine K_getR (md := mX10_correction) (pc := 9) (b := 1) (kTab_at (pc := 9) tX10_correction_ok 5 rfl) fl_X10_12 sk_0 rfl rfl ?_
  refine K_getR (md := mX10_correction) (pc := 12) (b := (1 + 7)) (kTab_at (pc := 12) tX10_correction_ok 6 rfl) fl_X10_101 (lay_0 lay_now rfl) rfl rfl ?_
  refine K_iload_n (md := mX10_correction) (pc := 15) 1 (kTab_at (pc := 15) tX10_correction_ok 7 rfl) rfl ?_
  refine K_iload_n (md := mX10_correction) (pc := 16) 2 (kTab_at (pc := 16) tX10_correction_ok 8 rfl) rfl ?_
  refine K_aload_n (md := mX10_correction) (pc := 17) 0 (kTab_at (pc := 17) tX10_correction_ok 9 rfl) rfl ?_
  refine K_getR (md := mX10_correction) (pc := 18) (b := 1) (kTab_at (pc := 18) tX10_correction_ok 10 rfl) fl_X10_12 sk_0 rfl rfl ?_
  refine K_getR (md := mX10_correction) (pc := 21) (b := (1 + 2)) (kTab_at (pc := 21) tX10_correction_ok 11 rfl) fl_X10_98 (lay_0 lay_now rfl) rfl rfl ?_
  refine K_iconst (md := mX10_correction) (pc := 24) (x := 0) (kTab_at (pc := 24) tX10_correction_ok 12 rfl) rfl ?_
  refine Z_iald (md := mX10_correction) (pc := 25) (kTab_at (pc := 25) tX10_correction_ok 13 rfl) (lay_at lay_now 2 rfl) (by decide) h (fun x1 h => ?_)
  refine Z_callV (md := mX10_correction) (pc := 26) (st := []) (sv := (fun x2 => [.int (iI x2)])) (kTab_at (pc := 26) tX10_correction_ok 14 rfl) mv_X10_135 (lay_0 (lay_seeds lay_now) rfl) rfl (Nat.le_of_ble_eq_true rfl) (by decide) rfl (c_X7_correctionOf X (1 + 7) p1 p2 x1 (lay_seeds lay_now) μ) (fun _ => rfl) h (fun μ x2 h => ?_) rfl
  exact Z_iret (md := mX10_correction) (pc := 29) (kTab_at (pc := 29) tX10_correction_ok 15 rfl) rfl rfl rfl h
def f_X10_isSuspended (p1 : Int) (p2 : Int) (μ : Mu) : Option Res := rb (f_X10_requireMarker p1 μ) fun μ _ => rb (f_X10_requireQuestion p2 μ) fun μ _ => rdI μ (1 + 2) 5 1 fun x1 => rb (f_X7_strays (1 + 7) p1 p2 x1 μ) fun μ x2 => retZ μ x2
set_option maxRecDepth 100000 in
theorem c_X10_isSuspended (X : kX) (p1 : Int) (p2 : Int)  (μ : Mu) : Cq X mX10_isSuspended 2 1 μ [.ref (X.1 + 0), .int (iI p1), .int (iI p2)] (f_X10_isSuspended p1 p2 μ) := by
  intro res h
  refine ct_of (by decide +kernel) rfl (Nat.le_of_ble_eq_true rfl) ?_
  show KK X mX10_isSuspended 2 1 res 0 [(0, .ref (X.1 + 0)), (1, .int (iI p1)), (2, .int (iI p2))] [] μ
  unfold f_X10_isSuspended at h
  refine K_iload_n (md := mX10_isSuspended) (pc := 0) 1 (kTab_at (pc := 0) tX10_isSuspended_ok 0 rfl) rfl ?_
  refine Z_callS (md := mX10_isSuspended) (pc := 1) (st := []) (sv := (fun _ => [])) (kTab_at (pc := 1) tX10_isSuspended_ok 1 rfl) ms_X10_116 rfl (Nat.le_of_ble_eq_true rfl) (by decide) rfl (c_X10_requireMarker X p1 μ) (fun _ => rfl) h (fun μ _ h => ?_) rfl
  refine K_iload_n (md := mX10_isSuspended) (pc := 4) 2 (kTab_at (pc := 4) tX10_isSuspended_ok 2 rfl) rfl ?_
  refine Z_callS (md := mX10_isSuspended) (pc := 5) (st := []) (sv := (fun _ => [])) (kTab_at (pc := 5) tX10_isSuspended_ok 3 rfl) ms_X10_57 rfl (Nat.le_of_ble_eq_true rfl) (by decide) rfl (c_X10_requireQuestion X p2 μ) (fun _ => rfl) h (fun μ _ h => ?_) rfl
  refine K_aload_n (md := mX10_isSuspended) (pc := 8) 0 (kTab_at (pc := 8) tX10_isSuspended_ok 4 rfl) rfl ?_
  refine K_getR (md := mX10_isSuspended) (pc := 9) (b := 1) (kTab_at (pc := 9) tX10_isSuspended_ok 5 rfl) fl_X10_12 sk_0 rfl rfl ?_
  refine K_getR (md := mX10_isSuspended) (pc := 12) (b := (1 + 7)) (kTab_at (pc := 12) tX10_isSuspended_ok 6 rfl) fl_X10_101 (lay_0 lay_now rfl) rfl rfl ?_
  refine K_iload_n (md := mX10_isSuspended) (pc := 15) 1 (kTab_at (pc := 15) tX10_isSuspended_ok 7 rfl) rfl ?_
  refine K_iload_n (md := mX10_isSuspended) (pc := 16) 2 (kTab_at (pc := 16) tX10_isSuspended_ok 8 rfl) rfl ?_
  refine K_aload_n (md := mX10_isSuspended) (pc := 17) 0 (kTab_at (pc := 17) tX10_isSuspended_ok 9 rfl) rfl ?_
  refine K_getR (md := mX10_isSuspended) (pc := 18) (b := 1) (kTab_at (pc := 18) tX10_isSuspended_ok 10 rfl) fl_X10_12 sk_0 rfl rfl ?_
  refine K_getR (md := mX10_isSuspended) (pc := 21) (b := (1 + 2)) (kTab_at (pc := 21) tX10_isSuspended_ok 11 rfl) fl_X10_98 (lay_0 lay_now rfl) rfl rfl ?_
  refine K_iconst (md := mX10_isSuspended) (pc := 24) (x := 1) (kTab_at (pc := 24) tX10_isSuspended_ok 12 rfl) rfl ?_
  refine Z_iald (md := mX10_isSuspended) (pc := 25) (kTab_at (pc := 25) tX10_isSuspended_ok 13 rfl) (lay_at lay_now 2 rfl) (by decide) h (fun x1 h => ?_)
  refine Z_callV (md := mX10_isSuspended) (pc := 26) (st := []) (sv := (fun x2 => [.int (iI x2)])) (kTab_at (pc := 26) tX10_isSuspended_ok 14 rfl) mv_X10_139 (lay_0 (lay_seeds lay_now) rfl) rfl (Nat.le_of_ble_eq_true rfl) (by decide) rfl (c_X7_strays X (1 + 7) p1 p2 x1 (lay_seeds lay_now) μ) (fun _ => rfl) h (fun μ x2 h => ?_) rfl
  exact Z_zret (md := mX10_isSuspended) (pc := 29) (kTab_at (pc := 29) tX10_isSuspended_ok 15 rfl) rfl rfl h
def f_X10_requireCandidate (p0 : Int) (μ : Mu) : Option Res := rb (f_X10_isBelow p0 8 μ) fun μ x1 => i_eq x1 0 (some (μ, 3, 0)) (some (μ, 0, 0))
set_option maxRecDepth 100000 in
theorem c_X10_requireCandidate (X : kX) (p0 : Int)  (μ : Mu) : Cq X mX10_requireCandidate 1 0 μ [.int (iI p0)] (f_X10_requireCandidate p0 μ) := by
  intro res h
  refine ct_of (by decide +kernel) rfl (Nat.le_of_ble_eq_true rfl) ?_
  show KK X mX10_requireCandidate 1 0 res 0 [(0, .int (iI p0))] [] μ
  unfold f_X10_requireCandidate at h
  refine K_iload_n (md := mX10_requireCandidate) (pc := 0) 0 (kTab_at (pc := 0) tX10_requireCandidate_ok 0 rfl) rfl ?_
  refine K_bipush (md := mX10_requireCandidate) (pc := 1) (x := 8) (kTab_at (pc := 1) tX10_requireCandidate_ok 1 rfl) (by decide) ?_
  refine Z_callS (md := mX10_requireCandidate) (pc := 3) (st := []) (sv := (fun x1 => [.int (iI x1)])) (kTab_at (pc := 3) tX10_requireCandidate_ok 2 rfl) ms_X10_457 rfl (Nat.le_of_ble_eq_true rfl) (by decide) rfl (c_X10_isBelow X p0 8 μ) (fun _ => rfl) h (fun μ x1 h => ?_) rfl
  refine K_if_ne (md := mX10_requireCandidate) (pc := 6) (kTab_at (pc := 6) tX10_requireCandidate_ok 3 rfl) (tgt := 20) rfl h (fun h => ?_) (fun h => ?_)
  · exact Z_vret (md := mX10_requireCandidate) (pc := 20) (kTab_at (pc := 20) tX10_requireCandidate_ok 9 rfl) rfl rfl h
  · exact Z_thW (md := mX10_requireCandidate) (pc := 9) (text := "no such candidate") th_2 ck_2 (by decide +kernel) rfl (kTab_at (pc := 9) tX10_requireCandidate_ok 4 rfl) (kTab_at (pc := 12) tX10_requireCandidate_ok 5 rfl) (kTab_at (pc := 13) tX10_requireCandidate_ok 6 rfl) (kTab_at (pc := 16) tX10_requireCandidate_ok 7 rfl) (kTab_at (pc := 19) tX10_requireCandidate_ok 8 rfl) h
def f_X10_requireScript (p0 : Int) (p1 : Int) (μ : Mu) : Option Res := rb (f_X10_requireCandidate p0 μ) fun μ _ => rb (f_X10_requireQuestion p1 μ) fun μ _ => some (μ, 0, 0)
set_option maxRecDepth 100000 in
theorem c_X10_requireScript (X : kX) (p0 : Int) (p1 : Int)  (μ : Mu) : Cq X mX10_requireScript 2 0 μ [.int (iI p0), .int (iI p1)] (f_X10_requireScript p0 p1 μ) := by
  intro res h
  refine ct_of (by decide +kernel) rfl (Nat.le_of_ble_eq_true rfl) ?_
  show KK X mX10_requireScript 2 0 res 0 [(0, .int (iI p0)), (1, .int (iI p1))] [] μ
  unfold f_X10_requireScript at h
  refine K_iload_n (md := mX10_requireScript) (pc := 0) 0 (kTab_at (pc := 0) tX10_requireScript_ok 0 rfl) rfl ?_
  refine Z_callS (md := mX10_requireScript) (pc := 1) (st := []) (sv := (fun _ => [])) (kTab_at (pc := 1) tX10_requireScript_ok 1 rfl) ms_X10_257 rfl (Nat.le_of_ble_eq_true rfl) (by decide) rfl (c_X10_requireCandidate X p0 μ) (fun _ => rfl) h (fun μ _ h => ?_) rfl
  refine K_iload_n (md := mX10_requireScript) (pc := 4) 1 (kTab_at (pc := 4) tX10_requireScript_ok 2 rfl) rfl ?_
  refine Z_callS (md := mX10_requireScript) (pc := 5) (st := []) (sv := (fun _ => [])) (kTab_at (pc := 5) tX10_requireScript_ok 3 rfl) ms_X10_57 rfl (Nat.le_of_ble_eq_true rfl) (by decide) rfl (c_X10_requireQuestion X p1 μ) (fun _ => rfl) h (fun μ _ h => ?_) rfl
  exact Z_vret (md := mX10_requireScript) (pc := 8) (kTab_at (pc := 8) tX10_requireScript_ok 4 rfl) rfl rfl h
def f_X10_requireNotNegative (p0 : Int) (μ : Mu) : Option Res := i_lt p0 0 (some (μ, 2, 0)) (some (μ, 0, 0))
set_option maxRecDepth 100000 in
theorem c_X10_requireNotNegative (X : kX) (p0 : Int)  (μ : Mu) : Cq X mX10_requireNotNegative 0 0 μ [.int (iI p0)] (f_X10_requireNotNegative p0 μ) := by
  intro res h
  refine ct_of (by decide +kernel) rfl (Nat.le_of_ble_eq_true rfl) ?_
  show KK X mX10_requireNotNegative 0 0 res 0 [(0, .int (iI p0))] [] μ
  unfold f_X10_requireNotNegative at h
  refine K_iload_n (md := mX10_requireNotNegative) (pc := 0) 0 (kTab_at (pc := 0) tX10_requireNotNegative_ok 0 rfl) rfl ?_
  refine K_if_ge (md := mX10_requireNotNegative) (pc := 1) (kTab_at (pc := 1) tX10_requireNotNegative_ok 1 rfl) (tgt := 15) rfl h (fun h => ?_) (fun h => ?_)
  · exact Z_vret (md := mX10_requireNotNegative) (pc := 15) (kTab_at (pc := 15) tX10_requireNotNegative_ok 7 rfl) rfl rfl h
  · exact Z_thW (md := mX10_requireNotNegative) (pc := 4) (text := "the mark is negative") th_1 ck_1 (by decide +kernel) rfl (kTab_at (pc := 4) tX10_requireNotNegative_ok 2 rfl) (kTab_at (pc := 7) tX10_requireNotNegative_ok 3 rfl) (kTab_at (pc := 8) tX10_requireNotNegative_ok 4 rfl) (kTab_at (pc := 11) tX10_requireNotNegative_ok 5 rfl) (kTab_at (pc := 14) tX10_requireNotNegative_ok 6 rfl) h
def f_X10_refusesEntry (p1 : Nat) (p2 : Int) (p3 : Int) (p4 : Int) (p5 : Int) (μ : Mu) : Option Res := i_rem p4 5 fun x1 => rdF μ p1 10 fun x2 => i_eq x2 0 (rdI μ (p1 + 1) 5 x1 fun x3 => i_lt x3 p5 (rdI μ (p1 + 1) 5 x1 fun x10 => rb (f_X6_tell 1 p2 12 x10 μ) fun μ x11 => retZ μ x11) (rb (f_X3_hasEntryBy (p1 + 11) p3 p4 μ) fun μ x4 => i_eq x4 0 (rdI μ ((p1 + 11) + 1) 40 p4 fun x5 => i_lt x5 3 (rb (f_X1_hasAgreement p1 p4 μ) fun μ x6 => i_eq x6 0 (retZ μ 0) (rb (f_X6_tell 1 p2 15 x1 μ) fun μ x7 => retZ μ x7)) (rb (f_X6_tell 1 p2 14 3 μ) fun μ x8 => retZ μ x8)) (rb (f_X6_tell 1 p2 13 p3 μ) fun μ x9 => retZ μ x9))) (rb (f_X6_tell 1 p2 11 0 μ) fun μ x12 => retZ μ x12)
set_option maxRecDepth 100000 in
theorem c_X10_refusesEntry (X : kX) (p1 : Nat) (p2 : Int) (p3 : Int) (p4 : Int) (p5 : Int) (h1 : Lay p1 (ksX1 p1)) (μ : Mu) : Cq X mX10_refusesEntry 5 1 μ [.ref (X.1 + 0), .ref (X.1 + p1), .int (iI p2), .int (iI p3), .int (iI p4), .int (iI p5)] (f_X10_refusesEntry p1 p2 p3 p4 p5 μ) := by
  intro res h
  refine ct_of (by decide +kernel) rfl (Nat.le_of_ble_eq_true rfl) ?_
  show KK X mX10_refusesEntry 5 1 res 0 [(0, .ref (X.1 + 0)), (1, .ref (X.1 + p1)), (2, .int (iI p2)), (3, .int (iI p3)), (4, .int (iI p4)), (5, .int (iI p5))] [] μ
  unfold f_X10_refusesEntry at h
  refine K_iload (md := mX10_refusesEntry) (pc := 0) 4 (kTab_at (pc := 0) tX10_refusesEntry_ok 0 rfl) rfl ?_
  refine K_iconst (md := mX10_refusesEntry) (pc := 2) (x := 5) (kTab_at (pc := 2) tX10_refusesEntry_ok 1 rfl) rfl ?_
  refine Z_irem (md := mX10_refusesEntry) (pc := 3) (kTab_at (pc := 3) tX10_refusesEntry_ok 2 rfl) h (fun x1 h => ?_)
  refine K_istore (md := mX10_refusesEntry) (pc := 4) (l' := [(6, .int (iI x1)), (0, .ref (X.1 + 0)), (1, .ref (X.1 + p1)), (2, .int (iI p2)), (3, .int (iI p3)), (4, .int (iI p4)), (5, .int (iI p5))]) (kTab_at (pc := 4) tX10_refusesEntry_ok 3 rfl) (Nat.le_of_ble_eq_true rfl) rfl ?_
  refine K_aload_n (md := mX10_refusesEntry) (pc := 6) 2 (kTab_at (pc := 6) tX10_refusesEntry_ok 4 rfl) rfl ?_
  refine Z_getI (md := mX10_refusesEntry) (pc := 7) (kTab_at (pc := 7) tX10_refusesEntry_ok 5 rfl) fl_X10_367 (lay_0 h1 rfl) (Or.inr rfl) h (fun x2 h => ?_)
  refine K_if_eq (md := mX10_refusesEntry) (pc := 10) (kTab_at (pc := 10) tX10_refusesEntry_ok 6 rfl) (tgt := 26) rfl h (fun h => ?_) (fun h => ?_)
  · refine K_iload (md := mX10_refusesEntry) (pc := 26) 6 (kTab_at (pc := 26) tX10_refusesEntry_ok 15 rfl) rfl ?_
    refine K_aload_n (md := mX10_refusesEntry) (pc := 28) 2 (kTab_at (pc := 28) tX10_refusesEntry_ok 16 rfl) rfl ?_
    refine K_getR (md := mX10_refusesEntry) (pc := 29) (b := (p1 + 1)) (kTab_at (pc := 29) tX10_refusesEntry_ok 17 rfl) fl_X10_79 (lay_0 h1 rfl) rfl rfl ?_
    refine K_iload (md := mX10_refusesEntry) (pc := 32) 0 (kTab_at (pc := 32) tX10_refusesEntry_ok 18 rfl) rfl ?_
    refine Z_iald (md := mX10_refusesEntry) (pc := 34) (kTab_at (pc := 34) tX10_refusesEntry_ok 19 rfl) (lay_at h1 1 rfl) (by decide) h (fun x3 h => ?_)
    refine K_icmp_le (md := mX10_refusesEntry) (pc := 35) (kTab_at (pc := 35) tX10_refusesEntry_ok 20 rfl) (tgt := 57) rfl h (fun h => ?_) (fun h => ?_)
    · refine K_aload_n (md := mX10_refusesEntry) (pc := 57) 2 (kTab_at (pc := 57) tX10_refusesEntry_ok 32 rfl) rfl ?_
      refine K_getR (md := mX10_refusesEntry) (pc := 58) (b := (p1 + 11)) (kTab_at (pc := 58) tX10_refusesEntry_ok 33 rfl) fl_X10_203 (lay_0 h1 rfl) rfl rfl ?_
      refine K_iload_n (md := mX10_refusesEntry) (pc := 61) 4 (kTab_at (pc := 61) tX10_refusesEntry_ok 34 rfl) rfl ?_
      refine K_iload (md := mX10_refusesEntry) (pc := 62) 5 (kTab_at (pc := 62) tX10_refusesEntry_ok 35 rfl) rfl ?_
      refine Z_callV (md := mX10_refusesEntry) (pc := 64) (st := []) (sv := (fun x4 => [.int (iI x4)])) (kTab_at (pc := 64) tX10_refusesEntry_ok 36 rfl) mv_X10_477 (lay_0 (lay_entries h1) rfl) rfl (Nat.le_of_ble_eq_true rfl) (by decide) rfl (c_X3_hasEntryBy X (p1 + 11) p3 p4 (lay_entries h1) μ) (fun _ => rfl) h (fun μ x4 h => ?_) rfl
      refine K_if_eq (md := mX10_refusesEntry) (pc := 67) (kTab_at (pc := 67) tX10_refusesEntry_ok 37 rfl) (tgt := 83) rfl h (fun h => ?_) (fun h => ?_)
      · refine K_aload_n (md := mX10_refusesEntry) (pc := 83) 2 (kTab_at (pc := 83) tX10_refusesEntry_ok 46 rfl) rfl ?_
        refine K_getR (md := mX10_refusesEntry) (pc := 84) (b := (p1 + 11)) (kTab_at (pc := 84) tX10_refusesEntry_ok 47 rfl) fl_X10_203 (lay_0 h1 rfl) rfl rfl ?_
        refine K_getR (md := mX10_refusesEntry) (pc := 87) (b := ((p1 + 11) + 1)) (kTab_at (pc := 87) tX10_refusesEntry_ok 48 rfl) fl_X10_206 (lay_0 (lay_entries h1) rfl) rfl rfl ?_
        refine K_iload (md := mX10_refusesEntry) (pc := 90) 5 (kTab_at (pc := 90) tX10_refusesEntry_ok 49 rfl) rfl ?_
        refine Z_iald (md := mX10_refusesEntry) (pc := 92) (kTab_at (pc := 92) tX10_refusesEntry_ok 50 rfl) (lay_at (lay_entries h1) 1 rfl) (by decide) h (fun x5 h => ?_)
        refine K_iconst (md := mX10_refusesEntry) (pc := 93) (x := 3) (kTab_at (pc := 93) tX10_refusesEntry_ok 51 rfl) rfl ?_
        refine K_icmp_lt (md := mX10_refusesEntry) (pc := 94) (kTab_at (pc := 94) tX10_refusesEntry_ok 52 rfl) (tgt := 110) rfl h (fun h => ?_) (fun h => ?_)
        · refine K_aload_n (md := mX10_refusesEntry) (pc := 110) 2 (kTab_at (pc := 110) tX10_refusesEntry_ok 61 rfl) rfl ?_
          refine K_iload (md := mX10_refusesEntry) (pc := 111) 5 (kTab_at (pc := 111) tX10_refusesEntry_ok 62 rfl) rfl ?_
          refine Z_callV (md := mX10_refusesEntry) (pc := 113) (st := []) (sv := (fun x6 => [.int (iI x6)])) (kTab_at (pc := 113) tX10_refusesEntry_ok 63 rfl) mv_X10_480 (lay_0 h1 rfl) rfl (Nat.le_of_ble_eq_true rfl) (by decide) rfl (c_X1_hasAgreement X p1 p4 h1 μ) (fun _ => rfl) h (fun μ x6 h => ?_) rfl
          refine K_if_eq (md := mX10_refusesEntry) (pc := 116) (kTab_at (pc := 116) tX10_refusesEntry_ok 64 rfl) (tgt := 133) rfl h (fun h => ?_) (fun h => ?_)
          · refine K_iconst (md := mX10_refusesEntry) (pc := 133) (x := 0) (kTab_at (pc := 133) tX10_refusesEntry_ok 73 rfl) rfl ?_
            exact Z_zret (md := mX10_refusesEntry) (pc := 134) (kTab_at (pc := 134) tX10_refusesEntry_ok 74 rfl) rfl rfl h
          · refine K_aload_n (md := mX10_refusesEntry) (pc := 119) 1 (kTab_at (pc := 119) tX10_refusesEntry_ok 65 rfl) rfl ?_
            refine K_getR (md := mX10_refusesEntry) (pc := 120) (b := 223) (kTab_at (pc := 120) tX10_refusesEntry_ok 66 rfl) fl_X10_39 sk_0 rfl rfl ?_
            refine K_iconst (md := mX10_refusesEntry) (pc := 123) (x := 1) (kTab_at (pc := 123) tX10_refusesEntry_ok 67 rfl) rfl ?_
            refine K_iload_n (md := mX10_refusesEntry) (pc := 124) 3 (kTab_at (pc := 124) tX10_refusesEntry_ok 68 rfl) rfl ?_
            refine K_bipush (md := mX10_refusesEntry) (pc := 125) (x := 15) (kTab_at (pc := 125) tX10_refusesEntry_ok 69 rfl) (by decide) ?_
            refine K_iload (md := mX10_refusesEntry) (pc := 127) 0 (kTab_at (pc := 127) tX10_refusesEntry_ok 70 rfl) rfl ?_
            refine Z_callV (md := mX10_refusesEntry) (pc := 129) (st := []) (sv := (fun x7 => [.int (iI x7)])) (kTab_at (pc := 129) tX10_refusesEntry_ok 71 rfl) mv_X10_474 sk_223 rfl (Nat.le_of_ble_eq_true rfl) (by decide) rfl (c_X6_tell X 1 p2 15 x1 μ) (fun _ => rfl) h (fun μ x7 h => ?_) rfl
            exact Z_zret (md := mX10_refusesEntry) (pc := 132) (kTab_at (pc := 132) tX10_refusesEntry_ok 72 rfl) rfl rfl h
        · refine K_aload_n (md := mX10_refusesEntry) (pc := 97) 1 (kTab_at (pc := 97) tX10_refusesEntry_ok 53 rfl) rfl ?_
          refine K_getR (md := mX10_refusesEntry) (pc := 98) (b := 223) (kTab_at (pc := 98) tX10_refusesEntry_ok 54 rfl) fl_X10_39 sk_0 rfl rfl ?_
          refine K_iconst (md := mX10_refusesEntry) (pc := 101) (x := 1) (kTab_at (pc := 101) tX10_refusesEntry_ok 55 rfl) rfl ?_
          refine K_iload_n (md := mX10_refusesEntry) (pc := 102) 3 (kTab_at (pc := 102) tX10_refusesEntry_ok 56 rfl) rfl ?_
          refine K_bipush (md := mX10_refusesEntry) (pc := 103) (x := 14) (kTab_at (pc := 103) tX10_refusesEntry_ok 57 rfl) (by decide) ?_
          refine K_iconst (md := mX10_refusesEntry) (pc := 105) (x := 3) (kTab_at (pc := 105) tX10_refusesEntry_ok 58 rfl) rfl ?_
          refine Z_callV (md := mX10_refusesEntry) (pc := 106) (st := []) (sv := (fun x8 => [.int (iI x8)])) (kTab_at (pc := 106) tX10_refusesEntry_ok 59 rfl) mv_X10_474 sk_223 rfl (Nat.le_of_ble_eq_true rfl) (by decide) rfl (c_X6_tell X 1 p2 14 3 μ) (fun _ => rfl) h (fun μ x8 h => ?_) rfl
          exact Z_zret (md := mX10_refusesEntry) (pc := 109) (kTab_at (pc := 109) tX10_refusesEntry_ok 60 rfl) rfl rfl h
      · refine K_aload_n (md := mX10_refusesEntry) (pc := 70) 1 (kTab_at (pc := 70) tX10_refusesEntry_ok 38 rfl) rfl ?_
        refine K_getR (md := mX10_refusesEntry) (pc := 71) (b := 223) (kTab_at (pc := 71) tX10_refusesEntry_ok 39 rfl) fl_X10_39 sk_0 rfl rfl ?_
        refine K_iconst (md := mX10_refusesEntry) (pc := 74) (x := 1) (kTab_at (pc := 74) tX10_refusesEntry_ok 40 rfl) rfl ?_
        refine K_iload_n (md := mX10_refusesEntry) (pc := 75) 3 (kTab_at (pc := 75) tX10_refusesEntry_ok 41 rfl) rfl ?_
        refine K_bipush (md := mX10_refusesEntry) (pc := 76) (x := 13) (kTab_at (pc := 76) tX10_refusesEntry_ok 42 rfl) (by decide) ?_
        refine K_iload_n (md := mX10_refusesEntry) (pc := 78) 4 (kTab_at (pc := 78) tX10_refusesEntry_ok 43 rfl) rfl ?_
        refine Z_callV (md := mX10_refusesEntry) (pc := 79) (st := []) (sv := (fun x9 => [.int (iI x9)])) (kTab_at (pc := 79) tX10_refusesEntry_ok 44 rfl) mv_X10_474 sk_223 rfl (Nat.le_of_ble_eq_true rfl) (by decide) rfl (c_X6_tell X 1 p2 13 p3 μ) (fun _ => rfl) h (fun μ x9 h => ?_) rfl
        exact Z_zret (md := mX10_refusesEntry) (pc := 82) (kTab_at (pc := 82) tX10_refusesEntry_ok 45 rfl) rfl rfl h
    · refine K_aload_n (md := mX10_refusesEntry) (pc := 38) 1 (kTab_at (pc := 38) tX10_refusesEntry_ok 21 rfl) rfl ?_
      refine K_getR (md := mX10_refusesEntry) (pc := 39) (b := 223) (kTab_at (pc := 39) tX10_refusesEntry_ok 22 rfl) fl_X10_39 sk_0 rfl rfl ?_
      refine K_iconst (md := mX10_refusesEntry) (pc := 42) (x := 1) (kTab_at (pc := 42) tX10_refusesEntry_ok 23 rfl) rfl ?_
      refine K_iload_n (md := mX10_refusesEntry) (pc := 43) 3 (kTab_at (pc := 43) tX10_refusesEntry_ok 24 rfl) rfl ?_
      refine K_bipush (md := mX10_refusesEntry) (pc := 44) (x := 12) (kTab_at (pc := 44) tX10_refusesEntry_ok 25 rfl) (by decide) ?_
      refine K_aload_n (md := mX10_refusesEntry) (pc := 46) 2 (kTab_at (pc := 46) tX10_refusesEntry_ok 26 rfl) rfl ?_
      refine K_getR (md := mX10_refusesEntry) (pc := 47) (b := (p1 + 1)) (kTab_at (pc := 47) tX10_refusesEntry_ok 27 rfl) fl_X10_79 (lay_0 h1 rfl) rfl rfl ?_
      refine K_iload (md := mX10_refusesEntry) (pc := 50) 0 (kTab_at (pc := 50) tX10_refusesEntry_ok 28 rfl) rfl ?_
      refine Z_iald (md := mX10_refusesEntry) (pc := 52) (kTab_at (pc := 52) tX10_refusesEntry_ok 29 rfl) (lay_at h1 1 rfl) (by decide) h (fun x10 h => ?_)
      refine Z_callV (md := mX10_refusesEntry) (pc := 53) (st := []) (sv := (fun x11 => [.int (iI x11)])) (kTab_at (pc := 53) tX10_refusesEntry_ok 30 rfl) mv_X10_474 sk_223 rfl (Nat.le_of_ble_eq_true rfl) (by decide) rfl (c_X6_tell X 1 p2 12 x10 μ) (fun _ => rfl) h (fun μ x11 h => ?_) rfl
      exact Z_zret (md := mX10_refusesEntry) (pc := 56) (kTab_at (pc := 56) tX10_refusesEntry_ok 31 rfl) rfl rfl h
  · refine K_aload_n (md := mX10_refusesEntry) (pc := 13) 1 (kTab_at (pc := 13) tX10_refusesEntry_ok 7 rfl) rfl ?_
    refine K_getR (md := mX10_refusesEntry) (pc := 14) (b := 223) (kTab_at (pc := 14) tX10_refusesEntry_ok 8 rfl) fl_X10_39 sk_0 rfl rfl ?_
    refine K_iconst (md := mX10_refusesEntry) (pc := 17) (x := 1) (kTab_at (pc := 17) tX10_refusesEntry_ok 9 rfl) rfl ?_
    refine K_iload_n (md := mX10_refusesEntry) (pc := 18) 3 (kTab_at (pc := 18) tX10_refusesEntry_ok 10 rfl) rfl ?_
    refine K_bipush (md := mX10_refusesEntry) (pc := 19) (x := 11) (kTab_at (pc := 19) tX10_refusesEntry_ok 11 rfl) (by decide) ?_
    refine K_iconst (md := mX10_refusesEntry) (pc := 21) (x := 0) (kTab_at (pc := 21) tX10_refusesEntry_ok 12 rfl) rfl ?_
    refine Z_callV (md := mX10_refusesEntry) (pc := 22) (st := []) (sv := (fun x12 => [.int (iI x12)])) (kTab_at (pc := 22) tX10_refusesEntry_ok 13 rfl) mv_X10_474 sk_223 rfl (Nat.le_of_ble_eq_true rfl) (by decide) rfl (c_X6_tell X 1 p2 11 0 μ) (fun _ => rfl) h (fun μ x12 h => ?_) rfl
    exact Z_zret (md := mX10_refusesEntry) (pc := 25) (kTab_at (pc := 25) tX10_refusesEntry_ok 14 rfl) rfl rfl h
def f_X10_enter (p1 : Int) (p2 : Int) (p3 : Int) (p4 : Int) (μ : Mu) : Option Res := rb (f_X10_requireMarker p1 μ) fun μ _ => rb (f_X10_requireScript p2 p3 μ) fun μ _ => rb (f_X10_requireNotNegative p4 μ) fun μ _ => rb (f_X10_scriptOf p2 p3 μ) fun μ x1 => rb (f_X10_refusesEntry 1 0 p1 x1 p4 μ) fun μ x2 => i_eq x2 0 (rb (f_X4_keep 1 μ) fun μ _ => rb (f_X1_makeEntry 1 p1 x1 p4 μ) fun μ x3 => some (μ, 0, x3)) (some (μ, 5, 0))
set_option maxRecDepth 100000 in
theorem c_X10_enter (X : kX) (p1 : Int) (p2 : Int) (p3 : Int) (p4 : Int)  (μ : Mu) : Cq X mX10_enter 6 1 μ [.ref (X.1 + 0), .int (iI p1), .int (iI p2), .int (iI p3), .int (iI p4)] (f_X10_enter p1 p2 p3 p4 μ) := by
  intro res h
  refine ct_of (by decide +kernel) rfl (Nat.le_of_ble_eq_true rfl) ?_
  show KK X mX10_enter 6 1 res 0 [(0, .ref (X.1 + 0)), (1, .int (iI p1)), (2, .int (iI p2)), (3, .int (iI p3)), (4, .int (iI p4))] [] μ
  unfold f_X10_enter at h
  refine K_iload_n (md := mX10_enter) (pc := 0) 1 (kTab_at (pc := 0) tX10_enter_ok 0 rfl) rfl ?_
  refine Z_callS (md := mX10_enter) (pc := 1) (st := []) (sv := (fun _ => [])) (kTab_at (pc := 1) tX10_enter_ok 1 rfl) ms_X10_116 rfl (Nat.le_of_ble_eq_true rfl) (by decide) rfl (c_X10_requireMarker X p1 μ) (fun _ => rfl) h (fun μ _ h => ?_) rfl
  refine K_iload_n (md := mX10_enter) (pc := 4) 2 (kTab_at (pc := 4) tX10_enter_ok 2 rfl) rfl ?_
  refine K_iload_n (md := mX10_enter) (pc := 5) 3 (kTab_at (pc := 5) tX10_enter_ok 3 rfl) rfl ?_
  refine Z_callS (md := mX10_enter) (pc := 6) (st := []) (sv := (fun _ => [])) (kTab_at (pc := 6) tX10_enter_ok 4 rfl) ms_X10_142 rfl (Nat.le_of_ble_eq_true rfl) (by decide) rfl (c_X10_requireScript X p2 p3 μ) (fun _ => rfl) h (fun μ _ h => ?_) rfl
  refine K_iload (md := mX10_enter) (pc := 9) 4 (kTab_at (pc := 9) tX10_enter_ok 5 rfl) rfl ?_
  refine Z_callS (md := mX10_enter) (pc := 11) (st := []) (sv := (fun _ => [])) (kTab_at (pc := 11) tX10_enter_ok 6 rfl) ms_X10_145 rfl (Nat.le_of_ble_eq_true rfl) (by decide) rfl (c_X10_requireNotNegative X p4 μ) (fun _ => rfl) h (fun μ _ h => ?_) rfl
  refine K_iload_n (md := mX10_enter) (pc := 14) 2 (kTab_at (pc := 14) tX10_enter_ok 7 rfl) rfl ?_
  refine K_iload_n (md := mX10_enter) (pc := 15) 3 (kTab_at (pc := 15) tX10_enter_ok 8 rfl) rfl ?_
  refine Z_callS (md := mX10_enter) (pc := 16) (st := []) (sv := (fun x1 => [.int (iI x1)])) (kTab_at (pc := 16) tX10_enter_ok 9 rfl) ms_X10_148 rfl (Nat.le_of_ble_eq_true rfl) (by decide) rfl (c_X10_scriptOf X p2 p3 μ) (fun _ => rfl) h (fun μ x1 h => ?_) rfl
  refine K_istore (md := mX10_enter) (pc := 19) (l' := [(5, .int (iI x1)), (0, .ref (X.1 + 0)), (1, .int (iI p1)), (2, .int (iI p2)), (3, .int (iI p3)), (4, .int (iI p4))]) (kTab_at (pc := 19) tX10_enter_ok 10 rfl) (Nat.le_of_ble_eq_true rfl) rfl ?_
  refine K_aload_n (md := mX10_enter) (pc := 21) 1 (kTab_at (pc := 21) tX10_enter_ok 11 rfl) rfl ?_
  refine K_aload_n (md := mX10_enter) (pc := 22) 1 (kTab_at (pc := 22) tX10_enter_ok 12 rfl) rfl ?_
  refine K_getR (md := mX10_enter) (pc := 23) (b := 1) (kTab_at (pc := 23) tX10_enter_ok 13 rfl) fl_X10_12 sk_0 rfl rfl ?_
  refine K_iconst (md := mX10_enter) (pc := 26) (x := 0) (kTab_at (pc := 26) tX10_enter_ok 14 rfl) rfl ?_
  refine K_iload_n (md := mX10_enter) (pc := 27) 2 (kTab_at (pc := 27) tX10_enter_ok 15 rfl) rfl ?_
  refine K_iload (md := mX10_enter) (pc := 28) 0 (kTab_at (pc := 28) tX10_enter_ok 16 rfl) rfl ?_
  refine K_iload (md := mX10_enter) (pc := 30) 5 (kTab_at (pc := 30) tX10_enter_ok 17 rfl) rfl ?_
  refine Z_callV (md := mX10_enter) (pc := 32) (st := []) (sv := (fun x2 => [.int (iI x2)])) (kTab_at (pc := 32) tX10_enter_ok 18 rfl) mv_X10_151 sk_0 rfl (Nat.le_of_ble_eq_true rfl) (by decide) rfl (c_X10_refusesEntry X 1 0 p1 x1 p4 lay_now μ) (fun _ => rfl) h (fun μ x2 h => ?_) rfl
  refine K_if_eq (md := mX10_enter) (pc := 35) (kTab_at (pc := 35) tX10_enter_ok 19 rfl) (tgt := 48) rfl h (fun h => ?_) (fun h => ?_)
  · refine K_aload_n (md := mX10_enter) (pc := 48) 1 (kTab_at (pc := 48) tX10_enter_ok 25 rfl) rfl ?_
    refine K_getR (md := mX10_enter) (pc := 49) (b := 73) (kTab_at (pc := 49) tX10_enter_ok 26 rfl) fl_X10_25 sk_0 rfl rfl ?_
    refine K_aload_n (md := mX10_enter) (pc := 52) 1 (kTab_at (pc := 52) tX10_enter_ok 27 rfl) rfl ?_
    refine K_getR (md := mX10_enter) (pc := 53) (b := 1) (kTab_at (pc := 53) tX10_enter_ok 28 rfl) fl_X10_12 sk_0 rfl rfl ?_
    refine Z_callV (md := mX10_enter) (pc := 56) (st := []) (sv := (fun _ => [])) (kTab_at (pc := 56) tX10_enter_ok 29 rfl) mv_X10_83 sk_73 rfl (Nat.le_of_ble_eq_true rfl) (by decide) rfl (c_X4_keep X 1 lay_now μ) (fun _ => rfl) h (fun μ _ h => ?_) rfl
    refine K_aload_n (md := mX10_enter) (pc := 59) 1 (kTab_at (pc := 59) tX10_enter_ok 30 rfl) rfl ?_
    refine K_getR (md := mX10_enter) (pc := 60) (b := 1) (kTab_at (pc := 60) tX10_enter_ok 31 rfl) fl_X10_12 sk_0 rfl rfl ?_
    refine K_iload_n (md := mX10_enter) (pc := 63) 2 (kTab_at (pc := 63) tX10_enter_ok 32 rfl) rfl ?_
    refine K_iload (md := mX10_enter) (pc := 64) 0 (kTab_at (pc := 64) tX10_enter_ok 33 rfl) rfl ?_
    refine K_iload (md := mX10_enter) (pc := 66) 5 (kTab_at (pc := 66) tX10_enter_ok 34 rfl) rfl ?_
    refine Z_callV (md := mX10_enter) (pc := 68) (st := []) (sv := (fun x3 => [.int (iI x3)])) (kTab_at (pc := 68) tX10_enter_ok 35 rfl) mv_X10_160 (lay_0 lay_now rfl) rfl (Nat.le_of_ble_eq_true rfl) (by decide) rfl (c_X1_makeEntry X 1 p1 x1 p4 lay_now μ) (fun _ => rfl) h (fun μ x3 h => ?_) rfl
    exact Z_iret (md := mX10_enter) (pc := 71) (kTab_at (pc := 71) tX10_enter_ok 36 rfl) rfl rfl rfl h
  · exact Z_th (md := mX10_enter) (pc := 38) (text := "the entry is refused") th_4 ck_4 (by decide +kernel) rfl (kTab_at (pc := 38) tX10_enter_ok 20 rfl) (kTab_at (pc := 41) tX10_enter_ok 21 rfl) (kTab_at (pc := 42) tX10_enter_ok 22 rfl) (kTab_at (pc := 44) tX10_enter_ok 23 rfl) (kTab_at (pc := 47) tX10_enter_ok 24 rfl) h
def f_X10_append_35 (p1 : Int) (k5 : Int → Int → Mu → Option Res) (v2 : Int) (v3 : Int) (μ : Mu) : Option Res := k5 v2 (v3 + (-8)) μ
set_option maxRecDepth 100000 in
theorem c_X10_append_35 (X : kX) (p1 : Int)  {res : Res} (k5 : Int → Int → Mu → Option Res) (hk5 : ∀ (v2 : Int), ∀ (v3 : Int), ∀ (μ : Mu), k5 v2 v3 μ = some res → KK X mX10_append 1 1 res 5 [(0, .ref (X.1 + 0)), (1, .int (iI p1)), (2, .int (iI v2)), (3, .int (iI v3))] [] μ) (v2 : Int) (v3 : Int) (μ : Mu) (h : f_X10_append_35 p1 k5 v2 v3 μ = some res) : KK X mX10_append 1 1 res 35 [(0, .ref (X.1 + 0)), (1, .int (iI p1)), (2, .int (iI v2)), (3, .int (iI v3))] [] μ := by
  unfold f_X10_append_35 at h
  refine K_iinc (md := mX10_append) (pc := 35) (l' := [(3, .int (iI (v3 + (-8)))), (0, .ref (X.1 + 0)), (1, .int (iI p1)), (2, .int (iI v2))]) 3 (kTab_at (pc := 35) tX10_append_ok 19 rfl) rfl (Nat.le_of_ble_eq_true rfl) rfl ?_
  refine K_goto (md := mX10_append) (pc := 38) (tgt := 5) (kTab_at (pc := 38) tX10_append_ok 20 rfl) rfl ?_
  refine K_sub [1, 2, 3, 0] rfl ?_
  exact hk5 v2 (v3 + (-8)) μ h
def f_X10_append_68 (p1 : Int) (k92 : Mu → Option Res) : Nat → Int → Mu → Option Res
  | 0, _, _ => none
  | fu + 1, v3, μ => i_lt v3 0 (k92 μ) (rb (f_X8_store (andI (ushrI p1 v3) 255) μ) fun μ _ => (f_X10_append_68 p1 k92 fu) (v3 + (-8)) μ)
set_option maxRecDepth 100000 in
theorem c_X10_append_68 (X : kX) (p1 : Int)  {res : Res} (k92 : Mu → Option Res) (hk92 : ∀ (μ : Mu), k92 μ = some res → KK X mX10_append 1 1 res 92 [(0, .ref (X.1 + 0))] [] μ) : ∀ (fu : Nat)  (v3 : Int) (μ : Mu), f_X10_append_68 p1 k92 fu v3 μ = some res → KK X mX10_append 1 1 res 68 [(0, .ref (X.1 + 0)), (1, .int (iI p1)), (3, .int (iI v3))] [] μ := by
  intro fu
  induction fu with
  | zero => intro v3 μ h; exact nomatch h
  | succ fu ih =>
    intro v3 μ h
    refine K_iload_n (md := mX10_append) (pc := 68) 2 (kTab_at (pc := 68) tX10_append_ok 35 rfl) rfl ?_
    refine K_if_lt (md := mX10_append) (pc := 69) (kTab_at (pc := 69) tX10_append_ok 36 rfl) (tgt := 92) rfl h (fun h => ?_) (fun h => ?_)
    · refine K_sub [0] rfl ?_
      exact hk92 μ h
    · refine K_aload_n (md := mX10_append) (pc := 72) 0 (kTab_at (pc := 72) tX10_append_ok 37 rfl) rfl ?_
      refine K_getR (md := mX10_append) (pc := 73) (b := 219) (kTab_at (pc := 73) tX10_append_ok 38 rfl) fl_X10_32 sk_0 rfl rfl ?_
      refine K_iload_n (md := mX10_append) (pc := 76) 1 (kTab_at (pc := 76) tX10_append_ok 39 rfl) rfl ?_
      refine K_iload_n (md := mX10_append) (pc := 77) 2 (kTab_at (pc := 77) tX10_append_ok 40 rfl) rfl ?_
      refine K_iushr (md := mX10_append) (pc := 78) (kTab_at (pc := 78) tX10_append_ok 41 rfl) ?_
      refine K_sipush (md := mX10_append) (pc := 79) (x := 255) (kTab_at (pc := 79) tX10_append_ok 42 rfl) (by decide) ?_
      refine K_iand (md := mX10_append) (pc := 82) (kTab_at (pc := 82) tX10_append_ok 43 rfl) ?_
      refine Z_callV (md := mX10_append) (pc := 83) (st := []) (sv := (fun _ => [])) (kTab_at (pc := 83) tX10_append_ok 44 rfl) mv_X10_169 sk_219 rfl (Nat.le_of_ble_eq_true rfl) (by decide) rfl (c_X8_store X (andI (ushrI p1 v3) 255) μ) (fun _ => rfl) h (fun μ _ h => ?_) rfl
      refine K_iinc (md := mX10_append) (pc := 86) (l' := [(3, .int (iI (v3 + (-8)))), (0, .ref (X.1 + 0)), (1, .int (iI p1))]) 2 (kTab_at (pc := 86) tX10_append_ok 45 rfl) rfl (Nat.le_of_ble_eq_true rfl) rfl ?_
      refine K_goto (md := mX10_append) (pc := 89) (tgt := 68) (kTab_at (pc := 89) tX10_append_ok 46 rfl) rfl ?_
      refine K_sub [1, 2, 0] rfl ?_
      exact ih (v3 + (-8)) μ h
def f_X10_append_5 (p1 : Int) (k41 : Int → Mu → Option Res) : Nat → Int → Int → Mu → Option Res
  | 0, _, _, _ => none
  | fu + 1, v2, v3, μ => i_lt v3 0 (k41 v2 μ) (bnd (andI (ushrI p1 v3) 255) fun x1 => i_eq x1 0 (f_X10_append_35 p1 (f_X10_append_5 p1 k41 fu) v2 v3 μ) (rb (f_X10_requireRange x1 33 126 μ) fun μ _ => f_X10_append_35 p1 (f_X10_append_5 p1 k41 fu) (v2 + 1) v3 μ))
set_option maxRecDepth 100000 in
theorem c_X10_append_5 (X : kX) (p1 : Int)  {res : Res} (k41 : Int → Mu → Option Res) (hk41 : ∀ (v2 : Int), ∀ (μ : Mu), k41 v2 μ = some res → KK X mX10_append 1 1 res 41 [(0, .ref (X.1 + 0)), (1, .int (iI p1)), (2, .int (iI v2))] [] μ) : ∀ (fu : Nat)  (v2 : Int) (v3 : Int) (μ : Mu), f_X10_append_5 p1 k41 fu v2 v3 μ = some res → KK X mX10_append 1 1 res 5 [(0, .ref (X.1 + 0)), (1, .int (iI p1)), (2, .int (iI v2)), (3, .int (iI v3))] [] μ := by
  intro fu
  induction fu with
  | zero => intro v2 v3 μ h; exact nomatch h
  | succ fu ih =>
    intro v2 v3 μ h
    refine K_iload_n (md := mX10_append) (pc := 5) 3 (kTab_at (pc := 5) tX10_append_ok 4 rfl) rfl ?_
    refine K_if_lt (md := mX10_append) (pc := 6) (kTab_at (pc := 6) tX10_append_ok 5 rfl) (tgt := 41) rfl h (fun h => ?_) (fun h => ?_)
    · refine K_sub [0, 1, 2] rfl ?_
      exact hk41 v2 μ h
    · refine K_iload_n (md := mX10_append) (pc := 9) 1 (kTab_at (pc := 9) tX10_append_ok 6 rfl) rfl ?_
      refine K_iload_n (md := mX10_append) (pc := 10) 3 (kTab_at (pc := 10) tX10_append_ok 7 rfl) rfl ?_
      refine K_iushr (md := mX10_append) (pc := 11) (kTab_at (pc := 11) tX10_append_ok 8 rfl) ?_
      refine K_sipush (md := mX10_append) (pc := 12) (x := 255) (kTab_at (pc := 12) tX10_append_ok 9 rfl) (by decide) ?_
      refine K_iand (md := mX10_append) (pc := 15) (kTab_at (pc := 15) tX10_append_ok 10 rfl) ?_
      refine Z_bnd (md := mX10_append) (pc := 16) h (fun x1 h => ?_)
      refine K_istore (md := mX10_append) (pc := 16) (l' := [(4, .int (iI x1)), (0, .ref (X.1 + 0)), (1, .int (iI p1)), (2, .int (iI v2)), (3, .int (iI v3))]) (kTab_at (pc := 16) tX10_append_ok 11 rfl) (Nat.le_of_ble_eq_true rfl) rfl ?_
      refine K_iload (md := mX10_append) (pc := 18) 0 (kTab_at (pc := 18) tX10_append_ok 12 rfl) rfl ?_
      refine K_if_eq (md := mX10_append) (pc := 20) (kTab_at (pc := 20) tX10_append_ok 13 rfl) (tgt := 35) rfl h (fun h => ?_) (fun h => ?_)
      · refine K_sub [1, 2, 3, 4] rfl ?_
        refine c_X10_append_35 X p1 _ ih v2 v3 μ h
      · refine K_iload (md := mX10_append) (pc := 23) 0 (kTab_at (pc := 23) tX10_append_ok 14 rfl) rfl ?_
        refine K_bipush (md := mX10_append) (pc := 25) (x := 33) (kTab_at (pc := 25) tX10_append_ok 15 rfl) (by decide) ?_
        refine K_bipush (md := mX10_append) (pc := 27) (x := 126) (kTab_at (pc := 27) tX10_append_ok 16 rfl) (by decide) ?_
        refine Z_callS (md := mX10_append) (pc := 29) (st := []) (sv := (fun _ => [])) (kTab_at (pc := 29) tX10_append_ok 17 rfl) ms_X10_61 rfl (Nat.le_of_ble_eq_true rfl) (by decide) rfl (c_X10_requireRange X x1 33 126 μ) (fun _ => rfl) h (fun μ _ h => ?_) rfl
        refine K_iinc (md := mX10_append) (pc := 32) (l' := [(2, .int (iI (v2 + 1))), (4, .int (iI x1)), (0, .ref (X.1 + 0)), (1, .int (iI p1)), (3, .int (iI v3))]) 3 (kTab_at (pc := 32) tX10_append_ok 18 rfl) rfl (Nat.le_of_ble_eq_true rfl) rfl ?_
        refine K_sub [2, 3, 0, 4] rfl ?_
        refine c_X10_append_35 X p1 _ ih (v2 + 1) v3 μ h
def f_X10_append (p1 : Int) (μ : Mu) : Option Res := f_X10_append_5 p1 (fun v2 μ => rdF μ 219 2 fun x1 => i_lt 60 (x1 + v2) (some (μ, 1, 0)) (f_X10_append_68 p1 (fun μ => rdF μ 219 2 fun x2 => some (μ, 0, x2)) FU 24 μ)) FU 0 24 μ
set_option maxRecDepth 100000 in
theorem c_X10_append (X : kX) (p1 : Int)  (μ : Mu) : Cq X mX10_append 1 1 μ [.ref (X.1 + 0), .int (iI p1)] (f_X10_append p1 μ) := by
  intro res h
  refine ct_of (by decide +kernel) rfl (Nat.le_of_ble_eq_true rfl) ?_
  show KK X mX10_append 1 1 res 0 [(0, .ref (X.1 + 0)), (1, .int (iI p1))] [] μ
  unfold f_X10_append at h
  refine K_iconst (md := mX10_append) (pc := 0) (x := 0) (kTab_at (pc := 0) tX10_append_ok 0 rfl) rfl ?_
  refine K_istore_n (md := mX10_append) (pc := 1) (l' := [(2, .int (iI 0)), (0, .ref (X.1 + 0)), (1, .int (iI p1))]) (kTab_at (pc := 1) tX10_append_ok 1 rfl) (Nat.le_of_ble_eq_true rfl) rfl ?_
  refine K_bipush (md := mX10_append) (pc := 2) (x := 24) (kTab_at (pc := 2) tX10_append_ok 2 rfl) (by decide) ?_
  refine K_istore_n (md := mX10_append) (pc := 4) (l' := [(3, .int (iI 24)), (2, .int (iI 0)), (0, .ref (X.1 + 0)), (1, .int (iI p1))]) (kTab_at (pc := 4) tX10_append_ok 3 rfl) (Nat.le_of_ble_eq_true rfl) rfl ?_
  refine K_sub [2, 3, 1, 0] rfl ?_
  refine c_X10_append_5 X p1 _ ?_ _ 0 24 μ h
  · intro v2 μ h
    refine K_aload_n (md := mX10_append) (pc := 41) 0 (kTab_at (pc := 41) tX10_append_ok 21 rfl) rfl ?_
    refine K_getR (md := mX10_append) (pc := 42) (b := 219) (kTab_at (pc := 42) tX10_append_ok 22 rfl) fl_X10_32 sk_0 rfl rfl ?_
    refine Z_getI (md := mX10_append) (pc := 45) (kTab_at (pc := 45) tX10_append_ok 23 rfl) fl_X10_163 sk_219 (Or.inl rfl) h (fun x1 h => ?_)
    refine K_iload_n (md := mX10_append) (pc := 48) 2 (kTab_at (pc := 48) tX10_append_ok 24 rfl) rfl ?_
    refine K_iadd (md := mX10_append) (pc := 49) (kTab_at (pc := 49) tX10_append_ok 25 rfl) ?_
    refine K_bipush (md := mX10_append) (pc := 50) (x := 60) (kTab_at (pc := 50) tX10_append_ok 26 rfl) (by decide) ?_
    refine K_icmp_le (md := mX10_append) (pc := 52) (kTab_at (pc := 52) tX10_append_ok 27 rfl) (tgt := 65) rfl h (fun h => ?_) (fun h => ?_)
    · refine K_bipush (md := mX10_append) (pc := 65) (x := 24) (kTab_at (pc := 65) tX10_append_ok 33 rfl) (by decide) ?_
      refine K_istore_n (md := mX10_append) (pc := 67) (l' := [(3, .int (iI 24)), (0, .ref (X.1 + 0)), (1, .int (iI p1)), (2, .int (iI v2))]) (kTab_at (pc := 67) tX10_append_ok 34 rfl) (Nat.le_of_ble_eq_true rfl) rfl ?_
      refine K_sub [1, 2, 0] rfl ?_
      refine c_X10_append_68 X p1 _ ?_ _ 24 μ h
      · intro  μ h
        refine K_aload_n (md := mX10_append) (pc := 92) 0 (kTab_at (pc := 92) tX10_append_ok 47 rfl) rfl ?_
        refine K_getR (md := mX10_append) (pc := 93) (b := 219) (kTab_at (pc := 93) tX10_append_ok 48 rfl) fl_X10_32 sk_0 rfl rfl ?_
        refine Z_getI (md := mX10_append) (pc := 96) (kTab_at (pc := 96) tX10_append_ok 49 rfl) fl_X10_163 sk_219 (Or.inl rfl) h (fun x2 h => ?_)
        exact Z_iret (md := mX10_append) (pc := 99) (kTab_at (pc := 99) tX10_append_ok 50 rfl) rfl rfl rfl h
    · exact Z_th (md := mX10_append) (pc := 55) (text := "the buffer is full") th_0 ck_0 (by decide +kernel) rfl (kTab_at (pc := 55) tX10_append_ok 28 rfl) (kTab_at (pc := 58) tX10_append_ok 29 rfl) (kTab_at (pc := 59) tX10_append_ok 30 rfl) (kTab_at (pc := 61) tX10_append_ok 31 rfl) (kTab_at (pc := 64) tX10_append_ok 32 rfl) h
def f_X10_sheet_147    (μ : Mu) : Option Res := rb (f_X4_keep 1 μ) fun μ _ => rb (f_X1_copyFrom 1 25 μ) fun μ _ => rdF μ 219 6 fun x1 => some (μ, 0, x1)
set_option maxRecDepth 100000 in
theorem c_X10_sheet_147 (X : kX)   {res : Res}  (μ : Mu) (h : f_X10_sheet_147 μ = some res) : KK X mX10_sheet 6 1 res 147 [(0, .ref (X.1 + 0))] [] μ := by
  unfold f_X10_sheet_147 at h
  refine K_aload_n (md := mX10_sheet) (pc := 147) 0 (kTab_at (pc := 147) tX10_sheet_ok 72 rfl) rfl ?_
  refine K_getR (md := mX10_sheet) (pc := 148) (b := 73) (kTab_at (pc := 148) tX10_sheet_ok 73 rfl) fl_X10_25 sk_0 rfl rfl ?_
  refine K_aload_n (md := mX10_sheet) (pc := 151) 0 (kTab_at (pc := 151) tX10_sheet_ok 74 rfl) rfl ?_
  refine K_getR (md := mX10_sheet) (pc := 152) (b := 1) (kTab_at (pc := 152) tX10_sheet_ok 75 rfl) fl_X10_12 sk_0 rfl rfl ?_
  refine Z_callV (md := mX10_sheet) (pc := 155) (st := []) (sv := (fun _ => [])) (kTab_at (pc := 155) tX10_sheet_ok 76 rfl) mv_X10_83 sk_73 rfl (Nat.le_of_ble_eq_true rfl) (by decide) rfl (c_X4_keep X 1 lay_now μ) (fun _ => rfl) h (fun μ _ h => ?_) rfl
  refine K_aload_n (md := mX10_sheet) (pc := 158) 0 (kTab_at (pc := 158) tX10_sheet_ok 77 rfl) rfl ?_
  refine K_getR (md := mX10_sheet) (pc := 159) (b := 1) (kTab_at (pc := 159) tX10_sheet_ok 78 rfl) fl_X10_12 sk_0 rfl rfl ?_
  refine K_aload_n (md := mX10_sheet) (pc := 162) 0 (kTab_at (pc := 162) tX10_sheet_ok 79 rfl) rfl ?_
  refine K_getR (md := mX10_sheet) (pc := 163) (b := 25) (kTab_at (pc := 163) tX10_sheet_ok 80 rfl) fl_X10_16 sk_0 rfl rfl ?_
  refine Z_callV (md := mX10_sheet) (pc := 166) (st := []) (sv := (fun _ => [])) (kTab_at (pc := 166) tX10_sheet_ok 81 rfl) mv_X10_183 (lay_0 lay_now rfl) rfl (Nat.le_of_ble_eq_true rfl) (by decide) rfl (c_X1_copyFrom X 1 25 lay_now lay_draft μ) (fun _ => rfl) h (fun μ _ h => ?_) rfl
  refine K_aload_n (md := mX10_sheet) (pc := 169) 0 (kTab_at (pc := 169) tX10_sheet_ok 82 rfl) rfl ?_
  refine K_getR (md := mX10_sheet) (pc := 170) (b := 219) (kTab_at (pc := 170) tX10_sheet_ok 83 rfl) fl_X10_32 sk_0 rfl rfl ?_
  refine Z_getI (md := mX10_sheet) (pc := 173) (kTab_at (pc := 173) tX10_sheet_ok 84 rfl) fl_X10_186 sk_219 (Or.inl rfl) h (fun x1 h => ?_)
  exact Z_iret (md := mX10_sheet) (pc := 176) (kTab_at (pc := 176) tX10_sheet_ok 85 rfl) rfl rfl rfl h
def f_X10_sheet_40  (k106 : Mu → Option Res) (k147 : Mu → Option Res) : Nat → Int → Mu → Option Res
  | 0, _, _ => none
  | fu + 1, v1, μ => rdF μ 219 6 fun x1 => i_lt v1 x1 (i_lt v1 20 (rdI μ 221 20 v1 fun x2 => rdF μ 219 5 fun x3 => rb (f_X10_scriptOf x2 x3 μ) fun μ x4 => rdF μ 219 4 fun x5 => rdI μ 222 20 v1 fun x6 => rb (f_X10_refusesEntry 25 v1 x5 x4 x6 μ) fun μ x7 => i_eq x7 0 (rdF μ 219 4 fun x8 => rdI μ 222 20 v1 fun x9 => rb (f_X1_makeEntry 25 x8 x4 x9 μ) fun μ x10 => (f_X10_sheet_40 k106 k147 fu) (v1 + 1) μ) (k106 μ)) (k147 μ)) (k147 μ)
set_option maxRecDepth 100000 in
theorem c_X10_sheet_40 (X : kX)   {res : Res} (k106 : Mu → Option Res) (hk106 : ∀ (μ : Mu), k106 μ = some res → KK X mX10_sheet 6 1 res 106 [] [] μ) (k147 : Mu → Option Res) (hk147 : ∀ (μ : Mu), k147 μ = some res → KK X mX10_sheet 6 1 res 147 [(0, .ref (X.1 + 0))] [] μ) : ∀ (fu : Nat)  (v1 : Int) (μ : Mu), f_X10_sheet_40 k106 k147 fu v1 μ = some res → KK X mX10_sheet 6 1 res 40 [(0, .ref (X.1 + 0)), (1, .int (iI v1))] [] μ := by
  intro fu
  induction fu with
  | zero => intro v1 μ h; exact nomatch h
  | succ fu ih =>
    intro v1 μ h
    refine K_iload_n (md := mX10_sheet) (pc := 40) 1 (kTab_at (pc := 40) tX10_sheet_ok 19 rfl) rfl ?_
    refine K_aload_n (md := mX10_sheet) (pc := 41) 0 (kTab_at (pc := 41) tX10_sheet_ok 20 rfl) rfl ?_
    refine K_getR (md := mX10_sheet) (pc := 42) (b := 219) (kTab_at (pc := 42) tX10_sheet_ok 21 rfl) fl_X10_32 sk_0 rfl rfl ?_
    refine Z_getI (md := mX10_sheet) (pc := 45) (kTab_at (pc := 45) tX10_sheet_ok 22 rfl) fl_X10_186 sk_219 (Or.inl rfl) h (fun x1 h => ?_)
    refine K_icmp_ge (md := mX10_sheet) (pc := 48) (kTab_at (pc := 48) tX10_sheet_ok 23 rfl) (tgt := 147) rfl h (fun h => ?_) (fun h => ?_)
    · refine K_sub [0] rfl ?_
      exact hk147 μ h
    · refine K_iload_n (md := mX10_sheet) (pc := 51) 1 (kTab_at (pc := 51) tX10_sheet_ok 24 rfl) rfl ?_
      refine K_bipush (md := mX10_sheet) (pc := 52) (x := 20) (kTab_at (pc := 52) tX10_sheet_ok 25 rfl) (by decide) ?_
      refine K_icmp_ge (md := mX10_sheet) (pc := 54) (kTab_at (pc := 54) tX10_sheet_ok 26 rfl) (tgt := 147) rfl h (fun h => ?_) (fun h => ?_)
      · refine K_sub [0] rfl ?_
        exact hk147 μ h
      · refine K_aload_n (md := mX10_sheet) (pc := 57) 0 (kTab_at (pc := 57) tX10_sheet_ok 27 rfl) rfl ?_
        refine K_getR (md := mX10_sheet) (pc := 58) (b := 219) (kTab_at (pc := 58) tX10_sheet_ok 28 rfl) fl_X10_32 sk_0 rfl rfl ?_
        refine K_getR (md := mX10_sheet) (pc := 61) (b := 221) (kTab_at (pc := 61) tX10_sheet_ok 29 rfl) fl_X10_189 sk_219 rfl rfl ?_
        refine K_iload_n (md := mX10_sheet) (pc := 64) 1 (kTab_at (pc := 64) tX10_sheet_ok 30 rfl) rfl ?_
        refine Z_iald (md := mX10_sheet) (pc := 65) (kTab_at (pc := 65) tX10_sheet_ok 31 rfl) sk_221 (by decide) h (fun x2 h => ?_)
        refine K_aload_n (md := mX10_sheet) (pc := 66) 0 (kTab_at (pc := 66) tX10_sheet_ok 32 rfl) rfl ?_
        refine K_getR (md := mX10_sheet) (pc := 67) (b := 219) (kTab_at (pc := 67) tX10_sheet_ok 33 rfl) fl_X10_32 sk_0 rfl rfl ?_
        refine Z_getI (md := mX10_sheet) (pc := 70) (kTab_at (pc := 70) tX10_sheet_ok 34 rfl) fl_X10_192 sk_219 (Or.inl rfl) h (fun x3 h => ?_)
        refine Z_callS (md := mX10_sheet) (pc := 73) (st := []) (sv := (fun x4 => [.int (iI x4)])) (kTab_at (pc := 73) tX10_sheet_ok 35 rfl) ms_X10_148 rfl (Nat.le_of_ble_eq_true rfl) (by decide) rfl (c_X10_scriptOf X x2 x3 μ) (fun _ => rfl) h (fun μ x4 h => ?_) rfl
        refine K_istore_n (md := mX10_sheet) (pc := 76) (l' := [(2, .int (iI x4)), (0, .ref (X.1 + 0)), (1, .int (iI v1))]) (kTab_at (pc := 76) tX10_sheet_ok 36 rfl) (Nat.le_of_ble_eq_true rfl) rfl ?_
        refine K_aload_n (md := mX10_sheet) (pc := 77) 1 (kTab_at (pc := 77) tX10_sheet_ok 37 rfl) rfl ?_
        refine K_aload_n (md := mX10_sheet) (pc := 78) 1 (kTab_at (pc := 78) tX10_sheet_ok 38 rfl) rfl ?_
        refine K_getR (md := mX10_sheet) (pc := 79) (b := 25) (kTab_at (pc := 79) tX10_sheet_ok 39 rfl) fl_X10_16 sk_0 rfl rfl ?_
        refine K_iload_n (md := mX10_sheet) (pc := 82) 2 (kTab_at (pc := 82) tX10_sheet_ok 40 rfl) rfl ?_
        refine K_aload_n (md := mX10_sheet) (pc := 83) 1 (kTab_at (pc := 83) tX10_sheet_ok 41 rfl) rfl ?_
        refine K_getR (md := mX10_sheet) (pc := 84) (b := 219) (kTab_at (pc := 84) tX10_sheet_ok 42 rfl) fl_X10_32 sk_0 rfl rfl ?_
        refine Z_getI (md := mX10_sheet) (pc := 87) (kTab_at (pc := 87) tX10_sheet_ok 43 rfl) fl_X10_195 sk_219 (Or.inl rfl) h (fun x5 h => ?_)
        refine K_iload_n (md := mX10_sheet) (pc := 90) 0 (kTab_at (pc := 90) tX10_sheet_ok 44 rfl) rfl ?_
        refine K_aload_n (md := mX10_sheet) (pc := 91) 1 (kTab_at (pc := 91) tX10_sheet_ok 45 rfl) rfl ?_
        refine K_getR (md := mX10_sheet) (pc := 92) (b := 219) (kTab_at (pc := 92) tX10_sheet_ok 46 rfl) fl_X10_32 sk_0 rfl rfl ?_
        refine K_getR (md := mX10_sheet) (pc := 95) (b := 222) (kTab_at (pc := 95) tX10_sheet_ok 47 rfl) fl_X10_198 sk_219 rfl rfl ?_
        refine K_iload_n (md := mX10_sheet) (pc := 98) 2 (kTab_at (pc := 98) tX10_sheet_ok 48 rfl) rfl ?_
        refine Z_iald (md := mX10_sheet) (pc := 99) (kTab_at (pc := 99) tX10_sheet_ok 49 rfl) sk_222 (by decide) h (fun x6 h => ?_)
        refine Z_callV (md := mX10_sheet) (pc := 100) (st := []) (sv := (fun x7 => [.int (iI x7)])) (kTab_at (pc := 100) tX10_sheet_ok 50 rfl) mv_X10_151 sk_0 rfl (Nat.le_of_ble_eq_true rfl) (by decide) rfl (c_X10_refusesEntry X 25 v1 x5 x4 x6 lay_draft μ) (fun _ => rfl) h (fun μ x7 h => ?_) rfl
        refine K_if_eq (md := mX10_sheet) (pc := 103) (kTab_at (pc := 103) tX10_sheet_ok 51 rfl) (tgt := 116) rfl h (fun h => ?_) (fun h => ?_)
        · refine K_aload_n (md := mX10_sheet) (pc := 116) 1 (kTab_at (pc := 116) tX10_sheet_ok 57 rfl) rfl ?_
          refine K_getR (md := mX10_sheet) (pc := 117) (b := 25) (kTab_at (pc := 117) tX10_sheet_ok 58 rfl) fl_X10_16 sk_0 rfl rfl ?_
          refine K_aload_n (md := mX10_sheet) (pc := 120) 1 (kTab_at (pc := 120) tX10_sheet_ok 59 rfl) rfl ?_
          refine K_getR (md := mX10_sheet) (pc := 121) (b := 219) (kTab_at (pc := 121) tX10_sheet_ok 60 rfl) fl_X10_32 sk_0 rfl rfl ?_
          refine Z_getI (md := mX10_sheet) (pc := 124) (kTab_at (pc := 124) tX10_sheet_ok 61 rfl) fl_X10_195 sk_219 (Or.inl rfl) h (fun x8 h => ?_)
          refine K_iload_n (md := mX10_sheet) (pc := 127) 0 (kTab_at (pc := 127) tX10_sheet_ok 62 rfl) rfl ?_
          refine K_aload_n (md := mX10_sheet) (pc := 128) 1 (kTab_at (pc := 128) tX10_sheet_ok 63 rfl) rfl ?_
          refine K_getR (md := mX10_sheet) (pc := 129) (b := 219) (kTab_at (pc := 129) tX10_sheet_ok 64 rfl) fl_X10_32 sk_0 rfl rfl ?_
          refine K_getR (md := mX10_sheet) (pc := 132) (b := 222) (kTab_at (pc := 132) tX10_sheet_ok 65 rfl) fl_X10_198 sk_219 rfl rfl ?_
          refine K_iload_n (md := mX10_sheet) (pc := 135) 2 (kTab_at (pc := 135) tX10_sheet_ok 66 rfl) rfl ?_
          refine Z_iald (md := mX10_sheet) (pc := 136) (kTab_at (pc := 136) tX10_sheet_ok 67 rfl) sk_222 (by decide) h (fun x9 h => ?_)
          refine Z_callV (md := mX10_sheet) (pc := 137) (st := []) (sv := (fun x10 => [.int (iI x10)])) (kTab_at (pc := 137) tX10_sheet_ok 68 rfl) mv_X10_160 (lay_0 lay_draft rfl) rfl (Nat.le_of_ble_eq_true rfl) (by decide) rfl (c_X1_makeEntry X 25 x8 x4 x9 lay_draft μ) (fun _ => rfl) h (fun μ x10 h => ?_) rfl
          refine K_pop (md := mX10_sheet) (pc := 140) (kTab_at (pc := 140) tX10_sheet_ok 69 rfl) rfl ?_
          refine K_iinc (md := mX10_sheet) (pc := 141) (l' := [(1, .int (iI (v1 + 1))), (2, .int (iI x4)), (0, .ref (X.1 + 0))]) 2 (kTab_at (pc := 141) tX10_sheet_ok 70 rfl) rfl (Nat.le_of_ble_eq_true rfl) rfl ?_
          refine K_goto (md := mX10_sheet) (pc := 144) (tgt := 40) (kTab_at (pc := 144) tX10_sheet_ok 71 rfl) rfl ?_
          refine K_sub [2, 0] rfl ?_
          exact ih (v1 + 1) μ h
        · refine K_sub [] rfl ?_
          exact hk106 μ h
def f_X10_sheet  (μ : Mu) : Option Res := rb (f_X8_readAndClear μ) fun μ _ => rdF μ 219 3 fun x1 => i_lt x1 0 (rb (f_X1_copyFrom 25 1 μ) fun μ _ => f_X10_sheet_40 (fun μ => some (μ, 5, 0)) (fun μ => f_X10_sheet_147 μ) FU 0 μ) (some (μ, 2, 0))
set_option maxRecDepth 100000 in
theorem c_X10_sheet (X : kX)   (μ : Mu) : Cq X mX10_sheet 6 1 μ [.ref (X.1 + 0)] (f_X10_sheet  μ) := by
  intro res h
  refine ct_of (by decide +kernel) rfl (Nat.le_of_ble_eq_true rfl) ?_
  show KK X mX10_sheet 6 1 res 0 [(0, .ref (X.1 + 0))] [] μ
  unfold f_X10_sheet at h
  refine K_aload_n (md := mX10_sheet) (pc := 0) 0 (kTab_at (pc := 0) tX10_sheet_ok 0 rfl) rfl ?_
  refine K_getR (md := mX10_sheet) (pc := 1) (b := 219) (kTab_at (pc := 1) tX10_sheet_ok 1 rfl) fl_X10_32 sk_0 rfl rfl ?_
  refine Z_callV (md := mX10_sheet) (pc := 4) (st := []) (sv := (fun _ => [])) (kTab_at (pc := 4) tX10_sheet_ok 2 rfl) mv_X10_172 sk_219 rfl (Nat.le_of_ble_eq_true rfl) (by decide) rfl (c_X8_readAndClear X μ) (fun _ => rfl) h (fun μ _ h => ?_) rfl
  refine K_aload_n (md := mX10_sheet) (pc := 7) 0 (kTab_at (pc := 7) tX10_sheet_ok 3 rfl) rfl ?_
  refine K_getR (md := mX10_sheet) (pc := 8) (b := 219) (kTab_at (pc := 8) tX10_sheet_ok 4 rfl) fl_X10_32 sk_0 rfl rfl ?_
  refine Z_getI (md := mX10_sheet) (pc := 11) (kTab_at (pc := 11) tX10_sheet_ok 5 rfl) fl_X10_175 sk_219 (Or.inl rfl) h (fun x1 h => ?_)
  refine K_if_lt (md := mX10_sheet) (pc := 14) (kTab_at (pc := 14) tX10_sheet_ok 6 rfl) (tgt := 27) rfl h (fun h => ?_) (fun h => ?_)
  · refine K_aload_n (md := mX10_sheet) (pc := 27) 0 (kTab_at (pc := 27) tX10_sheet_ok 12 rfl) rfl ?_
    refine K_getR (md := mX10_sheet) (pc := 28) (b := 25) (kTab_at (pc := 28) tX10_sheet_ok 13 rfl) fl_X10_16 sk_0 rfl rfl ?_
    refine K_aload_n (md := mX10_sheet) (pc := 31) 0 (kTab_at (pc := 31) tX10_sheet_ok 14 rfl) rfl ?_
    refine K_getR (md := mX10_sheet) (pc := 32) (b := 1) (kTab_at (pc := 32) tX10_sheet_ok 15 rfl) fl_X10_12 sk_0 rfl rfl ?_
    refine Z_callV (md := mX10_sheet) (pc := 35) (st := []) (sv := (fun _ => [])) (kTab_at (pc := 35) tX10_sheet_ok 16 rfl) mv_X10_183 (lay_0 lay_draft rfl) rfl (Nat.le_of_ble_eq_true rfl) (by decide) rfl (c_X1_copyFrom X 25 1 lay_draft lay_now μ) (fun _ => rfl) h (fun μ _ h => ?_) rfl
    refine K_iconst (md := mX10_sheet) (pc := 38) (x := 0) (kTab_at (pc := 38) tX10_sheet_ok 17 rfl) rfl ?_
    refine K_istore_n (md := mX10_sheet) (pc := 39) (l' := [(1, .int (iI 0)), (0, .ref (X.1 + 0))]) (kTab_at (pc := 39) tX10_sheet_ok 18 rfl) (Nat.le_of_ble_eq_true rfl) rfl ?_
    refine K_sub [1, 0] rfl ?_
    refine c_X10_sheet_40 X  _ ?_ _ ?_ _ 0 μ h
    · intro  μ h
      exact Z_th (md := mX10_sheet) (pc := 106) (text := "an entry of the sheet is refused") th_4 ck_4 (by decide +kernel) rfl (kTab_at (pc := 106) tX10_sheet_ok 52 rfl) (kTab_at (pc := 109) tX10_sheet_ok 53 rfl) (kTab_at (pc := 110) tX10_sheet_ok 54 rfl) (kTab_at (pc := 112) tX10_sheet_ok 55 rfl) (kTab_at (pc := 115) tX10_sheet_ok 56 rfl) h
    · intro  μ h
      refine c_X10_sheet_147 X   μ h
  · exact Z_th (md := mX10_sheet) (pc := 17) (text := "the text is no sheet") th_1 ck_1 (by decide +kernel) rfl (kTab_at (pc := 17) tX10_sheet_ok 7 rfl) (kTab_at (pc := 20) tX10_sheet_ok 8 rfl) (kTab_at (pc := 21) tX10_sheet_ok 9 rfl) (kTab_at (pc := 23) tX10_sheet_ok 10 rfl) (kTab_at (pc := 26) tX10_sheet_ok 11 rfl) h
def f_X10_errorPosition  (μ : Mu) : Option Res := rdF μ 219 3 fun x1 => some (μ, 0, x1)
set_option maxRecDepth 100000 in
theorem c_X10_errorPosition (X : kX)   (μ : Mu) : Cq X mX10_errorPosition 0 1 μ [.ref (X.1 + 0)] (f_X10_errorPosition  μ) := by
  intro res h
  refine ct_of (by decide +kernel) rfl (Nat.le_of_ble_eq_true rfl) ?_
  show KK X mX10_errorPosition 0 1 res 0 [(0, .ref (X.1 + 0))] [] μ
  unfold f_X10_errorPosition at h
  refine K_aload_n (md := mX10_errorPosition) (pc := 0) 0 (kTab_at (pc := 0) tX10_errorPosition_ok 0 rfl) rfl ?_
  refine K_getR (md := mX10_errorPosition) (pc := 1) (b := 219) (kTab_at (pc := 1) tX10_errorPosition_ok 1 rfl) fl_X10_32 sk_0 rfl rfl ?_
  refine Z_getI (md := mX10_errorPosition) (pc := 4) (kTab_at (pc := 4) tX10_errorPosition_ok 2 rfl) fl_X10_175 sk_219 (Or.inl rfl) h (fun x1 h => ?_)
  exact Z_iret (md := mX10_errorPosition) (pc := 7) (kTab_at (pc := 7) tX10_errorPosition_ok 3 rfl) rfl rfl rfl h
def f_X10_entry_38 (p1 : Int) (p2 : Int) (p3 : Int) (p4 : Int)   (μ : Mu) : Option Res := some (μ, 6, 0)
set_option maxRecDepth 100000 in
theorem c_X10_entry_38 (X : kX) (p1 : Int) (p2 : Int) (p3 : Int) (p4 : Int)  {res : Res}  (μ : Mu) (h : f_X10_entry_38 p1 p2 p3 p4 μ = some res) : KK X mX10_entry 3 1 res 38 [] [] μ := by
  unfold f_X10_entry_38 at h
  exact Z_thN (md := mX10_entry) (pc := 38) (text := "no such entry") tn_0 ck_5 (by decide +kernel) rfl (kTab_at (pc := 38) tX10_entry_ok 20 rfl) (kTab_at (pc := 41) tX10_entry_ok 21 rfl) (kTab_at (pc := 42) tX10_entry_ok 22 rfl) (kTab_at (pc := 44) tX10_entry_ok 23 rfl) (kTab_at (pc := 47) tX10_entry_ok 24 rfl) h
def f_X10_entry_147 (p1 : Int) (p2 : Int) (p3 : Int) (p4 : Int)  (s0 : Int) (μ : Mu) : Option Res := some (μ, 0, s0)
set_option maxRecDepth 100000 in
theorem c_X10_entry_147 (X : kX) (p1 : Int) (p2 : Int) (p3 : Int) (p4 : Int)  {res : Res}  (s0 : Int) (μ : Mu) (h : f_X10_entry_147 p1 p2 p3 p4 s0 μ = some res) : KK X mX10_entry 3 1 res 147 [] [.int (iI s0)] μ := by
  unfold f_X10_entry_147 at h
  exact Z_iret (md := mX10_entry) (pc := 147) (kTab_at (pc := 147) tX10_entry_ok 64 rfl) rfl rfl rfl h
def f_X10_entry (p1 : Int) (p2 : Int) (p3 : Int) (p4 : Int) (μ : Mu) : Option Res := rb (f_X10_requireScript p1 p2 μ) fun μ _ => rb (f_X10_scriptOf p1 p2 μ) fun μ x1 => i_lt p3 0 (f_X10_entry_38 p1 p2 p3 p4 μ) (rdI μ ((1 + 11) + 1) 40 x1 fun x2 => i_lt p3 x2 (i_lt p3 3 (rb (f_X10_requireRange p4 0 3 μ) fun μ _ => bnd ((x1 * 3) + p3) fun x3 => i_sw p4 0 [rdI μ ((1 + 11) + 2) 120 x3 fun x4 => some (μ, 0, x4), rdI μ ((1 + 11) + 3) 120 x3 fun x5 => some (μ, 0, x5), rb (f_X1_valueOf 1 x3 μ) fun μ x6 => some (μ, 0, x6)] (rb (f_X1_isValid 1 x3 μ) fun μ x7 => i_eq x7 0 (f_X10_entry_147 p1 p2 p3 p4 0 μ) (f_X10_entry_147 p1 p2 p3 p4 1 μ))) (f_X10_entry_38 p1 p2 p3 p4 μ)) (f_X10_entry_38 p1 p2 p3 p4 μ))
set_option maxRecDepth 100000 in
theorem c_X10_entry (X : kX) (p1 : Int) (p2 : Int) (p3 : Int) (p4 : Int)  (μ : Mu) : Cq X mX10_entry 3 1 μ [.ref (X.1 + 0), .int (iI p1), .int (iI p2), .int (iI p3), .int (iI p4)] (f_X10_entry p1 p2 p3 p4 μ) := by
  intro res h
  refine ct_of (by decide +kernel) rfl (Nat.le_of_ble_eq_true rfl) ?_
  show KK X mX10_entry 3 1 res 0 [(0, .ref (X.1 + 0)), (1, .int (iI p1)), (2, .int (iI p2)), (3, .int (iI p3)), (4, .int (iI p4))] [] μ
  unfold f_X10_entry at h
  refine K_iload_n (md := mX10_entry) (pc := 0) 1 (kTab_at (pc := 0) tX10_entry_ok 0 rfl) rfl ?_
  refine K_iload_n (md := mX10_entry) (pc := 1) 2 (kTab_at (pc := 1) tX10_entry_ok 1 rfl) rfl ?_
  refine Z_callS (md := mX10_entry) (pc := 2) (st := []) (sv := (fun _ => [])) (kTab_at (pc := 2) tX10_entry_ok 2 rfl) ms_X10_142 rfl (Nat.le_of_ble_eq_true rfl) (by decide) rfl (c_X10_requireScript X p1 p2 μ) (fun _ => rfl) h (fun μ _ h => ?_) rfl
  refine K_iload_n (md := mX10_entry) (pc := 5) 1 (kTab_at (pc := 5) tX10_entry_ok 3 rfl) rfl ?_
  refine K_iload_n (md := mX10_entry) (pc := 6) 2 (kTab_at (pc := 6) tX10_entry_ok 4 rfl) rfl ?_
  refine Z_callS (md := mX10_entry) (pc := 7) (st := []) (sv := (fun x1 => [.int (iI x1)])) (kTab_at (pc := 7) tX10_entry_ok 5 rfl) ms_X10_148 rfl (Nat.le_of_ble_eq_true rfl) (by decide) rfl (c_X10_scriptOf X p1 p2 μ) (fun _ => rfl) h (fun μ x1 h => ?_) rfl
  refine K_istore (md := mX10_entry) (pc := 10) (l' := [(5, .int (iI x1)), (0, .ref (X.1 + 0)), (1, .int (iI p1)), (2, .int (iI p2)), (3, .int (iI p3)), (4, .int (iI p4))]) (kTab_at (pc := 10) tX10_entry_ok 6 rfl) (Nat.le_of_ble_eq_true rfl) rfl ?_
  refine K_iload_n (md := mX10_entry) (pc := 12) 4 (kTab_at (pc := 12) tX10_entry_ok 7 rfl) rfl ?_
  refine K_if_lt (md := mX10_entry) (pc := 13) (kTab_at (pc := 13) tX10_entry_ok 8 rfl) (tgt := 38) rfl h (fun h => ?_) (fun h => ?_)
  · refine K_sub [] rfl ?_
    refine c_X10_entry_38 X p1 p2 p3 p4  μ h
  · refine K_iload_n (md := mX10_entry) (pc := 16) 4 (kTab_at (pc := 16) tX10_entry_ok 9 rfl) rfl ?_
    refine K_aload_n (md := mX10_entry) (pc := 17) 1 (kTab_at (pc := 17) tX10_entry_ok 10 rfl) rfl ?_
    refine K_getR (md := mX10_entry) (pc := 18) (b := 1) (kTab_at (pc := 18) tX10_entry_ok 11 rfl) fl_X10_12 sk_0 rfl rfl ?_
    refine K_getR (md := mX10_entry) (pc := 21) (b := (1 + 11)) (kTab_at (pc := 21) tX10_entry_ok 12 rfl) fl_X10_203 (lay_0 lay_now rfl) rfl rfl ?_
    refine K_getR (md := mX10_entry) (pc := 24) (b := ((1 + 11) + 1)) (kTab_at (pc := 24) tX10_entry_ok 13 rfl) fl_X10_206 (lay_0 (lay_entries lay_now) rfl) rfl rfl ?_
    refine K_iload (md := mX10_entry) (pc := 27) 0 (kTab_at (pc := 27) tX10_entry_ok 14 rfl) rfl ?_
    refine Z_iald (md := mX10_entry) (pc := 29) (kTab_at (pc := 29) tX10_entry_ok 15 rfl) (lay_at (lay_entries lay_now) 1 rfl) (by decide) h (fun x2 h => ?_)
    refine K_icmp_ge (md := mX10_entry) (pc := 30) (kTab_at (pc := 30) tX10_entry_ok 16 rfl) (tgt := 38) rfl h (fun h => ?_) (fun h => ?_)
    · refine K_sub [] rfl ?_
      refine c_X10_entry_38 X p1 p2 p3 p4  μ h
    · refine K_iload_n (md := mX10_entry) (pc := 33) 4 (kTab_at (pc := 33) tX10_entry_ok 17 rfl) rfl ?_
      refine K_iconst (md := mX10_entry) (pc := 34) (x := 3) (kTab_at (pc := 34) tX10_entry_ok 18 rfl) rfl ?_
      refine K_icmp_lt (md := mX10_entry) (pc := 35) (kTab_at (pc := 35) tX10_entry_ok 19 rfl) (tgt := 48) rfl h (fun h => ?_) (fun h => ?_)
      · refine K_iload (md := mX10_entry) (pc := 48) 5 (kTab_at (pc := 48) tX10_entry_ok 25 rfl) rfl ?_
        refine K_iconst (md := mX10_entry) (pc := 50) (x := 0) (kTab_at (pc := 50) tX10_entry_ok 26 rfl) rfl ?_
        refine K_iconst (md := mX10_entry) (pc := 51) (x := 3) (kTab_at (pc := 51) tX10_entry_ok 27 rfl) rfl ?_
        refine Z_callS (md := mX10_entry) (pc := 52) (st := []) (sv := (fun _ => [])) (kTab_at (pc := 52) tX10_entry_ok 28 rfl) ms_X10_61 rfl (Nat.le_of_ble_eq_true rfl) (by decide) rfl (c_X10_requireRange X p4 0 3 μ) (fun _ => rfl) h (fun μ _ h => ?_) rfl
        refine K_iload (md := mX10_entry) (pc := 55) 0 (kTab_at (pc := 55) tX10_entry_ok 29 rfl) rfl ?_
        refine K_iconst (md := mX10_entry) (pc := 57) (x := 3) (kTab_at (pc := 57) tX10_entry_ok 30 rfl) rfl ?_
        refine K_imul (md := mX10_entry) (pc := 58) (kTab_at (pc := 58) tX10_entry_ok 31 rfl) ?_
        refine K_iload_n (md := mX10_entry) (pc := 59) 4 (kTab_at (pc := 59) tX10_entry_ok 32 rfl) rfl ?_
        refine K_iadd (md := mX10_entry) (pc := 60) (kTab_at (pc := 60) tX10_entry_ok 33 rfl) ?_
        refine Z_bnd (md := mX10_entry) (pc := 61) h (fun x3 h => ?_)
        refine K_istore (md := mX10_entry) (pc := 61) (l' := [(6, .int (iI x3)), (5, .int (iI x1)), (0, .ref (X.1 + 0)), (1, .int (iI p1)), (2, .int (iI p2)), (3, .int (iI p3)), (4, .int (iI p4))]) (kTab_at (pc := 61) tX10_entry_ok 34 rfl) (Nat.le_of_ble_eq_true rfl) rfl ?_
        refine K_iload (md := mX10_entry) (pc := 63) 6 (kTab_at (pc := 63) tX10_entry_ok 35 rfl) rfl ?_
        refine K_tsw (md := mX10_entry) (pc := 65) (dt := 130) (kTab_at (pc := 65) tX10_entry_ok 36 rfl) rfl rfl h (And.intro (fun h => ⟨92, rfl, ?_⟩) (And.intro (fun h => ⟨106, rfl, ?_⟩) (And.intro (fun h => ⟨120, rfl, ?_⟩) (True.intro)))) (fun h => ?_)
        · refine K_aload_n (md := mX10_entry) (pc := 92) 2 (kTab_at (pc := 92) tX10_entry_ok 37 rfl) rfl ?_
          refine K_getR (md := mX10_entry) (pc := 93) (b := 1) (kTab_at (pc := 93) tX10_entry_ok 38 rfl) fl_X10_12 sk_0 rfl rfl ?_
          refine K_getR (md := mX10_entry) (pc := 96) (b := (1 + 11)) (kTab_at (pc := 96) tX10_entry_ok 39 rfl) fl_X10_203 (lay_0 lay_now rfl) rfl rfl ?_
          refine K_getR (md := mX10_entry) (pc := 99) (b := ((1 + 11) + 2)) (kTab_at (pc := 99) tX10_entry_ok 40 rfl) fl_X10_214 (lay_0 (lay_entries lay_now) rfl) rfl rfl ?_
          refine K_iload (md := mX10_entry) (pc := 102) 0 (kTab_at (pc := 102) tX10_entry_ok 41 rfl) rfl ?_
          refine Z_iald (md := mX10_entry) (pc := 104) (kTab_at (pc := 104) tX10_entry_ok 42 rfl) (lay_at (lay_entries lay_now) 2 rfl) (by decide) h (fun x4 h => ?_)
          exact Z_iret (md := mX10_entry) (pc := 105) (kTab_at (pc := 105) tX10_entry_ok 43 rfl) rfl rfl rfl h
        · refine K_aload_n (md := mX10_entry) (pc := 106) 2 (kTab_at (pc := 106) tX10_entry_ok 44 rfl) rfl ?_
          refine K_getR (md := mX10_entry) (pc := 107) (b := 1) (kTab_at (pc := 107) tX10_entry_ok 45 rfl) fl_X10_12 sk_0 rfl rfl ?_
          refine K_getR (md := mX10_entry) (pc := 110) (b := (1 + 11)) (kTab_at (pc := 110) tX10_entry_ok 46 rfl) fl_X10_203 (lay_0 lay_now rfl) rfl rfl ?_
          refine K_getR (md := mX10_entry) (pc := 113) (b := ((1 + 11) + 3)) (kTab_at (pc := 113) tX10_entry_ok 47 rfl) fl_X10_217 (lay_0 (lay_entries lay_now) rfl) rfl rfl ?_
          refine K_iload (md := mX10_entry) (pc := 116) 0 (kTab_at (pc := 116) tX10_entry_ok 48 rfl) rfl ?_
          refine Z_iald (md := mX10_entry) (pc := 118) (kTab_at (pc := 118) tX10_entry_ok 49 rfl) (lay_at (lay_entries lay_now) 3 rfl) (by decide) h (fun x5 h => ?_)
          exact Z_iret (md := mX10_entry) (pc := 119) (kTab_at (pc := 119) tX10_entry_ok 50 rfl) rfl rfl rfl h
        · refine K_aload_n (md := mX10_entry) (pc := 120) 2 (kTab_at (pc := 120) tX10_entry_ok 51 rfl) rfl ?_
          refine K_getR (md := mX10_entry) (pc := 121) (b := 1) (kTab_at (pc := 121) tX10_entry_ok 52 rfl) fl_X10_12 sk_0 rfl rfl ?_
          refine K_iload (md := mX10_entry) (pc := 124) 0 (kTab_at (pc := 124) tX10_entry_ok 53 rfl) rfl ?_
          refine Z_callV (md := mX10_entry) (pc := 126) (st := []) (sv := (fun x6 => [.int (iI x6)])) (kTab_at (pc := 126) tX10_entry_ok 54 rfl) mv_X10_218 (lay_0 lay_now rfl) rfl (Nat.le_of_ble_eq_true rfl) (by decide) rfl (c_X1_valueOf X 1 x3 lay_now μ) (fun _ => rfl) h (fun μ x6 h => ?_) rfl
          exact Z_iret (md := mX10_entry) (pc := 129) (kTab_at (pc := 129) tX10_entry_ok 55 rfl) rfl rfl rfl h
        · refine K_aload_n (md := mX10_entry) (pc := 130) 2 (kTab_at (pc := 130) tX10_entry_ok 56 rfl) rfl ?_
          refine K_getR (md := mX10_entry) (pc := 131) (b := 1) (kTab_at (pc := 131) tX10_entry_ok 57 rfl) fl_X10_12 sk_0 rfl rfl ?_
          refine K_iload (md := mX10_entry) (pc := 134) 0 (kTab_at (pc := 134) tX10_entry_ok 58 rfl) rfl ?_
          refine Z_callV (md := mX10_entry) (pc := 136) (st := []) (sv := (fun x7 => [.int (iI x7)])) (kTab_at (pc := 136) tX10_entry_ok 59 rfl) mv_X10_221 (lay_0 lay_now rfl) rfl (Nat.le_of_ble_eq_true rfl) (by decide) rfl (c_X1_isValid X 1 x3 lay_now μ) (fun _ => rfl) h (fun μ x7 h => ?_) rfl
          refine K_if_eq (md := mX10_entry) (pc := 139) (kTab_at (pc := 139) tX10_entry_ok 60 rfl) (tgt := 146) rfl h (fun h => ?_) (fun h => ?_)
          · refine K_iconst (md := mX10_entry) (pc := 146) (x := 0) (kTab_at (pc := 146) tX10_entry_ok 63 rfl) rfl ?_
            refine K_sub [] rfl ?_
            refine c_X10_entry_147 X p1 p2 p3 p4  0 μ h
          · refine K_iconst (md := mX10_entry) (pc := 142) (x := 1) (kTab_at (pc := 142) tX10_entry_ok 61 rfl) rfl ?_
            refine K_goto (md := mX10_entry) (pc := 143) (tgt := 147) (kTab_at (pc := 143) tX10_entry_ok 62 rfl) rfl ?_
            refine K_sub [] rfl ?_
            refine c_X10_entry_147 X p1 p2 p3 p4  1 μ h
      · refine K_sub [] rfl ?_
        refine c_X10_entry_38 X p1 p2 p3 p4  μ h
def f_X10_script (p1 : Int) (p2 : Int) (p3 : Int) (μ : Mu) : Option Res := rb (f_X10_requireScript p1 p2 μ) fun μ _ => rb (f_X10_requireRange p3 0 4 μ) fun μ _ => rb (f_X10_scriptOf p1 p2 μ) fun μ x1 => i_sw p3 0 [rb (f_X1_settledOf 1 x1 μ) fun μ x2 => some (μ, 0, x2), rdI μ ((1 + 11) + 1) 40 x1 fun x3 => some (μ, 0, x3), rb (f_X1_readValidValues 1 x1 μ) fun μ x4 => some (μ, 0, x4), rb (f_X1_standingOf 1 x1 μ) fun μ x5 => some (μ, 0, x5)] (rdI μ ((1 + 19) + 1) 40 x1 fun x6 => some (μ, 0, x6))
set_option maxRecDepth 100000 in
theorem c_X10_script (X : kX) (p1 : Int) (p2 : Int) (p3 : Int)  (μ : Mu) : Cq X mX10_script 5 1 μ [.ref (X.1 + 0), .int (iI p1), .int (iI p2), .int (iI p3)] (f_X10_script p1 p2 p3 μ) := by
  intro res h
  refine ct_of (by decide +kernel) rfl (Nat.le_of_ble_eq_true rfl) ?_
  show KK X mX10_script 5 1 res 0 [(0, .ref (X.1 + 0)), (1, .int (iI p1)), (2, .int (iI p2)), (3, .int (iI p3))] [] μ
  unfold f_X10_script at h
  refine K_iload_n (md := mX10_script) (pc := 0) 1 (kTab_at (pc := 0) tX10_script_ok 0 rfl) rfl ?_
  refine K_iload_n (md := mX10_script) (pc := 1) 2 (kTab_at (pc := 1) tX10_script_ok 1 rfl) rfl ?_
  refine Z_callS (md := mX10_script) (pc := 2) (st := []) (sv := (fun _ => [])) (kTab_at (pc := 2) tX10_script_ok 2 rfl) ms_X10_142 rfl (Nat.le_of_ble_eq_true rfl) (by decide) rfl (c_X10_requireScript X p1 p2 μ) (fun _ => rfl) h (fun μ _ h => ?_) rfl
  refine K_iload_n (md := mX10_script) (pc := 5) 3 (kTab_at (pc := 5) tX10_script_ok 3 rfl) rfl ?_
  refine K_iconst (md := mX10_script) (pc := 6) (x := 0) (kTab_at (pc := 6) tX10_script_ok 4 rfl) rfl ?_
  refine K_iconst (md := mX10_script) (pc := 7) (x := 4) (kTab_at (pc := 7) tX10_script_ok 5 rfl) rfl ?_
  refine Z_callS (md := mX10_script) (pc := 8) (st := []) (sv := (fun _ => [])) (kTab_at (pc := 8) tX10_script_ok 6 rfl) ms_X10_61 rfl (Nat.le_of_ble_eq_true rfl) (by decide) rfl (c_X10_requireRange X p3 0 4 μ) (fun _ => rfl) h (fun μ _ h => ?_) rfl
  refine K_iload_n (md := mX10_script) (pc := 11) 1 (kTab_at (pc := 11) tX10_script_ok 7 rfl) rfl ?_
  refine K_iload_n (md := mX10_script) (pc := 12) 2 (kTab_at (pc := 12) tX10_script_ok 8 rfl) rfl ?_
  refine Z_callS (md := mX10_script) (pc := 13) (st := []) (sv := (fun x1 => [.int (iI x1)])) (kTab_at (pc := 13) tX10_script_ok 9 rfl) ms_X10_148 rfl (Nat.le_of_ble_eq_true rfl) (by decide) rfl (c_X10_scriptOf X p1 p2 μ) (fun _ => rfl) h (fun μ x1 h => ?_) rfl
  refine K_istore (md := mX10_script) (pc := 16) (l' := [(4, .int (iI x1)), (0, .ref (X.1 + 0)), (1, .int (iI p1)), (2, .int (iI p2)), (3, .int (iI p3))]) (kTab_at (pc := 16) tX10_script_ok 10 rfl) (Nat.le_of_ble_eq_true rfl) rfl ?_
  refine K_iload_n (md := mX10_script) (pc := 18) 4 (kTab_at (pc := 18) tX10_script_ok 11 rfl) rfl ?_
  refine K_tsw (md := mX10_script) (pc := 19) (dt := 92) (kTab_at (pc := 19) tX10_script_ok 12 rfl) rfl rfl h (And.intro (fun h => ⟨48, rfl, ?_⟩) (And.intro (fun h => ⟨58, rfl, ?_⟩) (And.intro (fun h => ⟨72, rfl, ?_⟩) (And.intro (fun h => ⟨82, rfl, ?_⟩) (True.intro))))) (fun h => ?_)
  · refine K_aload_n (md := mX10_script) (pc := 48) 1 (kTab_at (pc := 48) tX10_script_ok 13 rfl) rfl ?_
    refine K_getR (md := mX10_script) (pc := 49) (b := 1) (kTab_at (pc := 49) tX10_script_ok 14 rfl) fl_X10_12 sk_0 rfl rfl ?_
    refine K_iload (md := mX10_script) (pc := 52) 0 (kTab_at (pc := 52) tX10_script_ok 15 rfl) rfl ?_
    refine Z_callV (md := mX10_script) (pc := 54) (st := []) (sv := (fun x2 => [.int (iI x2)])) (kTab_at (pc := 54) tX10_script_ok 16 rfl) mv_X10_225 (lay_0 lay_now rfl) rfl (Nat.le_of_ble_eq_true rfl) (by decide) rfl (c_X1_settledOf X 1 x1 lay_now μ) (fun _ => rfl) h (fun μ x2 h => ?_) rfl
    exact Z_iret (md := mX10_script) (pc := 57) (kTab_at (pc := 57) tX10_script_ok 17 rfl) rfl rfl rfl h
  · refine K_aload_n (md := mX10_script) (pc := 58) 1 (kTab_at (pc := 58) tX10_script_ok 18 rfl) rfl ?_
    refine K_getR (md := mX10_script) (pc := 59) (b := 1) (kTab_at (pc := 59) tX10_script_ok 19 rfl) fl_X10_12 sk_0 rfl rfl ?_
    refine K_getR (md := mX10_script) (pc := 62) (b := (1 + 11)) (kTab_at (pc := 62) tX10_script_ok 20 rfl) fl_X10_203 (lay_0 lay_now rfl) rfl rfl ?_
    refine K_getR (md := mX10_script) (pc := 65) (b := ((1 + 11) + 1)) (kTab_at (pc := 65) tX10_script_ok 21 rfl) fl_X10_206 (lay_0 (lay_entries lay_now) rfl) rfl rfl ?_
    refine K_iload (md := mX10_script) (pc := 68) 0 (kTab_at (pc := 68) tX10_script_ok 22 rfl) rfl ?_
    refine Z_iald (md := mX10_script) (pc := 70) (kTab_at (pc := 70) tX10_script_ok 23 rfl) (lay_at (lay_entries lay_now) 1 rfl) (by decide) h (fun x3 h => ?_)
    exact Z_iret (md := mX10_script) (pc := 71) (kTab_at (pc := 71) tX10_script_ok 24 rfl) rfl rfl rfl h
  · refine K_aload_n (md := mX10_script) (pc := 72) 1 (kTab_at (pc := 72) tX10_script_ok 25 rfl) rfl ?_
    refine K_getR (md := mX10_script) (pc := 73) (b := 1) (kTab_at (pc := 73) tX10_script_ok 26 rfl) fl_X10_12 sk_0 rfl rfl ?_
    refine K_iload (md := mX10_script) (pc := 76) 0 (kTab_at (pc := 76) tX10_script_ok 27 rfl) rfl ?_
    refine Z_callV (md := mX10_script) (pc := 78) (st := []) (sv := (fun x4 => [.int (iI x4)])) (kTab_at (pc := 78) tX10_script_ok 28 rfl) mv_X10_228 (lay_0 lay_now rfl) rfl (Nat.le_of_ble_eq_true rfl) (by decide) rfl (c_X1_readValidValues X 1 x1 lay_now μ) (fun _ => rfl) h (fun μ x4 h => ?_) rfl
    exact Z_iret (md := mX10_script) (pc := 81) (kTab_at (pc := 81) tX10_script_ok 29 rfl) rfl rfl rfl h
  · refine K_aload_n (md := mX10_script) (pc := 82) 1 (kTab_at (pc := 82) tX10_script_ok 30 rfl) rfl ?_
    refine K_getR (md := mX10_script) (pc := 83) (b := 1) (kTab_at (pc := 83) tX10_script_ok 31 rfl) fl_X10_12 sk_0 rfl rfl ?_
    refine K_iload (md := mX10_script) (pc := 86) 0 (kTab_at (pc := 86) tX10_script_ok 32 rfl) rfl ?_
    refine Z_callV (md := mX10_script) (pc := 88) (st := []) (sv := (fun x5 => [.int (iI x5)])) (kTab_at (pc := 88) tX10_script_ok 33 rfl) mv_X10_231 (lay_0 lay_now rfl) rfl (Nat.le_of_ble_eq_true rfl) (by decide) rfl (c_X1_standingOf X 1 x1 lay_now μ) (fun _ => rfl) h (fun μ x5 h => ?_) rfl
    exact Z_iret (md := mX10_script) (pc := 91) (kTab_at (pc := 91) tX10_script_ok 34 rfl) rfl rfl rfl h
  · refine K_aload_n (md := mX10_script) (pc := 92) 1 (kTab_at (pc := 92) tX10_script_ok 35 rfl) rfl ?_
    refine K_getR (md := mX10_script) (pc := 93) (b := 1) (kTab_at (pc := 93) tX10_script_ok 36 rfl) fl_X10_12 sk_0 rfl rfl ?_
    refine K_getR (md := mX10_script) (pc := 96) (b := (1 + 19)) (kTab_at (pc := 96) tX10_script_ok 37 rfl) fl_X10_234 (lay_0 lay_now rfl) rfl rfl ?_
    refine K_getR (md := mX10_script) (pc := 99) (b := ((1 + 19) + 1)) (kTab_at (pc := 99) tX10_script_ok 38 rfl) fl_X10_238 (lay_0 (lay_appeals lay_now) rfl) rfl rfl ?_
    refine K_iload (md := mX10_script) (pc := 102) 0 (kTab_at (pc := 102) tX10_script_ok 39 rfl) rfl ?_
    refine Z_iald (md := mX10_script) (pc := 104) (kTab_at (pc := 104) tX10_script_ok 40 rfl) (lay_at (lay_appeals lay_now) 1 rfl) (by decide) h (fun x6 h => ?_)
    exact Z_iret (md := mX10_script) (pc := 105) (kTab_at (pc := 105) tX10_script_ok 41 rfl) rfl rfl rfl h

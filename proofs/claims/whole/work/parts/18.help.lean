/-! the law's helpers -/
theorem hTb_nil {own : String} {pc : Nat} : hTb own pc [] [] := trivial
theorem hTb_cons {own : String} {pc a b c ct e : Nat} {t : List ExceptionTableEntry} {cl : List Nat} (h1 : e < 6) (h2 : covers ⟨a, b, c, ct⟩ pc = true) (h3 : ct ≠ 0) (h4 : Cond.classLink own ct (exName e) ∈ kG) (h5 : (exName e, exName e) ∈ kNC) (h6 : hTb own pc t cl) : hTb own pc (⟨a, b, c, ct⟩ :: t) (e :: cl) := ⟨⟨h1, h2, h3, h4, h5⟩, h6⟩
theorem nc_0 : (exName 0, exName 0) ∈ kNC := by decide +kernel
theorem nc_1 : (exName 1, exName 1) ∈ kNC := by decide +kernel
theorem nc_2 : (exName 2, exName 2) ∈ kNC := by decide +kernel
theorem nc_3 : (exName 3, exName 3) ∈ kNC := by decide +kernel
theorem nc_4 : (exName 4, exName 4) ∈ kNC := by decide +kernel
theorem nc_5 : (exName 5, exName 5) ∈ kNC := by decide +kernel
theorem cl_L_13 : Cond.classLink RL 13 (exName 2) ∈ kG := inT2 164 (by decide +kernel) rfl
theorem cl_L_15 : Cond.classLink RL 15 (exName 1) ∈ kG := inT3 4 (by decide +kernel) rfl
theorem cl_L_17 : Cond.classLink RL 17 (exName 4) ∈ kG := inT3 5 (by decide +kernel) rfl
theorem cl_L_19 : Cond.classLink RL 19 (exName 0) ∈ kG := inT3 6 (by decide +kernel) rfl
theorem cl_L_52 : Cond.classLink RL 52 (exName 5) ∈ kG := inT4 73 (by decide +kernel) rfl
theorem cl_L_100 : Cond.classLink RL 100 (exName 3) ∈ kG := inT5 88 (by decide +kernel) rfl
theorem hg_0 {x : Int} {r : Res} (h : hg 0 x = true) : i_2l x (some r) = some r := by
  unfold hg at h
  simp only [Bool.and_eq_true, decide_eq_true_eq] at h
  unfold i_2l
  rw [if_pos h]
theorem hg_1 {x : Int} (h : hg 1 x = true) : x = 0 ∨ x = 1 := by
  unfold hg at h
  simpa using h
theorem wr_260 {μ : Mu} {x : Int} {r : Res} : wrI μ 260 1 0 x (fun _ => some r) = some r := if_pos (by decide)
def hh_setMaximum : List (Nat × Nat × Nat × Nat) := [(0, 10, 13, 13), (0, 10, 17, 15), (0, 10, 21, 17), (0, 10, 25, 19)]
theorem ht_setMaximum : hTb RL 5 (tableOf hh_setMaximum) [2, 1, 4, 0] := (hTb_cons (a := 0) (b := 10) (c := 13) (by decide) rfl (by decide) cl_L_13 nc_2 (hTb_cons (a := 0) (b := 10) (c := 17) (by decide) rfl (by decide) cl_L_15 nc_1 (hTb_cons (a := 0) (b := 10) (c := 21) (by decide) rfl (by decide) cl_L_17 nc_4 (hTb_cons (a := 0) (b := 10) (c := 25) (by decide) rfl (by decide) cl_L_19 nc_0 hTb_nil))))
set_option maxRecDepth 100000 in
theorem h_setMaximum (X : kX) (p1 : Int) (p2 : Int) (μ : Mu) (r : Res) (h : hp 0 [2, 1, 4, 0] (f_X10_setMaximum p1 p2 μ) = some r) : CtH X mL_setMaximum hh_setMaximum 7 SK false μ 1 6 [.ref (X.1 + 0), .int (iI p1), .int (iI p2), .ref (X.1 + 260)] (poR 1 SK r) := by
  refine ctH_of (by decide +kernel) rfl (Nat.le_of_ble_eq_true rfl) ?_
  show KJ X mL_setMaximum 7 false (poR 1 SK r) SK 1 6 0 [(0, .ref (X.1 + 0)), (1, .int (iI p1)), (2, .int (iI p2)), (3, .ref (X.1 + 260))] [] μ
  refine K_aload_n (md := mL_setMaximum) (pc := 0) 3 (kTab_at (pc := 0) tL_setMaximum_ok 0 rfl) rfl ?_
  refine K_iconst (md := mL_setMaximum) (pc := 1) (x := 0) (kTab_at (pc := 1) tL_setMaximum_ok 1 rfl) rfl ?_
  refine K_aload_n (md := mL_setMaximum) (pc := 2) 0 (kTab_at (pc := 2) tL_setMaximum_ok 2 rfl) rfl ?_
  refine K_iload_n (md := mL_setMaximum) (pc := 3) 1 (kTab_at (pc := 3) tL_setMaximum_ok 3 rfl) rfl ?_
  refine K_iload_n (md := mL_setMaximum) (pc := 4) 2 (kTab_at (pc := 4) tL_setMaximum_ok 4 rfl) rfl ?_
  refine K_callHp (md := mL_setMaximum) (pc := 5) (st := [.int (iI 0), .ref (X.1 + 260)]) (b := 0) (kTab_at (pc := 5) tL_setMaximum_ok 5 rfl) mv_L_7 sk_0 rfl (Nat.le_of_ble_eq_true rfl) (by decide) (c_X10_setMaximum X p1 p2 μ) ht_setMaximum h ?_ ?_ rfl
  · intro μ' v g hr
    subst hr
    show KJ X mL_setMaximum 7 false _ SK 0 0 8 [(0, .ref (X.1 + 0)), (1, .int (iI p1)), (2, .int (iI p2)), (3, .ref (X.1 + 260))] [.int (iI v), .int (iI 0), .ref (X.1 + 260)] μ'
    refine K_i2l (md := mL_setMaximum) (pc := 8) (r := (μ', 0, 0)) (k0 := some (μ', 0, 0)) (kTab_at (pc := 8) tL_setMaximum_ok 6 rfl) (hg_0 g) (fun _ => ?_)
    refine K_last (md := mL_setMaximum) (pc := 9) (r := (μ', 0, 0)) (k0 := fun _ => some (μ', 0, 0)) (kTab_at (pc := 9) tL_setMaximum_ok 7 rfl) sk_260 (by decide) wr_260 (fun _ => ?_)
    refine K_goto (md := mL_setMaximum) (pc := 10) (tgt := 29) (kTab_at (pc := 10) tL_setMaximum_ok 8 rfl) rfl ?_
    refine K_iconst (md := mL_setMaximum) (pc := 29) (x := 0) (kTab_at (pc := 29) tL_setMaximum_ok 21 rfl) rfl ?_
    exact K_iret (md := mL_setMaximum) (pc := 30) (kTab_at (pc := 30) tL_setMaximum_ok 22 rfl) rfl rfl ⟨rfl, rfl, rfl, rfl⟩
  · intro i x q μ' hx hr
    subst hr
    match i, hx with
    | 0, hx =>
      cases hx
      show KJ X mL_setMaximum 7 false _ SK 0 0 13 [(0, .ref (X.1 + 0)), (1, .int (iI p1)), (2, .int (iI p2)), (3, .ref (X.1 + 260))] [.ref q] μ'
      refine K_astore (md := mL_setMaximum) (pc := 13) (l' := (4, .ref q) :: [(0, .ref (X.1 + 0)), (1, .int (iI p1)), (2, .int (iI p2)), (3, .ref (X.1 + 260))]) (kTab_at (pc := 13) tL_setMaximum_ok 9 rfl) (Nat.le_of_ble_eq_true rfl) rfl ?_
      refine K_iconst (md := mL_setMaximum) (pc := 15) (x := 1) (kTab_at (pc := 15) tL_setMaximum_ok 10 rfl) rfl ?_
      exact K_iret (md := mL_setMaximum) (pc := 16) (kTab_at (pc := 16) tL_setMaximum_ok 11 rfl) rfl rfl ⟨rfl, rfl, rfl, rfl⟩
    | 1, hx =>
      cases hx
      show KJ X mL_setMaximum 7 false _ SK 0 0 17 [(0, .ref (X.1 + 0)), (1, .int (iI p1)), (2, .int (iI p2)), (3, .ref (X.1 + 260))] [.ref q] μ'
      refine K_astore (md := mL_setMaximum) (pc := 17) (l' := (4, .ref q) :: [(0, .ref (X.1 + 0)), (1, .int (iI p1)), (2, .int (iI p2)), (3, .ref (X.1 + 260))]) (kTab_at (pc := 17) tL_setMaximum_ok 12 rfl) (Nat.le_of_ble_eq_true rfl) rfl ?_
      refine K_iconst (md := mL_setMaximum) (pc := 19) (x := 2) (kTab_at (pc := 19) tL_setMaximum_ok 13 rfl) rfl ?_
      exact K_iret (md := mL_setMaximum) (pc := 20) (kTab_at (pc := 20) tL_setMaximum_ok 14 rfl) rfl rfl ⟨rfl, rfl, rfl, rfl⟩
    | 2, hx =>
      cases hx
      show KJ X mL_setMaximum 7 false _ SK 0 0 21 [(0, .ref (X.1 + 0)), (1, .int (iI p1)), (2, .int (iI p2)), (3, .ref (X.1 + 260))] [.ref q] μ'
      refine K_astore (md := mL_setMaximum) (pc := 21) (l' := (4, .ref q) :: [(0, .ref (X.1 + 0)), (1, .int (iI p1)), (2, .int (iI p2)), (3, .ref (X.1 + 260))]) (kTab_at (pc := 21) tL_setMaximum_ok 15 rfl) (Nat.le_of_ble_eq_true rfl) rfl ?_
      refine K_iconst (md := mL_setMaximum) (pc := 23) (x := 3) (kTab_at (pc := 23) tL_setMaximum_ok 16 rfl) rfl ?_
      exact K_iret (md := mL_setMaximum) (pc := 24) (kTab_at (pc := 24) tL_setMaximum_ok 17 rfl) rfl rfl ⟨rfl, rfl, rfl, rfl⟩
    | 3, hx =>
      cases hx
      show KJ X mL_setMaximum 7 false _ SK 0 0 25 [(0, .ref (X.1 + 0)), (1, .int (iI p1)), (2, .int (iI p2)), (3, .ref (X.1 + 260))] [.ref q] μ'
      refine K_astore (md := mL_setMaximum) (pc := 25) (l' := (4, .ref q) :: [(0, .ref (X.1 + 0)), (1, .int (iI p1)), (2, .int (iI p2)), (3, .ref (X.1 + 260))]) (kTab_at (pc := 25) tL_setMaximum_ok 18 rfl) (Nat.le_of_ble_eq_true rfl) rfl ?_
      refine K_iconst (md := mL_setMaximum) (pc := 27) (x := 4) (kTab_at (pc := 27) tL_setMaximum_ok 19 rfl) rfl ?_
      exact K_iret (md := mL_setMaximum) (pc := 28) (kTab_at (pc := 28) tL_setMaximum_ok 20 rfl) rfl rfl ⟨rfl, rfl, rfl, rfl⟩
    | n + 4, hx => cases hx
def hh_set : List (Nat × Nat × Nat × Nat) := [(0, 10, 13, 13), (0, 10, 17, 15), (0, 10, 21, 17)]
theorem ht_set : hTb RL 5 (tableOf hh_set) [2, 1, 4] := (hTb_cons (a := 0) (b := 10) (c := 13) (by decide) rfl (by decide) cl_L_13 nc_2 (hTb_cons (a := 0) (b := 10) (c := 17) (by decide) rfl (by decide) cl_L_15 nc_1 (hTb_cons (a := 0) (b := 10) (c := 21) (by decide) rfl (by decide) cl_L_17 nc_4 hTb_nil)))
set_option maxRecDepth 100000 in
theorem h_set (X : kX) (p1 : Int) (p2 : Int) (μ : Mu) (r : Res) (h : hp 0 [2, 1, 4] (f_X10_set p1 p2 μ) = some r) : CtH X mL_set hh_set 7 SK false μ 1 6 [.ref (X.1 + 0), .int (iI p1), .int (iI p2), .ref (X.1 + 260)] (poR 1 SK r) := by
  refine ctH_of (by decide +kernel) rfl (Nat.le_of_ble_eq_true rfl) ?_
  show KJ X mL_set 7 false (poR 1 SK r) SK 1 6 0 [(0, .ref (X.1 + 0)), (1, .int (iI p1)), (2, .int (iI p2)), (3, .ref (X.1 + 260))] [] μ
  refine K_aload_n (md := mL_set) (pc := 0) 3 (kTab_at (pc := 0) tL_set_ok 0 rfl) rfl ?_
  refine K_iconst (md := mL_set) (pc := 1) (x := 0) (kTab_at (pc := 1) tL_set_ok 1 rfl) rfl ?_
  refine K_aload_n (md := mL_set) (pc := 2) 0 (kTab_at (pc := 2) tL_set_ok 2 rfl) rfl ?_
  refine K_iload_n (md := mL_set) (pc := 3) 1 (kTab_at (pc := 3) tL_set_ok 3 rfl) rfl ?_
  refine K_iload_n (md := mL_set) (pc := 4) 2 (kTab_at (pc := 4) tL_set_ok 4 rfl) rfl ?_
  refine K_callHp (md := mL_set) (pc := 5) (st := [.int (iI 0), .ref (X.1 + 260)]) (b := 0) (kTab_at (pc := 5) tL_set_ok 5 rfl) mv_L_21 sk_0 rfl (Nat.le_of_ble_eq_true rfl) (by decide) (c_X10_set X p1 p2 μ) ht_set h ?_ ?_ rfl
  · intro μ' v g hr
    subst hr
    show KJ X mL_set 7 false _ SK 0 0 8 [(0, .ref (X.1 + 0)), (1, .int (iI p1)), (2, .int (iI p2)), (3, .ref (X.1 + 260))] [.int (iI v), .int (iI 0), .ref (X.1 + 260)] μ'
    refine K_i2l (md := mL_set) (pc := 8) (r := (μ', 0, 0)) (k0 := some (μ', 0, 0)) (kTab_at (pc := 8) tL_set_ok 6 rfl) (hg_0 g) (fun _ => ?_)
    refine K_last (md := mL_set) (pc := 9) (r := (μ', 0, 0)) (k0 := fun _ => some (μ', 0, 0)) (kTab_at (pc := 9) tL_set_ok 7 rfl) sk_260 (by decide) wr_260 (fun _ => ?_)
    refine K_goto (md := mL_set) (pc := 10) (tgt := 25) (kTab_at (pc := 10) tL_set_ok 8 rfl) rfl ?_
    refine K_iconst (md := mL_set) (pc := 25) (x := 0) (kTab_at (pc := 25) tL_set_ok 18 rfl) rfl ?_
    exact K_iret (md := mL_set) (pc := 26) (kTab_at (pc := 26) tL_set_ok 19 rfl) rfl rfl ⟨rfl, rfl, rfl, rfl⟩
  · intro i x q μ' hx hr
    subst hr
    match i, hx with
    | 0, hx =>
      cases hx
      show KJ X mL_set 7 false _ SK 0 0 13 [(0, .ref (X.1 + 0)), (1, .int (iI p1)), (2, .int (iI p2)), (3, .ref (X.1 + 260))] [.ref q] μ'
      refine K_astore (md := mL_set) (pc := 13) (l' := (4, .ref q) :: [(0, .ref (X.1 + 0)), (1, .int (iI p1)), (2, .int (iI p2)), (3, .ref (X.1 + 260))]) (kTab_at (pc := 13) tL_set_ok 9 rfl) (Nat.le_of_ble_eq_true rfl) rfl ?_
      refine K_iconst (md := mL_set) (pc := 15) (x := 1) (kTab_at (pc := 15) tL_set_ok 10 rfl) rfl ?_
      exact K_iret (md := mL_set) (pc := 16) (kTab_at (pc := 16) tL_set_ok 11 rfl) rfl rfl ⟨rfl, rfl, rfl, rfl⟩
    | 1, hx =>
      cases hx
      show KJ X mL_set 7 false _ SK 0 0 17 [(0, .ref (X.1 + 0)), (1, .int (iI p1)), (2, .int (iI p2)), (3, .ref (X.1 + 260))] [.ref q] μ'
      refine K_astore (md := mL_set) (pc := 17) (l' := (4, .ref q) :: [(0, .ref (X.1 + 0)), (1, .int (iI p1)), (2, .int (iI p2)), (3, .ref (X.1 + 260))]) (kTab_at (pc := 17) tL_set_ok 12 rfl) (Nat.le_of_ble_eq_true rfl) rfl ?_
      refine K_iconst (md := mL_set) (pc := 19) (x := 2) (kTab_at (pc := 19) tL_set_ok 13 rfl) rfl ?_
      exact K_iret (md := mL_set) (pc := 20) (kTab_at (pc := 20) tL_set_ok 14 rfl) rfl rfl ⟨rfl, rfl, rfl, rfl⟩
    | 2, hx =>
      cases hx
      show KJ X mL_set 7 false _ SK 0 0 21 [(0, .ref (X.1 + 0)), (1, .int (iI p1)), (2, .int (iI p2)), (3, .ref (X.1 + 260))] [.ref q] μ'
      refine K_astore (md := mL_set) (pc := 21) (l' := (4, .ref q) :: [(0, .ref (X.1 + 0)), (1, .int (iI p1)), (2, .int (iI p2)), (3, .ref (X.1 + 260))]) (kTab_at (pc := 21) tL_set_ok 15 rfl) (Nat.le_of_ble_eq_true rfl) rfl ?_
      refine K_iconst (md := mL_set) (pc := 23) (x := 3) (kTab_at (pc := 23) tL_set_ok 16 rfl) rfl ?_
      exact K_iret (md := mL_set) (pc := 24) (kTab_at (pc := 24) tL_set_ok 17 rfl) rfl rfl ⟨rfl, rfl, rfl, rfl⟩
    | n + 3, hx => cases hx
def hh_addSeed : List (Nat × Nat × Nat × Nat) := [(0, 10, 13, 13), (0, 10, 17, 15), (0, 10, 21, 17), (0, 10, 25, 19)]
theorem ht_addSeed : hTb RL 5 (tableOf hh_addSeed) [2, 1, 4, 0] := (hTb_cons (a := 0) (b := 10) (c := 13) (by decide) rfl (by decide) cl_L_13 nc_2 (hTb_cons (a := 0) (b := 10) (c := 17) (by decide) rfl (by decide) cl_L_15 nc_1 (hTb_cons (a := 0) (b := 10) (c := 21) (by decide) rfl (by decide) cl_L_17 nc_4 (hTb_cons (a := 0) (b := 10) (c := 25) (by decide) rfl (by decide) cl_L_19 nc_0 hTb_nil))))
set_option maxRecDepth 100000 in
theorem h_addSeed (X : kX) (p1 : Int) (p2 : Int) (μ : Mu) (r : Res) (h : hp 0 [2, 1, 4, 0] (f_X10_addSeed p1 p2 μ) = some r) : CtH X mL_addSeed hh_addSeed 7 SK false μ 1 6 [.ref (X.1 + 0), .int (iI p1), .int (iI p2), .ref (X.1 + 260)] (poR 1 SK r) := by
  refine ctH_of (by decide +kernel) rfl (Nat.le_of_ble_eq_true rfl) ?_
  show KJ X mL_addSeed 7 false (poR 1 SK r) SK 1 6 0 [(0, .ref (X.1 + 0)), (1, .int (iI p1)), (2, .int (iI p2)), (3, .ref (X.1 + 260))] [] μ
  refine K_aload_n (md := mL_addSeed) (pc := 0) 3 (kTab_at (pc := 0) tL_addSeed_ok 0 rfl) rfl ?_
  refine K_iconst (md := mL_addSeed) (pc := 1) (x := 0) (kTab_at (pc := 1) tL_addSeed_ok 1 rfl) rfl ?_
  refine K_aload_n (md := mL_addSeed) (pc := 2) 0 (kTab_at (pc := 2) tL_addSeed_ok 2 rfl) rfl ?_
  refine K_iload_n (md := mL_addSeed) (pc := 3) 1 (kTab_at (pc := 3) tL_addSeed_ok 3 rfl) rfl ?_
  refine K_iload_n (md := mL_addSeed) (pc := 4) 2 (kTab_at (pc := 4) tL_addSeed_ok 4 rfl) rfl ?_
  refine K_callHp (md := mL_addSeed) (pc := 5) (st := [.int (iI 0), .ref (X.1 + 260)]) (b := 0) (kTab_at (pc := 5) tL_addSeed_ok 5 rfl) mv_L_24 sk_0 rfl (Nat.le_of_ble_eq_true rfl) (by decide) (c_X10_addSeed X p1 p2 μ) ht_addSeed h ?_ ?_ rfl
  · intro μ' v g hr
    subst hr
    show KJ X mL_addSeed 7 false _ SK 0 0 8 [(0, .ref (X.1 + 0)), (1, .int (iI p1)), (2, .int (iI p2)), (3, .ref (X.1 + 260))] [.int (iI v), .int (iI 0), .ref (X.1 + 260)] μ'
    refine K_i2l (md := mL_addSeed) (pc := 8) (r := (μ', 0, 0)) (k0 := some (μ', 0, 0)) (kTab_at (pc := 8) tL_addSeed_ok 6 rfl) (hg_0 g) (fun _ => ?_)
    refine K_last (md := mL_addSeed) (pc := 9) (r := (μ', 0, 0)) (k0 := fun _ => some (μ', 0, 0)) (kTab_at (pc := 9) tL_addSeed_ok 7 rfl) sk_260 (by decide) wr_260 (fun _ => ?_)
    refine K_goto (md := mL_addSeed) (pc := 10) (tgt := 29) (kTab_at (pc := 10) tL_addSeed_ok 8 rfl) rfl ?_
    refine K_iconst (md := mL_addSeed) (pc := 29) (x := 0) (kTab_at (pc := 29) tL_addSeed_ok 21 rfl) rfl ?_
    exact K_iret (md := mL_addSeed) (pc := 30) (kTab_at (pc := 30) tL_addSeed_ok 22 rfl) rfl rfl ⟨rfl, rfl, rfl, rfl⟩
  · intro i x q μ' hx hr
    subst hr
    match i, hx with
    | 0, hx =>
      cases hx
      show KJ X mL_addSeed 7 false _ SK 0 0 13 [(0, .ref (X.1 + 0)), (1, .int (iI p1)), (2, .int (iI p2)), (3, .ref (X.1 + 260))] [.ref q] μ'
      refine K_astore (md := mL_addSeed) (pc := 13) (l' := (4, .ref q) :: [(0, .ref (X.1 + 0)), (1, .int (iI p1)), (2, .int (iI p2)), (3, .ref (X.1 + 260))]) (kTab_at (pc := 13) tL_addSeed_ok 9 rfl) (Nat.le_of_ble_eq_true rfl) rfl ?_
      refine K_iconst (md := mL_addSeed) (pc := 15) (x := 1) (kTab_at (pc := 15) tL_addSeed_ok 10 rfl) rfl ?_
      exact K_iret (md := mL_addSeed) (pc := 16) (kTab_at (pc := 16) tL_addSeed_ok 11 rfl) rfl rfl ⟨rfl, rfl, rfl, rfl⟩
    | 1, hx =>
      cases hx
      show KJ X mL_addSeed 7 false _ SK 0 0 17 [(0, .ref (X.1 + 0)), (1, .int (iI p1)), (2, .int (iI p2)), (3, .ref (X.1 + 260))] [.ref q] μ'
      refine K_astore (md := mL_addSeed) (pc := 17) (l' := (4, .ref q) :: [(0, .ref (X.1 + 0)), (1, .int (iI p1)), (2, .int (iI p2)), (3, .ref (X.1 + 260))]) (kTab_at (pc := 17) tL_addSeed_ok 12 rfl) (Nat.le_of_ble_eq_true rfl) rfl ?_
      refine K_iconst (md := mL_addSeed) (pc := 19) (x := 2) (kTab_at (pc := 19) tL_addSeed_ok 13 rfl) rfl ?_
      exact K_iret (md := mL_addSeed) (pc := 20) (kTab_at (pc := 20) tL_addSeed_ok 14 rfl) rfl rfl ⟨rfl, rfl, rfl, rfl⟩
    | 2, hx =>
      cases hx
      show KJ X mL_addSeed 7 false _ SK 0 0 21 [(0, .ref (X.1 + 0)), (1, .int (iI p1)), (2, .int (iI p2)), (3, .ref (X.1 + 260))] [.ref q] μ'
      refine K_astore (md := mL_addSeed) (pc := 21) (l' := (4, .ref q) :: [(0, .ref (X.1 + 0)), (1, .int (iI p1)), (2, .int (iI p2)), (3, .ref (X.1 + 260))]) (kTab_at (pc := 21) tL_addSeed_ok 15 rfl) (Nat.le_of_ble_eq_true rfl) rfl ?_
      refine K_iconst (md := mL_addSeed) (pc := 23) (x := 3) (kTab_at (pc := 23) tL_addSeed_ok 16 rfl) rfl ?_
      exact K_iret (md := mL_addSeed) (pc := 24) (kTab_at (pc := 24) tL_addSeed_ok 17 rfl) rfl rfl ⟨rfl, rfl, rfl, rfl⟩
    | 3, hx =>
      cases hx
      show KJ X mL_addSeed 7 false _ SK 0 0 25 [(0, .ref (X.1 + 0)), (1, .int (iI p1)), (2, .int (iI p2)), (3, .ref (X.1 + 260))] [.ref q] μ'
      refine K_astore (md := mL_addSeed) (pc := 25) (l' := (4, .ref q) :: [(0, .ref (X.1 + 0)), (1, .int (iI p1)), (2, .int (iI p2)), (3, .ref (X.1 + 260))]) (kTab_at (pc := 25) tL_addSeed_ok 18 rfl) (Nat.le_of_ble_eq_true rfl) rfl ?_
      refine K_iconst (md := mL_addSeed) (pc := 27) (x := 4) (kTab_at (pc := 27) tL_addSeed_ok 19 rfl) rfl ?_
      exact K_iret (md := mL_addSeed) (pc := 28) (kTab_at (pc := 28) tL_addSeed_ok 20 rfl) rfl rfl ⟨rfl, rfl, rfl, rfl⟩
    | n + 4, hx => cases hx
def hh_markSeed : List (Nat × Nat × Nat × Nat) := [(0, 14, 17, 13), (0, 14, 21, 15), (0, 14, 25, 17), (0, 14, 29, 19)]
theorem ht_markSeed : hTb RL 9 (tableOf hh_markSeed) [2, 1, 4, 0] := (hTb_cons (a := 0) (b := 14) (c := 17) (by decide) rfl (by decide) cl_L_13 nc_2 (hTb_cons (a := 0) (b := 14) (c := 21) (by decide) rfl (by decide) cl_L_15 nc_1 (hTb_cons (a := 0) (b := 14) (c := 25) (by decide) rfl (by decide) cl_L_17 nc_4 (hTb_cons (a := 0) (b := 14) (c := 29) (by decide) rfl (by decide) cl_L_19 nc_0 hTb_nil))))
set_option maxRecDepth 100000 in
theorem h_markSeed (X : kX) (p1 : Int) (p2 : Int) (p3 : Int) (p4 : Int) (μ : Mu) (r : Res) (h : hp 0 [2, 1, 4, 0] (f_X10_markSeed p1 p2 p3 p4 μ) = some r) : CtH X mL_markSeed hh_markSeed 7 SK false μ 1 6 [.ref (X.1 + 0), .int (iI p1), .int (iI p2), .int (iI p3), .int (iI p4), .ref (X.1 + 260)] (poR 1 SK r) := by
  refine ctH_of (by decide +kernel) rfl (Nat.le_of_ble_eq_true rfl) ?_
  show KJ X mL_markSeed 7 false (poR 1 SK r) SK 1 6 0 [(0, .ref (X.1 + 0)), (1, .int (iI p1)), (2, .int (iI p2)), (3, .int (iI p3)), (4, .int (iI p4)), (5, .ref (X.1 + 260))] [] μ
  refine K_aload (md := mL_markSeed) (pc := 0) 5 (kTab_at (pc := 0) tL_markSeed_ok 0 rfl) rfl ?_
  refine K_iconst (md := mL_markSeed) (pc := 2) (x := 0) (kTab_at (pc := 2) tL_markSeed_ok 1 rfl) rfl ?_
  refine K_aload_n (md := mL_markSeed) (pc := 3) 0 (kTab_at (pc := 3) tL_markSeed_ok 2 rfl) rfl ?_
  refine K_iload_n (md := mL_markSeed) (pc := 4) 1 (kTab_at (pc := 4) tL_markSeed_ok 3 rfl) rfl ?_
  refine K_iload_n (md := mL_markSeed) (pc := 5) 2 (kTab_at (pc := 5) tL_markSeed_ok 4 rfl) rfl ?_
  refine K_iload_n (md := mL_markSeed) (pc := 6) 3 (kTab_at (pc := 6) tL_markSeed_ok 5 rfl) rfl ?_
  refine K_iload (md := mL_markSeed) (pc := 7) 4 (kTab_at (pc := 7) tL_markSeed_ok 6 rfl) rfl ?_
  refine K_callHp (md := mL_markSeed) (pc := 9) (st := [.int (iI 0), .ref (X.1 + 260)]) (b := 0) (kTab_at (pc := 9) tL_markSeed_ok 7 rfl) mv_L_27 sk_0 rfl (Nat.le_of_ble_eq_true rfl) (by decide) (c_X10_markSeed X p1 p2 p3 p4 μ) ht_markSeed h ?_ ?_ rfl
  · intro μ' v g hr
    subst hr
    show KJ X mL_markSeed 7 false _ SK 0 0 12 [(0, .ref (X.1 + 0)), (1, .int (iI p1)), (2, .int (iI p2)), (3, .int (iI p3)), (4, .int (iI p4)), (5, .ref (X.1 + 260))] [.int (iI v), .int (iI 0), .ref (X.1 + 260)] μ'
    refine K_i2l (md := mL_markSeed) (pc := 12) (r := (μ', 0, 0)) (k0 := some (μ', 0, 0)) (kTab_at (pc := 12) tL_markSeed_ok 8 rfl) (hg_0 g) (fun _ => ?_)
    refine K_last (md := mL_markSeed) (pc := 13) (r := (μ', 0, 0)) (k0 := fun _ => some (μ', 0, 0)) (kTab_at (pc := 13) tL_markSeed_ok 9 rfl) sk_260 (by decide) wr_260 (fun _ => ?_)
    refine K_goto (md := mL_markSeed) (pc := 14) (tgt := 33) (kTab_at (pc := 14) tL_markSeed_ok 10 rfl) rfl ?_
    refine K_iconst (md := mL_markSeed) (pc := 33) (x := 0) (kTab_at (pc := 33) tL_markSeed_ok 23 rfl) rfl ?_
    exact K_iret (md := mL_markSeed) (pc := 34) (kTab_at (pc := 34) tL_markSeed_ok 24 rfl) rfl rfl ⟨rfl, rfl, rfl, rfl⟩
  · intro i x q μ' hx hr
    subst hr
    match i, hx with
    | 0, hx =>
      cases hx
      show KJ X mL_markSeed 7 false _ SK 0 0 17 [(0, .ref (X.1 + 0)), (1, .int (iI p1)), (2, .int (iI p2)), (3, .int (iI p3)), (4, .int (iI p4)), (5, .ref (X.1 + 260))] [.ref q] μ'
      refine K_astore (md := mL_markSeed) (pc := 17) (l' := (6, .ref q) :: [(0, .ref (X.1 + 0)), (1, .int (iI p1)), (2, .int (iI p2)), (3, .int (iI p3)), (4, .int (iI p4)), (5, .ref (X.1 + 260))]) (kTab_at (pc := 17) tL_markSeed_ok 11 rfl) (Nat.le_of_ble_eq_true rfl) rfl ?_
      refine K_iconst (md := mL_markSeed) (pc := 19) (x := 1) (kTab_at (pc := 19) tL_markSeed_ok 12 rfl) rfl ?_
      exact K_iret (md := mL_markSeed) (pc := 20) (kTab_at (pc := 20) tL_markSeed_ok 13 rfl) rfl rfl ⟨rfl, rfl, rfl, rfl⟩
    | 1, hx =>
      cases hx
      show KJ X mL_markSeed 7 false _ SK 0 0 21 [(0, .ref (X.1 + 0)), (1, .int (iI p1)), (2, .int (iI p2)), (3, .int (iI p3)), (4, .int (iI p4)), (5, .ref (X.1 + 260))] [.ref q] μ'
      refine K_astore (md := mL_markSeed) (pc := 21) (l' := (6, .ref q) :: [(0, .ref (X.1 + 0)), (1, .int (iI p1)), (2, .int (iI p2)), (3, .int (iI p3)), (4, .int (iI p4)), (5, .ref (X.1 + 260))]) (kTab_at (pc := 21) tL_markSeed_ok 14 rfl) (Nat.le_of_ble_eq_true rfl) rfl ?_
      refine K_iconst (md := mL_markSeed) (pc := 23) (x := 2) (kTab_at (pc := 23) tL_markSeed_ok 15 rfl) rfl ?_
      exact K_iret (md := mL_markSeed) (pc := 24) (kTab_at (pc := 24) tL_markSeed_ok 16 rfl) rfl rfl ⟨rfl, rfl, rfl, rfl⟩
    | 2, hx =>
      cases hx
      show KJ X mL_markSeed 7 false _ SK 0 0 25 [(0, .ref (X.1 + 0)), (1, .int (iI p1)), (2, .int (iI p2)), (3, .int (iI p3)), (4, .int (iI p4)), (5, .ref (X.1 + 260))] [.ref q] μ'
      refine K_astore (md := mL_markSeed) (pc := 25) (l' := (6, .ref q) :: [(0, .ref (X.1 + 0)), (1, .int (iI p1)), (2, .int (iI p2)), (3, .int (iI p3)), (4, .int (iI p4)), (5, .ref (X.1 + 260))]) (kTab_at (pc := 25) tL_markSeed_ok 17 rfl) (Nat.le_of_ble_eq_true rfl) rfl ?_
      refine K_iconst (md := mL_markSeed) (pc := 27) (x := 3) (kTab_at (pc := 27) tL_markSeed_ok 18 rfl) rfl ?_
      exact K_iret (md := mL_markSeed) (pc := 28) (kTab_at (pc := 28) tL_markSeed_ok 19 rfl) rfl rfl ⟨rfl, rfl, rfl, rfl⟩
    | 3, hx =>
      cases hx
      show KJ X mL_markSeed 7 false _ SK 0 0 29 [(0, .ref (X.1 + 0)), (1, .int (iI p1)), (2, .int (iI p2)), (3, .int (iI p3)), (4, .int (iI p4)), (5, .ref (X.1 + 260))] [.ref q] μ'
      refine K_astore (md := mL_markSeed) (pc := 29) (l' := (6, .ref q) :: [(0, .ref (X.1 + 0)), (1, .int (iI p1)), (2, .int (iI p2)), (3, .int (iI p3)), (4, .int (iI p4)), (5, .ref (X.1 + 260))]) (kTab_at (pc := 29) tL_markSeed_ok 20 rfl) (Nat.le_of_ble_eq_true rfl) rfl ?_
      refine K_iconst (md := mL_markSeed) (pc := 31) (x := 4) (kTab_at (pc := 31) tL_markSeed_ok 21 rfl) rfl ?_
      exact K_iret (md := mL_markSeed) (pc := 32) (kTab_at (pc := 32) tL_markSeed_ok 22 rfl) rfl rfl ⟨rfl, rfl, rfl, rfl⟩
    | n + 4, hx => cases hx
def hh_correction : List (Nat × Nat × Nat × Nat) := [(0, 10, 13, 13)]
theorem ht_correction : hTb RL 5 (tableOf hh_correction) [2] := (hTb_cons (a := 0) (b := 10) (c := 13) (by decide) rfl (by decide) cl_L_13 nc_2 hTb_nil)
set_option maxRecDepth 100000 in
theorem h_correction (X : kX) (p1 : Int) (p2 : Int) (μ : Mu) (r : Res) (h : hp 0 [2] (f_X10_correction p1 p2 μ) = some r) : CtH X mL_correction hh_correction 7 SK false μ 1 6 [.ref (X.1 + 0), .int (iI p1), .int (iI p2), .ref (X.1 + 260)] (poR 1 SK r) := by
  refine ctH_of (by decide +kernel) rfl (Nat.le_of_ble_eq_true rfl) ?_
  show KJ X mL_correction 7 false (poR 1 SK r) SK 1 6 0 [(0, .ref (X.1 + 0)), (1, .int (iI p1)), (2, .int (iI p2)), (3, .ref (X.1 + 260))] [] μ
  refine K_aload_n (md := mL_correction) (pc := 0) 3 (kTab_at (pc := 0) tL_correction_ok 0 rfl) rfl ?_
  refine K_iconst (md := mL_correction) (pc := 1) (x := 0) (kTab_at (pc := 1) tL_correction_ok 1 rfl) rfl ?_
  refine K_aload_n (md := mL_correction) (pc := 2) 0 (kTab_at (pc := 2) tL_correction_ok 2 rfl) rfl ?_
  refine K_iload_n (md := mL_correction) (pc := 3) 1 (kTab_at (pc := 3) tL_correction_ok 3 rfl) rfl ?_
  refine K_iload_n (md := mL_correction) (pc := 4) 2 (kTab_at (pc := 4) tL_correction_ok 4 rfl) rfl ?_
  refine K_callHp (md := mL_correction) (pc := 5) (st := [.int (iI 0), .ref (X.1 + 260)]) (b := 0) (kTab_at (pc := 5) tL_correction_ok 5 rfl) mv_L_31 sk_0 rfl (Nat.le_of_ble_eq_true rfl) (by decide) (c_X10_correction X p1 p2 μ) ht_correction h ?_ ?_ rfl
  · intro μ' v g hr
    subst hr
    show KJ X mL_correction 7 false _ SK 0 0 8 [(0, .ref (X.1 + 0)), (1, .int (iI p1)), (2, .int (iI p2)), (3, .ref (X.1 + 260))] [.int (iI v), .int (iI 0), .ref (X.1 + 260)] μ'
    refine K_i2l (md := mL_correction) (pc := 8) (r := (μ', 0, 0)) (k0 := some (μ', 0, 0)) (kTab_at (pc := 8) tL_correction_ok 6 rfl) (hg_0 g) (fun _ => ?_)
    refine K_last (md := mL_correction) (pc := 9) (r := (μ', 0, 0)) (k0 := fun _ => some (μ', 0, 0)) (kTab_at (pc := 9) tL_correction_ok 7 rfl) sk_260 (by decide) wr_260 (fun _ => ?_)
    refine K_goto (md := mL_correction) (pc := 10) (tgt := 17) (kTab_at (pc := 10) tL_correction_ok 8 rfl) rfl ?_
    refine K_iconst (md := mL_correction) (pc := 17) (x := 0) (kTab_at (pc := 17) tL_correction_ok 12 rfl) rfl ?_
    exact K_iret (md := mL_correction) (pc := 18) (kTab_at (pc := 18) tL_correction_ok 13 rfl) rfl rfl ⟨rfl, rfl, rfl, rfl⟩
  · intro i x q μ' hx hr
    subst hr
    match i, hx with
    | 0, hx =>
      cases hx
      show KJ X mL_correction 7 false _ SK 0 0 13 [(0, .ref (X.1 + 0)), (1, .int (iI p1)), (2, .int (iI p2)), (3, .ref (X.1 + 260))] [.ref q] μ'
      refine K_astore (md := mL_correction) (pc := 13) (l' := (4, .ref q) :: [(0, .ref (X.1 + 0)), (1, .int (iI p1)), (2, .int (iI p2)), (3, .ref (X.1 + 260))]) (kTab_at (pc := 13) tL_correction_ok 9 rfl) (Nat.le_of_ble_eq_true rfl) rfl ?_
      refine K_iconst (md := mL_correction) (pc := 15) (x := 1) (kTab_at (pc := 15) tL_correction_ok 10 rfl) rfl ?_
      exact K_iret (md := mL_correction) (pc := 16) (kTab_at (pc := 16) tL_correction_ok 11 rfl) rfl rfl ⟨rfl, rfl, rfl, rfl⟩
    | n + 1, hx => cases hx
def hh_isSuspended : List (Nat × Nat × Nat × Nat) := [(0, 17, 20, 13)]
theorem ht_isSuspended : hTb RL 5 (tableOf hh_isSuspended) [2] := (hTb_cons (a := 0) (b := 17) (c := 20) (by decide) rfl (by decide) cl_L_13 nc_2 hTb_nil)
set_option maxRecDepth 100000 in
theorem h_isSuspended (X : kX) (p1 : Int) (p2 : Int) (μ : Mu) (r : Res) (h : hp 1 [2] (f_X10_isSuspended p1 p2 μ) = some r) : CtH X mL_isSuspended hh_isSuspended 7 SK false μ 1 6 [.ref (X.1 + 0), .int (iI p1), .int (iI p2), .ref (X.1 + 260)] (poR 1 SK r) := by
  refine ctH_of (by decide +kernel) rfl (Nat.le_of_ble_eq_true rfl) ?_
  show KJ X mL_isSuspended 7 false (poR 1 SK r) SK 1 6 0 [(0, .ref (X.1 + 0)), (1, .int (iI p1)), (2, .int (iI p2)), (3, .ref (X.1 + 260))] [] μ
  refine K_aload_n (md := mL_isSuspended) (pc := 0) 3 (kTab_at (pc := 0) tL_isSuspended_ok 0 rfl) rfl ?_
  refine K_iconst (md := mL_isSuspended) (pc := 1) (x := 0) (kTab_at (pc := 1) tL_isSuspended_ok 1 rfl) rfl ?_
  refine K_aload_n (md := mL_isSuspended) (pc := 2) 0 (kTab_at (pc := 2) tL_isSuspended_ok 2 rfl) rfl ?_
  refine K_iload_n (md := mL_isSuspended) (pc := 3) 1 (kTab_at (pc := 3) tL_isSuspended_ok 3 rfl) rfl ?_
  refine K_iload_n (md := mL_isSuspended) (pc := 4) 2 (kTab_at (pc := 4) tL_isSuspended_ok 4 rfl) rfl ?_
  refine K_callHp (md := mL_isSuspended) (pc := 5) (st := [.int (iI 0), .ref (X.1 + 260)]) (b := 0) (kTab_at (pc := 5) tL_isSuspended_ok 5 rfl) mv_L_34 sk_0 rfl (Nat.le_of_ble_eq_true rfl) (by decide) (c_X10_isSuspended X p1 p2 μ) ht_isSuspended h ?_ ?_ rfl
  · intro μ' v g hr
    subst hr
    show KJ X mL_isSuspended 7 false _ SK 0 0 8 [(0, .ref (X.1 + 0)), (1, .int (iI p1)), (2, .int (iI p2)), (3, .ref (X.1 + 260))] [.int (iI v), .int (iI 0), .ref (X.1 + 260)] μ'
    rcases hg_1 g with rfl | rfl
    · refine K_if_eq (md := mL_isSuspended) (pc := 8) (r := (μ', 0, 0)) (A := some (μ', 0, 0)) (B := none) (tgt := 15) (kTab_at (pc := 8) tL_isSuspended_ok 6 rfl) rfl rfl (fun _ => ?_) (fun h => nomatch h)
      refine K_lconst (md := mL_isSuspended) (pc := 15) (x := 0) (kTab_at (pc := 15) tL_isSuspended_ok 9 rfl) rfl ?_
      refine K_last (md := mL_isSuspended) (pc := 16) (r := (μ', 0, 0)) (k0 := fun _ => some (μ', 0, 0)) (kTab_at (pc := 16) tL_isSuspended_ok 10 rfl) sk_260 (by decide) wr_260 (fun _ => ?_)
      refine K_goto (md := mL_isSuspended) (pc := 17) (tgt := 24) (kTab_at (pc := 17) tL_isSuspended_ok 11 rfl) rfl ?_
      refine K_iconst (md := mL_isSuspended) (pc := 24) (x := 0) (kTab_at (pc := 24) tL_isSuspended_ok 15 rfl) rfl ?_
      exact K_iret (md := mL_isSuspended) (pc := 25) (kTab_at (pc := 25) tL_isSuspended_ok 16 rfl) rfl rfl ⟨rfl, rfl, rfl, rfl⟩
    · refine K_if_eq (md := mL_isSuspended) (pc := 8) (r := (μ', 0, 0)) (A := none) (B := some (μ', 0, 0)) (tgt := 15) (kTab_at (pc := 8) tL_isSuspended_ok 6 rfl) rfl rfl (fun h => nomatch h) (fun _ => ?_)
      refine K_lconst (md := mL_isSuspended) (pc := 11) (x := 1) (kTab_at (pc := 11) tL_isSuspended_ok 7 rfl) rfl ?_
      refine K_goto (md := mL_isSuspended) (pc := 12) (tgt := 16) (kTab_at (pc := 12) tL_isSuspended_ok 8 rfl) rfl ?_
      refine K_last (md := mL_isSuspended) (pc := 16) (r := (μ', 0, 0)) (k0 := fun _ => some (μ', 0, 0)) (kTab_at (pc := 16) tL_isSuspended_ok 10 rfl) sk_260 (by decide) wr_260 (fun _ => ?_)
      refine K_goto (md := mL_isSuspended) (pc := 17) (tgt := 24) (kTab_at (pc := 17) tL_isSuspended_ok 11 rfl) rfl ?_
      refine K_iconst (md := mL_isSuspended) (pc := 24) (x := 0) (kTab_at (pc := 24) tL_isSuspended_ok 15 rfl) rfl ?_
      exact K_iret (md := mL_isSuspended) (pc := 25) (kTab_at (pc := 25) tL_isSuspended_ok 16 rfl) rfl rfl ⟨rfl, rfl, rfl, rfl⟩
  · intro i x q μ' hx hr
    subst hr
    match i, hx with
    | 0, hx =>
      cases hx
      show KJ X mL_isSuspended 7 false _ SK 0 0 20 [(0, .ref (X.1 + 0)), (1, .int (iI p1)), (2, .int (iI p2)), (3, .ref (X.1 + 260))] [.ref q] μ'
      refine K_astore (md := mL_isSuspended) (pc := 20) (l' := (4, .ref q) :: [(0, .ref (X.1 + 0)), (1, .int (iI p1)), (2, .int (iI p2)), (3, .ref (X.1 + 260))]) (kTab_at (pc := 20) tL_isSuspended_ok 12 rfl) (Nat.le_of_ble_eq_true rfl) rfl ?_
      refine K_iconst (md := mL_isSuspended) (pc := 22) (x := 1) (kTab_at (pc := 22) tL_isSuspended_ok 13 rfl) rfl ?_
      exact K_iret (md := mL_isSuspended) (pc := 23) (kTab_at (pc := 23) tL_isSuspended_ok 14 rfl) rfl rfl ⟨rfl, rfl, rfl, rfl⟩
    | n + 1, hx => cases hx
def hh_enter : List (Nat × Nat × Nat × Nat) := [(0, 14, 17, 13), (0, 14, 21, 15), (0, 14, 25, 17)]
theorem ht_enter : hTb RL 9 (tableOf hh_enter) [2, 1, 4] := (hTb_cons (a := 0) (b := 14) (c := 17) (by decide) rfl (by decide) cl_L_13 nc_2 (hTb_cons (a := 0) (b := 14) (c := 21) (by decide) rfl (by decide) cl_L_15 nc_1 (hTb_cons (a := 0) (b := 14) (c := 25) (by decide) rfl (by decide) cl_L_17 nc_4 hTb_nil)))
set_option maxRecDepth 100000 in
theorem h_enter (X : kX) (p1 : Int) (p2 : Int) (p3 : Int) (p4 : Int) (μ : Mu) (r : Res) (h : hp 0 [2, 1, 4] (f_X10_enter p1 p2 p3 p4 μ) = some r) : CtH X mL_enter hh_enter 7 SK false μ 1 6 [.ref (X.1 + 0), .int (iI p1), .int (iI p2), .int (iI p3), .int (iI p4), .ref (X.1 + 260)] (poR 1 SK r) := by
  refine ctH_of (by decide +kernel) rfl (Nat.le_of_ble_eq_true rfl) ?_
  show KJ X mL_enter 7 false (poR 1 SK r) SK 1 6 0 [(0, .ref (X.1 + 0)), (1, .int (iI p1)), (2, .int (iI p2)), (3, .int (iI p3)), (4, .int (iI p4)), (5, .ref (X.1 + 260))] [] μ
  refine K_aload (md := mL_enter) (pc := 0) 5 (kTab_at (pc := 0) tL_enter_ok 0 rfl) rfl ?_
  refine K_iconst (md := mL_enter) (pc := 2) (x := 0) (kTab_at (pc := 2) tL_enter_ok 1 rfl) rfl ?_
  refine K_aload_n (md := mL_enter) (pc := 3) 0 (kTab_at (pc := 3) tL_enter_ok 2 rfl) rfl ?_
  refine K_iload_n (md := mL_enter) (pc := 4) 1 (kTab_at (pc := 4) tL_enter_ok 3 rfl) rfl ?_
  refine K_iload_n (md := mL_enter) (pc := 5) 2 (kTab_at (pc := 5) tL_enter_ok 4 rfl) rfl ?_
  refine K_iload_n (md := mL_enter) (pc := 6) 3 (kTab_at (pc := 6) tL_enter_ok 5 rfl) rfl ?_
  refine K_iload (md := mL_enter) (pc := 7) 4 (kTab_at (pc := 7) tL_enter_ok 6 rfl) rfl ?_
  refine K_callHp (md := mL_enter) (pc := 9) (st := [.int (iI 0), .ref (X.1 + 260)]) (b := 0) (kTab_at (pc := 9) tL_enter_ok 7 rfl) mv_L_38 sk_0 rfl (Nat.le_of_ble_eq_true rfl) (by decide) (c_X10_enter X p1 p2 p3 p4 μ) ht_enter h ?_ ?_ rfl
  · intro μ' v g hr
    subst hr
    show KJ X mL_enter 7 false _ SK 0 0 12 [(0, .ref (X.1 + 0)), (1, .int (iI p1)), (2, .int (iI p2)), (3, .int (iI p3)), (4, .int (iI p4)), (5, .ref (X.1 + 260))] [.int (iI v), .int (iI 0), .ref (X.1 + 260)] μ'
    refine K_i2l (md := mL_enter) (pc := 12) (r := (μ', 0, 0)) (k0 := some (μ', 0, 0)) (kTab_at (pc := 12) tL_enter_ok 8 rfl) (hg_0 g) (fun _ => ?_)
    refine K_last (md := mL_enter) (pc := 13) (r := (μ', 0, 0)) (k0 := fun _ => some (μ', 0, 0)) (kTab_at (pc := 13) tL_enter_ok 9 rfl) sk_260 (by decide) wr_260 (fun _ => ?_)
    refine K_goto (md := mL_enter) (pc := 14) (tgt := 29) (kTab_at (pc := 14) tL_enter_ok 10 rfl) rfl ?_
    refine K_iconst (md := mL_enter) (pc := 29) (x := 0) (kTab_at (pc := 29) tL_enter_ok 20 rfl) rfl ?_
    exact K_iret (md := mL_enter) (pc := 30) (kTab_at (pc := 30) tL_enter_ok 21 rfl) rfl rfl ⟨rfl, rfl, rfl, rfl⟩
  · intro i x q μ' hx hr
    subst hr
    match i, hx with
    | 0, hx =>
      cases hx
      show KJ X mL_enter 7 false _ SK 0 0 17 [(0, .ref (X.1 + 0)), (1, .int (iI p1)), (2, .int (iI p2)), (3, .int (iI p3)), (4, .int (iI p4)), (5, .ref (X.1 + 260))] [.ref q] μ'
      refine K_astore (md := mL_enter) (pc := 17) (l' := (6, .ref q) :: [(0, .ref (X.1 + 0)), (1, .int (iI p1)), (2, .int (iI p2)), (3, .int (iI p3)), (4, .int (iI p4)), (5, .ref (X.1 + 260))]) (kTab_at (pc := 17) tL_enter_ok 11 rfl) (Nat.le_of_ble_eq_true rfl) rfl ?_
      refine K_iconst (md := mL_enter) (pc := 19) (x := 1) (kTab_at (pc := 19) tL_enter_ok 12 rfl) rfl ?_
      exact K_iret (md := mL_enter) (pc := 20) (kTab_at (pc := 20) tL_enter_ok 13 rfl) rfl rfl ⟨rfl, rfl, rfl, rfl⟩
    | 1, hx =>
      cases hx
      show KJ X mL_enter 7 false _ SK 0 0 21 [(0, .ref (X.1 + 0)), (1, .int (iI p1)), (2, .int (iI p2)), (3, .int (iI p3)), (4, .int (iI p4)), (5, .ref (X.1 + 260))] [.ref q] μ'
      refine K_astore (md := mL_enter) (pc := 21) (l' := (6, .ref q) :: [(0, .ref (X.1 + 0)), (1, .int (iI p1)), (2, .int (iI p2)), (3, .int (iI p3)), (4, .int (iI p4)), (5, .ref (X.1 + 260))]) (kTab_at (pc := 21) tL_enter_ok 14 rfl) (Nat.le_of_ble_eq_true rfl) rfl ?_
      refine K_iconst (md := mL_enter) (pc := 23) (x := 2) (kTab_at (pc := 23) tL_enter_ok 15 rfl) rfl ?_
      exact K_iret (md := mL_enter) (pc := 24) (kTab_at (pc := 24) tL_enter_ok 16 rfl) rfl rfl ⟨rfl, rfl, rfl, rfl⟩
    | 2, hx =>
      cases hx
      show KJ X mL_enter 7 false _ SK 0 0 25 [(0, .ref (X.1 + 0)), (1, .int (iI p1)), (2, .int (iI p2)), (3, .int (iI p3)), (4, .int (iI p4)), (5, .ref (X.1 + 260))] [.ref q] μ'
      refine K_astore (md := mL_enter) (pc := 25) (l' := (6, .ref q) :: [(0, .ref (X.1 + 0)), (1, .int (iI p1)), (2, .int (iI p2)), (3, .int (iI p3)), (4, .int (iI p4)), (5, .ref (X.1 + 260))]) (kTab_at (pc := 25) tL_enter_ok 17 rfl) (Nat.le_of_ble_eq_true rfl) rfl ?_
      refine K_iconst (md := mL_enter) (pc := 27) (x := 3) (kTab_at (pc := 27) tL_enter_ok 18 rfl) rfl ?_
      exact K_iret (md := mL_enter) (pc := 28) (kTab_at (pc := 28) tL_enter_ok 19 rfl) rfl rfl ⟨rfl, rfl, rfl, rfl⟩
    | n + 3, hx => cases hx
def hh_append : List (Nat × Nat × Nat × Nat) := [(0, 9, 12, 15), (0, 9, 15, 19)]
theorem ht_append : hTb RL 4 (tableOf hh_append) [1, 0] := (hTb_cons (a := 0) (b := 9) (c := 12) (by decide) rfl (by decide) cl_L_15 nc_1 (hTb_cons (a := 0) (b := 9) (c := 15) (by decide) rfl (by decide) cl_L_19 nc_0 hTb_nil))
set_option maxRecDepth 100000 in
theorem h_append (X : kX) (p1 : Int) (μ : Mu) (r : Res) (h : hp 0 [1, 0] (f_X10_append p1 μ) = some r) : CtH X mL_append hh_append 7 SK false μ 1 6 [.ref (X.1 + 0), .int (iI p1), .ref (X.1 + 260)] (poR 1 SK r) := by
  refine ctH_of (by decide +kernel) rfl (Nat.le_of_ble_eq_true rfl) ?_
  show KJ X mL_append 7 false (poR 1 SK r) SK 1 6 0 [(0, .ref (X.1 + 0)), (1, .int (iI p1)), (2, .ref (X.1 + 260))] [] μ
  refine K_aload_n (md := mL_append) (pc := 0) 2 (kTab_at (pc := 0) tL_append_ok 0 rfl) rfl ?_
  refine K_iconst (md := mL_append) (pc := 1) (x := 0) (kTab_at (pc := 1) tL_append_ok 1 rfl) rfl ?_
  refine K_aload_n (md := mL_append) (pc := 2) 0 (kTab_at (pc := 2) tL_append_ok 2 rfl) rfl ?_
  refine K_iload_n (md := mL_append) (pc := 3) 1 (kTab_at (pc := 3) tL_append_ok 3 rfl) rfl ?_
  refine K_callHp (md := mL_append) (pc := 4) (st := [.int (iI 0), .ref (X.1 + 260)]) (b := 0) (kTab_at (pc := 4) tL_append_ok 4 rfl) mv_L_41 sk_0 rfl (Nat.le_of_ble_eq_true rfl) (by decide) (c_X10_append X p1 μ) ht_append h ?_ ?_ rfl
  · intro μ' v g hr
    subst hr
    show KJ X mL_append 7 false _ SK 0 0 7 [(0, .ref (X.1 + 0)), (1, .int (iI p1)), (2, .ref (X.1 + 260))] [.int (iI v), .int (iI 0), .ref (X.1 + 260)] μ'
    refine K_i2l (md := mL_append) (pc := 7) (r := (μ', 0, 0)) (k0 := some (μ', 0, 0)) (kTab_at (pc := 7) tL_append_ok 5 rfl) (hg_0 g) (fun _ => ?_)
    refine K_last (md := mL_append) (pc := 8) (r := (μ', 0, 0)) (k0 := fun _ => some (μ', 0, 0)) (kTab_at (pc := 8) tL_append_ok 6 rfl) sk_260 (by decide) wr_260 (fun _ => ?_)
    refine K_goto (md := mL_append) (pc := 9) (tgt := 18) (kTab_at (pc := 9) tL_append_ok 7 rfl) rfl ?_
    refine K_iconst (md := mL_append) (pc := 18) (x := 0) (kTab_at (pc := 18) tL_append_ok 14 rfl) rfl ?_
    exact K_iret (md := mL_append) (pc := 19) (kTab_at (pc := 19) tL_append_ok 15 rfl) rfl rfl ⟨rfl, rfl, rfl, rfl⟩
  · intro i x q μ' hx hr
    subst hr
    match i, hx with
    | 0, hx =>
      cases hx
      show KJ X mL_append 7 false _ SK 0 0 12 [(0, .ref (X.1 + 0)), (1, .int (iI p1)), (2, .ref (X.1 + 260))] [.ref q] μ'
      refine K_astore_n (md := mL_append) (pc := 12) (l' := (3, .ref q) :: [(0, .ref (X.1 + 0)), (1, .int (iI p1)), (2, .ref (X.1 + 260))]) (kTab_at (pc := 12) tL_append_ok 8 rfl) (Nat.le_of_ble_eq_true rfl) rfl ?_
      refine K_iconst (md := mL_append) (pc := 13) (x := 1) (kTab_at (pc := 13) tL_append_ok 9 rfl) rfl ?_
      exact K_iret (md := mL_append) (pc := 14) (kTab_at (pc := 14) tL_append_ok 10 rfl) rfl rfl ⟨rfl, rfl, rfl, rfl⟩
    | 1, hx =>
      cases hx
      show KJ X mL_append 7 false _ SK 0 0 15 [(0, .ref (X.1 + 0)), (1, .int (iI p1)), (2, .ref (X.1 + 260))] [.ref q] μ'
      refine K_astore_n (md := mL_append) (pc := 15) (l' := (3, .ref q) :: [(0, .ref (X.1 + 0)), (1, .int (iI p1)), (2, .ref (X.1 + 260))]) (kTab_at (pc := 15) tL_append_ok 11 rfl) (Nat.le_of_ble_eq_true rfl) rfl ?_
      refine K_iconst (md := mL_append) (pc := 16) (x := 2) (kTab_at (pc := 16) tL_append_ok 12 rfl) rfl ?_
      exact K_iret (md := mL_append) (pc := 17) (kTab_at (pc := 17) tL_append_ok 13 rfl) rfl rfl ⟨rfl, rfl, rfl, rfl⟩
    | n + 2, hx => cases hx
def hh_sheet : List (Nat × Nat × Nat × Nat) := [(0, 8, 11, 15), (0, 8, 14, 17)]
theorem ht_sheet : hTb RL 3 (tableOf hh_sheet) [1, 4] := (hTb_cons (a := 0) (b := 8) (c := 11) (by decide) rfl (by decide) cl_L_15 nc_1 (hTb_cons (a := 0) (b := 8) (c := 14) (by decide) rfl (by decide) cl_L_17 nc_4 hTb_nil))
set_option maxRecDepth 100000 in
theorem h_sheet (X : kX)  (μ : Mu) (r : Res) (h : hp 0 [1, 4] (f_X10_sheet  μ) = some r) : CtH X mL_sheet hh_sheet 7 SK false μ 1 6 [.ref (X.1 + 0), .ref (X.1 + 260)] (poR 1 SK r) := by
  refine ctH_of (by decide +kernel) rfl (Nat.le_of_ble_eq_true rfl) ?_
  show KJ X mL_sheet 7 false (poR 1 SK r) SK 1 6 0 [(0, .ref (X.1 + 0)), (1, .ref (X.1 + 260))] [] μ
  refine K_aload_n (md := mL_sheet) (pc := 0) 1 (kTab_at (pc := 0) tL_sheet_ok 0 rfl) rfl ?_
  refine K_iconst (md := mL_sheet) (pc := 1) (x := 0) (kTab_at (pc := 1) tL_sheet_ok 1 rfl) rfl ?_
  refine K_aload_n (md := mL_sheet) (pc := 2) 0 (kTab_at (pc := 2) tL_sheet_ok 2 rfl) rfl ?_
  refine K_callHp (md := mL_sheet) (pc := 3) (st := [.int (iI 0), .ref (X.1 + 260)]) (b := 0) (kTab_at (pc := 3) tL_sheet_ok 3 rfl) mv_L_45 sk_0 rfl (Nat.le_of_ble_eq_true rfl) (by decide) (c_X10_sheet X  μ) ht_sheet h ?_ ?_ rfl
  · intro μ' v g hr
    subst hr
    show KJ X mL_sheet 7 false _ SK 0 0 6 [(0, .ref (X.1 + 0)), (1, .ref (X.1 + 260))] [.int (iI v), .int (iI 0), .ref (X.1 + 260)] μ'
    refine K_i2l (md := mL_sheet) (pc := 6) (r := (μ', 0, 0)) (k0 := some (μ', 0, 0)) (kTab_at (pc := 6) tL_sheet_ok 4 rfl) (hg_0 g) (fun _ => ?_)
    refine K_last (md := mL_sheet) (pc := 7) (r := (μ', 0, 0)) (k0 := fun _ => some (μ', 0, 0)) (kTab_at (pc := 7) tL_sheet_ok 5 rfl) sk_260 (by decide) wr_260 (fun _ => ?_)
    refine K_goto (md := mL_sheet) (pc := 8) (tgt := 17) (kTab_at (pc := 8) tL_sheet_ok 6 rfl) rfl ?_
    refine K_iconst (md := mL_sheet) (pc := 17) (x := 0) (kTab_at (pc := 17) tL_sheet_ok 13 rfl) rfl ?_
    exact K_iret (md := mL_sheet) (pc := 18) (kTab_at (pc := 18) tL_sheet_ok 14 rfl) rfl rfl ⟨rfl, rfl, rfl, rfl⟩
  · intro i x q μ' hx hr
    subst hr
    match i, hx with
    | 0, hx =>
      cases hx
      show KJ X mL_sheet 7 false _ SK 0 0 11 [(0, .ref (X.1 + 0)), (1, .ref (X.1 + 260))] [.ref q] μ'
      refine K_astore_n (md := mL_sheet) (pc := 11) (l' := (2, .ref q) :: [(0, .ref (X.1 + 0)), (1, .ref (X.1 + 260))]) (kTab_at (pc := 11) tL_sheet_ok 7 rfl) (Nat.le_of_ble_eq_true rfl) rfl ?_
      refine K_iconst (md := mL_sheet) (pc := 12) (x := 1) (kTab_at (pc := 12) tL_sheet_ok 8 rfl) rfl ?_
      exact K_iret (md := mL_sheet) (pc := 13) (kTab_at (pc := 13) tL_sheet_ok 9 rfl) rfl rfl ⟨rfl, rfl, rfl, rfl⟩
    | 1, hx =>
      cases hx
      show KJ X mL_sheet 7 false _ SK 0 0 14 [(0, .ref (X.1 + 0)), (1, .ref (X.1 + 260))] [.ref q] μ'
      refine K_astore_n (md := mL_sheet) (pc := 14) (l' := (2, .ref q) :: [(0, .ref (X.1 + 0)), (1, .ref (X.1 + 260))]) (kTab_at (pc := 14) tL_sheet_ok 10 rfl) (Nat.le_of_ble_eq_true rfl) rfl ?_
      refine K_iconst (md := mL_sheet) (pc := 15) (x := 2) (kTab_at (pc := 15) tL_sheet_ok 11 rfl) rfl ?_
      exact K_iret (md := mL_sheet) (pc := 16) (kTab_at (pc := 16) tL_sheet_ok 12 rfl) rfl rfl ⟨rfl, rfl, rfl, rfl⟩
    | n + 2, hx => cases hx
def hh_entry : List (Nat × Nat × Nat × Nat) := [(0, 14, 17, 13), (0, 14, 21, 52), (0, 14, 25, 15)]
theorem ht_entry : hTb RL 9 (tableOf hh_entry) [2, 5, 1] := (hTb_cons (a := 0) (b := 14) (c := 17) (by decide) rfl (by decide) cl_L_13 nc_2 (hTb_cons (a := 0) (b := 14) (c := 21) (by decide) rfl (by decide) cl_L_52 nc_5 (hTb_cons (a := 0) (b := 14) (c := 25) (by decide) rfl (by decide) cl_L_15 nc_1 hTb_nil)))
set_option maxRecDepth 100000 in
theorem h_entry (X : kX) (p1 : Int) (p2 : Int) (p3 : Int) (p4 : Int) (μ : Mu) (r : Res) (h : hp 0 [2, 5, 1] (f_X10_entry p1 p2 p3 p4 μ) = some r) : CtH X mL_entry hh_entry 7 SK false μ 1 6 [.ref (X.1 + 0), .int (iI p1), .int (iI p2), .int (iI p3), .int (iI p4), .ref (X.1 + 260)] (poR 1 SK r) := by
  refine ctH_of (by decide +kernel) rfl (Nat.le_of_ble_eq_true rfl) ?_
  show KJ X mL_entry 7 false (poR 1 SK r) SK 1 6 0 [(0, .ref (X.1 + 0)), (1, .int (iI p1)), (2, .int (iI p2)), (3, .int (iI p3)), (4, .int (iI p4)), (5, .ref (X.1 + 260))] [] μ
  refine K_aload (md := mL_entry) (pc := 0) 5 (kTab_at (pc := 0) tL_entry_ok 0 rfl) rfl ?_
  refine K_iconst (md := mL_entry) (pc := 2) (x := 0) (kTab_at (pc := 2) tL_entry_ok 1 rfl) rfl ?_
  refine K_aload_n (md := mL_entry) (pc := 3) 0 (kTab_at (pc := 3) tL_entry_ok 2 rfl) rfl ?_
  refine K_iload_n (md := mL_entry) (pc := 4) 1 (kTab_at (pc := 4) tL_entry_ok 3 rfl) rfl ?_
  refine K_iload_n (md := mL_entry) (pc := 5) 2 (kTab_at (pc := 5) tL_entry_ok 4 rfl) rfl ?_
  refine K_iload_n (md := mL_entry) (pc := 6) 3 (kTab_at (pc := 6) tL_entry_ok 5 rfl) rfl ?_
  refine K_iload (md := mL_entry) (pc := 7) 4 (kTab_at (pc := 7) tL_entry_ok 6 rfl) rfl ?_
  refine K_callHp (md := mL_entry) (pc := 9) (st := [.int (iI 0), .ref (X.1 + 260)]) (b := 0) (kTab_at (pc := 9) tL_entry_ok 7 rfl) mv_L_49 sk_0 rfl (Nat.le_of_ble_eq_true rfl) (by decide) (c_X10_entry X p1 p2 p3 p4 μ) ht_entry h ?_ ?_ rfl
  · intro μ' v g hr
    subst hr
    show KJ X mL_entry 7 false _ SK 0 0 12 [(0, .ref (X.1 + 0)), (1, .int (iI p1)), (2, .int (iI p2)), (3, .int (iI p3)), (4, .int (iI p4)), (5, .ref (X.1 + 260))] [.int (iI v), .int (iI 0), .ref (X.1 + 260)] μ'
    refine K_i2l (md := mL_entry) (pc := 12) (r := (μ', 0, 0)) (k0 := some (μ', 0, 0)) (kTab_at (pc := 12) tL_entry_ok 8 rfl) (hg_0 g) (fun _ => ?_)
    refine K_last (md := mL_entry) (pc := 13) (r := (μ', 0, 0)) (k0 := fun _ => some (μ', 0, 0)) (kTab_at (pc := 13) tL_entry_ok 9 rfl) sk_260 (by decide) wr_260 (fun _ => ?_)
    refine K_goto (md := mL_entry) (pc := 14) (tgt := 29) (kTab_at (pc := 14) tL_entry_ok 10 rfl) rfl ?_
    refine K_iconst (md := mL_entry) (pc := 29) (x := 0) (kTab_at (pc := 29) tL_entry_ok 20 rfl) rfl ?_
    exact K_iret (md := mL_entry) (pc := 30) (kTab_at (pc := 30) tL_entry_ok 21 rfl) rfl rfl ⟨rfl, rfl, rfl, rfl⟩
  · intro i x q μ' hx hr
    subst hr
    match i, hx with
    | 0, hx =>
      cases hx
      show KJ X mL_entry 7 false _ SK 0 0 17 [(0, .ref (X.1 + 0)), (1, .int (iI p1)), (2, .int (iI p2)), (3, .int (iI p3)), (4, .int (iI p4)), (5, .ref (X.1 + 260))] [.ref q] μ'
      refine K_astore (md := mL_entry) (pc := 17) (l' := (6, .ref q) :: [(0, .ref (X.1 + 0)), (1, .int (iI p1)), (2, .int (iI p2)), (3, .int (iI p3)), (4, .int (iI p4)), (5, .ref (X.1 + 260))]) (kTab_at (pc := 17) tL_entry_ok 11 rfl) (Nat.le_of_ble_eq_true rfl) rfl ?_
      refine K_iconst (md := mL_entry) (pc := 19) (x := 1) (kTab_at (pc := 19) tL_entry_ok 12 rfl) rfl ?_
      exact K_iret (md := mL_entry) (pc := 20) (kTab_at (pc := 20) tL_entry_ok 13 rfl) rfl rfl ⟨rfl, rfl, rfl, rfl⟩
    | 1, hx =>
      cases hx
      show KJ X mL_entry 7 false _ SK 0 0 21 [(0, .ref (X.1 + 0)), (1, .int (iI p1)), (2, .int (iI p2)), (3, .int (iI p3)), (4, .int (iI p4)), (5, .ref (X.1 + 260))] [.ref q] μ'
      refine K_astore (md := mL_entry) (pc := 21) (l' := (6, .ref q) :: [(0, .ref (X.1 + 0)), (1, .int (iI p1)), (2, .int (iI p2)), (3, .int (iI p3)), (4, .int (iI p4)), (5, .ref (X.1 + 260))]) (kTab_at (pc := 21) tL_entry_ok 14 rfl) (Nat.le_of_ble_eq_true rfl) rfl ?_
      refine K_iconst (md := mL_entry) (pc := 23) (x := 2) (kTab_at (pc := 23) tL_entry_ok 15 rfl) rfl ?_
      exact K_iret (md := mL_entry) (pc := 24) (kTab_at (pc := 24) tL_entry_ok 16 rfl) rfl rfl ⟨rfl, rfl, rfl, rfl⟩
    | 2, hx =>
      cases hx
      show KJ X mL_entry 7 false _ SK 0 0 25 [(0, .ref (X.1 + 0)), (1, .int (iI p1)), (2, .int (iI p2)), (3, .int (iI p3)), (4, .int (iI p4)), (5, .ref (X.1 + 260))] [.ref q] μ'
      refine K_astore (md := mL_entry) (pc := 25) (l' := (6, .ref q) :: [(0, .ref (X.1 + 0)), (1, .int (iI p1)), (2, .int (iI p2)), (3, .int (iI p3)), (4, .int (iI p4)), (5, .ref (X.1 + 260))]) (kTab_at (pc := 25) tL_entry_ok 17 rfl) (Nat.le_of_ble_eq_true rfl) rfl ?_
      refine K_iconst (md := mL_entry) (pc := 27) (x := 3) (kTab_at (pc := 27) tL_entry_ok 18 rfl) rfl ?_
      exact K_iret (md := mL_entry) (pc := 28) (kTab_at (pc := 28) tL_entry_ok 19 rfl) rfl rfl ⟨rfl, rfl, rfl, rfl⟩
    | n + 3, hx => cases hx
def hh_script : List (Nat × Nat × Nat × Nat) := [(0, 12, 15, 13), (0, 12, 19, 15)]
theorem ht_script : hTb RL 7 (tableOf hh_script) [2, 1] := (hTb_cons (a := 0) (b := 12) (c := 15) (by decide) rfl (by decide) cl_L_13 nc_2 (hTb_cons (a := 0) (b := 12) (c := 19) (by decide) rfl (by decide) cl_L_15 nc_1 hTb_nil))
set_option maxRecDepth 100000 in
theorem h_script (X : kX) (p1 : Int) (p2 : Int) (p3 : Int) (μ : Mu) (r : Res) (h : hp 0 [2, 1] (f_X10_script p1 p2 p3 μ) = some r) : CtH X mL_script hh_script 7 SK false μ 1 6 [.ref (X.1 + 0), .int (iI p1), .int (iI p2), .int (iI p3), .ref (X.1 + 260)] (poR 1 SK r) := by
  refine ctH_of (by decide +kernel) rfl (Nat.le_of_ble_eq_true rfl) ?_
  show KJ X mL_script 7 false (poR 1 SK r) SK 1 6 0 [(0, .ref (X.1 + 0)), (1, .int (iI p1)), (2, .int (iI p2)), (3, .int (iI p3)), (4, .ref (X.1 + 260))] [] μ
  refine K_aload (md := mL_script) (pc := 0) 4 (kTab_at (pc := 0) tL_script_ok 0 rfl) rfl ?_
  refine K_iconst (md := mL_script) (pc := 2) (x := 0) (kTab_at (pc := 2) tL_script_ok 1 rfl) rfl ?_
  refine K_aload_n (md := mL_script) (pc := 3) 0 (kTab_at (pc := 3) tL_script_ok 2 rfl) rfl ?_
  refine K_iload_n (md := mL_script) (pc := 4) 1 (kTab_at (pc := 4) tL_script_ok 3 rfl) rfl ?_
  refine K_iload_n (md := mL_script) (pc := 5) 2 (kTab_at (pc := 5) tL_script_ok 4 rfl) rfl ?_
  refine K_iload_n (md := mL_script) (pc := 6) 3 (kTab_at (pc := 6) tL_script_ok 5 rfl) rfl ?_
  refine K_callHp (md := mL_script) (pc := 7) (st := [.int (iI 0), .ref (X.1 + 260)]) (b := 0) (kTab_at (pc := 7) tL_script_ok 6 rfl) mv_L_54 sk_0 rfl (Nat.le_of_ble_eq_true rfl) (by decide) (c_X10_script X p1 p2 p3 μ) ht_script h ?_ ?_ rfl
  · intro μ' v g hr
    subst hr
    show KJ X mL_script 7 false _ SK 0 0 10 [(0, .ref (X.1 + 0)), (1, .int (iI p1)), (2, .int (iI p2)), (3, .int (iI p3)), (4, .ref (X.1 + 260))] [.int (iI v), .int (iI 0), .ref (X.1 + 260)] μ'
    refine K_i2l (md := mL_script) (pc := 10) (r := (μ', 0, 0)) (k0 := some (μ', 0, 0)) (kTab_at (pc := 10) tL_script_ok 7 rfl) (hg_0 g) (fun _ => ?_)
    refine K_last (md := mL_script) (pc := 11) (r := (μ', 0, 0)) (k0 := fun _ => some (μ', 0, 0)) (kTab_at (pc := 11) tL_script_ok 8 rfl) sk_260 (by decide) wr_260 (fun _ => ?_)
    refine K_goto (md := mL_script) (pc := 12) (tgt := 23) (kTab_at (pc := 12) tL_script_ok 9 rfl) rfl ?_
    refine K_iconst (md := mL_script) (pc := 23) (x := 0) (kTab_at (pc := 23) tL_script_ok 16 rfl) rfl ?_
    exact K_iret (md := mL_script) (pc := 24) (kTab_at (pc := 24) tL_script_ok 17 rfl) rfl rfl ⟨rfl, rfl, rfl, rfl⟩
  · intro i x q μ' hx hr
    subst hr
    match i, hx with
    | 0, hx =>
      cases hx
      show KJ X mL_script 7 false _ SK 0 0 15 [(0, .ref (X.1 + 0)), (1, .int (iI p1)), (2, .int (iI p2)), (3, .int (iI p3)), (4, .ref (X.1 + 260))] [.ref q] μ'
      refine K_astore (md := mL_script) (pc := 15) (l' := (5, .ref q) :: [(0, .ref (X.1 + 0)), (1, .int (iI p1)), (2, .int (iI p2)), (3, .int (iI p3)), (4, .ref (X.1 + 260))]) (kTab_at (pc := 15) tL_script_ok 10 rfl) (Nat.le_of_ble_eq_true rfl) rfl ?_
      refine K_iconst (md := mL_script) (pc := 17) (x := 1) (kTab_at (pc := 17) tL_script_ok 11 rfl) rfl ?_
      exact K_iret (md := mL_script) (pc := 18) (kTab_at (pc := 18) tL_script_ok 12 rfl) rfl rfl ⟨rfl, rfl, rfl, rfl⟩
    | 1, hx =>
      cases hx
      show KJ X mL_script 7 false _ SK 0 0 19 [(0, .ref (X.1 + 0)), (1, .int (iI p1)), (2, .int (iI p2)), (3, .int (iI p3)), (4, .ref (X.1 + 260))] [.ref q] μ'
      refine K_astore (md := mL_script) (pc := 19) (l' := (5, .ref q) :: [(0, .ref (X.1 + 0)), (1, .int (iI p1)), (2, .int (iI p2)), (3, .int (iI p3)), (4, .ref (X.1 + 260))]) (kTab_at (pc := 19) tL_script_ok 13 rfl) (Nat.le_of_ble_eq_true rfl) rfl ?_
      refine K_iconst (md := mL_script) (pc := 21) (x := 2) (kTab_at (pc := 21) tL_script_ok 14 rfl) rfl ?_
      exact K_iret (md := mL_script) (pc := 22) (kTab_at (pc := 22) tL_script_ok 15 rfl) rfl rfl ⟨rfl, rfl, rfl, rfl⟩
    | n + 2, hx => cases hx
def hh_excuse : List (Nat × Nat × Nat × Nat) := [(0, 19, 22, 13), (0, 19, 26, 17), (0, 19, 30, 19)]
theorem ht_excuse : hTb RL 7 (tableOf hh_excuse) [2, 4, 0] := (hTb_cons (a := 0) (b := 19) (c := 22) (by decide) rfl (by decide) cl_L_13 nc_2 (hTb_cons (a := 0) (b := 19) (c := 26) (by decide) rfl (by decide) cl_L_17 nc_4 (hTb_cons (a := 0) (b := 19) (c := 30) (by decide) rfl (by decide) cl_L_19 nc_0 hTb_nil)))
set_option maxRecDepth 100000 in
theorem h_excuse (X : kX) (p1 : Int) (p2 : Int) (p3 : Int) (μ : Mu) (r : Res) (h : hp 1 [2, 4, 0] (f_X10_excuse p1 p2 p3 μ) = some r) : CtH X mL_excuse hh_excuse 7 SK false μ 1 6 [.ref (X.1 + 0), .int (iI p1), .int (iI p2), .int (iI p3), .ref (X.1 + 260)] (poR 1 SK r) := by
  refine ctH_of (by decide +kernel) rfl (Nat.le_of_ble_eq_true rfl) ?_
  show KJ X mL_excuse 7 false (poR 1 SK r) SK 1 6 0 [(0, .ref (X.1 + 0)), (1, .int (iI p1)), (2, .int (iI p2)), (3, .int (iI p3)), (4, .ref (X.1 + 260))] [] μ
  refine K_aload (md := mL_excuse) (pc := 0) 4 (kTab_at (pc := 0) tL_excuse_ok 0 rfl) rfl ?_
  refine K_iconst (md := mL_excuse) (pc := 2) (x := 0) (kTab_at (pc := 2) tL_excuse_ok 1 rfl) rfl ?_
  refine K_aload_n (md := mL_excuse) (pc := 3) 0 (kTab_at (pc := 3) tL_excuse_ok 2 rfl) rfl ?_
  refine K_iload_n (md := mL_excuse) (pc := 4) 1 (kTab_at (pc := 4) tL_excuse_ok 3 rfl) rfl ?_
  refine K_iload_n (md := mL_excuse) (pc := 5) 2 (kTab_at (pc := 5) tL_excuse_ok 4 rfl) rfl ?_
  refine K_iload_n (md := mL_excuse) (pc := 6) 3 (kTab_at (pc := 6) tL_excuse_ok 5 rfl) rfl ?_
  refine K_callHp (md := mL_excuse) (pc := 7) (st := [.int (iI 0), .ref (X.1 + 260)]) (b := 0) (kTab_at (pc := 7) tL_excuse_ok 6 rfl) mv_L_58 sk_0 rfl (Nat.le_of_ble_eq_true rfl) (by decide) (c_X10_excuse X p1 p2 p3 μ) ht_excuse h ?_ ?_ rfl
  · intro μ' v g hr
    subst hr
    show KJ X mL_excuse 7 false _ SK 0 0 10 [(0, .ref (X.1 + 0)), (1, .int (iI p1)), (2, .int (iI p2)), (3, .int (iI p3)), (4, .ref (X.1 + 260))] [.int (iI v), .int (iI 0), .ref (X.1 + 260)] μ'
    rcases hg_1 g with rfl | rfl
    · refine K_if_eq (md := mL_excuse) (pc := 10) (r := (μ', 0, 0)) (A := some (μ', 0, 0)) (B := none) (tgt := 17) (kTab_at (pc := 10) tL_excuse_ok 7 rfl) rfl rfl (fun _ => ?_) (fun h => nomatch h)
      refine K_lconst (md := mL_excuse) (pc := 17) (x := 0) (kTab_at (pc := 17) tL_excuse_ok 10 rfl) rfl ?_
      refine K_last (md := mL_excuse) (pc := 18) (r := (μ', 0, 0)) (k0 := fun _ => some (μ', 0, 0)) (kTab_at (pc := 18) tL_excuse_ok 11 rfl) sk_260 (by decide) wr_260 (fun _ => ?_)
      refine K_goto (md := mL_excuse) (pc := 19) (tgt := 34) (kTab_at (pc := 19) tL_excuse_ok 12 rfl) rfl ?_
      refine K_iconst (md := mL_excuse) (pc := 34) (x := 0) (kTab_at (pc := 34) tL_excuse_ok 22 rfl) rfl ?_
      exact K_iret (md := mL_excuse) (pc := 35) (kTab_at (pc := 35) tL_excuse_ok 23 rfl) rfl rfl ⟨rfl, rfl, rfl, rfl⟩
    · refine K_if_eq (md := mL_excuse) (pc := 10) (r := (μ', 0, 0)) (A := none) (B := some (μ', 0, 0)) (tgt := 17) (kTab_at (pc := 10) tL_excuse_ok 7 rfl) rfl rfl (fun h => nomatch h) (fun _ => ?_)
      refine K_lconst (md := mL_excuse) (pc := 13) (x := 1) (kTab_at (pc := 13) tL_excuse_ok 8 rfl) rfl ?_
      refine K_goto (md := mL_excuse) (pc := 14) (tgt := 18) (kTab_at (pc := 14) tL_excuse_ok 9 rfl) rfl ?_
      refine K_last (md := mL_excuse) (pc := 18) (r := (μ', 0, 0)) (k0 := fun _ => some (μ', 0, 0)) (kTab_at (pc := 18) tL_excuse_ok 11 rfl) sk_260 (by decide) wr_260 (fun _ => ?_)
      refine K_goto (md := mL_excuse) (pc := 19) (tgt := 34) (kTab_at (pc := 19) tL_excuse_ok 12 rfl) rfl ?_
      refine K_iconst (md := mL_excuse) (pc := 34) (x := 0) (kTab_at (pc := 34) tL_excuse_ok 22 rfl) rfl ?_
      exact K_iret (md := mL_excuse) (pc := 35) (kTab_at (pc := 35) tL_excuse_ok 23 rfl) rfl rfl ⟨rfl, rfl, rfl, rfl⟩
  · intro i x q μ' hx hr
    subst hr
    match i, hx with
    | 0, hx =>
      cases hx
      show KJ X mL_excuse 7 false _ SK 0 0 22 [(0, .ref (X.1 + 0)), (1, .int (iI p1)), (2, .int (iI p2)), (3, .int (iI p3)), (4, .ref (X.1 + 260))] [.ref q] μ'
      refine K_astore (md := mL_excuse) (pc := 22) (l' := (5, .ref q) :: [(0, .ref (X.1 + 0)), (1, .int (iI p1)), (2, .int (iI p2)), (3, .int (iI p3)), (4, .ref (X.1 + 260))]) (kTab_at (pc := 22) tL_excuse_ok 13 rfl) (Nat.le_of_ble_eq_true rfl) rfl ?_
      refine K_iconst (md := mL_excuse) (pc := 24) (x := 1) (kTab_at (pc := 24) tL_excuse_ok 14 rfl) rfl ?_
      exact K_iret (md := mL_excuse) (pc := 25) (kTab_at (pc := 25) tL_excuse_ok 15 rfl) rfl rfl ⟨rfl, rfl, rfl, rfl⟩
    | 1, hx =>
      cases hx
      show KJ X mL_excuse 7 false _ SK 0 0 26 [(0, .ref (X.1 + 0)), (1, .int (iI p1)), (2, .int (iI p2)), (3, .int (iI p3)), (4, .ref (X.1 + 260))] [.ref q] μ'
      refine K_astore (md := mL_excuse) (pc := 26) (l' := (5, .ref q) :: [(0, .ref (X.1 + 0)), (1, .int (iI p1)), (2, .int (iI p2)), (3, .int (iI p3)), (4, .ref (X.1 + 260))]) (kTab_at (pc := 26) tL_excuse_ok 16 rfl) (Nat.le_of_ble_eq_true rfl) rfl ?_
      refine K_iconst (md := mL_excuse) (pc := 28) (x := 2) (kTab_at (pc := 28) tL_excuse_ok 17 rfl) rfl ?_
      exact K_iret (md := mL_excuse) (pc := 29) (kTab_at (pc := 29) tL_excuse_ok 18 rfl) rfl rfl ⟨rfl, rfl, rfl, rfl⟩
    | 2, hx =>
      cases hx
      show KJ X mL_excuse 7 false _ SK 0 0 30 [(0, .ref (X.1 + 0)), (1, .int (iI p1)), (2, .int (iI p2)), (3, .int (iI p3)), (4, .ref (X.1 + 260))] [.ref q] μ'
      refine K_astore (md := mL_excuse) (pc := 30) (l' := (5, .ref q) :: [(0, .ref (X.1 + 0)), (1, .int (iI p1)), (2, .int (iI p2)), (3, .int (iI p3)), (4, .ref (X.1 + 260))]) (kTab_at (pc := 30) tL_excuse_ok 19 rfl) (Nat.le_of_ble_eq_true rfl) rfl ?_
      refine K_iconst (md := mL_excuse) (pc := 32) (x := 3) (kTab_at (pc := 32) tL_excuse_ok 20 rfl) rfl ?_
      exact K_iret (md := mL_excuse) (pc := 33) (kTab_at (pc := 33) tL_excuse_ok 21 rfl) rfl rfl ⟨rfl, rfl, rfl, rfl⟩
    | n + 3, hx => cases hx
def hh_raise : List (Nat × Nat × Nat × Nat) := [(0, 10, 13, 13), (0, 10, 17, 15), (0, 10, 21, 17)]
theorem ht_raise : hTb RL 5 (tableOf hh_raise) [2, 1, 4] := (hTb_cons (a := 0) (b := 10) (c := 13) (by decide) rfl (by decide) cl_L_13 nc_2 (hTb_cons (a := 0) (b := 10) (c := 17) (by decide) rfl (by decide) cl_L_15 nc_1 (hTb_cons (a := 0) (b := 10) (c := 21) (by decide) rfl (by decide) cl_L_17 nc_4 hTb_nil)))
set_option maxRecDepth 100000 in
theorem h_raise (X : kX) (p1 : Int) (p2 : Int) (μ : Mu) (r : Res) (h : hp 0 [2, 1, 4] (f_X10_raise p1 p2 μ) = some r) : CtH X mL_raise hh_raise 7 SK false μ 1 6 [.ref (X.1 + 0), .int (iI p1), .int (iI p2), .ref (X.1 + 260)] (poR 1 SK r) := by
  refine ctH_of (by decide +kernel) rfl (Nat.le_of_ble_eq_true rfl) ?_
  show KJ X mL_raise 7 false (poR 1 SK r) SK 1 6 0 [(0, .ref (X.1 + 0)), (1, .int (iI p1)), (2, .int (iI p2)), (3, .ref (X.1 + 260))] [] μ
  refine K_aload_n (md := mL_raise) (pc := 0) 3 (kTab_at (pc := 0) tL_raise_ok 0 rfl) rfl ?_
  refine K_iconst (md := mL_raise) (pc := 1) (x := 0) (kTab_at (pc := 1) tL_raise_ok 1 rfl) rfl ?_
  refine K_aload_n (md := mL_raise) (pc := 2) 0 (kTab_at (pc := 2) tL_raise_ok 2 rfl) rfl ?_
  refine K_iload_n (md := mL_raise) (pc := 3) 1 (kTab_at (pc := 3) tL_raise_ok 3 rfl) rfl ?_
  refine K_iload_n (md := mL_raise) (pc := 4) 2 (kTab_at (pc := 4) tL_raise_ok 4 rfl) rfl ?_
  refine K_callHp (md := mL_raise) (pc := 5) (st := [.int (iI 0), .ref (X.1 + 260)]) (b := 0) (kTab_at (pc := 5) tL_raise_ok 5 rfl) mv_L_62 sk_0 rfl (Nat.le_of_ble_eq_true rfl) (by decide) (c_X10_raise X p1 p2 μ) ht_raise h ?_ ?_ rfl
  · intro μ' v g hr
    subst hr
    show KJ X mL_raise 7 false _ SK 0 0 8 [(0, .ref (X.1 + 0)), (1, .int (iI p1)), (2, .int (iI p2)), (3, .ref (X.1 + 260))] [.int (iI v), .int (iI 0), .ref (X.1 + 260)] μ'
    refine K_i2l (md := mL_raise) (pc := 8) (r := (μ', 0, 0)) (k0 := some (μ', 0, 0)) (kTab_at (pc := 8) tL_raise_ok 6 rfl) (hg_0 g) (fun _ => ?_)
    refine K_last (md := mL_raise) (pc := 9) (r := (μ', 0, 0)) (k0 := fun _ => some (μ', 0, 0)) (kTab_at (pc := 9) tL_raise_ok 7 rfl) sk_260 (by decide) wr_260 (fun _ => ?_)
    refine K_goto (md := mL_raise) (pc := 10) (tgt := 25) (kTab_at (pc := 10) tL_raise_ok 8 rfl) rfl ?_
    refine K_iconst (md := mL_raise) (pc := 25) (x := 0) (kTab_at (pc := 25) tL_raise_ok 18 rfl) rfl ?_
    exact K_iret (md := mL_raise) (pc := 26) (kTab_at (pc := 26) tL_raise_ok 19 rfl) rfl rfl ⟨rfl, rfl, rfl, rfl⟩
  · intro i x q μ' hx hr
    subst hr
    match i, hx with
    | 0, hx =>
      cases hx
      show KJ X mL_raise 7 false _ SK 0 0 13 [(0, .ref (X.1 + 0)), (1, .int (iI p1)), (2, .int (iI p2)), (3, .ref (X.1 + 260))] [.ref q] μ'
      refine K_astore (md := mL_raise) (pc := 13) (l' := (4, .ref q) :: [(0, .ref (X.1 + 0)), (1, .int (iI p1)), (2, .int (iI p2)), (3, .ref (X.1 + 260))]) (kTab_at (pc := 13) tL_raise_ok 9 rfl) (Nat.le_of_ble_eq_true rfl) rfl ?_
      refine K_iconst (md := mL_raise) (pc := 15) (x := 1) (kTab_at (pc := 15) tL_raise_ok 10 rfl) rfl ?_
      exact K_iret (md := mL_raise) (pc := 16) (kTab_at (pc := 16) tL_raise_ok 11 rfl) rfl rfl ⟨rfl, rfl, rfl, rfl⟩
    | 1, hx =>
      cases hx
      show KJ X mL_raise 7 false _ SK 0 0 17 [(0, .ref (X.1 + 0)), (1, .int (iI p1)), (2, .int (iI p2)), (3, .ref (X.1 + 260))] [.ref q] μ'
      refine K_astore (md := mL_raise) (pc := 17) (l' := (4, .ref q) :: [(0, .ref (X.1 + 0)), (1, .int (iI p1)), (2, .int (iI p2)), (3, .ref (X.1 + 260))]) (kTab_at (pc := 17) tL_raise_ok 12 rfl) (Nat.le_of_ble_eq_true rfl) rfl ?_
      refine K_iconst (md := mL_raise) (pc := 19) (x := 2) (kTab_at (pc := 19) tL_raise_ok 13 rfl) rfl ?_
      exact K_iret (md := mL_raise) (pc := 20) (kTab_at (pc := 20) tL_raise_ok 14 rfl) rfl rfl ⟨rfl, rfl, rfl, rfl⟩
    | 2, hx =>
      cases hx
      show KJ X mL_raise 7 false _ SK 0 0 21 [(0, .ref (X.1 + 0)), (1, .int (iI p1)), (2, .int (iI p2)), (3, .ref (X.1 + 260))] [.ref q] μ'
      refine K_astore (md := mL_raise) (pc := 21) (l' := (4, .ref q) :: [(0, .ref (X.1 + 0)), (1, .int (iI p1)), (2, .int (iI p2)), (3, .ref (X.1 + 260))]) (kTab_at (pc := 21) tL_raise_ok 15 rfl) (Nat.le_of_ble_eq_true rfl) rfl ?_
      refine K_iconst (md := mL_raise) (pc := 23) (x := 3) (kTab_at (pc := 23) tL_raise_ok 16 rfl) rfl ?_
      exact K_iret (md := mL_raise) (pc := 24) (kTab_at (pc := 24) tL_raise_ok 17 rfl) rfl rfl ⟨rfl, rfl, rfl, rfl⟩
    | n + 3, hx => cases hx
def hh_setPoint : List (Nat × Nat × Nat × Nat) := [(0, 10, 13, 15), (0, 10, 17, 17), (0, 10, 21, 19)]
theorem ht_setPoint : hTb RL 5 (tableOf hh_setPoint) [1, 4, 0] := (hTb_cons (a := 0) (b := 10) (c := 13) (by decide) rfl (by decide) cl_L_15 nc_1 (hTb_cons (a := 0) (b := 10) (c := 17) (by decide) rfl (by decide) cl_L_17 nc_4 (hTb_cons (a := 0) (b := 10) (c := 21) (by decide) rfl (by decide) cl_L_19 nc_0 hTb_nil)))
set_option maxRecDepth 100000 in
theorem h_setPoint (X : kX) (p1 : Int) (p2 : Int) (μ : Mu) (r : Res) (h : hp 0 [1, 4, 0] (f_X10_setPoint p1 p2 μ) = some r) : CtH X mL_setPoint hh_setPoint 7 SK false μ 1 6 [.ref (X.1 + 0), .int (iI p1), .int (iI p2), .ref (X.1 + 260)] (poR 1 SK r) := by
  refine ctH_of (by decide +kernel) rfl (Nat.le_of_ble_eq_true rfl) ?_
  show KJ X mL_setPoint 7 false (poR 1 SK r) SK 1 6 0 [(0, .ref (X.1 + 0)), (1, .int (iI p1)), (2, .int (iI p2)), (3, .ref (X.1 + 260))] [] μ
  refine K_aload_n (md := mL_setPoint) (pc := 0) 3 (kTab_at (pc := 0) tL_setPoint_ok 0 rfl) rfl ?_
  refine K_iconst (md := mL_setPoint) (pc := 1) (x := 0) (kTab_at (pc := 1) tL_setPoint_ok 1 rfl) rfl ?_
  refine K_aload_n (md := mL_setPoint) (pc := 2) 0 (kTab_at (pc := 2) tL_setPoint_ok 2 rfl) rfl ?_
  refine K_iload_n (md := mL_setPoint) (pc := 3) 1 (kTab_at (pc := 3) tL_setPoint_ok 3 rfl) rfl ?_
  refine K_iload_n (md := mL_setPoint) (pc := 4) 2 (kTab_at (pc := 4) tL_setPoint_ok 4 rfl) rfl ?_
  refine K_callHp (md := mL_setPoint) (pc := 5) (st := [.int (iI 0), .ref (X.1 + 260)]) (b := 0) (kTab_at (pc := 5) tL_setPoint_ok 5 rfl) mv_L_65 sk_0 rfl (Nat.le_of_ble_eq_true rfl) (by decide) (c_X10_setPoint X p1 p2 μ) ht_setPoint h ?_ ?_ rfl
  · intro μ' v g hr
    subst hr
    show KJ X mL_setPoint 7 false _ SK 0 0 8 [(0, .ref (X.1 + 0)), (1, .int (iI p1)), (2, .int (iI p2)), (3, .ref (X.1 + 260))] [.int (iI v), .int (iI 0), .ref (X.1 + 260)] μ'
    refine K_i2l (md := mL_setPoint) (pc := 8) (r := (μ', 0, 0)) (k0 := some (μ', 0, 0)) (kTab_at (pc := 8) tL_setPoint_ok 6 rfl) (hg_0 g) (fun _ => ?_)
    refine K_last (md := mL_setPoint) (pc := 9) (r := (μ', 0, 0)) (k0 := fun _ => some (μ', 0, 0)) (kTab_at (pc := 9) tL_setPoint_ok 7 rfl) sk_260 (by decide) wr_260 (fun _ => ?_)
    refine K_goto (md := mL_setPoint) (pc := 10) (tgt := 25) (kTab_at (pc := 10) tL_setPoint_ok 8 rfl) rfl ?_
    refine K_iconst (md := mL_setPoint) (pc := 25) (x := 0) (kTab_at (pc := 25) tL_setPoint_ok 18 rfl) rfl ?_
    exact K_iret (md := mL_setPoint) (pc := 26) (kTab_at (pc := 26) tL_setPoint_ok 19 rfl) rfl rfl ⟨rfl, rfl, rfl, rfl⟩
  · intro i x q μ' hx hr
    subst hr
    match i, hx with
    | 0, hx =>
      cases hx
      show KJ X mL_setPoint 7 false _ SK 0 0 13 [(0, .ref (X.1 + 0)), (1, .int (iI p1)), (2, .int (iI p2)), (3, .ref (X.1 + 260))] [.ref q] μ'
      refine K_astore (md := mL_setPoint) (pc := 13) (l' := (4, .ref q) :: [(0, .ref (X.1 + 0)), (1, .int (iI p1)), (2, .int (iI p2)), (3, .ref (X.1 + 260))]) (kTab_at (pc := 13) tL_setPoint_ok 9 rfl) (Nat.le_of_ble_eq_true rfl) rfl ?_
      refine K_iconst (md := mL_setPoint) (pc := 15) (x := 1) (kTab_at (pc := 15) tL_setPoint_ok 10 rfl) rfl ?_
      exact K_iret (md := mL_setPoint) (pc := 16) (kTab_at (pc := 16) tL_setPoint_ok 11 rfl) rfl rfl ⟨rfl, rfl, rfl, rfl⟩
    | 1, hx =>
      cases hx
      show KJ X mL_setPoint 7 false _ SK 0 0 17 [(0, .ref (X.1 + 0)), (1, .int (iI p1)), (2, .int (iI p2)), (3, .ref (X.1 + 260))] [.ref q] μ'
      refine K_astore (md := mL_setPoint) (pc := 17) (l' := (4, .ref q) :: [(0, .ref (X.1 + 0)), (1, .int (iI p1)), (2, .int (iI p2)), (3, .ref (X.1 + 260))]) (kTab_at (pc := 17) tL_setPoint_ok 12 rfl) (Nat.le_of_ble_eq_true rfl) rfl ?_
      refine K_iconst (md := mL_setPoint) (pc := 19) (x := 2) (kTab_at (pc := 19) tL_setPoint_ok 13 rfl) rfl ?_
      exact K_iret (md := mL_setPoint) (pc := 20) (kTab_at (pc := 20) tL_setPoint_ok 14 rfl) rfl rfl ⟨rfl, rfl, rfl, rfl⟩
    | 2, hx =>
      cases hx
      show KJ X mL_setPoint 7 false _ SK 0 0 21 [(0, .ref (X.1 + 0)), (1, .int (iI p1)), (2, .int (iI p2)), (3, .ref (X.1 + 260))] [.ref q] μ'
      refine K_astore (md := mL_setPoint) (pc := 21) (l' := (4, .ref q) :: [(0, .ref (X.1 + 0)), (1, .int (iI p1)), (2, .int (iI p2)), (3, .ref (X.1 + 260))]) (kTab_at (pc := 21) tL_setPoint_ok 15 rfl) (Nat.le_of_ble_eq_true rfl) rfl ?_
      refine K_iconst (md := mL_setPoint) (pc := 23) (x := 3) (kTab_at (pc := 23) tL_setPoint_ok 16 rfl) rfl ?_
      exact K_iret (md := mL_setPoint) (pc := 24) (kTab_at (pc := 24) tL_setPoint_ok 17 rfl) rfl rfl ⟨rfl, rfl, rfl, rfl⟩
    | n + 3, hx => cases hx
def hh_removePoint : List (Nat × Nat × Nat × Nat) := [(0, 9, 12, 17), (0, 9, 15, 52)]
theorem ht_removePoint : hTb RL 4 (tableOf hh_removePoint) [4, 5] := (hTb_cons (a := 0) (b := 9) (c := 12) (by decide) rfl (by decide) cl_L_17 nc_4 (hTb_cons (a := 0) (b := 9) (c := 15) (by decide) rfl (by decide) cl_L_52 nc_5 hTb_nil))
set_option maxRecDepth 100000 in
theorem h_removePoint (X : kX) (p1 : Int) (μ : Mu) (r : Res) (h : hp 0 [4, 5] (f_X10_removePoint p1 μ) = some r) : CtH X mL_removePoint hh_removePoint 7 SK false μ 1 6 [.ref (X.1 + 0), .int (iI p1), .ref (X.1 + 260)] (poR 1 SK r) := by
  refine ctH_of (by decide +kernel) rfl (Nat.le_of_ble_eq_true rfl) ?_
  show KJ X mL_removePoint 7 false (poR 1 SK r) SK 1 6 0 [(0, .ref (X.1 + 0)), (1, .int (iI p1)), (2, .ref (X.1 + 260))] [] μ
  refine K_aload_n (md := mL_removePoint) (pc := 0) 2 (kTab_at (pc := 0) tL_removePoint_ok 0 rfl) rfl ?_
  refine K_iconst (md := mL_removePoint) (pc := 1) (x := 0) (kTab_at (pc := 1) tL_removePoint_ok 1 rfl) rfl ?_
  refine K_aload_n (md := mL_removePoint) (pc := 2) 0 (kTab_at (pc := 2) tL_removePoint_ok 2 rfl) rfl ?_
  refine K_iload_n (md := mL_removePoint) (pc := 3) 1 (kTab_at (pc := 3) tL_removePoint_ok 3 rfl) rfl ?_
  refine K_callHp (md := mL_removePoint) (pc := 4) (st := [.int (iI 0), .ref (X.1 + 260)]) (b := 0) (kTab_at (pc := 4) tL_removePoint_ok 4 rfl) mv_L_68 sk_0 rfl (Nat.le_of_ble_eq_true rfl) (by decide) (c_X10_removePoint X p1 μ) ht_removePoint h ?_ ?_ rfl
  · intro μ' v g hr
    subst hr
    show KJ X mL_removePoint 7 false _ SK 0 0 7 [(0, .ref (X.1 + 0)), (1, .int (iI p1)), (2, .ref (X.1 + 260))] [.int (iI v), .int (iI 0), .ref (X.1 + 260)] μ'
    refine K_i2l (md := mL_removePoint) (pc := 7) (r := (μ', 0, 0)) (k0 := some (μ', 0, 0)) (kTab_at (pc := 7) tL_removePoint_ok 5 rfl) (hg_0 g) (fun _ => ?_)
    refine K_last (md := mL_removePoint) (pc := 8) (r := (μ', 0, 0)) (k0 := fun _ => some (μ', 0, 0)) (kTab_at (pc := 8) tL_removePoint_ok 6 rfl) sk_260 (by decide) wr_260 (fun _ => ?_)
    refine K_goto (md := mL_removePoint) (pc := 9) (tgt := 18) (kTab_at (pc := 9) tL_removePoint_ok 7 rfl) rfl ?_
    refine K_iconst (md := mL_removePoint) (pc := 18) (x := 0) (kTab_at (pc := 18) tL_removePoint_ok 14 rfl) rfl ?_
    exact K_iret (md := mL_removePoint) (pc := 19) (kTab_at (pc := 19) tL_removePoint_ok 15 rfl) rfl rfl ⟨rfl, rfl, rfl, rfl⟩
  · intro i x q μ' hx hr
    subst hr
    match i, hx with
    | 0, hx =>
      cases hx
      show KJ X mL_removePoint 7 false _ SK 0 0 12 [(0, .ref (X.1 + 0)), (1, .int (iI p1)), (2, .ref (X.1 + 260))] [.ref q] μ'
      refine K_astore_n (md := mL_removePoint) (pc := 12) (l' := (3, .ref q) :: [(0, .ref (X.1 + 0)), (1, .int (iI p1)), (2, .ref (X.1 + 260))]) (kTab_at (pc := 12) tL_removePoint_ok 8 rfl) (Nat.le_of_ble_eq_true rfl) rfl ?_
      refine K_iconst (md := mL_removePoint) (pc := 13) (x := 1) (kTab_at (pc := 13) tL_removePoint_ok 9 rfl) rfl ?_
      exact K_iret (md := mL_removePoint) (pc := 14) (kTab_at (pc := 14) tL_removePoint_ok 10 rfl) rfl rfl ⟨rfl, rfl, rfl, rfl⟩
    | 1, hx =>
      cases hx
      show KJ X mL_removePoint 7 false _ SK 0 0 15 [(0, .ref (X.1 + 0)), (1, .int (iI p1)), (2, .ref (X.1 + 260))] [.ref q] μ'
      refine K_astore_n (md := mL_removePoint) (pc := 15) (l' := (3, .ref q) :: [(0, .ref (X.1 + 0)), (1, .int (iI p1)), (2, .ref (X.1 + 260))]) (kTab_at (pc := 15) tL_removePoint_ok 11 rfl) (Nat.le_of_ble_eq_true rfl) rfl ?_
      refine K_iconst (md := mL_removePoint) (pc := 16) (x := 2) (kTab_at (pc := 16) tL_removePoint_ok 12 rfl) rfl ?_
      exact K_iret (md := mL_removePoint) (pc := 17) (kTab_at (pc := 17) tL_removePoint_ok 13 rfl) rfl rfl ⟨rfl, rfl, rfl, rfl⟩
    | n + 2, hx => cases hx
def hh_curve : List (Nat × Nat × Nat × Nat) := [(0, 9, 12, 15)]
theorem ht_curve : hTb RL 4 (tableOf hh_curve) [1] := (hTb_cons (a := 0) (b := 9) (c := 12) (by decide) rfl (by decide) cl_L_15 nc_1 hTb_nil)
set_option maxRecDepth 100000 in
theorem h_curve (X : kX) (p1 : Int) (μ : Mu) (r : Res) (h : hp 0 [1] (f_X10_curve p1 μ) = some r) : CtH X mL_curve hh_curve 7 SK false μ 1 6 [.ref (X.1 + 0), .int (iI p1), .ref (X.1 + 260)] (poR 1 SK r) := by
  refine ctH_of (by decide +kernel) rfl (Nat.le_of_ble_eq_true rfl) ?_
  show KJ X mL_curve 7 false (poR 1 SK r) SK 1 6 0 [(0, .ref (X.1 + 0)), (1, .int (iI p1)), (2, .ref (X.1 + 260))] [] μ
  refine K_aload_n (md := mL_curve) (pc := 0) 2 (kTab_at (pc := 0) tL_curve_ok 0 rfl) rfl ?_
  refine K_iconst (md := mL_curve) (pc := 1) (x := 0) (kTab_at (pc := 1) tL_curve_ok 1 rfl) rfl ?_
  refine K_aload_n (md := mL_curve) (pc := 2) 0 (kTab_at (pc := 2) tL_curve_ok 2 rfl) rfl ?_
  refine K_iload_n (md := mL_curve) (pc := 3) 1 (kTab_at (pc := 3) tL_curve_ok 3 rfl) rfl ?_
  refine K_callHp (md := mL_curve) (pc := 4) (st := [.int (iI 0), .ref (X.1 + 260)]) (b := 0) (kTab_at (pc := 4) tL_curve_ok 4 rfl) mv_L_71 sk_0 rfl (Nat.le_of_ble_eq_true rfl) (by decide) (c_X10_curve X p1 μ) ht_curve h ?_ ?_ rfl
  · intro μ' v g hr
    subst hr
    show KJ X mL_curve 7 false _ SK 0 0 7 [(0, .ref (X.1 + 0)), (1, .int (iI p1)), (2, .ref (X.1 + 260))] [.int (iI v), .int (iI 0), .ref (X.1 + 260)] μ'
    refine K_i2l (md := mL_curve) (pc := 7) (r := (μ', 0, 0)) (k0 := some (μ', 0, 0)) (kTab_at (pc := 7) tL_curve_ok 5 rfl) (hg_0 g) (fun _ => ?_)
    refine K_last (md := mL_curve) (pc := 8) (r := (μ', 0, 0)) (k0 := fun _ => some (μ', 0, 0)) (kTab_at (pc := 8) tL_curve_ok 6 rfl) sk_260 (by decide) wr_260 (fun _ => ?_)
    refine K_goto (md := mL_curve) (pc := 9) (tgt := 15) (kTab_at (pc := 9) tL_curve_ok 7 rfl) rfl ?_
    refine K_iconst (md := mL_curve) (pc := 15) (x := 0) (kTab_at (pc := 15) tL_curve_ok 11 rfl) rfl ?_
    exact K_iret (md := mL_curve) (pc := 16) (kTab_at (pc := 16) tL_curve_ok 12 rfl) rfl rfl ⟨rfl, rfl, rfl, rfl⟩
  · intro i x q μ' hx hr
    subst hr
    match i, hx with
    | 0, hx =>
      cases hx
      show KJ X mL_curve 7 false _ SK 0 0 12 [(0, .ref (X.1 + 0)), (1, .int (iI p1)), (2, .ref (X.1 + 260))] [.ref q] μ'
      refine K_astore_n (md := mL_curve) (pc := 12) (l' := (3, .ref q) :: [(0, .ref (X.1 + 0)), (1, .int (iI p1)), (2, .ref (X.1 + 260))]) (kTab_at (pc := 12) tL_curve_ok 8 rfl) (Nat.le_of_ble_eq_true rfl) rfl ?_
      refine K_iconst (md := mL_curve) (pc := 13) (x := 1) (kTab_at (pc := 13) tL_curve_ok 9 rfl) rfl ?_
      exact K_iret (md := mL_curve) (pc := 14) (kTab_at (pc := 14) tL_curve_ok 10 rfl) rfl rfl ⟨rfl, rfl, rfl, rfl⟩
    | n + 1, hx => cases hx
def hh_setBoundary : List (Nat × Nat × Nat × Nat) := [(0, 10, 13, 13), (0, 10, 17, 15), (0, 10, 21, 17)]
theorem ht_setBoundary : hTb RL 5 (tableOf hh_setBoundary) [2, 1, 4] := (hTb_cons (a := 0) (b := 10) (c := 13) (by decide) rfl (by decide) cl_L_13 nc_2 (hTb_cons (a := 0) (b := 10) (c := 17) (by decide) rfl (by decide) cl_L_15 nc_1 (hTb_cons (a := 0) (b := 10) (c := 21) (by decide) rfl (by decide) cl_L_17 nc_4 hTb_nil)))
set_option maxRecDepth 100000 in
theorem h_setBoundary (X : kX) (p1 : Int) (p2 : Int) (μ : Mu) (r : Res) (h : hp 0 [2, 1, 4] (f_X10_setBoundary p1 p2 μ) = some r) : CtH X mL_setBoundary hh_setBoundary 7 SK false μ 1 6 [.ref (X.1 + 0), .int (iI p1), .int (iI p2), .ref (X.1 + 260)] (poR 1 SK r) := by
  refine ctH_of (by decide +kernel) rfl (Nat.le_of_ble_eq_true rfl) ?_
  show KJ X mL_setBoundary 7 false (poR 1 SK r) SK 1 6 0 [(0, .ref (X.1 + 0)), (1, .int (iI p1)), (2, .int (iI p2)), (3, .ref (X.1 + 260))] [] μ
  refine K_aload_n (md := mL_setBoundary) (pc := 0) 3 (kTab_at (pc := 0) tL_setBoundary_ok 0 rfl) rfl ?_
  refine K_iconst (md := mL_setBoundary) (pc := 1) (x := 0) (kTab_at (pc := 1) tL_setBoundary_ok 1 rfl) rfl ?_
  refine K_aload_n (md := mL_setBoundary) (pc := 2) 0 (kTab_at (pc := 2) tL_setBoundary_ok 2 rfl) rfl ?_
  refine K_iload_n (md := mL_setBoundary) (pc := 3) 1 (kTab_at (pc := 3) tL_setBoundary_ok 3 rfl) rfl ?_
  refine K_iload_n (md := mL_setBoundary) (pc := 4) 2 (kTab_at (pc := 4) tL_setBoundary_ok 4 rfl) rfl ?_
  refine K_callHp (md := mL_setBoundary) (pc := 5) (st := [.int (iI 0), .ref (X.1 + 260)]) (b := 0) (kTab_at (pc := 5) tL_setBoundary_ok 5 rfl) mv_L_74 sk_0 rfl (Nat.le_of_ble_eq_true rfl) (by decide) (c_X10_setBoundary X p1 p2 μ) ht_setBoundary h ?_ ?_ rfl
  · intro μ' v g hr
    subst hr
    show KJ X mL_setBoundary 7 false _ SK 0 0 8 [(0, .ref (X.1 + 0)), (1, .int (iI p1)), (2, .int (iI p2)), (3, .ref (X.1 + 260))] [.int (iI v), .int (iI 0), .ref (X.1 + 260)] μ'
    refine K_i2l (md := mL_setBoundary) (pc := 8) (r := (μ', 0, 0)) (k0 := some (μ', 0, 0)) (kTab_at (pc := 8) tL_setBoundary_ok 6 rfl) (hg_0 g) (fun _ => ?_)
    refine K_last (md := mL_setBoundary) (pc := 9) (r := (μ', 0, 0)) (k0 := fun _ => some (μ', 0, 0)) (kTab_at (pc := 9) tL_setBoundary_ok 7 rfl) sk_260 (by decide) wr_260 (fun _ => ?_)
    refine K_goto (md := mL_setBoundary) (pc := 10) (tgt := 25) (kTab_at (pc := 10) tL_setBoundary_ok 8 rfl) rfl ?_
    refine K_iconst (md := mL_setBoundary) (pc := 25) (x := 0) (kTab_at (pc := 25) tL_setBoundary_ok 18 rfl) rfl ?_
    exact K_iret (md := mL_setBoundary) (pc := 26) (kTab_at (pc := 26) tL_setBoundary_ok 19 rfl) rfl rfl ⟨rfl, rfl, rfl, rfl⟩
  · intro i x q μ' hx hr
    subst hr
    match i, hx with
    | 0, hx =>
      cases hx
      show KJ X mL_setBoundary 7 false _ SK 0 0 13 [(0, .ref (X.1 + 0)), (1, .int (iI p1)), (2, .int (iI p2)), (3, .ref (X.1 + 260))] [.ref q] μ'
      refine K_astore (md := mL_setBoundary) (pc := 13) (l' := (4, .ref q) :: [(0, .ref (X.1 + 0)), (1, .int (iI p1)), (2, .int (iI p2)), (3, .ref (X.1 + 260))]) (kTab_at (pc := 13) tL_setBoundary_ok 9 rfl) (Nat.le_of_ble_eq_true rfl) rfl ?_
      refine K_iconst (md := mL_setBoundary) (pc := 15) (x := 1) (kTab_at (pc := 15) tL_setBoundary_ok 10 rfl) rfl ?_
      exact K_iret (md := mL_setBoundary) (pc := 16) (kTab_at (pc := 16) tL_setBoundary_ok 11 rfl) rfl rfl ⟨rfl, rfl, rfl, rfl⟩
    | 1, hx =>
      cases hx
      show KJ X mL_setBoundary 7 false _ SK 0 0 17 [(0, .ref (X.1 + 0)), (1, .int (iI p1)), (2, .int (iI p2)), (3, .ref (X.1 + 260))] [.ref q] μ'
      refine K_astore (md := mL_setBoundary) (pc := 17) (l' := (4, .ref q) :: [(0, .ref (X.1 + 0)), (1, .int (iI p1)), (2, .int (iI p2)), (3, .ref (X.1 + 260))]) (kTab_at (pc := 17) tL_setBoundary_ok 12 rfl) (Nat.le_of_ble_eq_true rfl) rfl ?_
      refine K_iconst (md := mL_setBoundary) (pc := 19) (x := 2) (kTab_at (pc := 19) tL_setBoundary_ok 13 rfl) rfl ?_
      exact K_iret (md := mL_setBoundary) (pc := 20) (kTab_at (pc := 20) tL_setBoundary_ok 14 rfl) rfl rfl ⟨rfl, rfl, rfl, rfl⟩
    | 2, hx =>
      cases hx
      show KJ X mL_setBoundary 7 false _ SK 0 0 21 [(0, .ref (X.1 + 0)), (1, .int (iI p1)), (2, .int (iI p2)), (3, .ref (X.1 + 260))] [.ref q] μ'
      refine K_astore (md := mL_setBoundary) (pc := 21) (l' := (4, .ref q) :: [(0, .ref (X.1 + 0)), (1, .int (iI p1)), (2, .int (iI p2)), (3, .ref (X.1 + 260))]) (kTab_at (pc := 21) tL_setBoundary_ok 15 rfl) (Nat.le_of_ble_eq_true rfl) rfl ?_
      refine K_iconst (md := mL_setBoundary) (pc := 23) (x := 3) (kTab_at (pc := 23) tL_setBoundary_ok 16 rfl) rfl ?_
      exact K_iret (md := mL_setBoundary) (pc := 24) (kTab_at (pc := 24) tL_setBoundary_ok 17 rfl) rfl rfl ⟨rfl, rfl, rfl, rfl⟩
    | n + 3, hx => cases hx
def hh_result : List (Nat × Nat × Nat × Nat) := [(0, 9, 12, 13), (0, 9, 16, 15), (0, 9, 20, 52)]
theorem ht_result : hTb RL 5 (tableOf hh_result) [2, 1, 5] := (hTb_cons (a := 0) (b := 9) (c := 12) (by decide) rfl (by decide) cl_L_13 nc_2 (hTb_cons (a := 0) (b := 9) (c := 16) (by decide) rfl (by decide) cl_L_15 nc_1 (hTb_cons (a := 0) (b := 9) (c := 20) (by decide) rfl (by decide) cl_L_52 nc_5 hTb_nil)))
set_option maxRecDepth 100000 in
theorem h_result (X : kX) (p1 : Int) (p2 : Int) (μ : Mu) (r : Res) (h : hp 2 [2, 1, 5] (f_X10_result p1 p2 μ) = some r) : CtH X mL_result hh_result 7 SK false μ 1 6 [.ref (X.1 + 0), .int (iI p1), .int (iI p2), .ref (X.1 + 260)] (poR 1 SK r) := by
  refine ctH_of (by decide +kernel) rfl (Nat.le_of_ble_eq_true rfl) ?_
  show KJ X mL_result 7 false (poR 1 SK r) SK 1 6 0 [(0, .ref (X.1 + 0)), (1, .int (iI p1)), (2, .int (iI p2)), (3, .ref (X.1 + 260))] [] μ
  refine K_aload_n (md := mL_result) (pc := 0) 3 (kTab_at (pc := 0) tL_result_ok 0 rfl) rfl ?_
  refine K_iconst (md := mL_result) (pc := 1) (x := 0) (kTab_at (pc := 1) tL_result_ok 1 rfl) rfl ?_
  refine K_aload_n (md := mL_result) (pc := 2) 0 (kTab_at (pc := 2) tL_result_ok 2 rfl) rfl ?_
  refine K_iload_n (md := mL_result) (pc := 3) 1 (kTab_at (pc := 3) tL_result_ok 3 rfl) rfl ?_
  refine K_iload_n (md := mL_result) (pc := 4) 2 (kTab_at (pc := 4) tL_result_ok 4 rfl) rfl ?_
  refine K_callHp (md := mL_result) (pc := 5) (st := [.int (iI 0), .ref (X.1 + 260)]) (b := 0) (kTab_at (pc := 5) tL_result_ok 5 rfl) mv_L_77 sk_0 rfl (Nat.le_of_ble_eq_true rfl) (by decide) (c_X10_result X p1 p2 μ) ht_result h ?_ ?_ rfl
  · intro μ' v g hr
    subst hr
    show KJ X mL_result 7 false _ SK 0 0 8 [(0, .ref (X.1 + 0)), (1, .int (iI p1)), (2, .int (iI p2)), (3, .ref (X.1 + 260))] [.long (iL v), .int (iI 0), .ref (X.1 + 260)] μ'
    refine K_last (md := mL_result) (pc := 8) (r := (μ', 0, 0)) (k0 := fun _ => some (μ', 0, 0)) (kTab_at (pc := 8) tL_result_ok 6 rfl) sk_260 (by decide) wr_260 (fun _ => ?_)
    refine K_goto (md := mL_result) (pc := 9) (tgt := 24) (kTab_at (pc := 9) tL_result_ok 7 rfl) rfl ?_
    refine K_iconst (md := mL_result) (pc := 24) (x := 0) (kTab_at (pc := 24) tL_result_ok 17 rfl) rfl ?_
    exact K_iret (md := mL_result) (pc := 25) (kTab_at (pc := 25) tL_result_ok 18 rfl) rfl rfl ⟨rfl, rfl, rfl, rfl⟩
  · intro i x q μ' hx hr
    subst hr
    match i, hx with
    | 0, hx =>
      cases hx
      show KJ X mL_result 7 false _ SK 0 0 12 [(0, .ref (X.1 + 0)), (1, .int (iI p1)), (2, .int (iI p2)), (3, .ref (X.1 + 260))] [.ref q] μ'
      refine K_astore (md := mL_result) (pc := 12) (l' := (4, .ref q) :: [(0, .ref (X.1 + 0)), (1, .int (iI p1)), (2, .int (iI p2)), (3, .ref (X.1 + 260))]) (kTab_at (pc := 12) tL_result_ok 8 rfl) (Nat.le_of_ble_eq_true rfl) rfl ?_
      refine K_iconst (md := mL_result) (pc := 14) (x := 1) (kTab_at (pc := 14) tL_result_ok 9 rfl) rfl ?_
      exact K_iret (md := mL_result) (pc := 15) (kTab_at (pc := 15) tL_result_ok 10 rfl) rfl rfl ⟨rfl, rfl, rfl, rfl⟩
    | 1, hx =>
      cases hx
      show KJ X mL_result 7 false _ SK 0 0 16 [(0, .ref (X.1 + 0)), (1, .int (iI p1)), (2, .int (iI p2)), (3, .ref (X.1 + 260))] [.ref q] μ'
      refine K_astore (md := mL_result) (pc := 16) (l' := (4, .ref q) :: [(0, .ref (X.1 + 0)), (1, .int (iI p1)), (2, .int (iI p2)), (3, .ref (X.1 + 260))]) (kTab_at (pc := 16) tL_result_ok 11 rfl) (Nat.le_of_ble_eq_true rfl) rfl ?_
      refine K_iconst (md := mL_result) (pc := 18) (x := 2) (kTab_at (pc := 18) tL_result_ok 12 rfl) rfl ?_
      exact K_iret (md := mL_result) (pc := 19) (kTab_at (pc := 19) tL_result_ok 13 rfl) rfl rfl ⟨rfl, rfl, rfl, rfl⟩
    | 2, hx =>
      cases hx
      show KJ X mL_result 7 false _ SK 0 0 20 [(0, .ref (X.1 + 0)), (1, .int (iI p1)), (2, .int (iI p2)), (3, .ref (X.1 + 260))] [.ref q] μ'
      refine K_astore (md := mL_result) (pc := 20) (l' := (4, .ref q) :: [(0, .ref (X.1 + 0)), (1, .int (iI p1)), (2, .int (iI p2)), (3, .ref (X.1 + 260))]) (kTab_at (pc := 20) tL_result_ok 14 rfl) (Nat.le_of_ble_eq_true rfl) rfl ?_
      refine K_iconst (md := mL_result) (pc := 22) (x := 3) (kTab_at (pc := 22) tL_result_ok 15 rfl) rfl ?_
      exact K_iret (md := mL_result) (pc := 23) (kTab_at (pc := 23) tL_result_ok 16 rfl) rfl rfl ⟨rfl, rfl, rfl, rfl⟩
    | n + 3, hx => cases hx
def hh_recount : List (Nat × Nat × Nat × Nat) := [(0, 9, 12, 13)]
theorem ht_recount : hTb RL 4 (tableOf hh_recount) [2] := (hTb_cons (a := 0) (b := 9) (c := 12) (by decide) rfl (by decide) cl_L_13 nc_2 hTb_nil)
set_option maxRecDepth 100000 in
theorem h_recount (X : kX) (p1 : Int) (μ : Mu) (r : Res) (h : hp 0 [2] (f_X10_recount p1 μ) = some r) : CtH X mL_recount hh_recount 7 SK false μ 1 6 [.ref (X.1 + 0), .int (iI p1), .ref (X.1 + 260)] (poR 1 SK r) := by
  refine ctH_of (by decide +kernel) rfl (Nat.le_of_ble_eq_true rfl) ?_
  show KJ X mL_recount 7 false (poR 1 SK r) SK 1 6 0 [(0, .ref (X.1 + 0)), (1, .int (iI p1)), (2, .ref (X.1 + 260))] [] μ
  refine K_aload_n (md := mL_recount) (pc := 0) 2 (kTab_at (pc := 0) tL_recount_ok 0 rfl) rfl ?_
  refine K_iconst (md := mL_recount) (pc := 1) (x := 0) (kTab_at (pc := 1) tL_recount_ok 1 rfl) rfl ?_
  refine K_aload_n (md := mL_recount) (pc := 2) 0 (kTab_at (pc := 2) tL_recount_ok 2 rfl) rfl ?_
  refine K_iload_n (md := mL_recount) (pc := 3) 1 (kTab_at (pc := 3) tL_recount_ok 3 rfl) rfl ?_
  refine K_callHp (md := mL_recount) (pc := 4) (st := [.int (iI 0), .ref (X.1 + 260)]) (b := 0) (kTab_at (pc := 4) tL_recount_ok 4 rfl) mv_L_81 sk_0 rfl (Nat.le_of_ble_eq_true rfl) (by decide) (c_X10_recount X p1 μ) ht_recount h ?_ ?_ rfl
  · intro μ' v g hr
    subst hr
    show KJ X mL_recount 7 false _ SK 0 0 7 [(0, .ref (X.1 + 0)), (1, .int (iI p1)), (2, .ref (X.1 + 260))] [.int (iI v), .int (iI 0), .ref (X.1 + 260)] μ'
    refine K_i2l (md := mL_recount) (pc := 7) (r := (μ', 0, 0)) (k0 := some (μ', 0, 0)) (kTab_at (pc := 7) tL_recount_ok 5 rfl) (hg_0 g) (fun _ => ?_)
    refine K_last (md := mL_recount) (pc := 8) (r := (μ', 0, 0)) (k0 := fun _ => some (μ', 0, 0)) (kTab_at (pc := 8) tL_recount_ok 6 rfl) sk_260 (by decide) wr_260 (fun _ => ?_)
    refine K_goto (md := mL_recount) (pc := 9) (tgt := 15) (kTab_at (pc := 9) tL_recount_ok 7 rfl) rfl ?_
    refine K_iconst (md := mL_recount) (pc := 15) (x := 0) (kTab_at (pc := 15) tL_recount_ok 11 rfl) rfl ?_
    exact K_iret (md := mL_recount) (pc := 16) (kTab_at (pc := 16) tL_recount_ok 12 rfl) rfl rfl ⟨rfl, rfl, rfl, rfl⟩
  · intro i x q μ' hx hr
    subst hr
    match i, hx with
    | 0, hx =>
      cases hx
      show KJ X mL_recount 7 false _ SK 0 0 12 [(0, .ref (X.1 + 0)), (1, .int (iI p1)), (2, .ref (X.1 + 260))] [.ref q] μ'
      refine K_astore_n (md := mL_recount) (pc := 12) (l' := (3, .ref q) :: [(0, .ref (X.1 + 0)), (1, .int (iI p1)), (2, .ref (X.1 + 260))]) (kTab_at (pc := 12) tL_recount_ok 8 rfl) (Nat.le_of_ble_eq_true rfl) rfl ?_
      refine K_iconst (md := mL_recount) (pc := 13) (x := 1) (kTab_at (pc := 13) tL_recount_ok 9 rfl) rfl ?_
      exact K_iret (md := mL_recount) (pc := 14) (kTab_at (pc := 14) tL_recount_ok 10 rfl) rfl rfl ⟨rfl, rfl, rfl, rfl⟩
    | n + 1, hx => cases hx
def hh_ranked : List (Nat × Nat × Nat × Nat) := [(0, 9, 12, 52)]
theorem ht_ranked : hTb RL 4 (tableOf hh_ranked) [5] := (hTb_cons (a := 0) (b := 9) (c := 12) (by decide) rfl (by decide) cl_L_52 nc_5 hTb_nil)
set_option maxRecDepth 100000 in
theorem h_ranked (X : kX) (p1 : Int) (μ : Mu) (r : Res) (h : hp 0 [5] (f_X10_ranked p1 μ) = some r) : CtH X mL_ranked hh_ranked 7 SK false μ 1 6 [.ref (X.1 + 0), .int (iI p1), .ref (X.1 + 260)] (poR 1 SK r) := by
  refine ctH_of (by decide +kernel) rfl (Nat.le_of_ble_eq_true rfl) ?_
  show KJ X mL_ranked 7 false (poR 1 SK r) SK 1 6 0 [(0, .ref (X.1 + 0)), (1, .int (iI p1)), (2, .ref (X.1 + 260))] [] μ
  refine K_aload_n (md := mL_ranked) (pc := 0) 2 (kTab_at (pc := 0) tL_ranked_ok 0 rfl) rfl ?_
  refine K_iconst (md := mL_ranked) (pc := 1) (x := 0) (kTab_at (pc := 1) tL_ranked_ok 1 rfl) rfl ?_
  refine K_aload_n (md := mL_ranked) (pc := 2) 0 (kTab_at (pc := 2) tL_ranked_ok 2 rfl) rfl ?_
  refine K_iload_n (md := mL_ranked) (pc := 3) 1 (kTab_at (pc := 3) tL_ranked_ok 3 rfl) rfl ?_
  refine K_callHp (md := mL_ranked) (pc := 4) (st := [.int (iI 0), .ref (X.1 + 260)]) (b := 0) (kTab_at (pc := 4) tL_ranked_ok 4 rfl) mv_L_84 sk_0 rfl (Nat.le_of_ble_eq_true rfl) (by decide) (c_X10_ranked X p1 μ) ht_ranked h ?_ ?_ rfl
  · intro μ' v g hr
    subst hr
    show KJ X mL_ranked 7 false _ SK 0 0 7 [(0, .ref (X.1 + 0)), (1, .int (iI p1)), (2, .ref (X.1 + 260))] [.int (iI v), .int (iI 0), .ref (X.1 + 260)] μ'
    refine K_i2l (md := mL_ranked) (pc := 7) (r := (μ', 0, 0)) (k0 := some (μ', 0, 0)) (kTab_at (pc := 7) tL_ranked_ok 5 rfl) (hg_0 g) (fun _ => ?_)
    refine K_last (md := mL_ranked) (pc := 8) (r := (μ', 0, 0)) (k0 := fun _ => some (μ', 0, 0)) (kTab_at (pc := 8) tL_ranked_ok 6 rfl) sk_260 (by decide) wr_260 (fun _ => ?_)
    refine K_goto (md := mL_ranked) (pc := 9) (tgt := 15) (kTab_at (pc := 9) tL_ranked_ok 7 rfl) rfl ?_
    refine K_iconst (md := mL_ranked) (pc := 15) (x := 0) (kTab_at (pc := 15) tL_ranked_ok 11 rfl) rfl ?_
    exact K_iret (md := mL_ranked) (pc := 16) (kTab_at (pc := 16) tL_ranked_ok 12 rfl) rfl rfl ⟨rfl, rfl, rfl, rfl⟩
  · intro i x q μ' hx hr
    subst hr
    match i, hx with
    | 0, hx =>
      cases hx
      show KJ X mL_ranked 7 false _ SK 0 0 12 [(0, .ref (X.1 + 0)), (1, .int (iI p1)), (2, .ref (X.1 + 260))] [.ref q] μ'
      refine K_astore_n (md := mL_ranked) (pc := 12) (l' := (3, .ref q) :: [(0, .ref (X.1 + 0)), (1, .int (iI p1)), (2, .ref (X.1 + 260))]) (kTab_at (pc := 12) tL_ranked_ok 8 rfl) (Nat.le_of_ble_eq_true rfl) rfl ?_
      refine K_iconst (md := mL_ranked) (pc := 13) (x := 1) (kTab_at (pc := 13) tL_ranked_ok 9 rfl) rfl ?_
      exact K_iret (md := mL_ranked) (pc := 14) (kTab_at (pc := 14) tL_ranked_ok 10 rfl) rfl rfl ⟨rfl, rfl, rfl, rfl⟩
    | n + 1, hx => cases hx
def hh_graded : List (Nat × Nat × Nat × Nat) := [(0, 9, 12, 13)]
theorem ht_graded : hTb RL 4 (tableOf hh_graded) [2] := (hTb_cons (a := 0) (b := 9) (c := 12) (by decide) rfl (by decide) cl_L_13 nc_2 hTb_nil)
set_option maxRecDepth 100000 in
theorem h_graded (X : kX) (p1 : Int) (μ : Mu) (r : Res) (h : hp 0 [2] (f_X10_graded p1 μ) = some r) : CtH X mL_graded hh_graded 7 SK false μ 1 6 [.ref (X.1 + 0), .int (iI p1), .ref (X.1 + 260)] (poR 1 SK r) := by
  refine ctH_of (by decide +kernel) rfl (Nat.le_of_ble_eq_true rfl) ?_
  show KJ X mL_graded 7 false (poR 1 SK r) SK 1 6 0 [(0, .ref (X.1 + 0)), (1, .int (iI p1)), (2, .ref (X.1 + 260))] [] μ
  refine K_aload_n (md := mL_graded) (pc := 0) 2 (kTab_at (pc := 0) tL_graded_ok 0 rfl) rfl ?_
  refine K_iconst (md := mL_graded) (pc := 1) (x := 0) (kTab_at (pc := 1) tL_graded_ok 1 rfl) rfl ?_
  refine K_aload_n (md := mL_graded) (pc := 2) 0 (kTab_at (pc := 2) tL_graded_ok 2 rfl) rfl ?_
  refine K_iload_n (md := mL_graded) (pc := 3) 1 (kTab_at (pc := 3) tL_graded_ok 3 rfl) rfl ?_
  refine K_callHp (md := mL_graded) (pc := 4) (st := [.int (iI 0), .ref (X.1 + 260)]) (b := 0) (kTab_at (pc := 4) tL_graded_ok 4 rfl) mv_L_87 sk_0 rfl (Nat.le_of_ble_eq_true rfl) (by decide) (c_X10_graded X p1 μ) ht_graded h ?_ ?_ rfl
  · intro μ' v g hr
    subst hr
    show KJ X mL_graded 7 false _ SK 0 0 7 [(0, .ref (X.1 + 0)), (1, .int (iI p1)), (2, .ref (X.1 + 260))] [.int (iI v), .int (iI 0), .ref (X.1 + 260)] μ'
    refine K_i2l (md := mL_graded) (pc := 7) (r := (μ', 0, 0)) (k0 := some (μ', 0, 0)) (kTab_at (pc := 7) tL_graded_ok 5 rfl) (hg_0 g) (fun _ => ?_)
    refine K_last (md := mL_graded) (pc := 8) (r := (μ', 0, 0)) (k0 := fun _ => some (μ', 0, 0)) (kTab_at (pc := 8) tL_graded_ok 6 rfl) sk_260 (by decide) wr_260 (fun _ => ?_)
    refine K_goto (md := mL_graded) (pc := 9) (tgt := 15) (kTab_at (pc := 9) tL_graded_ok 7 rfl) rfl ?_
    refine K_iconst (md := mL_graded) (pc := 15) (x := 0) (kTab_at (pc := 15) tL_graded_ok 11 rfl) rfl ?_
    exact K_iret (md := mL_graded) (pc := 16) (kTab_at (pc := 16) tL_graded_ok 12 rfl) rfl rfl ⟨rfl, rfl, rfl, rfl⟩
  · intro i x q μ' hx hr
    subst hr
    match i, hx with
    | 0, hx =>
      cases hx
      show KJ X mL_graded 7 false _ SK 0 0 12 [(0, .ref (X.1 + 0)), (1, .int (iI p1)), (2, .ref (X.1 + 260))] [.ref q] μ'
      refine K_astore_n (md := mL_graded) (pc := 12) (l' := (3, .ref q) :: [(0, .ref (X.1 + 0)), (1, .int (iI p1)), (2, .ref (X.1 + 260))]) (kTab_at (pc := 12) tL_graded_ok 8 rfl) (Nat.le_of_ble_eq_true rfl) rfl ?_
      refine K_iconst (md := mL_graded) (pc := 13) (x := 1) (kTab_at (pc := 13) tL_graded_ok 9 rfl) rfl ?_
      exact K_iret (md := mL_graded) (pc := 14) (kTab_at (pc := 14) tL_graded_ok 10 rfl) rfl rfl ⟨rfl, rfl, rfl, rfl⟩
    | n + 1, hx => cases hx
def hh_gradeIf : List (Nat × Nat × Nat × Nat) := [(0, 12, 15, 13), (0, 12, 19, 15), (0, 12, 23, 52)]
theorem ht_gradeIf : hTb RL 7 (tableOf hh_gradeIf) [2, 1, 5] := (hTb_cons (a := 0) (b := 12) (c := 15) (by decide) rfl (by decide) cl_L_13 nc_2 (hTb_cons (a := 0) (b := 12) (c := 19) (by decide) rfl (by decide) cl_L_15 nc_1 (hTb_cons (a := 0) (b := 12) (c := 23) (by decide) rfl (by decide) cl_L_52 nc_5 hTb_nil)))
set_option maxRecDepth 100000 in
theorem h_gradeIf (X : kX) (p1 : Int) (p2 : Int) (p3 : Int) (μ : Mu) (r : Res) (h : hp 0 [2, 1, 5] (f_X10_gradeIf p1 p2 p3 μ) = some r) : CtH X mL_gradeIf hh_gradeIf 7 SK false μ 1 6 [.ref (X.1 + 0), .int (iI p1), .int (iI p2), .int (iI p3), .ref (X.1 + 260)] (poR 1 SK r) := by
  refine ctH_of (by decide +kernel) rfl (Nat.le_of_ble_eq_true rfl) ?_
  show KJ X mL_gradeIf 7 false (poR 1 SK r) SK 1 6 0 [(0, .ref (X.1 + 0)), (1, .int (iI p1)), (2, .int (iI p2)), (3, .int (iI p3)), (4, .ref (X.1 + 260))] [] μ
  refine K_aload (md := mL_gradeIf) (pc := 0) 4 (kTab_at (pc := 0) tL_gradeIf_ok 0 rfl) rfl ?_
  refine K_iconst (md := mL_gradeIf) (pc := 2) (x := 0) (kTab_at (pc := 2) tL_gradeIf_ok 1 rfl) rfl ?_
  refine K_aload_n (md := mL_gradeIf) (pc := 3) 0 (kTab_at (pc := 3) tL_gradeIf_ok 2 rfl) rfl ?_
  refine K_iload_n (md := mL_gradeIf) (pc := 4) 1 (kTab_at (pc := 4) tL_gradeIf_ok 3 rfl) rfl ?_
  refine K_iload_n (md := mL_gradeIf) (pc := 5) 2 (kTab_at (pc := 5) tL_gradeIf_ok 4 rfl) rfl ?_
  refine K_iload_n (md := mL_gradeIf) (pc := 6) 3 (kTab_at (pc := 6) tL_gradeIf_ok 5 rfl) rfl ?_
  refine K_callHp (md := mL_gradeIf) (pc := 7) (st := [.int (iI 0), .ref (X.1 + 260)]) (b := 0) (kTab_at (pc := 7) tL_gradeIf_ok 6 rfl) mv_L_90 sk_0 rfl (Nat.le_of_ble_eq_true rfl) (by decide) (c_X10_gradeIf X p1 p2 p3 μ) ht_gradeIf h ?_ ?_ rfl
  · intro μ' v g hr
    subst hr
    show KJ X mL_gradeIf 7 false _ SK 0 0 10 [(0, .ref (X.1 + 0)), (1, .int (iI p1)), (2, .int (iI p2)), (3, .int (iI p3)), (4, .ref (X.1 + 260))] [.int (iI v), .int (iI 0), .ref (X.1 + 260)] μ'
    refine K_i2l (md := mL_gradeIf) (pc := 10) (r := (μ', 0, 0)) (k0 := some (μ', 0, 0)) (kTab_at (pc := 10) tL_gradeIf_ok 7 rfl) (hg_0 g) (fun _ => ?_)
    refine K_last (md := mL_gradeIf) (pc := 11) (r := (μ', 0, 0)) (k0 := fun _ => some (μ', 0, 0)) (kTab_at (pc := 11) tL_gradeIf_ok 8 rfl) sk_260 (by decide) wr_260 (fun _ => ?_)
    refine K_goto (md := mL_gradeIf) (pc := 12) (tgt := 27) (kTab_at (pc := 12) tL_gradeIf_ok 9 rfl) rfl ?_
    refine K_iconst (md := mL_gradeIf) (pc := 27) (x := 0) (kTab_at (pc := 27) tL_gradeIf_ok 19 rfl) rfl ?_
    exact K_iret (md := mL_gradeIf) (pc := 28) (kTab_at (pc := 28) tL_gradeIf_ok 20 rfl) rfl rfl ⟨rfl, rfl, rfl, rfl⟩
  · intro i x q μ' hx hr
    subst hr
    match i, hx with
    | 0, hx =>
      cases hx
      show KJ X mL_gradeIf 7 false _ SK 0 0 15 [(0, .ref (X.1 + 0)), (1, .int (iI p1)), (2, .int (iI p2)), (3, .int (iI p3)), (4, .ref (X.1 + 260))] [.ref q] μ'
      refine K_astore (md := mL_gradeIf) (pc := 15) (l' := (5, .ref q) :: [(0, .ref (X.1 + 0)), (1, .int (iI p1)), (2, .int (iI p2)), (3, .int (iI p3)), (4, .ref (X.1 + 260))]) (kTab_at (pc := 15) tL_gradeIf_ok 10 rfl) (Nat.le_of_ble_eq_true rfl) rfl ?_
      refine K_iconst (md := mL_gradeIf) (pc := 17) (x := 1) (kTab_at (pc := 17) tL_gradeIf_ok 11 rfl) rfl ?_
      exact K_iret (md := mL_gradeIf) (pc := 18) (kTab_at (pc := 18) tL_gradeIf_ok 12 rfl) rfl rfl ⟨rfl, rfl, rfl, rfl⟩
    | 1, hx =>
      cases hx
      show KJ X mL_gradeIf 7 false _ SK 0 0 19 [(0, .ref (X.1 + 0)), (1, .int (iI p1)), (2, .int (iI p2)), (3, .int (iI p3)), (4, .ref (X.1 + 260))] [.ref q] μ'
      refine K_astore (md := mL_gradeIf) (pc := 19) (l' := (5, .ref q) :: [(0, .ref (X.1 + 0)), (1, .int (iI p1)), (2, .int (iI p2)), (3, .int (iI p3)), (4, .ref (X.1 + 260))]) (kTab_at (pc := 19) tL_gradeIf_ok 13 rfl) (Nat.le_of_ble_eq_true rfl) rfl ?_
      refine K_iconst (md := mL_gradeIf) (pc := 21) (x := 2) (kTab_at (pc := 21) tL_gradeIf_ok 14 rfl) rfl ?_
      exact K_iret (md := mL_gradeIf) (pc := 22) (kTab_at (pc := 22) tL_gradeIf_ok 15 rfl) rfl rfl ⟨rfl, rfl, rfl, rfl⟩
    | 2, hx =>
      cases hx
      show KJ X mL_gradeIf 7 false _ SK 0 0 23 [(0, .ref (X.1 + 0)), (1, .int (iI p1)), (2, .int (iI p2)), (3, .int (iI p3)), (4, .ref (X.1 + 260))] [.ref q] μ'
      refine K_astore (md := mL_gradeIf) (pc := 23) (l' := (5, .ref q) :: [(0, .ref (X.1 + 0)), (1, .int (iI p1)), (2, .int (iI p2)), (3, .int (iI p3)), (4, .ref (X.1 + 260))]) (kTab_at (pc := 23) tL_gradeIf_ok 16 rfl) (Nat.le_of_ble_eq_true rfl) rfl ?_
      refine K_iconst (md := mL_gradeIf) (pc := 25) (x := 3) (kTab_at (pc := 25) tL_gradeIf_ok 17 rfl) rfl ?_
      exact K_iret (md := mL_gradeIf) (pc := 26) (kTab_at (pc := 26) tL_gradeIf_ok 18 rfl) rfl rfl ⟨rfl, rfl, rfl, rfl⟩
    | n + 3, hx => cases hx
def hh_needed : List (Nat × Nat × Nat × Nat) := [(0, 12, 15, 13), (0, 12, 19, 52)]
theorem ht_needed : hTb RL 7 (tableOf hh_needed) [2, 5] := (hTb_cons (a := 0) (b := 12) (c := 15) (by decide) rfl (by decide) cl_L_13 nc_2 (hTb_cons (a := 0) (b := 12) (c := 19) (by decide) rfl (by decide) cl_L_52 nc_5 hTb_nil))
set_option maxRecDepth 100000 in
theorem h_needed (X : kX) (p1 : Int) (p2 : Int) (p3 : Int) (μ : Mu) (r : Res) (h : hp 0 [2, 5] (f_X10_needed p1 p2 p3 μ) = some r) : CtH X mL_needed hh_needed 7 SK false μ 1 6 [.ref (X.1 + 0), .int (iI p1), .int (iI p2), .int (iI p3), .ref (X.1 + 260)] (poR 1 SK r) := by
  refine ctH_of (by decide +kernel) rfl (Nat.le_of_ble_eq_true rfl) ?_
  show KJ X mL_needed 7 false (poR 1 SK r) SK 1 6 0 [(0, .ref (X.1 + 0)), (1, .int (iI p1)), (2, .int (iI p2)), (3, .int (iI p3)), (4, .ref (X.1 + 260))] [] μ
  refine K_aload (md := mL_needed) (pc := 0) 4 (kTab_at (pc := 0) tL_needed_ok 0 rfl) rfl ?_
  refine K_iconst (md := mL_needed) (pc := 2) (x := 0) (kTab_at (pc := 2) tL_needed_ok 1 rfl) rfl ?_
  refine K_aload_n (md := mL_needed) (pc := 3) 0 (kTab_at (pc := 3) tL_needed_ok 2 rfl) rfl ?_
  refine K_iload_n (md := mL_needed) (pc := 4) 1 (kTab_at (pc := 4) tL_needed_ok 3 rfl) rfl ?_
  refine K_iload_n (md := mL_needed) (pc := 5) 2 (kTab_at (pc := 5) tL_needed_ok 4 rfl) rfl ?_
  refine K_iload_n (md := mL_needed) (pc := 6) 3 (kTab_at (pc := 6) tL_needed_ok 5 rfl) rfl ?_
  refine K_callHp (md := mL_needed) (pc := 7) (st := [.int (iI 0), .ref (X.1 + 260)]) (b := 0) (kTab_at (pc := 7) tL_needed_ok 6 rfl) mv_L_93 sk_0 rfl (Nat.le_of_ble_eq_true rfl) (by decide) (c_X10_needed X p1 p2 p3 μ) ht_needed h ?_ ?_ rfl
  · intro μ' v g hr
    subst hr
    show KJ X mL_needed 7 false _ SK 0 0 10 [(0, .ref (X.1 + 0)), (1, .int (iI p1)), (2, .int (iI p2)), (3, .int (iI p3)), (4, .ref (X.1 + 260))] [.int (iI v), .int (iI 0), .ref (X.1 + 260)] μ'
    refine K_i2l (md := mL_needed) (pc := 10) (r := (μ', 0, 0)) (k0 := some (μ', 0, 0)) (kTab_at (pc := 10) tL_needed_ok 7 rfl) (hg_0 g) (fun _ => ?_)
    refine K_last (md := mL_needed) (pc := 11) (r := (μ', 0, 0)) (k0 := fun _ => some (μ', 0, 0)) (kTab_at (pc := 11) tL_needed_ok 8 rfl) sk_260 (by decide) wr_260 (fun _ => ?_)
    refine K_goto (md := mL_needed) (pc := 12) (tgt := 23) (kTab_at (pc := 12) tL_needed_ok 9 rfl) rfl ?_
    refine K_iconst (md := mL_needed) (pc := 23) (x := 0) (kTab_at (pc := 23) tL_needed_ok 16 rfl) rfl ?_
    exact K_iret (md := mL_needed) (pc := 24) (kTab_at (pc := 24) tL_needed_ok 17 rfl) rfl rfl ⟨rfl, rfl, rfl, rfl⟩
  · intro i x q μ' hx hr
    subst hr
    match i, hx with
    | 0, hx =>
      cases hx
      show KJ X mL_needed 7 false _ SK 0 0 15 [(0, .ref (X.1 + 0)), (1, .int (iI p1)), (2, .int (iI p2)), (3, .int (iI p3)), (4, .ref (X.1 + 260))] [.ref q] μ'
      refine K_astore (md := mL_needed) (pc := 15) (l' := (5, .ref q) :: [(0, .ref (X.1 + 0)), (1, .int (iI p1)), (2, .int (iI p2)), (3, .int (iI p3)), (4, .ref (X.1 + 260))]) (kTab_at (pc := 15) tL_needed_ok 10 rfl) (Nat.le_of_ble_eq_true rfl) rfl ?_
      refine K_iconst (md := mL_needed) (pc := 17) (x := 1) (kTab_at (pc := 17) tL_needed_ok 11 rfl) rfl ?_
      exact K_iret (md := mL_needed) (pc := 18) (kTab_at (pc := 18) tL_needed_ok 12 rfl) rfl rfl ⟨rfl, rfl, rfl, rfl⟩
    | 1, hx =>
      cases hx
      show KJ X mL_needed 7 false _ SK 0 0 19 [(0, .ref (X.1 + 0)), (1, .int (iI p1)), (2, .int (iI p2)), (3, .int (iI p3)), (4, .ref (X.1 + 260))] [.ref q] μ'
      refine K_astore (md := mL_needed) (pc := 19) (l' := (5, .ref q) :: [(0, .ref (X.1 + 0)), (1, .int (iI p1)), (2, .int (iI p2)), (3, .int (iI p3)), (4, .ref (X.1 + 260))]) (kTab_at (pc := 19) tL_needed_ok 13 rfl) (Nat.le_of_ble_eq_true rfl) rfl ?_
      refine K_iconst (md := mL_needed) (pc := 21) (x := 2) (kTab_at (pc := 21) tL_needed_ok 14 rfl) rfl ?_
      exact K_iret (md := mL_needed) (pc := 22) (kTab_at (pc := 22) tL_needed_ok 15 rfl) rfl rfl ⟨rfl, rfl, rfl, rfl⟩
    | n + 2, hx => cases hx
def hh_meanBits : List (Nat × Nat × Nat × Nat) := [(0, 8, 11, 13), (0, 8, 14, 100)]
theorem ht_meanBits : hTb RL 4 (tableOf hh_meanBits) [2, 3] := (hTb_cons (a := 0) (b := 8) (c := 11) (by decide) rfl (by decide) cl_L_13 nc_2 (hTb_cons (a := 0) (b := 8) (c := 14) (by decide) rfl (by decide) cl_L_100 nc_3 hTb_nil))
set_option maxRecDepth 100000 in
theorem h_meanBits (X : kX) (p1 : Int) (μ : Mu) (r : Res) (h : hp 2 [2, 3] (f_X10_meanBits p1 μ) = some r) : CtH X mL_meanBits hh_meanBits 7 SK false μ 1 6 [.ref (X.1 + 0), .int (iI p1), .ref (X.1 + 260)] (poR 1 SK r) := by
  refine ctH_of (by decide +kernel) rfl (Nat.le_of_ble_eq_true rfl) ?_
  show KJ X mL_meanBits 7 false (poR 1 SK r) SK 1 6 0 [(0, .ref (X.1 + 0)), (1, .int (iI p1)), (2, .ref (X.1 + 260))] [] μ
  refine K_aload_n (md := mL_meanBits) (pc := 0) 2 (kTab_at (pc := 0) tL_meanBits_ok 0 rfl) rfl ?_
  refine K_iconst (md := mL_meanBits) (pc := 1) (x := 0) (kTab_at (pc := 1) tL_meanBits_ok 1 rfl) rfl ?_
  refine K_aload_n (md := mL_meanBits) (pc := 2) 0 (kTab_at (pc := 2) tL_meanBits_ok 2 rfl) rfl ?_
  refine K_iload_n (md := mL_meanBits) (pc := 3) 1 (kTab_at (pc := 3) tL_meanBits_ok 3 rfl) rfl ?_
  refine K_callHp (md := mL_meanBits) (pc := 4) (st := [.int (iI 0), .ref (X.1 + 260)]) (b := 0) (kTab_at (pc := 4) tL_meanBits_ok 4 rfl) mv_L_96 sk_0 rfl (Nat.le_of_ble_eq_true rfl) (by decide) (c_X10_meanBits X p1 μ) ht_meanBits h ?_ ?_ rfl
  · intro μ' v g hr
    subst hr
    show KJ X mL_meanBits 7 false _ SK 0 0 7 [(0, .ref (X.1 + 0)), (1, .int (iI p1)), (2, .ref (X.1 + 260))] [.long (iL v), .int (iI 0), .ref (X.1 + 260)] μ'
    refine K_last (md := mL_meanBits) (pc := 7) (r := (μ', 0, 0)) (k0 := fun _ => some (μ', 0, 0)) (kTab_at (pc := 7) tL_meanBits_ok 5 rfl) sk_260 (by decide) wr_260 (fun _ => ?_)
    refine K_goto (md := mL_meanBits) (pc := 8) (tgt := 17) (kTab_at (pc := 8) tL_meanBits_ok 6 rfl) rfl ?_
    refine K_iconst (md := mL_meanBits) (pc := 17) (x := 0) (kTab_at (pc := 17) tL_meanBits_ok 13 rfl) rfl ?_
    exact K_iret (md := mL_meanBits) (pc := 18) (kTab_at (pc := 18) tL_meanBits_ok 14 rfl) rfl rfl ⟨rfl, rfl, rfl, rfl⟩
  · intro i x q μ' hx hr
    subst hr
    match i, hx with
    | 0, hx =>
      cases hx
      show KJ X mL_meanBits 7 false _ SK 0 0 11 [(0, .ref (X.1 + 0)), (1, .int (iI p1)), (2, .ref (X.1 + 260))] [.ref q] μ'
      refine K_astore_n (md := mL_meanBits) (pc := 11) (l' := (3, .ref q) :: [(0, .ref (X.1 + 0)), (1, .int (iI p1)), (2, .ref (X.1 + 260))]) (kTab_at (pc := 11) tL_meanBits_ok 7 rfl) (Nat.le_of_ble_eq_true rfl) rfl ?_
      refine K_iconst (md := mL_meanBits) (pc := 12) (x := 1) (kTab_at (pc := 12) tL_meanBits_ok 8 rfl) rfl ?_
      exact K_iret (md := mL_meanBits) (pc := 13) (kTab_at (pc := 13) tL_meanBits_ok 9 rfl) rfl rfl ⟨rfl, rfl, rfl, rfl⟩
    | 1, hx =>
      cases hx
      show KJ X mL_meanBits 7 false _ SK 0 0 14 [(0, .ref (X.1 + 0)), (1, .int (iI p1)), (2, .ref (X.1 + 260))] [.ref q] μ'
      refine K_astore_n (md := mL_meanBits) (pc := 14) (l' := (3, .ref q) :: [(0, .ref (X.1 + 0)), (1, .int (iI p1)), (2, .ref (X.1 + 260))]) (kTab_at (pc := 14) tL_meanBits_ok 10 rfl) (Nat.le_of_ble_eq_true rfl) rfl ?_
      refine K_iconst (md := mL_meanBits) (pc := 15) (x := 2) (kTab_at (pc := 15) tL_meanBits_ok 11 rfl) rfl ?_
      exact K_iret (md := mL_meanBits) (pc := 16) (kTab_at (pc := 16) tL_meanBits_ok 12 rfl) rfl rfl ⟨rfl, rfl, rfl, rfl⟩
    | n + 2, hx => cases hx
def hh_validBits : List (Nat × Nat × Nat × Nat) := [(0, 9, 12, 13), (0, 9, 15, 100)]
theorem ht_validBits : hTb RL 4 (tableOf hh_validBits) [2, 3] := (hTb_cons (a := 0) (b := 9) (c := 12) (by decide) rfl (by decide) cl_L_13 nc_2 (hTb_cons (a := 0) (b := 9) (c := 15) (by decide) rfl (by decide) cl_L_100 nc_3 hTb_nil))
set_option maxRecDepth 100000 in
theorem h_validBits (X : kX) (p1 : Int) (μ : Mu) (r : Res) (h : hp 0 [2, 3] (f_X10_validBits p1 μ) = some r) : CtH X mL_validBits hh_validBits 7 SK false μ 1 6 [.ref (X.1 + 0), .int (iI p1), .ref (X.1 + 260)] (poR 1 SK r) := by
  refine ctH_of (by decide +kernel) rfl (Nat.le_of_ble_eq_true rfl) ?_
  show KJ X mL_validBits 7 false (poR 1 SK r) SK 1 6 0 [(0, .ref (X.1 + 0)), (1, .int (iI p1)), (2, .ref (X.1 + 260))] [] μ
  refine K_aload_n (md := mL_validBits) (pc := 0) 2 (kTab_at (pc := 0) tL_validBits_ok 0 rfl) rfl ?_
  refine K_iconst (md := mL_validBits) (pc := 1) (x := 0) (kTab_at (pc := 1) tL_validBits_ok 1 rfl) rfl ?_
  refine K_aload_n (md := mL_validBits) (pc := 2) 0 (kTab_at (pc := 2) tL_validBits_ok 2 rfl) rfl ?_
  refine K_iload_n (md := mL_validBits) (pc := 3) 1 (kTab_at (pc := 3) tL_validBits_ok 3 rfl) rfl ?_
  refine K_callHp (md := mL_validBits) (pc := 4) (st := [.int (iI 0), .ref (X.1 + 260)]) (b := 0) (kTab_at (pc := 4) tL_validBits_ok 4 rfl) mv_L_102 sk_0 rfl (Nat.le_of_ble_eq_true rfl) (by decide) (c_X10_validBits X p1 μ) ht_validBits h ?_ ?_ rfl
  · intro μ' v g hr
    subst hr
    show KJ X mL_validBits 7 false _ SK 0 0 7 [(0, .ref (X.1 + 0)), (1, .int (iI p1)), (2, .ref (X.1 + 260))] [.int (iI v), .int (iI 0), .ref (X.1 + 260)] μ'
    refine K_i2l (md := mL_validBits) (pc := 7) (r := (μ', 0, 0)) (k0 := some (μ', 0, 0)) (kTab_at (pc := 7) tL_validBits_ok 5 rfl) (hg_0 g) (fun _ => ?_)
    refine K_last (md := mL_validBits) (pc := 8) (r := (μ', 0, 0)) (k0 := fun _ => some (μ', 0, 0)) (kTab_at (pc := 8) tL_validBits_ok 6 rfl) sk_260 (by decide) wr_260 (fun _ => ?_)
    refine K_goto (md := mL_validBits) (pc := 9) (tgt := 18) (kTab_at (pc := 9) tL_validBits_ok 7 rfl) rfl ?_
    refine K_iconst (md := mL_validBits) (pc := 18) (x := 0) (kTab_at (pc := 18) tL_validBits_ok 14 rfl) rfl ?_
    exact K_iret (md := mL_validBits) (pc := 19) (kTab_at (pc := 19) tL_validBits_ok 15 rfl) rfl rfl ⟨rfl, rfl, rfl, rfl⟩
  · intro i x q μ' hx hr
    subst hr
    match i, hx with
    | 0, hx =>
      cases hx
      show KJ X mL_validBits 7 false _ SK 0 0 12 [(0, .ref (X.1 + 0)), (1, .int (iI p1)), (2, .ref (X.1 + 260))] [.ref q] μ'
      refine K_astore_n (md := mL_validBits) (pc := 12) (l' := (3, .ref q) :: [(0, .ref (X.1 + 0)), (1, .int (iI p1)), (2, .ref (X.1 + 260))]) (kTab_at (pc := 12) tL_validBits_ok 8 rfl) (Nat.le_of_ble_eq_true rfl) rfl ?_
      refine K_iconst (md := mL_validBits) (pc := 13) (x := 1) (kTab_at (pc := 13) tL_validBits_ok 9 rfl) rfl ?_
      exact K_iret (md := mL_validBits) (pc := 14) (kTab_at (pc := 14) tL_validBits_ok 10 rfl) rfl rfl ⟨rfl, rfl, rfl, rfl⟩
    | 1, hx =>
      cases hx
      show KJ X mL_validBits 7 false _ SK 0 0 15 [(0, .ref (X.1 + 0)), (1, .int (iI p1)), (2, .ref (X.1 + 260))] [.ref q] μ'
      refine K_astore_n (md := mL_validBits) (pc := 15) (l' := (3, .ref q) :: [(0, .ref (X.1 + 0)), (1, .int (iI p1)), (2, .ref (X.1 + 260))]) (kTab_at (pc := 15) tL_validBits_ok 11 rfl) (Nat.le_of_ble_eq_true rfl) rfl ?_
      refine K_iconst (md := mL_validBits) (pc := 16) (x := 2) (kTab_at (pc := 16) tL_validBits_ok 12 rfl) rfl ?_
      exact K_iret (md := mL_validBits) (pc := 17) (kTab_at (pc := 17) tL_validBits_ok 13 rfl) rfl rfl ⟨rfl, rfl, rfl, rfl⟩
    | n + 2, hx => cases hx
def hh_publish : List (Nat × Nat × Nat × Nat) := [(0, 8, 11, 19), (0, 8, 14, 17)]
theorem ht_publish : hTb RL 3 (tableOf hh_publish) [0, 4] := (hTb_cons (a := 0) (b := 8) (c := 11) (by decide) rfl (by decide) cl_L_19 nc_0 (hTb_cons (a := 0) (b := 8) (c := 14) (by decide) rfl (by decide) cl_L_17 nc_4 hTb_nil))
set_option maxRecDepth 100000 in
theorem h_publish (X : kX)  (μ : Mu) (r : Res) (h : hp 0 [0, 4] (f_X10_publish  μ) = some r) : CtH X mL_publish hh_publish 7 SK false μ 1 6 [.ref (X.1 + 0), .ref (X.1 + 260)] (poR 1 SK r) := by
  refine ctH_of (by decide +kernel) rfl (Nat.le_of_ble_eq_true rfl) ?_
  show KJ X mL_publish 7 false (poR 1 SK r) SK 1 6 0 [(0, .ref (X.1 + 0)), (1, .ref (X.1 + 260))] [] μ
  refine K_aload_n (md := mL_publish) (pc := 0) 1 (kTab_at (pc := 0) tL_publish_ok 0 rfl) rfl ?_
  refine K_iconst (md := mL_publish) (pc := 1) (x := 0) (kTab_at (pc := 1) tL_publish_ok 1 rfl) rfl ?_
  refine K_aload_n (md := mL_publish) (pc := 2) 0 (kTab_at (pc := 2) tL_publish_ok 2 rfl) rfl ?_
  refine K_callHp (md := mL_publish) (pc := 3) (st := [.int (iI 0), .ref (X.1 + 260)]) (b := 0) (kTab_at (pc := 3) tL_publish_ok 3 rfl) mv_L_105 sk_0 rfl (Nat.le_of_ble_eq_true rfl) (by decide) (c_X10_publish X  μ) ht_publish h ?_ ?_ rfl
  · intro μ' v g hr
    subst hr
    show KJ X mL_publish 7 false _ SK 0 0 6 [(0, .ref (X.1 + 0)), (1, .ref (X.1 + 260))] [.int (iI v), .int (iI 0), .ref (X.1 + 260)] μ'
    refine K_i2l (md := mL_publish) (pc := 6) (r := (μ', 0, 0)) (k0 := some (μ', 0, 0)) (kTab_at (pc := 6) tL_publish_ok 4 rfl) (hg_0 g) (fun _ => ?_)
    refine K_last (md := mL_publish) (pc := 7) (r := (μ', 0, 0)) (k0 := fun _ => some (μ', 0, 0)) (kTab_at (pc := 7) tL_publish_ok 5 rfl) sk_260 (by decide) wr_260 (fun _ => ?_)
    refine K_goto (md := mL_publish) (pc := 8) (tgt := 17) (kTab_at (pc := 8) tL_publish_ok 6 rfl) rfl ?_
    refine K_iconst (md := mL_publish) (pc := 17) (x := 0) (kTab_at (pc := 17) tL_publish_ok 13 rfl) rfl ?_
    exact K_iret (md := mL_publish) (pc := 18) (kTab_at (pc := 18) tL_publish_ok 14 rfl) rfl rfl ⟨rfl, rfl, rfl, rfl⟩
  · intro i x q μ' hx hr
    subst hr
    match i, hx with
    | 0, hx =>
      cases hx
      show KJ X mL_publish 7 false _ SK 0 0 11 [(0, .ref (X.1 + 0)), (1, .ref (X.1 + 260))] [.ref q] μ'
      refine K_astore_n (md := mL_publish) (pc := 11) (l' := (2, .ref q) :: [(0, .ref (X.1 + 0)), (1, .ref (X.1 + 260))]) (kTab_at (pc := 11) tL_publish_ok 7 rfl) (Nat.le_of_ble_eq_true rfl) rfl ?_
      refine K_iconst (md := mL_publish) (pc := 12) (x := 1) (kTab_at (pc := 12) tL_publish_ok 8 rfl) rfl ?_
      exact K_iret (md := mL_publish) (pc := 13) (kTab_at (pc := 13) tL_publish_ok 9 rfl) rfl rfl ⟨rfl, rfl, rfl, rfl⟩
    | 1, hx =>
      cases hx
      show KJ X mL_publish 7 false _ SK 0 0 14 [(0, .ref (X.1 + 0)), (1, .ref (X.1 + 260))] [.ref q] μ'
      refine K_astore_n (md := mL_publish) (pc := 14) (l' := (2, .ref q) :: [(0, .ref (X.1 + 0)), (1, .ref (X.1 + 260))]) (kTab_at (pc := 14) tL_publish_ok 10 rfl) (Nat.le_of_ble_eq_true rfl) rfl ?_
      refine K_iconst (md := mL_publish) (pc := 15) (x := 2) (kTab_at (pc := 15) tL_publish_ok 11 rfl) rfl ?_
      exact K_iret (md := mL_publish) (pc := 16) (kTab_at (pc := 16) tL_publish_ok 12 rfl) rfl rfl ⟨rfl, rfl, rfl, rfl⟩
    | n + 2, hx => cases hx
def hh_withdraw : List (Nat × Nat × Nat × Nat) := [(0, 8, 11, 19), (0, 8, 14, 17)]
theorem ht_withdraw : hTb RL 3 (tableOf hh_withdraw) [0, 4] := (hTb_cons (a := 0) (b := 8) (c := 11) (by decide) rfl (by decide) cl_L_19 nc_0 (hTb_cons (a := 0) (b := 8) (c := 14) (by decide) rfl (by decide) cl_L_17 nc_4 hTb_nil))
set_option maxRecDepth 100000 in
theorem h_withdraw (X : kX)  (μ : Mu) (r : Res) (h : hp 0 [0, 4] (f_X10_withdraw  μ) = some r) : CtH X mL_withdraw hh_withdraw 7 SK false μ 1 6 [.ref (X.1 + 0), .ref (X.1 + 260)] (poR 1 SK r) := by
  refine ctH_of (by decide +kernel) rfl (Nat.le_of_ble_eq_true rfl) ?_
  show KJ X mL_withdraw 7 false (poR 1 SK r) SK 1 6 0 [(0, .ref (X.1 + 0)), (1, .ref (X.1 + 260))] [] μ
  refine K_aload_n (md := mL_withdraw) (pc := 0) 1 (kTab_at (pc := 0) tL_withdraw_ok 0 rfl) rfl ?_
  refine K_iconst (md := mL_withdraw) (pc := 1) (x := 0) (kTab_at (pc := 1) tL_withdraw_ok 1 rfl) rfl ?_
  refine K_aload_n (md := mL_withdraw) (pc := 2) 0 (kTab_at (pc := 2) tL_withdraw_ok 2 rfl) rfl ?_
  refine K_callHp (md := mL_withdraw) (pc := 3) (st := [.int (iI 0), .ref (X.1 + 260)]) (b := 0) (kTab_at (pc := 3) tL_withdraw_ok 3 rfl) mv_L_108 sk_0 rfl (Nat.le_of_ble_eq_true rfl) (by decide) (c_X10_withdraw X  μ) ht_withdraw h ?_ ?_ rfl
  · intro μ' v g hr
    subst hr
    show KJ X mL_withdraw 7 false _ SK 0 0 6 [(0, .ref (X.1 + 0)), (1, .ref (X.1 + 260))] [.int (iI v), .int (iI 0), .ref (X.1 + 260)] μ'
    refine K_i2l (md := mL_withdraw) (pc := 6) (r := (μ', 0, 0)) (k0 := some (μ', 0, 0)) (kTab_at (pc := 6) tL_withdraw_ok 4 rfl) (hg_0 g) (fun _ => ?_)
    refine K_last (md := mL_withdraw) (pc := 7) (r := (μ', 0, 0)) (k0 := fun _ => some (μ', 0, 0)) (kTab_at (pc := 7) tL_withdraw_ok 5 rfl) sk_260 (by decide) wr_260 (fun _ => ?_)
    refine K_goto (md := mL_withdraw) (pc := 8) (tgt := 17) (kTab_at (pc := 8) tL_withdraw_ok 6 rfl) rfl ?_
    refine K_iconst (md := mL_withdraw) (pc := 17) (x := 0) (kTab_at (pc := 17) tL_withdraw_ok 13 rfl) rfl ?_
    exact K_iret (md := mL_withdraw) (pc := 18) (kTab_at (pc := 18) tL_withdraw_ok 14 rfl) rfl rfl ⟨rfl, rfl, rfl, rfl⟩
  · intro i x q μ' hx hr
    subst hr
    match i, hx with
    | 0, hx =>
      cases hx
      show KJ X mL_withdraw 7 false _ SK 0 0 11 [(0, .ref (X.1 + 0)), (1, .ref (X.1 + 260))] [.ref q] μ'
      refine K_astore_n (md := mL_withdraw) (pc := 11) (l' := (2, .ref q) :: [(0, .ref (X.1 + 0)), (1, .ref (X.1 + 260))]) (kTab_at (pc := 11) tL_withdraw_ok 7 rfl) (Nat.le_of_ble_eq_true rfl) rfl ?_
      refine K_iconst (md := mL_withdraw) (pc := 12) (x := 1) (kTab_at (pc := 12) tL_withdraw_ok 8 rfl) rfl ?_
      exact K_iret (md := mL_withdraw) (pc := 13) (kTab_at (pc := 13) tL_withdraw_ok 9 rfl) rfl rfl ⟨rfl, rfl, rfl, rfl⟩
    | 1, hx =>
      cases hx
      show KJ X mL_withdraw 7 false _ SK 0 0 14 [(0, .ref (X.1 + 0)), (1, .ref (X.1 + 260))] [.ref q] μ'
      refine K_astore_n (md := mL_withdraw) (pc := 14) (l' := (2, .ref q) :: [(0, .ref (X.1 + 0)), (1, .ref (X.1 + 260))]) (kTab_at (pc := 14) tL_withdraw_ok 10 rfl) (Nat.le_of_ble_eq_true rfl) rfl ?_
      refine K_iconst (md := mL_withdraw) (pc := 15) (x := 2) (kTab_at (pc := 15) tL_withdraw_ok 11 rfl) rfl ?_
      exact K_iret (md := mL_withdraw) (pc := 16) (kTab_at (pc := 16) tL_withdraw_ok 12 rfl) rfl rfl ⟨rfl, rfl, rfl, rfl⟩
    | n + 2, hx => cases hx
def hh_appeal : List (Nat × Nat × Nat × Nat) := [(0, 10, 13, 13), (0, 10, 17, 17)]
theorem ht_appeal : hTb RL 5 (tableOf hh_appeal) [2, 4] := (hTb_cons (a := 0) (b := 10) (c := 13) (by decide) rfl (by decide) cl_L_13 nc_2 (hTb_cons (a := 0) (b := 10) (c := 17) (by decide) rfl (by decide) cl_L_17 nc_4 hTb_nil))
set_option maxRecDepth 100000 in
theorem h_appeal (X : kX) (p1 : Int) (p2 : Int) (μ : Mu) (r : Res) (h : hp 0 [2, 4] (f_X10_appeal p1 p2 μ) = some r) : CtH X mL_appeal hh_appeal 7 SK false μ 1 6 [.ref (X.1 + 0), .int (iI p1), .int (iI p2), .ref (X.1 + 260)] (poR 1 SK r) := by
  refine ctH_of (by decide +kernel) rfl (Nat.le_of_ble_eq_true rfl) ?_
  show KJ X mL_appeal 7 false (poR 1 SK r) SK 1 6 0 [(0, .ref (X.1 + 0)), (1, .int (iI p1)), (2, .int (iI p2)), (3, .ref (X.1 + 260))] [] μ
  refine K_aload_n (md := mL_appeal) (pc := 0) 3 (kTab_at (pc := 0) tL_appeal_ok 0 rfl) rfl ?_
  refine K_iconst (md := mL_appeal) (pc := 1) (x := 0) (kTab_at (pc := 1) tL_appeal_ok 1 rfl) rfl ?_
  refine K_aload_n (md := mL_appeal) (pc := 2) 0 (kTab_at (pc := 2) tL_appeal_ok 2 rfl) rfl ?_
  refine K_iload_n (md := mL_appeal) (pc := 3) 1 (kTab_at (pc := 3) tL_appeal_ok 3 rfl) rfl ?_
  refine K_iload_n (md := mL_appeal) (pc := 4) 2 (kTab_at (pc := 4) tL_appeal_ok 4 rfl) rfl ?_
  refine K_callHp (md := mL_appeal) (pc := 5) (st := [.int (iI 0), .ref (X.1 + 260)]) (b := 0) (kTab_at (pc := 5) tL_appeal_ok 5 rfl) mv_L_111 sk_0 rfl (Nat.le_of_ble_eq_true rfl) (by decide) (c_X10_appeal X p1 p2 μ) ht_appeal h ?_ ?_ rfl
  · intro μ' v g hr
    subst hr
    show KJ X mL_appeal 7 false _ SK 0 0 8 [(0, .ref (X.1 + 0)), (1, .int (iI p1)), (2, .int (iI p2)), (3, .ref (X.1 + 260))] [.int (iI v), .int (iI 0), .ref (X.1 + 260)] μ'
    refine K_i2l (md := mL_appeal) (pc := 8) (r := (μ', 0, 0)) (k0 := some (μ', 0, 0)) (kTab_at (pc := 8) tL_appeal_ok 6 rfl) (hg_0 g) (fun _ => ?_)
    refine K_last (md := mL_appeal) (pc := 9) (r := (μ', 0, 0)) (k0 := fun _ => some (μ', 0, 0)) (kTab_at (pc := 9) tL_appeal_ok 7 rfl) sk_260 (by decide) wr_260 (fun _ => ?_)
    refine K_goto (md := mL_appeal) (pc := 10) (tgt := 21) (kTab_at (pc := 10) tL_appeal_ok 8 rfl) rfl ?_
    refine K_iconst (md := mL_appeal) (pc := 21) (x := 0) (kTab_at (pc := 21) tL_appeal_ok 15 rfl) rfl ?_
    exact K_iret (md := mL_appeal) (pc := 22) (kTab_at (pc := 22) tL_appeal_ok 16 rfl) rfl rfl ⟨rfl, rfl, rfl, rfl⟩
  · intro i x q μ' hx hr
    subst hr
    match i, hx with
    | 0, hx =>
      cases hx
      show KJ X mL_appeal 7 false _ SK 0 0 13 [(0, .ref (X.1 + 0)), (1, .int (iI p1)), (2, .int (iI p2)), (3, .ref (X.1 + 260))] [.ref q] μ'
      refine K_astore (md := mL_appeal) (pc := 13) (l' := (4, .ref q) :: [(0, .ref (X.1 + 0)), (1, .int (iI p1)), (2, .int (iI p2)), (3, .ref (X.1 + 260))]) (kTab_at (pc := 13) tL_appeal_ok 9 rfl) (Nat.le_of_ble_eq_true rfl) rfl ?_
      refine K_iconst (md := mL_appeal) (pc := 15) (x := 1) (kTab_at (pc := 15) tL_appeal_ok 10 rfl) rfl ?_
      exact K_iret (md := mL_appeal) (pc := 16) (kTab_at (pc := 16) tL_appeal_ok 11 rfl) rfl rfl ⟨rfl, rfl, rfl, rfl⟩
    | 1, hx =>
      cases hx
      show KJ X mL_appeal 7 false _ SK 0 0 17 [(0, .ref (X.1 + 0)), (1, .int (iI p1)), (2, .int (iI p2)), (3, .ref (X.1 + 260))] [.ref q] μ'
      refine K_astore (md := mL_appeal) (pc := 17) (l' := (4, .ref q) :: [(0, .ref (X.1 + 0)), (1, .int (iI p1)), (2, .int (iI p2)), (3, .ref (X.1 + 260))]) (kTab_at (pc := 17) tL_appeal_ok 12 rfl) (Nat.le_of_ble_eq_true rfl) rfl ?_
      refine K_iconst (md := mL_appeal) (pc := 19) (x := 2) (kTab_at (pc := 19) tL_appeal_ok 13 rfl) rfl ?_
      exact K_iret (md := mL_appeal) (pc := 20) (kTab_at (pc := 20) tL_appeal_ok 14 rfl) rfl rfl ⟨rfl, rfl, rfl, rfl⟩
    | n + 2, hx => cases hx
def hh_remark : List (Nat × Nat × Nat × Nat) := [(0, 14, 17, 13), (0, 14, 21, 15), (0, 14, 25, 17)]
theorem ht_remark : hTb RL 9 (tableOf hh_remark) [2, 1, 4] := (hTb_cons (a := 0) (b := 14) (c := 17) (by decide) rfl (by decide) cl_L_13 nc_2 (hTb_cons (a := 0) (b := 14) (c := 21) (by decide) rfl (by decide) cl_L_15 nc_1 (hTb_cons (a := 0) (b := 14) (c := 25) (by decide) rfl (by decide) cl_L_17 nc_4 hTb_nil)))
set_option maxRecDepth 100000 in
theorem h_remark (X : kX) (p1 : Int) (p2 : Int) (p3 : Int) (p4 : Int) (μ : Mu) (r : Res) (h : hp 0 [2, 1, 4] (f_X10_remark p1 p2 p3 p4 μ) = some r) : CtH X mL_remark hh_remark 7 SK false μ 1 6 [.ref (X.1 + 0), .int (iI p1), .int (iI p2), .int (iI p3), .int (iI p4), .ref (X.1 + 260)] (poR 1 SK r) := by
  refine ctH_of (by decide +kernel) rfl (Nat.le_of_ble_eq_true rfl) ?_
  show KJ X mL_remark 7 false (poR 1 SK r) SK 1 6 0 [(0, .ref (X.1 + 0)), (1, .int (iI p1)), (2, .int (iI p2)), (3, .int (iI p3)), (4, .int (iI p4)), (5, .ref (X.1 + 260))] [] μ
  refine K_aload (md := mL_remark) (pc := 0) 5 (kTab_at (pc := 0) tL_remark_ok 0 rfl) rfl ?_
  refine K_iconst (md := mL_remark) (pc := 2) (x := 0) (kTab_at (pc := 2) tL_remark_ok 1 rfl) rfl ?_
  refine K_aload_n (md := mL_remark) (pc := 3) 0 (kTab_at (pc := 3) tL_remark_ok 2 rfl) rfl ?_
  refine K_iload_n (md := mL_remark) (pc := 4) 1 (kTab_at (pc := 4) tL_remark_ok 3 rfl) rfl ?_
  refine K_iload_n (md := mL_remark) (pc := 5) 2 (kTab_at (pc := 5) tL_remark_ok 4 rfl) rfl ?_
  refine K_iload_n (md := mL_remark) (pc := 6) 3 (kTab_at (pc := 6) tL_remark_ok 5 rfl) rfl ?_
  refine K_iload (md := mL_remark) (pc := 7) 4 (kTab_at (pc := 7) tL_remark_ok 6 rfl) rfl ?_
  refine K_callHp (md := mL_remark) (pc := 9) (st := [.int (iI 0), .ref (X.1 + 260)]) (b := 0) (kTab_at (pc := 9) tL_remark_ok 7 rfl) mv_L_114 sk_0 rfl (Nat.le_of_ble_eq_true rfl) (by decide) (c_X10_remark X p1 p2 p3 p4 μ) ht_remark h ?_ ?_ rfl
  · intro μ' v g hr
    subst hr
    show KJ X mL_remark 7 false _ SK 0 0 12 [(0, .ref (X.1 + 0)), (1, .int (iI p1)), (2, .int (iI p2)), (3, .int (iI p3)), (4, .int (iI p4)), (5, .ref (X.1 + 260))] [.int (iI v), .int (iI 0), .ref (X.1 + 260)] μ'
    refine K_i2l (md := mL_remark) (pc := 12) (r := (μ', 0, 0)) (k0 := some (μ', 0, 0)) (kTab_at (pc := 12) tL_remark_ok 8 rfl) (hg_0 g) (fun _ => ?_)
    refine K_last (md := mL_remark) (pc := 13) (r := (μ', 0, 0)) (k0 := fun _ => some (μ', 0, 0)) (kTab_at (pc := 13) tL_remark_ok 9 rfl) sk_260 (by decide) wr_260 (fun _ => ?_)
    refine K_goto (md := mL_remark) (pc := 14) (tgt := 29) (kTab_at (pc := 14) tL_remark_ok 10 rfl) rfl ?_
    refine K_iconst (md := mL_remark) (pc := 29) (x := 0) (kTab_at (pc := 29) tL_remark_ok 20 rfl) rfl ?_
    exact K_iret (md := mL_remark) (pc := 30) (kTab_at (pc := 30) tL_remark_ok 21 rfl) rfl rfl ⟨rfl, rfl, rfl, rfl⟩
  · intro i x q μ' hx hr
    subst hr
    match i, hx with
    | 0, hx =>
      cases hx
      show KJ X mL_remark 7 false _ SK 0 0 17 [(0, .ref (X.1 + 0)), (1, .int (iI p1)), (2, .int (iI p2)), (3, .int (iI p3)), (4, .int (iI p4)), (5, .ref (X.1 + 260))] [.ref q] μ'
      refine K_astore (md := mL_remark) (pc := 17) (l' := (6, .ref q) :: [(0, .ref (X.1 + 0)), (1, .int (iI p1)), (2, .int (iI p2)), (3, .int (iI p3)), (4, .int (iI p4)), (5, .ref (X.1 + 260))]) (kTab_at (pc := 17) tL_remark_ok 11 rfl) (Nat.le_of_ble_eq_true rfl) rfl ?_
      refine K_iconst (md := mL_remark) (pc := 19) (x := 1) (kTab_at (pc := 19) tL_remark_ok 12 rfl) rfl ?_
      exact K_iret (md := mL_remark) (pc := 20) (kTab_at (pc := 20) tL_remark_ok 13 rfl) rfl rfl ⟨rfl, rfl, rfl, rfl⟩
    | 1, hx =>
      cases hx
      show KJ X mL_remark 7 false _ SK 0 0 21 [(0, .ref (X.1 + 0)), (1, .int (iI p1)), (2, .int (iI p2)), (3, .int (iI p3)), (4, .int (iI p4)), (5, .ref (X.1 + 260))] [.ref q] μ'
      refine K_astore (md := mL_remark) (pc := 21) (l' := (6, .ref q) :: [(0, .ref (X.1 + 0)), (1, .int (iI p1)), (2, .int (iI p2)), (3, .int (iI p3)), (4, .int (iI p4)), (5, .ref (X.1 + 260))]) (kTab_at (pc := 21) tL_remark_ok 14 rfl) (Nat.le_of_ble_eq_true rfl) rfl ?_
      refine K_iconst (md := mL_remark) (pc := 23) (x := 2) (kTab_at (pc := 23) tL_remark_ok 15 rfl) rfl ?_
      exact K_iret (md := mL_remark) (pc := 24) (kTab_at (pc := 24) tL_remark_ok 16 rfl) rfl rfl ⟨rfl, rfl, rfl, rfl⟩
    | 2, hx =>
      cases hx
      show KJ X mL_remark 7 false _ SK 0 0 25 [(0, .ref (X.1 + 0)), (1, .int (iI p1)), (2, .int (iI p2)), (3, .int (iI p3)), (4, .int (iI p4)), (5, .ref (X.1 + 260))] [.ref q] μ'
      refine K_astore (md := mL_remark) (pc := 25) (l' := (6, .ref q) :: [(0, .ref (X.1 + 0)), (1, .int (iI p1)), (2, .int (iI p2)), (3, .int (iI p3)), (4, .int (iI p4)), (5, .ref (X.1 + 260))]) (kTab_at (pc := 25) tL_remark_ok 17 rfl) (Nat.le_of_ble_eq_true rfl) rfl ?_
      refine K_iconst (md := mL_remark) (pc := 27) (x := 3) (kTab_at (pc := 27) tL_remark_ok 18 rfl) rfl ?_
      exact K_iret (md := mL_remark) (pc := 28) (kTab_at (pc := 28) tL_remark_ok 19 rfl) rfl rfl ⟨rfl, rfl, rfl, rfl⟩
    | n + 3, hx => cases hx
def hh_account : List (Nat × Nat × Nat × Nat) := [(0, 9, 12, 15)]
theorem ht_account : hTb RL 4 (tableOf hh_account) [1] := (hTb_cons (a := 0) (b := 9) (c := 12) (by decide) rfl (by decide) cl_L_15 nc_1 hTb_nil)
set_option maxRecDepth 100000 in
theorem h_account (X : kX) (p1 : Int) (μ : Mu) (r : Res) (h : hp 0 [1] (f_X10_account p1 μ) = some r) : CtH X mL_account hh_account 7 SK false μ 1 6 [.ref (X.1 + 0), .int (iI p1), .ref (X.1 + 260)] (poR 1 SK r) := by
  refine ctH_of (by decide +kernel) rfl (Nat.le_of_ble_eq_true rfl) ?_
  show KJ X mL_account 7 false (poR 1 SK r) SK 1 6 0 [(0, .ref (X.1 + 0)), (1, .int (iI p1)), (2, .ref (X.1 + 260))] [] μ
  refine K_aload_n (md := mL_account) (pc := 0) 2 (kTab_at (pc := 0) tL_account_ok 0 rfl) rfl ?_
  refine K_iconst (md := mL_account) (pc := 1) (x := 0) (kTab_at (pc := 1) tL_account_ok 1 rfl) rfl ?_
  refine K_aload_n (md := mL_account) (pc := 2) 0 (kTab_at (pc := 2) tL_account_ok 2 rfl) rfl ?_
  refine K_iload_n (md := mL_account) (pc := 3) 1 (kTab_at (pc := 3) tL_account_ok 3 rfl) rfl ?_
  refine K_callHp (md := mL_account) (pc := 4) (st := [.int (iI 0), .ref (X.1 + 260)]) (b := 0) (kTab_at (pc := 4) tL_account_ok 4 rfl) mv_L_117 sk_0 rfl (Nat.le_of_ble_eq_true rfl) (by decide) (c_X10_account X p1 μ) ht_account h ?_ ?_ rfl
  · intro μ' v g hr
    subst hr
    show KJ X mL_account 7 false _ SK 0 0 7 [(0, .ref (X.1 + 0)), (1, .int (iI p1)), (2, .ref (X.1 + 260))] [.int (iI v), .int (iI 0), .ref (X.1 + 260)] μ'
    refine K_i2l (md := mL_account) (pc := 7) (r := (μ', 0, 0)) (k0 := some (μ', 0, 0)) (kTab_at (pc := 7) tL_account_ok 5 rfl) (hg_0 g) (fun _ => ?_)
    refine K_last (md := mL_account) (pc := 8) (r := (μ', 0, 0)) (k0 := fun _ => some (μ', 0, 0)) (kTab_at (pc := 8) tL_account_ok 6 rfl) sk_260 (by decide) wr_260 (fun _ => ?_)
    refine K_goto (md := mL_account) (pc := 9) (tgt := 15) (kTab_at (pc := 9) tL_account_ok 7 rfl) rfl ?_
    refine K_iconst (md := mL_account) (pc := 15) (x := 0) (kTab_at (pc := 15) tL_account_ok 11 rfl) rfl ?_
    exact K_iret (md := mL_account) (pc := 16) (kTab_at (pc := 16) tL_account_ok 12 rfl) rfl rfl ⟨rfl, rfl, rfl, rfl⟩
  · intro i x q μ' hx hr
    subst hr
    match i, hx with
    | 0, hx =>
      cases hx
      show KJ X mL_account 7 false _ SK 0 0 12 [(0, .ref (X.1 + 0)), (1, .int (iI p1)), (2, .ref (X.1 + 260))] [.ref q] μ'
      refine K_astore_n (md := mL_account) (pc := 12) (l' := (3, .ref q) :: [(0, .ref (X.1 + 0)), (1, .int (iI p1)), (2, .ref (X.1 + 260))]) (kTab_at (pc := 12) tL_account_ok 8 rfl) (Nat.le_of_ble_eq_true rfl) rfl ?_
      refine K_iconst (md := mL_account) (pc := 13) (x := 1) (kTab_at (pc := 13) tL_account_ok 9 rfl) rfl ?_
      exact K_iret (md := mL_account) (pc := 14) (kTab_at (pc := 14) tL_account_ok 10 rfl) rfl rfl ⟨rfl, rfl, rfl, rfl⟩
    | n + 1, hx => cases hx
def hh_report : List (Nat × Nat × Nat × Nat) := [(0, 10, 13, 52), (0, 10, 17, 15)]
theorem ht_report : hTb RL 5 (tableOf hh_report) [5, 1] := (hTb_cons (a := 0) (b := 10) (c := 13) (by decide) rfl (by decide) cl_L_52 nc_5 (hTb_cons (a := 0) (b := 10) (c := 17) (by decide) rfl (by decide) cl_L_15 nc_1 hTb_nil))
set_option maxRecDepth 100000 in
theorem h_report (X : kX) (p1 : Int) (p2 : Int) (μ : Mu) (r : Res) (h : hp 0 [5, 1] (f_X10_report p1 p2 μ) = some r) : CtH X mL_report hh_report 7 SK false μ 1 6 [.ref (X.1 + 0), .int (iI p1), .int (iI p2), .ref (X.1 + 260)] (poR 1 SK r) := by
  refine ctH_of (by decide +kernel) rfl (Nat.le_of_ble_eq_true rfl) ?_
  show KJ X mL_report 7 false (poR 1 SK r) SK 1 6 0 [(0, .ref (X.1 + 0)), (1, .int (iI p1)), (2, .int (iI p2)), (3, .ref (X.1 + 260))] [] μ
  refine K_aload_n (md := mL_report) (pc := 0) 3 (kTab_at (pc := 0) tL_report_ok 0 rfl) rfl ?_
  refine K_iconst (md := mL_report) (pc := 1) (x := 0) (kTab_at (pc := 1) tL_report_ok 1 rfl) rfl ?_
  refine K_aload_n (md := mL_report) (pc := 2) 0 (kTab_at (pc := 2) tL_report_ok 2 rfl) rfl ?_
  refine K_iload_n (md := mL_report) (pc := 3) 1 (kTab_at (pc := 3) tL_report_ok 3 rfl) rfl ?_
  refine K_iload_n (md := mL_report) (pc := 4) 2 (kTab_at (pc := 4) tL_report_ok 4 rfl) rfl ?_
  refine K_callHp (md := mL_report) (pc := 5) (st := [.int (iI 0), .ref (X.1 + 260)]) (b := 0) (kTab_at (pc := 5) tL_report_ok 5 rfl) mv_L_120 sk_0 rfl (Nat.le_of_ble_eq_true rfl) (by decide) (c_X10_report X p1 p2 μ) ht_report h ?_ ?_ rfl
  · intro μ' v g hr
    subst hr
    show KJ X mL_report 7 false _ SK 0 0 8 [(0, .ref (X.1 + 0)), (1, .int (iI p1)), (2, .int (iI p2)), (3, .ref (X.1 + 260))] [.int (iI v), .int (iI 0), .ref (X.1 + 260)] μ'
    refine K_i2l (md := mL_report) (pc := 8) (r := (μ', 0, 0)) (k0 := some (μ', 0, 0)) (kTab_at (pc := 8) tL_report_ok 6 rfl) (hg_0 g) (fun _ => ?_)
    refine K_last (md := mL_report) (pc := 9) (r := (μ', 0, 0)) (k0 := fun _ => some (μ', 0, 0)) (kTab_at (pc := 9) tL_report_ok 7 rfl) sk_260 (by decide) wr_260 (fun _ => ?_)
    refine K_goto (md := mL_report) (pc := 10) (tgt := 21) (kTab_at (pc := 10) tL_report_ok 8 rfl) rfl ?_
    refine K_iconst (md := mL_report) (pc := 21) (x := 0) (kTab_at (pc := 21) tL_report_ok 15 rfl) rfl ?_
    exact K_iret (md := mL_report) (pc := 22) (kTab_at (pc := 22) tL_report_ok 16 rfl) rfl rfl ⟨rfl, rfl, rfl, rfl⟩
  · intro i x q μ' hx hr
    subst hr
    match i, hx with
    | 0, hx =>
      cases hx
      show KJ X mL_report 7 false _ SK 0 0 13 [(0, .ref (X.1 + 0)), (1, .int (iI p1)), (2, .int (iI p2)), (3, .ref (X.1 + 260))] [.ref q] μ'
      refine K_astore (md := mL_report) (pc := 13) (l' := (4, .ref q) :: [(0, .ref (X.1 + 0)), (1, .int (iI p1)), (2, .int (iI p2)), (3, .ref (X.1 + 260))]) (kTab_at (pc := 13) tL_report_ok 9 rfl) (Nat.le_of_ble_eq_true rfl) rfl ?_
      refine K_iconst (md := mL_report) (pc := 15) (x := 1) (kTab_at (pc := 15) tL_report_ok 10 rfl) rfl ?_
      exact K_iret (md := mL_report) (pc := 16) (kTab_at (pc := 16) tL_report_ok 11 rfl) rfl rfl ⟨rfl, rfl, rfl, rfl⟩
    | 1, hx =>
      cases hx
      show KJ X mL_report 7 false _ SK 0 0 17 [(0, .ref (X.1 + 0)), (1, .int (iI p1)), (2, .int (iI p2)), (3, .ref (X.1 + 260))] [.ref q] μ'
      refine K_astore (md := mL_report) (pc := 17) (l' := (4, .ref q) :: [(0, .ref (X.1 + 0)), (1, .int (iI p1)), (2, .int (iI p2)), (3, .ref (X.1 + 260))]) (kTab_at (pc := 17) tL_report_ok 12 rfl) (Nat.le_of_ble_eq_true rfl) rfl ?_
      refine K_iconst (md := mL_report) (pc := 19) (x := 2) (kTab_at (pc := 19) tL_report_ok 13 rfl) rfl ?_
      exact K_iret (md := mL_report) (pc := 20) (kTab_at (pc := 20) tL_report_ok 14 rfl) rfl rfl ⟨rfl, rfl, rfl, rfl⟩
    | n + 2, hx => cases hx
def hh_count : List (Nat × Nat × Nat × Nat) := [(0, 9, 12, 15)]
theorem ht_count : hTb RL 4 (tableOf hh_count) [1] := (hTb_cons (a := 0) (b := 9) (c := 12) (by decide) rfl (by decide) cl_L_15 nc_1 hTb_nil)
set_option maxRecDepth 100000 in
theorem h_count (X : kX) (p1 : Int) (μ : Mu) (r : Res) (h : hp 0 [1] (f_X10_count p1 μ) = some r) : CtH X mL_count hh_count 7 SK false μ 1 6 [.ref (X.1 + 0), .int (iI p1), .ref (X.1 + 260)] (poR 1 SK r) := by
  refine ctH_of (by decide +kernel) rfl (Nat.le_of_ble_eq_true rfl) ?_
  show KJ X mL_count 7 false (poR 1 SK r) SK 1 6 0 [(0, .ref (X.1 + 0)), (1, .int (iI p1)), (2, .ref (X.1 + 260))] [] μ
  refine K_aload_n (md := mL_count) (pc := 0) 2 (kTab_at (pc := 0) tL_count_ok 0 rfl) rfl ?_
  refine K_iconst (md := mL_count) (pc := 1) (x := 0) (kTab_at (pc := 1) tL_count_ok 1 rfl) rfl ?_
  refine K_aload_n (md := mL_count) (pc := 2) 0 (kTab_at (pc := 2) tL_count_ok 2 rfl) rfl ?_
  refine K_iload_n (md := mL_count) (pc := 3) 1 (kTab_at (pc := 3) tL_count_ok 3 rfl) rfl ?_
  refine K_callHp (md := mL_count) (pc := 4) (st := [.int (iI 0), .ref (X.1 + 260)]) (b := 0) (kTab_at (pc := 4) tL_count_ok 4 rfl) mv_L_123 sk_0 rfl (Nat.le_of_ble_eq_true rfl) (by decide) (c_X10_count X p1 μ) ht_count h ?_ ?_ rfl
  · intro μ' v g hr
    subst hr
    show KJ X mL_count 7 false _ SK 0 0 7 [(0, .ref (X.1 + 0)), (1, .int (iI p1)), (2, .ref (X.1 + 260))] [.int (iI v), .int (iI 0), .ref (X.1 + 260)] μ'
    refine K_i2l (md := mL_count) (pc := 7) (r := (μ', 0, 0)) (k0 := some (μ', 0, 0)) (kTab_at (pc := 7) tL_count_ok 5 rfl) (hg_0 g) (fun _ => ?_)
    refine K_last (md := mL_count) (pc := 8) (r := (μ', 0, 0)) (k0 := fun _ => some (μ', 0, 0)) (kTab_at (pc := 8) tL_count_ok 6 rfl) sk_260 (by decide) wr_260 (fun _ => ?_)
    refine K_goto (md := mL_count) (pc := 9) (tgt := 15) (kTab_at (pc := 9) tL_count_ok 7 rfl) rfl ?_
    refine K_iconst (md := mL_count) (pc := 15) (x := 0) (kTab_at (pc := 15) tL_count_ok 11 rfl) rfl ?_
    exact K_iret (md := mL_count) (pc := 16) (kTab_at (pc := 16) tL_count_ok 12 rfl) rfl rfl ⟨rfl, rfl, rfl, rfl⟩
  · intro i x q μ' hx hr
    subst hr
    match i, hx with
    | 0, hx =>
      cases hx
      show KJ X mL_count 7 false _ SK 0 0 12 [(0, .ref (X.1 + 0)), (1, .int (iI p1)), (2, .ref (X.1 + 260))] [.ref q] μ'
      refine K_astore_n (md := mL_count) (pc := 12) (l' := (3, .ref q) :: [(0, .ref (X.1 + 0)), (1, .int (iI p1)), (2, .ref (X.1 + 260))]) (kTab_at (pc := 12) tL_count_ok 8 rfl) (Nat.le_of_ble_eq_true rfl) rfl ?_
      refine K_iconst (md := mL_count) (pc := 13) (x := 1) (kTab_at (pc := 13) tL_count_ok 9 rfl) rfl ?_
      exact K_iret (md := mL_count) (pc := 14) (kTab_at (pc := 14) tL_count_ok 10 rfl) rfl rfl ⟨rfl, rfl, rfl, rfl⟩
    | n + 1, hx => cases hx
def hh_undo : List (Nat × Nat × Nat × Nat) := [(0, 8, 11, 19)]
theorem ht_undo : hTb RL 3 (tableOf hh_undo) [0] := (hTb_cons (a := 0) (b := 8) (c := 11) (by decide) rfl (by decide) cl_L_19 nc_0 hTb_nil)
set_option maxRecDepth 100000 in
theorem h_undo (X : kX)  (μ : Mu) (r : Res) (h : hp 0 [0] (f_X10_undo  μ) = some r) : CtH X mL_undo hh_undo 7 SK false μ 1 6 [.ref (X.1 + 0), .ref (X.1 + 260)] (poR 1 SK r) := by
  refine ctH_of (by decide +kernel) rfl (Nat.le_of_ble_eq_true rfl) ?_
  show KJ X mL_undo 7 false (poR 1 SK r) SK 1 6 0 [(0, .ref (X.1 + 0)), (1, .ref (X.1 + 260))] [] μ
  refine K_aload_n (md := mL_undo) (pc := 0) 1 (kTab_at (pc := 0) tL_undo_ok 0 rfl) rfl ?_
  refine K_iconst (md := mL_undo) (pc := 1) (x := 0) (kTab_at (pc := 1) tL_undo_ok 1 rfl) rfl ?_
  refine K_aload_n (md := mL_undo) (pc := 2) 0 (kTab_at (pc := 2) tL_undo_ok 2 rfl) rfl ?_
  refine K_callHp (md := mL_undo) (pc := 3) (st := [.int (iI 0), .ref (X.1 + 260)]) (b := 0) (kTab_at (pc := 3) tL_undo_ok 3 rfl) mv_L_126 sk_0 rfl (Nat.le_of_ble_eq_true rfl) (by decide) (c_X10_undo X  μ) ht_undo h ?_ ?_ rfl
  · intro μ' v g hr
    subst hr
    show KJ X mL_undo 7 false _ SK 0 0 6 [(0, .ref (X.1 + 0)), (1, .ref (X.1 + 260))] [.int (iI v), .int (iI 0), .ref (X.1 + 260)] μ'
    refine K_i2l (md := mL_undo) (pc := 6) (r := (μ', 0, 0)) (k0 := some (μ', 0, 0)) (kTab_at (pc := 6) tL_undo_ok 4 rfl) (hg_0 g) (fun _ => ?_)
    refine K_last (md := mL_undo) (pc := 7) (r := (μ', 0, 0)) (k0 := fun _ => some (μ', 0, 0)) (kTab_at (pc := 7) tL_undo_ok 5 rfl) sk_260 (by decide) wr_260 (fun _ => ?_)
    refine K_goto (md := mL_undo) (pc := 8) (tgt := 14) (kTab_at (pc := 8) tL_undo_ok 6 rfl) rfl ?_
    refine K_iconst (md := mL_undo) (pc := 14) (x := 0) (kTab_at (pc := 14) tL_undo_ok 10 rfl) rfl ?_
    exact K_iret (md := mL_undo) (pc := 15) (kTab_at (pc := 15) tL_undo_ok 11 rfl) rfl rfl ⟨rfl, rfl, rfl, rfl⟩
  · intro i x q μ' hx hr
    subst hr
    match i, hx with
    | 0, hx =>
      cases hx
      show KJ X mL_undo 7 false _ SK 0 0 11 [(0, .ref (X.1 + 0)), (1, .ref (X.1 + 260))] [.ref q] μ'
      refine K_astore_n (md := mL_undo) (pc := 11) (l' := (2, .ref q) :: [(0, .ref (X.1 + 0)), (1, .ref (X.1 + 260))]) (kTab_at (pc := 11) tL_undo_ok 7 rfl) (Nat.le_of_ble_eq_true rfl) rfl ?_
      refine K_iconst (md := mL_undo) (pc := 12) (x := 1) (kTab_at (pc := 12) tL_undo_ok 8 rfl) rfl ?_
      exact K_iret (md := mL_undo) (pc := 13) (kTab_at (pc := 13) tL_undo_ok 9 rfl) rfl rfl ⟨rfl, rfl, rfl, rfl⟩
    | n + 1, hx => cases hx
def hh_restore : List (Nat × Nat × Nat × Nat) := [(0, 8, 11, 19)]
theorem ht_restore : hTb RL 3 (tableOf hh_restore) [0] := (hTb_cons (a := 0) (b := 8) (c := 11) (by decide) rfl (by decide) cl_L_19 nc_0 hTb_nil)
set_option maxRecDepth 100000 in
theorem h_restore (X : kX)  (μ : Mu) (r : Res) (h : hp 0 [0] (f_X10_restore  μ) = some r) : CtH X mL_restore hh_restore 7 SK false μ 1 6 [.ref (X.1 + 0), .ref (X.1 + 260)] (poR 1 SK r) := by
  refine ctH_of (by decide +kernel) rfl (Nat.le_of_ble_eq_true rfl) ?_
  show KJ X mL_restore 7 false (poR 1 SK r) SK 1 6 0 [(0, .ref (X.1 + 0)), (1, .ref (X.1 + 260))] [] μ
  refine K_aload_n (md := mL_restore) (pc := 0) 1 (kTab_at (pc := 0) tL_restore_ok 0 rfl) rfl ?_
  refine K_iconst (md := mL_restore) (pc := 1) (x := 0) (kTab_at (pc := 1) tL_restore_ok 1 rfl) rfl ?_
  refine K_aload_n (md := mL_restore) (pc := 2) 0 (kTab_at (pc := 2) tL_restore_ok 2 rfl) rfl ?_
  refine K_callHp (md := mL_restore) (pc := 3) (st := [.int (iI 0), .ref (X.1 + 260)]) (b := 0) (kTab_at (pc := 3) tL_restore_ok 3 rfl) mv_L_129 sk_0 rfl (Nat.le_of_ble_eq_true rfl) (by decide) (c_X10_restore X  μ) ht_restore h ?_ ?_ rfl
  · intro μ' v g hr
    subst hr
    show KJ X mL_restore 7 false _ SK 0 0 6 [(0, .ref (X.1 + 0)), (1, .ref (X.1 + 260))] [.int (iI v), .int (iI 0), .ref (X.1 + 260)] μ'
    refine K_i2l (md := mL_restore) (pc := 6) (r := (μ', 0, 0)) (k0 := some (μ', 0, 0)) (kTab_at (pc := 6) tL_restore_ok 4 rfl) (hg_0 g) (fun _ => ?_)
    refine K_last (md := mL_restore) (pc := 7) (r := (μ', 0, 0)) (k0 := fun _ => some (μ', 0, 0)) (kTab_at (pc := 7) tL_restore_ok 5 rfl) sk_260 (by decide) wr_260 (fun _ => ?_)
    refine K_goto (md := mL_restore) (pc := 8) (tgt := 14) (kTab_at (pc := 8) tL_restore_ok 6 rfl) rfl ?_
    refine K_iconst (md := mL_restore) (pc := 14) (x := 0) (kTab_at (pc := 14) tL_restore_ok 10 rfl) rfl ?_
    exact K_iret (md := mL_restore) (pc := 15) (kTab_at (pc := 15) tL_restore_ok 11 rfl) rfl rfl ⟨rfl, rfl, rfl, rfl⟩
  · intro i x q μ' hx hr
    subst hr
    match i, hx with
    | 0, hx =>
      cases hx
      show KJ X mL_restore 7 false _ SK 0 0 11 [(0, .ref (X.1 + 0)), (1, .ref (X.1 + 260))] [.ref q] μ'
      refine K_astore_n (md := mL_restore) (pc := 11) (l' := (2, .ref q) :: [(0, .ref (X.1 + 0)), (1, .ref (X.1 + 260))]) (kTab_at (pc := 11) tL_restore_ok 7 rfl) (Nat.le_of_ble_eq_true rfl) rfl ?_
      refine K_iconst (md := mL_restore) (pc := 12) (x := 1) (kTab_at (pc := 12) tL_restore_ok 8 rfl) rfl ?_
      exact K_iret (md := mL_restore) (pc := 13) (kTab_at (pc := 13) tL_restore_ok 9 rfl) rfl rfl ⟨rfl, rfl, rfl, rfl⟩
    | n + 1, hx => cases hx

/-! the share's bits -/
def Fn (n E T : Nat) : Prop := n = E * 8388608 + T ∧ 1 ≤ E ∧ E ≤ 254 ∧ T < 8388608
theorem f_dec {n E T : Nat} (h : Fn n E T) : FP.Core.decode FP.Core.b32 n = .fin false (8388608 + T) ((E : Int) - 150) := by
  obtain ⟨rfl, h1, h2, h3⟩ := h
  have t : FP.Core.b32.tails = 8388608 := rfl
  have e : FP.Core.b32.exps = 256 := rfl
  have q : FP.Core.b32.qmin = -149 := rfl
  have a1 : (E * 8388608 + T) / 8388608 = E := by omega
  have a2 : (E * 8388608 + T) % 8388608 = T := by omega
  have a3 : E % 256 = E := by omega
  have a4 : E / 256 = 0 := by omega
  unfold FP.Core.decode FP.Core.fieldE FP.Core.fieldT FP.Core.fieldS
  rw [t, e, q, a1, a2, a3, a4, if_neg (by omega), if_neg (by omega)]
  congr 1
  omega
theorem f_ckn {α : Type} {x : UInt32} {k : UInt32 → Option α} (h : x.toNat ≤ 2139095040) : f_ck x k = k x := by
  unfold f_ck
  rw [if_pos]
  rw [UInt32.le_iff_toNat_le, UInt32.toNat_and]
  exact Nat.le_trans Nat.and_le_left h
theorem f_f2d {x : UInt32} {E T : Nat} (h : Fn x.toNat E T) : Dn (FP.f2d x).toNat (E + 896) (T * 536870912) := by
  have h1 := h.2.1
  have h2 := h.2.2.1
  have h3 := h.2.2.2
  have hn : FP.Core.fIsNaN x = false := by
    unfold FP.Core.fIsNaN FP.Core.isNaN
    rw [f_dec h]
    exact decide_eq_false (fun w => by cases w)
  unfold FP.f2d
  rw [hn, if_neg (by decide)]
  have hd : FP.Core.round FP.Core.b64 (FP.Core.decode FP.Core.b32 x.toNat) = FP.Core.roundRatio FP.Core.b64 false (8388608 + T) 1 ((E : Int) - 150) := by
    rw [f_dec h]; rfl
  have k1 : 2 ^ 23 ≤ 8388608 + T := by omega
  have k2 : 8388608 + T < 2 ^ (23 + 1) := by omega
  have d1 := d_mk (hd.trans (f_small (e := (E : Int) - 150) k1 k2 (by omega) (by omega))) (f_shift k1 k2 (by omega)) (by omega)
  exact d1.to (by omega) (by omega)
theorem c_fbits {x : UInt32} {E T : Nat} (μ : Mu) (h : Fn x.toNat E T) (hE : 50 ≤ E ∧ E ≤ 250) : f_X10_floatBits x μ = some (μ, 0, (x.toNat : Int)) := by
  have d := f_f2d h
  have hl := d.lt
  have h3 := h.2.2.2
  have hx := h.1
  have hd := d.1
  unfold f_X10_floatBits f_X10_floatBits_25
  rw [d_ckn (by omega), c_dbits μ d (by omega), p_rb, p_leq (by omega), if_neg (by omega), shr_bits (by omega)]
  congr 3
  omega
theorem c_fbits0 (μ : Mu) : f_X10_floatBits 0 μ = some (μ, 0, 0) := by
  have e : FP.f2d 0 = 0 := by decide +kernel
  unfold f_X10_floatBits f_X10_floatBits_25
  rw [e, d_ckn (by decide), c_dbits0, p_rb, p_leq (by omega), if_pos rfl]
theorem fcI_of {op : CmpOp} {x y : UInt32} {o : Ordering} (h : FP.fcmp x y = some o) : fcI op x y = cvO o := by
  unfold fcI
  rw [h]
  cases o <;> rfl
theorem b_int32 {x : UInt32} (hn : x.toNat < 2147483648) : x.toInt32.toInt = (x.toNat : Int) := by
  show x.toBitVec.toInt = _
  rw [BitVec.toInt_eq_toNat_of_lt (show 2 * x.toNat < 2 ^ 32 by omega)]; rfl
theorem r_fbits {x : UInt32} {E T : Nat} (μ : Mu) (h : Fn x.toNat E T) : f_Jxf58ca_floatToIntBits_5c35a x μ = some (μ, 0, (x.toNat : Int)) := by
  have hx := h.1
  have h2 := h.2.2.1
  have h3 := h.2.2.2
  unfold f_Jxf58ca_floatToIntBits_5c35a f_Jxf58ca_isNaN_12338 f_Jxf58ca_isNaN_12338_11
  have h0 : fcI .l x x = 0 := fcI_of (o := .eq) (by
    show FP.Core.order (FP.Core.decode FP.Core.b32 x.toNat) (FP.Core.decode FP.Core.b32 x.toNat) = _
    rw [f_dec h]
    simp only [FP.Core.order]
    rw [cmp_int, if_neg (by omega), if_pos rfl])
  rw [h0, p_eq (by omega), if_pos rfl, p_Z0, p_rb, p_eq (by omega), if_pos rfl, b_int32 (by omega)]
theorem r_fbits0 (μ : Mu) : f_Jxf58ca_floatToIntBits_5c35a 0 μ = some (μ, 0, 0) := by
  unfold f_Jxf58ca_floatToIntBits_5c35a f_Jxf58ca_isNaN_12338 f_Jxf58ca_isNaN_12338_11
  have h0 : fcI .l 0 0 = 0 := by decide +kernel
  rw [h0, p_eq (by omega), if_pos rfl, p_Z0, p_rb, p_eq (by omega), if_pos rfl]; rfl
def D_f (V A : Int) : UInt32 := FP.fdiv (FP.i2f (iI V)) (FP.i2f (iI A))
def D_t (V A : Nat) : Bool := (D_f V A).toNat == 0 || (decide (419430400 ≤ (D_f V A).toNat) && decide ((D_f V A).toNat < 1677721600))
set_option maxRecDepth 100000 in
theorem D_tab : ((List.range 120).all fun a => (List.range (a + 2)).all fun v => D_t v (a + 1)) = true := by decide +kernel
theorem D_fok {V A : Int} (hV : 0 ≤ V ∧ V ≤ A) (hA : 1 ≤ A ∧ A ≤ 120) : (D_f V A).toNat ≤ 2139095040 ∧ ∀ μ, f_X10_floatBits (D_f V A) μ = some (μ, 0, ((D_f V A).toNat : Int)) ∧ f_Jxf58ca_floatToIntBits_5c35a (D_f V A) μ = some (μ, 0, ((D_f V A).toNat : Int)) := by
  have h1 := List.all_eq_true.mp D_tab (A.toNat - 1) (List.mem_range.mpr (by omega))
  have h2 := List.all_eq_true.mp h1 V.toNat (List.mem_range.mpr (by omega))
  unfold D_t at h2
  rw [show ((V.toNat : Nat) : Int) = V by omega, show ((A.toNat - 1 + 1 : Nat) : Int) = A by omega] at h2
  generalize D_f V A = x at h2 ⊢
  by_cases p : x.toNat = 0
  · have e : x = 0 := UInt32.toNat_inj.mp p
    subst e
    exact ⟨by decide, fun μ => ⟨c_fbits0 μ, r_fbits0 μ⟩⟩
  · have h3 : 419430400 ≤ x.toNat ∧ x.toNat < 1677721600 := by simpa [p] using h2
    have f : Fn x.toNat (x.toNat / 8388608) (x.toNat % 8388608) := ⟨by omega, by omega, by omega, by omega⟩
    exact ⟨by omega, fun μ => ⟨c_fbits μ f (by omega), r_fbits μ f⟩⟩
/-! the sum over the slots -/
def S_so (g : Nat → Int) (F : Int → Int) (s : Int) : Int := if s % 3 < ((S_ents g (s / 15) (s / 3 % 5)).length : Int) then F ((S_ents g (s / 15) (s / 3 % 5)).getD (s % 3).toNat 0) else 0
theorem sm_blk3 (G : Int → Int) : ∀ n : Nat, sm G (n * 3) 0 = sm (fun s => sm G 3 (3 * s)) n 0
  | 0 => by simp [sm]
  | n + 1 => by
    rw [show (n + 1) * 3 = n * 3 + 3 by omega, sm_add, sm_blk3 G n, sm_snoc (fun s => sm G 3 (3 * s)) n 0]
    rw [show (0 : Int) + ((n * 3 : Nat) : Int) = 3 * (0 + (n : Int)) by push_cast; omega]
theorem es_sum (g : Nat → Int) (F : Int → Int) (c q : Int) : ∀ (n : Nat) (e : Int), ((S_es g c q n e).map F).sum = sm (fun e => if S_is g c q e then F e else 0) n e
  | 0, e => rfl
  | n + 1, e => by
    have ih := es_sum g F c q n (e + 1)
    simp only [S_es, sm]
    by_cases p : S_is g c q e
    · rw [if_pos p, if_pos p, List.map_cons, List.sum_cons, ih]
    · rw [if_neg p, if_neg p, ih, Int.zero_add]
theorem l_sum3 (F : Int → Int) : ∀ (L : List Int), L.length ≤ 3 → sm (fun j => if j < (L.length : Int) then F (L.getD j.toNat 0) else 0) 3 0 = (L.map F).sum
  | [], _ => by simp [sm]
  | [a], _ => by simp [sm]
  | [a, b], _ => by simp [sm]
  | [a, b, c], _ => by simp [sm]
  | a :: b :: c :: d :: L, h => by simp at h
theorem sm_swap (F : Int → Int → Int) (m : Nat) (w : Int) : ∀ (n : Nat) (v : Int), sm (fun a => sm (fun b => F a b) m w) n v = sm (fun b => sm (fun a => F a b) n v) m w
  | 0, v => by
    simp only [sm]
    exact (sm_zero m w (fun _ _ _ => rfl)).symm
  | n + 1, v => by
    simp only [sm]
    rw [sm_swap F m w n (v + 1), sm_plus]
theorem sm_pick {x a : Int} : ∀ (n : Nat) (v : Int), v ≤ a → a < v + n → sm (fun c => if a = c then x else 0) n v = x
  | 0, v, h1, h2 => by omega
  | n + 1, v, h1, h2 => by
    simp only [sm]
    by_cases e : a = v
    · rw [if_pos e, sm_zero n (v + 1) (fun j y z => if_neg (by omega)), Int.add_zero]
    · rw [if_neg e, sm_pick n (v + 1) (by omega) (by omega), Int.zero_add]
theorem slots_sum {g : Nat → Int} (h : WF g) (h3 : WF3 g) (F : Int → Int) : sm (S_so g F) 120 0 = sm F (g 144).toNat 0 := by
  have ht := h.tot
  rw [show (120 : Nat) = 40 * 3 from rfl, sm_blk3]
  rw [sm_flat (F := fun c q => sm (fun e => if S_is g c q e then F e else 0) (g 144).toNat 0)]
  · have e1 : sm (fun c => sm (fun q => sm (fun e => if S_is g c q e then F e else 0) (g 144).toNat 0) 5 0) 8 0 = sm (fun c => sm (fun e => sm (fun q => if S_is g c q e then F e else 0) 5 0) (g 144).toNat 0) 8 0 := sm_congr 8 0 (fun c _ _ => sm_swap (fun q e => if S_is g c q e then F e else 0) _ 0 5 0)
    refine e1.trans ((sm_swap (fun c e => sm (fun q => if S_is g c q e then F e else 0) 5 0) _ 0 8 0).trans (sm_congr _ 0 (fun e x y => ?_)))
    have hee := h.ee (e := e) (by omega)
    refine Eq.trans (sm_congr 8 0 (fun c _ _ => ?_)) (sm_pick (a := S_ec g e) 8 0 (by omega) (by omega))
    show sm (fun q => if S_is g c q e then F e else 0) 5 0 = _
    by_cases p : S_ec g e = c
    · rw [if_pos p]
      refine Eq.trans (sm_congr 5 0 (fun q _ _ => ?_)) (sm_pick (a := S_eq g e) 5 0 (by omega) (by omega))
      show (if S_is g c q e then F e else 0) = _
      by_cases p2 : S_eq g e = q
      · rw [if_pos ⟨p, p2⟩, if_pos p2]
      · rw [if_neg (fun w => p2 w.2), if_neg p2]
    · rw [if_neg p]
      exact sm_zero 5 0 (fun q _ _ => if_neg (fun w => p w.1))
  · intro c q c1 c2 q1 q2
    have hl : (S_ents g c q).length ≤ 3 := by
      have := ents_len g c q
      have := h3 c q
      omega
    have e := l_sum3 F (S_ents g c q) hl
    refine Eq.trans ?_ (e.trans (es_sum g F c q _ 0))
    rw [show 3 * (c * 5 + q) = 0 + 3 * (c * 5 + q) by omega, sm_shift]
    refine sm_congr 3 0 (fun j x y => ?_)
    unfold S_so
    rw [show (j + 3 * (c * 5 + q)) % 3 = j by omega, show (j + 3 * (c * 5 + q)) / 15 = c by omega, show (j + 3 * (c * 5 + q)) / 3 % 5 = q by omega]

/-! the layout of the system; rows over it, in the form that the printed programs use -/
def rfX0 (b : Nat) : Nat → Option Nat := fun k => match k with
  | 0 => some (b + 1)
  | 1 => some (b + 2)
  | 2 => some (b + 3)
  | _ => none
def ksX0 (b : Nat) : List Kd := [.inr (0, rfX0 b), .inl (0, 40, fun _ => none), .inl (0, 40, fun _ => none), .inl (0, 40, fun _ => none)]
def rfX7 (b : Nat) : Nat → Option Nat := fun k => match k with
  | 0 => some (b + 1)
  | 1 => some (b + 2)
  | 2 => some (b + 3)
  | _ => none
def ksX7 (b : Nat) : List Kd := [.inr (7, rfX7 b), .inl (0, 5, fun _ => none), .inl (0, 25, fun _ => none), .inl (0, 100, fun _ => none)]
def rfX3 (b : Nat) : Nat → Option Nat := fun k => match k with
  | 0 => some (b + 1)
  | 1 => some (b + 2)
  | 2 => some (b + 3)
  | 3 => some (b + 4)
  | _ => none
def ksX3 (b : Nat) : List Kd := [.inr (3, rfX3 b), .inl (0, 40, fun _ => none), .inl (0, 120, fun _ => none), .inl (0, 120, fun _ => none), .inl (0, 120, fun _ => none)]
def rfX2 (b : Nat) : Nat → Option Nat := fun k => match k with
  | 0 => some (b + 1)
  | 1 => some (b + 2)
  | _ => none
def ksX2 (b : Nat) : List Kd := [.inr (2, rfX2 b), .inl (0, 5, fun _ => none), .inl (0, 5, fun _ => none)]
def rfX1 (b : Nat) : Nat → Option Nat := fun k => match k with
  | 0 => some (b + 1)
  | 1 => some (b + 2)
  | 2 => some (b + 3)
  | 3 => some (b + 4)
  | 4 => some (b + 5)
  | 5 => some (b + 6)
  | 6 => some (b + 7)
  | 7 => some (b + 11)
  | 8 => some (b + 16)
  | 9 => some (b + 19)
  | 11 => some (b + 23)
  | _ => none
def ksX1 (b : Nat) : List Kd := [.inr (1, rfX1 b), .inl (0, 5, fun _ => none), .inl (0, 5, fun _ => none), .inl (0, 4, fun _ => none), .inl (0, 8, fun _ => none), .inl (0, 8, fun _ => none), .inl (0, 4, fun _ => none), .inr (7, rfX7 (b + 7)), .inl (0, 5, fun _ => none), .inl (0, 25, fun _ => none), .inl (0, 100, fun _ => none), .inr (3, rfX3 (b + 11)), .inl (0, 40, fun _ => none), .inl (0, 120, fun _ => none), .inl (0, 120, fun _ => none), .inl (0, 120, fun _ => none), .inr (2, rfX2 (b + 16)), .inl (0, 5, fun _ => none), .inl (0, 5, fun _ => none), .inr (0, rfX0 (b + 19)), .inl (0, 40, fun _ => none), .inl (0, 40, fun _ => none), .inl (0, 40, fun _ => none), .inl (0, 3, fun _ => none)]
def rfX5 (b : Nat) : Nat → Option Nat := fun k => match k with
  | 0 => some (b + 1)
  | _ => none
def ksX5 (b : Nat) : List Kd := [.inr (5, rfX5 b), .inl (0, 5, fun _ => none)]
def rfX4 : Nat → Option Nat := fun k => match k with
  | 0 => some 74
  | _ => none
def rfX6 : Nat → Option Nat := fun k => match k with
  | 0 => some 224
  | 1 => some 225
  | _ => none
def rfX8 : Nat → Option Nat := fun k => match k with
  | 0 => some 220
  | 7 => some 221
  | 8 => some 222
  | _ => none
def rfX9 : Nat → Option Nat := fun k => match k with
  | 0 => some 228
  | 1 => some 229
  | 2 => some 230
  | 3 => some 231
  | _ => none
def rfX10 : Nat → Option Nat := fun k => match k with
  | 0 => some 1
  | 1 => some 25
  | 2 => some 49
  | 4 => some 73
  | 5 => some 219
  | 6 => some 223
  | 7 => some 226
  | 8 => some 227
  | _ => none
def rfX11 : Nat → Option Nat := fun k => match k with
  | 1 => some 249
  | 2 => some 250
  | 3 => some 251
  | 4 => some 252
  | 7 => some 253
  | 10 => some 254
  | 12 => some 255
  | 14 => some 256
  | 25 => some 257
  | 26 => some 258
  | 27 => some 259
  | _ => none
def SK : List Kd := [.inr (10, rfX10),
  .inr (1, rfX1 1),
  .inl (0, 5, fun _ => none),
  .inl (0, 5, fun _ => none),
  .inl (0, 4, fun _ => none),
  .inl (0, 8, fun _ => none),
  .inl (0, 8, fun _ => none),
  .inl (0, 4, fun _ => none),
  .inr (7, rfX7 8),
  .inl (0, 5, fun _ => none),
  .inl (0, 25, fun _ => none),
  .inl (0, 100, fun _ => none),
  .inr (3, rfX3 12),
  .inl (0, 40, fun _ => none),
  .inl (0, 120, fun _ => none),
  .inl (0, 120, fun _ => none),
  .inl (0, 120, fun _ => none),
  .inr (2, rfX2 17),
  .inl (0, 5, fun _ => none),
  .inl (0, 5, fun _ => none),
  .inr (0, rfX0 20),
  .inl (0, 40, fun _ => none),
  .inl (0, 40, fun _ => none),
  .inl (0, 40, fun _ => none),
  .inl (0, 3, fun _ => none),
  .inr (1, rfX1 25),
  .inl (0, 5, fun _ => none),
  .inl (0, 5, fun _ => none),
  .inl (0, 4, fun _ => none),
  .inl (0, 8, fun _ => none),
  .inl (0, 8, fun _ => none),
  .inl (0, 4, fun _ => none),
  .inr (7, rfX7 32),
  .inl (0, 5, fun _ => none),
  .inl (0, 25, fun _ => none),
  .inl (0, 100, fun _ => none),
  .inr (3, rfX3 36),
  .inl (0, 40, fun _ => none),
  .inl (0, 120, fun _ => none),
  .inl (0, 120, fun _ => none),
  .inl (0, 120, fun _ => none),
  .inr (2, rfX2 41),
  .inl (0, 5, fun _ => none),
  .inl (0, 5, fun _ => none),
  .inr (0, rfX0 44),
  .inl (0, 40, fun _ => none),
  .inl (0, 40, fun _ => none),
  .inl (0, 40, fun _ => none),
  .inl (0, 3, fun _ => none),
  .inr (1, rfX1 49),
  .inl (0, 5, fun _ => none),
  .inl (0, 5, fun _ => none),
  .inl (0, 4, fun _ => none),
  .inl (0, 8, fun _ => none),
  .inl (0, 8, fun _ => none),
  .inl (0, 4, fun _ => none),
  .inr (7, rfX7 56),
  .inl (0, 5, fun _ => none),
  .inl (0, 25, fun _ => none),
  .inl (0, 100, fun _ => none),
  .inr (3, rfX3 60),
  .inl (0, 40, fun _ => none),
  .inl (0, 120, fun _ => none),
  .inl (0, 120, fun _ => none),
  .inl (0, 120, fun _ => none),
  .inr (2, rfX2 65),
  .inl (0, 5, fun _ => none),
  .inl (0, 5, fun _ => none),
  .inr (0, rfX0 68),
  .inl (0, 40, fun _ => none),
  .inl (0, 40, fun _ => none),
  .inl (0, 40, fun _ => none),
  .inl (0, 3, fun _ => none),
  .inr (4, rfX4),
  .inl (3, 6, fun j => some (75 + 24 * j)),
  .inr (1, rfX1 75),
  .inl (0, 5, fun _ => none),
  .inl (0, 5, fun _ => none),
  .inl (0, 4, fun _ => none),
  .inl (0, 8, fun _ => none),
  .inl (0, 8, fun _ => none),
  .inl (0, 4, fun _ => none),
  .inr (7, rfX7 82),
  .inl (0, 5, fun _ => none),
  .inl (0, 25, fun _ => none),
  .inl (0, 100, fun _ => none),
  .inr (3, rfX3 86),
  .inl (0, 40, fun _ => none),
  .inl (0, 120, fun _ => none),
  .inl (0, 120, fun _ => none),
  .inl (0, 120, fun _ => none),
  .inr (2, rfX2 91),
  .inl (0, 5, fun _ => none),
  .inl (0, 5, fun _ => none),
  .inr (0, rfX0 94),
  .inl (0, 40, fun _ => none),
  .inl (0, 40, fun _ => none),
  .inl (0, 40, fun _ => none),
  .inl (0, 3, fun _ => none),
  .inr (1, rfX1 99),
  .inl (0, 5, fun _ => none),
  .inl (0, 5, fun _ => none),
  .inl (0, 4, fun _ => none),
  .inl (0, 8, fun _ => none),
  .inl (0, 8, fun _ => none),
  .inl (0, 4, fun _ => none),
  .inr (7, rfX7 106),
  .inl (0, 5, fun _ => none),
  .inl (0, 25, fun _ => none),
  .inl (0, 100, fun _ => none),
  .inr (3, rfX3 110),
  .inl (0, 40, fun _ => none),
  .inl (0, 120, fun _ => none),
  .inl (0, 120, fun _ => none),
  .inl (0, 120, fun _ => none),
  .inr (2, rfX2 115),
  .inl (0, 5, fun _ => none),
  .inl (0, 5, fun _ => none),
  .inr (0, rfX0 118),
  .inl (0, 40, fun _ => none),
  .inl (0, 40, fun _ => none),
  .inl (0, 40, fun _ => none),
  .inl (0, 3, fun _ => none),
  .inr (1, rfX1 123),
  .inl (0, 5, fun _ => none),
  .inl (0, 5, fun _ => none),
  .inl (0, 4, fun _ => none),
  .inl (0, 8, fun _ => none),
  .inl (0, 8, fun _ => none),
  .inl (0, 4, fun _ => none),
  .inr (7, rfX7 130),
  .inl (0, 5, fun _ => none),
  .inl (0, 25, fun _ => none),
  .inl (0, 100, fun _ => none),
  .inr (3, rfX3 134),
  .inl (0, 40, fun _ => none),
  .inl (0, 120, fun _ => none),
  .inl (0, 120, fun _ => none),
  .inl (0, 120, fun _ => none),
  .inr (2, rfX2 139),
  .inl (0, 5, fun _ => none),
  .inl (0, 5, fun _ => none),
  .inr (0, rfX0 142),
  .inl (0, 40, fun _ => none),
  .inl (0, 40, fun _ => none),
  .inl (0, 40, fun _ => none),
  .inl (0, 3, fun _ => none),
  .inr (1, rfX1 147),
  .inl (0, 5, fun _ => none),
  .inl (0, 5, fun _ => none),
  .inl (0, 4, fun _ => none),
  .inl (0, 8, fun _ => none),
  .inl (0, 8, fun _ => none),
  .inl (0, 4, fun _ => none),
  .inr (7, rfX7 154),
  .inl (0, 5, fun _ => none),
  .inl (0, 25, fun _ => none),
  .inl (0, 100, fun _ => none),
  .inr (3, rfX3 158),
  .inl (0, 40, fun _ => none),
  .inl (0, 120, fun _ => none),
  .inl (0, 120, fun _ => none),
  .inl (0, 120, fun _ => none),
  .inr (2, rfX2 163),
  .inl (0, 5, fun _ => none),
  .inl (0, 5, fun _ => none),
  .inr (0, rfX0 166),
  .inl (0, 40, fun _ => none),
  .inl (0, 40, fun _ => none),
  .inl (0, 40, fun _ => none),
  .inl (0, 3, fun _ => none),
  .inr (1, rfX1 171),
  .inl (0, 5, fun _ => none),
  .inl (0, 5, fun _ => none),
  .inl (0, 4, fun _ => none),
  .inl (0, 8, fun _ => none),
  .inl (0, 8, fun _ => none),
  .inl (0, 4, fun _ => none),
  .inr (7, rfX7 178),
  .inl (0, 5, fun _ => none),
  .inl (0, 25, fun _ => none),
  .inl (0, 100, fun _ => none),
  .inr (3, rfX3 182),
  .inl (0, 40, fun _ => none),
  .inl (0, 120, fun _ => none),
  .inl (0, 120, fun _ => none),
  .inl (0, 120, fun _ => none),
  .inr (2, rfX2 187),
  .inl (0, 5, fun _ => none),
  .inl (0, 5, fun _ => none),
  .inr (0, rfX0 190),
  .inl (0, 40, fun _ => none),
  .inl (0, 40, fun _ => none),
  .inl (0, 40, fun _ => none),
  .inl (0, 3, fun _ => none),
  .inr (1, rfX1 195),
  .inl (0, 5, fun _ => none),
  .inl (0, 5, fun _ => none),
  .inl (0, 4, fun _ => none),
  .inl (0, 8, fun _ => none),
  .inl (0, 8, fun _ => none),
  .inl (0, 4, fun _ => none),
  .inr (7, rfX7 202),
  .inl (0, 5, fun _ => none),
  .inl (0, 25, fun _ => none),
  .inl (0, 100, fun _ => none),
  .inr (3, rfX3 206),
  .inl (0, 40, fun _ => none),
  .inl (0, 120, fun _ => none),
  .inl (0, 120, fun _ => none),
  .inl (0, 120, fun _ => none),
  .inr (2, rfX2 211),
  .inl (0, 5, fun _ => none),
  .inl (0, 5, fun _ => none),
  .inr (0, rfX0 214),
  .inl (0, 40, fun _ => none),
  .inl (0, 40, fun _ => none),
  .inl (0, 40, fun _ => none),
  .inl (0, 3, fun _ => none),
  .inr (8, rfX8),
  .inl (1, 60, fun _ => none),
  .inl (0, 20, fun _ => none),
  .inl (0, 20, fun _ => none),
  .inr (6, rfX6),
  .inl (0, 2, fun _ => none),
  .inl (0, 2, fun _ => none),
  .inl (4, 8, fun j => some (232 + 2 * j)),
  .inr (9, rfX9),
  .inl (0, 5, fun _ => none),
  .inl (0, 5, fun _ => none),
  .inl (0, 5, fun _ => none),
  .inl (0, 5, fun _ => none),
  .inr (5, rfX5 232),
  .inl (0, 5, fun _ => none),
  .inr (5, rfX5 234),
  .inl (0, 5, fun _ => none),
  .inr (5, rfX5 236),
  .inl (0, 5, fun _ => none),
  .inr (5, rfX5 238),
  .inl (0, 5, fun _ => none),
  .inr (5, rfX5 240),
  .inl (0, 5, fun _ => none),
  .inr (5, rfX5 242),
  .inl (0, 5, fun _ => none),
  .inr (5, rfX5 244),
  .inl (0, 5, fun _ => none),
  .inr (5, rfX5 246),
  .inl (0, 5, fun _ => none),
  .inr (11, rfX11),
  .inl (0, 779, fun _ => none),
  .inl (0, 779, fun _ => none),
  .inl (0, 779, fun _ => none),
  .inl (0, 4674, fun _ => none),
  .inl (0, 60, fun _ => none),
  .inl (0, 4, fun _ => none),
  .inl (0, 3, fun _ => none),
  .inl (0, 5, fun _ => none),
  .inl (0, 8, fun _ => none),
  .inl (2, 8, fun _ => none),
  .inl (2, 8, fun _ => none),
  .inl (2, 1, fun _ => none)]
set_option maxRecDepth 100000 in
theorem sk_0 : SK[0]? = some (.inr (10, rfX10)) := rfl
set_option maxRecDepth 100000 in
theorem sk_73 : SK[73]? = some (.inr (4, rfX4)) := rfl
set_option maxRecDepth 100000 in
theorem sk_74 : SK[74]? = some (.inl (3, 6, fun j => some (75 + 24 * j))) := rfl
set_option maxRecDepth 100000 in
theorem sk_219 : SK[219]? = some (.inr (8, rfX8)) := rfl
set_option maxRecDepth 100000 in
theorem sk_220 : SK[220]? = some (.inl (1, 60, fun _ => none)) := rfl
set_option maxRecDepth 100000 in
theorem sk_221 : SK[221]? = some (.inl (0, 20, fun _ => none)) := rfl
set_option maxRecDepth 100000 in
theorem sk_222 : SK[222]? = some (.inl (0, 20, fun _ => none)) := rfl
set_option maxRecDepth 100000 in
theorem sk_223 : SK[223]? = some (.inr (6, rfX6)) := rfl
set_option maxRecDepth 100000 in
theorem sk_224 : SK[224]? = some (.inl (0, 2, fun _ => none)) := rfl
set_option maxRecDepth 100000 in
theorem sk_225 : SK[225]? = some (.inl (0, 2, fun _ => none)) := rfl
set_option maxRecDepth 100000 in
theorem sk_226 : SK[226]? = some (.inl (4, 8, fun j => some (232 + 2 * j))) := rfl
set_option maxRecDepth 100000 in
theorem sk_227 : SK[227]? = some (.inr (9, rfX9)) := rfl
set_option maxRecDepth 100000 in
theorem sk_228 : SK[228]? = some (.inl (0, 5, fun _ => none)) := rfl
set_option maxRecDepth 100000 in
theorem sk_229 : SK[229]? = some (.inl (0, 5, fun _ => none)) := rfl
set_option maxRecDepth 100000 in
theorem sk_230 : SK[230]? = some (.inl (0, 5, fun _ => none)) := rfl
set_option maxRecDepth 100000 in
theorem sk_231 : SK[231]? = some (.inl (0, 5, fun _ => none)) := rfl
set_option maxRecDepth 100000 in
theorem sk_248 : SK[248]? = some (.inr (11, rfX11)) := rfl
set_option maxRecDepth 100000 in
theorem sk_249 : SK[249]? = some (.inl (0, 779, fun _ => none)) := rfl
set_option maxRecDepth 100000 in
theorem sk_250 : SK[250]? = some (.inl (0, 779, fun _ => none)) := rfl
set_option maxRecDepth 100000 in
theorem sk_251 : SK[251]? = some (.inl (0, 779, fun _ => none)) := rfl
set_option maxRecDepth 100000 in
theorem sk_252 : SK[252]? = some (.inl (0, 4674, fun _ => none)) := rfl
set_option maxRecDepth 100000 in
theorem sk_253 : SK[253]? = some (.inl (0, 60, fun _ => none)) := rfl
set_option maxRecDepth 100000 in
theorem sk_254 : SK[254]? = some (.inl (0, 4, fun _ => none)) := rfl
set_option maxRecDepth 100000 in
theorem sk_255 : SK[255]? = some (.inl (0, 3, fun _ => none)) := rfl
set_option maxRecDepth 100000 in
theorem sk_256 : SK[256]? = some (.inl (0, 5, fun _ => none)) := rfl
set_option maxRecDepth 100000 in
theorem sk_257 : SK[257]? = some (.inl (0, 8, fun _ => none)) := rfl
set_option maxRecDepth 100000 in
theorem sk_258 : SK[258]? = some (.inl (2, 8, fun _ => none)) := rfl
set_option maxRecDepth 100000 in
theorem sk_259 : SK[259]? = some (.inl (2, 8, fun _ => none)) := rfl
set_option maxRecDepth 100000 in
theorem sk_260 : SK[260]? = some (.inl (2, 1, fun _ => none)) := rfl
def Lay (b : Nat) (ks : List Kd) : Prop := ∀ (i : Nat) (kd : Kd), ks[i]? = some kd → SK[b + i]? = some kd
set_option maxRecDepth 100000 in
theorem lay_at {b : Nat} {ks : List Kd} (h : Lay b ks) (i : Nat) {kd : Kd} (hi : ks[i]? = some kd) : SK[b + i]? = some kd := h i kd hi
set_option maxRecDepth 100000 in
theorem lay_0 {b : Nat} {ks : List Kd} (h : Lay b ks) {kd : Kd} (hi : ks[0]? = some kd) : SK[b]? = some kd := h 0 kd hi
set_option maxRecDepth 100000 in
theorem lay_now : Lay 1 (ksX1 1) := fun i kd h => match i, h with
  | 0, h => h
  | 1, h => h
  | 2, h => h
  | 3, h => h
  | 4, h => h
  | 5, h => h
  | 6, h => h
  | 7, h => h
  | 8, h => h
  | 9, h => h
  | 10, h => h
  | 11, h => h
  | 12, h => h
  | 13, h => h
  | 14, h => h
  | 15, h => h
  | 16, h => h
  | 17, h => h
  | 18, h => h
  | 19, h => h
  | 20, h => h
  | 21, h => h
  | 22, h => h
  | 23, h => h
  | i + 24, h => nomatch h
set_option maxRecDepth 100000 in
theorem lay_draft : Lay 25 (ksX1 25) := fun i kd h => match i, h with
  | 0, h => h
  | 1, h => h
  | 2, h => h
  | 3, h => h
  | 4, h => h
  | 5, h => h
  | 6, h => h
  | 7, h => h
  | 8, h => h
  | 9, h => h
  | 10, h => h
  | 11, h => h
  | 12, h => h
  | 13, h => h
  | 14, h => h
  | 15, h => h
  | 16, h => h
  | 17, h => h
  | 18, h => h
  | 19, h => h
  | 20, h => h
  | 21, h => h
  | 22, h => h
  | 23, h => h
  | i + 24, h => nomatch h
set_option maxRecDepth 100000 in
theorem lay_saved : Lay 49 (ksX1 49) := fun i kd h => match i, h with
  | 0, h => h
  | 1, h => h
  | 2, h => h
  | 3, h => h
  | 4, h => h
  | 5, h => h
  | 6, h => h
  | 7, h => h
  | 8, h => h
  | 9, h => h
  | 10, h => h
  | 11, h => h
  | 12, h => h
  | 13, h => h
  | 14, h => h
  | 15, h => h
  | 16, h => h
  | 17, h => h
  | 18, h => h
  | 19, h => h
  | 20, h => h
  | 21, h => h
  | 22, h => h
  | 23, h => h
  | i + 24, h => nomatch h
set_option maxRecDepth 100000 in
theorem lay_past0 : Lay 75 (ksX1 75) := fun i kd h => match i, h with
  | 0, h => h
  | 1, h => h
  | 2, h => h
  | 3, h => h
  | 4, h => h
  | 5, h => h
  | 6, h => h
  | 7, h => h
  | 8, h => h
  | 9, h => h
  | 10, h => h
  | 11, h => h
  | 12, h => h
  | 13, h => h
  | 14, h => h
  | 15, h => h
  | 16, h => h
  | 17, h => h
  | 18, h => h
  | 19, h => h
  | 20, h => h
  | 21, h => h
  | 22, h => h
  | 23, h => h
  | i + 24, h => nomatch h
set_option maxRecDepth 100000 in
theorem lay_past1 : Lay 99 (ksX1 99) := fun i kd h => match i, h with
  | 0, h => h
  | 1, h => h
  | 2, h => h
  | 3, h => h
  | 4, h => h
  | 5, h => h
  | 6, h => h
  | 7, h => h
  | 8, h => h
  | 9, h => h
  | 10, h => h
  | 11, h => h
  | 12, h => h
  | 13, h => h
  | 14, h => h
  | 15, h => h
  | 16, h => h
  | 17, h => h
  | 18, h => h
  | 19, h => h
  | 20, h => h
  | 21, h => h
  | 22, h => h
  | 23, h => h
  | i + 24, h => nomatch h
set_option maxRecDepth 100000 in
theorem lay_past2 : Lay 123 (ksX1 123) := fun i kd h => match i, h with
  | 0, h => h
  | 1, h => h
  | 2, h => h
  | 3, h => h
  | 4, h => h
  | 5, h => h
  | 6, h => h
  | 7, h => h
  | 8, h => h
  | 9, h => h
  | 10, h => h
  | 11, h => h
  | 12, h => h
  | 13, h => h
  | 14, h => h
  | 15, h => h
  | 16, h => h
  | 17, h => h
  | 18, h => h
  | 19, h => h
  | 20, h => h
  | 21, h => h
  | 22, h => h
  | 23, h => h
  | i + 24, h => nomatch h
set_option maxRecDepth 100000 in
theorem lay_past3 : Lay 147 (ksX1 147) := fun i kd h => match i, h with
  | 0, h => h
  | 1, h => h
  | 2, h => h
  | 3, h => h
  | 4, h => h
  | 5, h => h
  | 6, h => h
  | 7, h => h
  | 8, h => h
  | 9, h => h
  | 10, h => h
  | 11, h => h
  | 12, h => h
  | 13, h => h
  | 14, h => h
  | 15, h => h
  | 16, h => h
  | 17, h => h
  | 18, h => h
  | 19, h => h
  | 20, h => h
  | 21, h => h
  | 22, h => h
  | 23, h => h
  | i + 24, h => nomatch h
set_option maxRecDepth 100000 in
theorem lay_past4 : Lay 171 (ksX1 171) := fun i kd h => match i, h with
  | 0, h => h
  | 1, h => h
  | 2, h => h
  | 3, h => h
  | 4, h => h
  | 5, h => h
  | 6, h => h
  | 7, h => h
  | 8, h => h
  | 9, h => h
  | 10, h => h
  | 11, h => h
  | 12, h => h
  | 13, h => h
  | 14, h => h
  | 15, h => h
  | 16, h => h
  | 17, h => h
  | 18, h => h
  | 19, h => h
  | 20, h => h
  | 21, h => h
  | 22, h => h
  | 23, h => h
  | i + 24, h => nomatch h
set_option maxRecDepth 100000 in
theorem lay_past5 : Lay 195 (ksX1 195) := fun i kd h => match i, h with
  | 0, h => h
  | 1, h => h
  | 2, h => h
  | 3, h => h
  | 4, h => h
  | 5, h => h
  | 6, h => h
  | 7, h => h
  | 8, h => h
  | 9, h => h
  | 10, h => h
  | 11, h => h
  | 12, h => h
  | 13, h => h
  | 14, h => h
  | 15, h => h
  | 16, h => h
  | 17, h => h
  | 18, h => h
  | 19, h => h
  | 20, h => h
  | 21, h => h
  | 22, h => h
  | 23, h => h
  | i + 24, h => nomatch h
set_option maxRecDepth 100000 in
theorem lay_past (j : Nat) (h : j < 6) : Lay (75 + 24 * j) (ksX1 (75 + 24 * j)) := match j, h with
  | 0, _ => lay_past0
  | 1, _ => lay_past1
  | 2, _ => lay_past2
  | 3, _ => lay_past3
  | 4, _ => lay_past4
  | 5, _ => lay_past5
set_option maxRecDepth 100000 in
theorem lay_outs (j : Nat) (h : j < 8) : Lay (232 + 2 * j) (ksX5 (232 + 2 * j)) := match j, h with
  | 0, _ => fun i kd h => match i, h with | 0, h => h | 1, h => h | i + 2, h => nomatch h
  | 1, _ => fun i kd h => match i, h with | 0, h => h | 1, h => h | i + 2, h => nomatch h
  | 2, _ => fun i kd h => match i, h with | 0, h => h | 1, h => h | i + 2, h => nomatch h
  | 3, _ => fun i kd h => match i, h with | 0, h => h | 1, h => h | i + 2, h => nomatch h
  | 4, _ => fun i kd h => match i, h with | 0, h => h | 1, h => h | i + 2, h => nomatch h
  | 5, _ => fun i kd h => match i, h with | 0, h => h | 1, h => h | i + 2, h => nomatch h
  | 6, _ => fun i kd h => match i, h with | 0, h => h | 1, h => h | i + 2, h => nomatch h
  | 7, _ => fun i kd h => match i, h with | 0, h => h | 1, h => h | i + 2, h => nomatch h
set_option maxRecDepth 100000 in
theorem lay_seeds {b : Nat} (L : Lay b (ksX1 b)) : Lay (b + 7) (ksX7 (b + 7)) := fun i kd h => match i, h with
  | 0, h => L 7 kd h
  | 1, h => L 8 kd h
  | 2, h => L 9 kd h
  | 3, h => L 10 kd h
  | i + 4, h => nomatch h
set_option maxRecDepth 100000 in
theorem lay_entries {b : Nat} (L : Lay b (ksX1 b)) : Lay (b + 11) (ksX3 (b + 11)) := fun i kd h => match i, h with
  | 0, h => L 11 kd h
  | 1, h => L 12 kd h
  | 2, h => L 13 kd h
  | 3, h => L 14 kd h
  | 4, h => L 15 kd h
  | i + 5, h => nomatch h
set_option maxRecDepth 100000 in
theorem lay_curve {b : Nat} (L : Lay b (ksX1 b)) : Lay (b + 16) (ksX2 (b + 16)) := fun i kd h => match i, h with
  | 0, h => L 16 kd h
  | 1, h => L 17 kd h
  | 2, h => L 18 kd h
  | i + 3, h => nomatch h
set_option maxRecDepth 100000 in
theorem lay_appeals {b : Nat} (L : Lay b (ksX1 b)) : Lay (b + 19) (ksX0 (b + 19)) := fun i kd h => match i, h with
  | 0, h => L 19 kd h
  | 1, h => L 20 kd h
  | 2, h => L 21 kd h
  | 3, h => L 22 kd h
  | i + 4, h => nomatch h
abbrev KK (X : kX) (md : kM) (d rk : Nat) (res : Res) (pc : Nat) (l : List (Nat × Value)) (st : List Value) (μ : Mu) : Prop := KJ X md d false (poR rk SK res) SK (cq res) (6 * cq res) pc l st μ
abbrev Cq (X : kX) (md : kM) (d rk : Nat) (μ : Mu) (args : List Value) (f : Option Res) : Prop := ∀ r : Res, f = some r → Ct X md d SK false μ (cq r) (6 * cq r) args (poR rk SK r)
def bnd {α : Type} (x : Int) (k : Int → Option α) : Option α := k x
def rdF {α : Type} (μ : Mu) (a i : Nat) (k : Int → Option α) : Option α := k (μ a i)
def wrF {α : Type} (μ : Mu) (a i : Nat) (x : Int) (k : Mu → Option α) : Option α := k (up2 μ a i x)
def wrZ {α : Type} (μ : Mu) (a i : Nat) (x : Int) (k : Mu → Option α) : Option α := if x = 0 ∨ x = 1 then k (up2 μ a i x) else none
def wrC {α : Type} (μ : Mu) (a n : Nat) (i x : Int) (k : Mu → Option α) : Option α := if 0 ≤ x ∧ x < 65536 then wrI μ a n i x k else none
def rb (r : Option Res) (k : Mu → Int → Option Res) : Option Res := match r with
  | none => none
  | some (μ, 0, x) => k μ x
  | some (μ, e + 1, _) => some (μ, e + 1, 0)
section KZ
variable {X : kX} {md mdY : kM} {d d' rk rkY : Nat} {res : Res} {pc : Nat} {l : List (Nat × Value)} {st As : List Value} {μ : Mu} {x y : Int} {a n ci k idx b t : Nat} {rf : Nat → Option Nat} {host : String} {fin : Bool}
theorem Z_bnd {k0 : Int → Option Res} (h : bnd x k0 = some res) (kk : ∀ v, k0 v = some res → KK X md d rk res pc l (.int (iI v) :: st) μ) : KK X md d rk res pc l (.int (iI x) :: st) μ := kk x h
theorem Z_bndL {k0 : Int → Option Res} (h : bnd x k0 = some res) (kk : ∀ v, k0 v = some res → KK X md d rk res pc l (.long (iL v) :: st) μ) : KK X md d rk res pc l (.long (iL x) :: st) μ := kk x h
theorem Z_getI {k0 : Int → Option Res} (hd : decode md.2.1 pc = .ok (.getfield idx, 3)) (F : kFL md.1.cls idx ci k fin) (hsk : SK[a]? = some (.inr (ci, rf))) (ht : kTyF ci k = .int ∨ kTyF ci k = .boolean) (h : rdF μ a k k0 = some res) (kk : ∀ v, k0 v = some res → KK X md d rk res (pc + 3) l (.int (iI v) :: st) μ) : KK X md d rk res pc l (.ref (X.1 + a) :: st) μ := K_getI hd F hsk ht (kk _ h)
theorem Z_getL {k0 : Int → Option Res} (hd : decode md.2.1 pc = .ok (.getfield idx, 3)) (F : kFL md.1.cls idx ci k fin) (hsk : SK[a]? = some (.inr (ci, rf))) (ht : kTyF ci k = .long) (h : rdF μ a k k0 = some res) (kk : ∀ v, k0 v = some res → KK X md d rk res (pc + 3) l (.long (iL v) :: st) μ) : KK X md d rk res pc l (.ref (X.1 + a) :: st) μ := K_getL hd F hsk ht (kk _ h)
theorem Z_putI {k0 : Mu → Option Res} (hd : decode md.2.1 pc = .ok (.putfield idx, 3)) (F : kFL md.1.cls idx ci k false) (hsk : SK[a]? = some (.inr (ci, rf))) (ht : kTyF ci k = .int) (h : wrF μ a k x k0 = some res) (kk : ∀ μ', k0 μ' = some res → KK X md d rk res (pc + 3) l st μ') : KK X md d rk res pc l (.int (iI x) :: .ref (X.1 + a) :: st) μ := K_putI hd F hsk ht (kk _ h)
theorem Z_putL {k0 : Mu → Option Res} (hd : decode md.2.1 pc = .ok (.putfield idx, 3)) (F : kFL md.1.cls idx ci k false) (hsk : SK[a]? = some (.inr (ci, rf))) (ht : kTyF ci k = .long) (h : wrF μ a k x k0 = some res) (kk : ∀ μ', k0 μ' = some res → KK X md d rk res (pc + 3) l st μ') : KK X md d rk res pc l (.long (iL x) :: .ref (X.1 + a) :: st) μ := K_putL hd F hsk ht (kk _ h)
theorem Z_putZ {k0 : Mu → Option Res} (hd : decode md.2.1 pc = .ok (.putfield idx, 3)) (F : kFL md.1.cls idx ci k false) (hsk : SK[a]? = some (.inr (ci, rf))) (ht : kTyF ci k = .boolean) (h : wrZ μ a k x k0 = some res) (kk : ∀ μ', k0 μ' = some res → KK X md d rk res (pc + 3) l st μ') : KK X md d rk res pc l (.int (iI x) :: .ref (X.1 + a) :: st) μ := by
  obtain ⟨g, h⟩ := og h
  exact K_putZ hd F hsk ht g (kk _ h)
theorem Z_iald {k0 : Int → Option Res} (hd : decode md.2.1 pc = .ok (.iaload, 1)) (hsk : SK[a]? = some (.inl (0, n, rf))) (hn : n < 2 ^ 31) (h : rdI μ a n x k0 = some res) (kk : ∀ v, k0 v = some res → KK X md d rk res (pc + 1) l (.int (iI v) :: st) μ) : KK X md d rk res pc l (.int (iI x) :: .ref (X.1 + a) :: st) μ := K_iald hd hsk hn h (kk _)
theorem Z_cald {k0 : Int → Option Res} (hd : decode md.2.1 pc = .ok (.caload, 1)) (hsk : SK[a]? = some (.inl (1, n, rf))) (hn : n < 2 ^ 31) (h : rdI μ a n x k0 = some res) (kk : ∀ v, k0 v = some res → KK X md d rk res (pc + 1) l (.int (iI v) :: st) μ) : KK X md d rk res pc l (.int (iI x) :: .ref (X.1 + a) :: st) μ := K_cald hd hsk hn h (kk _)
theorem Z_lald {k0 : Int → Option Res} (hd : decode md.2.1 pc = .ok (.laload, 1)) (hsk : SK[a]? = some (.inl (2, n, rf))) (hn : n < 2 ^ 31) (h : rdI μ a n x k0 = some res) (kk : ∀ v, k0 v = some res → KK X md d rk res (pc + 1) l (.long (iL v) :: st) μ) : KK X md d rk res pc l (.int (iI x) :: .ref (X.1 + a) :: st) μ := K_lald hd hsk hn h (kk _)
theorem Z_iast {k0 : Mu → Option Res} (hd : decode md.2.1 pc = .ok (.iastore, 1)) (hsk : SK[a]? = some (.inl (0, n, rf))) (hn : n < 2 ^ 31) (h : wrI μ a n x y k0 = some res) (kk : ∀ μ', k0 μ' = some res → KK X md d rk res (pc + 1) l st μ') : KK X md d rk res pc l (.int (iI y) :: .int (iI x) :: .ref (X.1 + a) :: st) μ := K_iast hd hsk hn h (kk _)
theorem Z_last {k0 : Mu → Option Res} (hd : decode md.2.1 pc = .ok (.lastore, 1)) (hsk : SK[a]? = some (.inl (2, n, rf))) (hn : n < 2 ^ 31) (h : wrI μ a n x y k0 = some res) (kk : ∀ μ', k0 μ' = some res → KK X md d rk res (pc + 1) l st μ') : KK X md d rk res pc l (.long (iL y) :: .int (iI x) :: .ref (X.1 + a) :: st) μ := K_last hd hsk hn h (kk _)
theorem Z_cast {k0 : Mu → Option Res} (hd : decode md.2.1 pc = .ok (.castore, 1)) (hsk : SK[a]? = some (.inl (1, n, rf))) (hn : n < 2 ^ 31) (h : wrC μ a n x y k0 = some res) (kk : ∀ μ', k0 μ' = some res → KK X md d rk res (pc + 1) l st μ') : KK X md d rk res pc l (.int (iI y) :: .int (iI x) :: .ref (X.1 + a) :: st) μ := by
  obtain ⟨g, h⟩ := og h
  exact K_cast hd hsk hn g h (kk _)
theorem Z_aald {k0 : Nat → Option Res} {f : Nat → Nat} (hd : decode md.2.1 pc = .ok (.aaload, 1)) (hsk : SK[a]? = some (.inl (t, n, fun j => some (f j)))) (ht : t = 3 ∨ t = 4) (hn : n < 2 ^ 31) (h : rdA n x f k0 = some res) (kk : x.toNat < n → k0 (f x.toNat) = some res → KK X md d rk res (pc + 1) l (.ref (X.1 + f x.toNat) :: st) μ) : KK X md d rk res pc l (.int (iI x) :: .ref (X.1 + a) :: st) μ := by
  have g := (og h).1
  exact K_aald hd hsk ht hn (fun _ _ => rfl) h (kk (by omega))
theorem Z_idiv {k0 : Int → Option Res} (hd : decode md.2.1 pc = .ok (.idiv, 1)) (h : i_div x y k0 = some res) (kk : ∀ v, k0 v = some res → KK X md d rk res (pc + 1) l (.int (iI v) :: st) μ) : KK X md d rk res pc l (.int (iI y) :: .int (iI x) :: st) μ := K_idiv hd h (kk _)
theorem Z_irem {k0 : Int → Option Res} (hd : decode md.2.1 pc = .ok (.irem, 1)) (h : i_rem x y k0 = some res) (kk : ∀ v, k0 v = some res → KK X md d rk res (pc + 1) l (.int (iI v) :: st) μ) : KK X md d rk res pc l (.int (iI y) :: .int (iI x) :: st) μ := K_irem hd h (kk _)
theorem Z_ldiv {k0 : Int → Option Res} (hd : decode md.2.1 pc = .ok (.ldiv, 1)) (h : l_div x y k0 = some res) (kk : ∀ v, k0 v = some res → KK X md d rk res (pc + 1) l (.long (iL v) :: st) μ) : KK X md d rk res pc l (.long (iL y) :: .long (iL x) :: st) μ := K_ldiv hd h (kk _)
theorem Z_lrem {k0 : Int → Option Res} (hd : decode md.2.1 pc = .ok (.lrem, 1)) (h : l_rem x y k0 = some res) (kk : ∀ v, k0 v = some res → KK X md d rk res (pc + 1) l (.long (iL v) :: st) μ) : KK X md d rk res pc l (.long (iL y) :: .long (iL x) :: st) μ := K_lrem hd h (kk _)
theorem Z_iret {ty : FieldType} (hd : decode md.2.1 pc = .ok (.ireturn, 1)) (hr : md.2.2.2.1 = some ty) (hty : ty = .int) (hrk : rk = 1) (h : some (μ, 0, x) = some res) : KK X md d rk res pc l [.int (iI x)] μ := by
  cases h; subst hty; subst hrk
  exact K_iret hd hr rfl ⟨rfl, rfl, rfl, rfl⟩
theorem Z_zret (hd : decode md.2.1 pc = .ok (.ireturn, 1)) (hr : md.2.2.2.1 = some .boolean) (hrk : rk = 1) (h : retZ μ x = some res) : KK X md d rk res pc l [.int (iI x)] μ := by
  obtain ⟨g, h⟩ := og h
  cases h; subst hrk
  exact K_iret hd hr (by rcases g with g | g <;> subst g <;> rfl) ⟨rfl, rfl, rfl, rfl⟩
theorem Z_lret (hd : decode md.2.1 pc = .ok (.lreturn, 1)) (hr : md.2.2.2.1 = some .long) (hrk : rk = 2) (h : some (μ, 0, x) = some res) : KK X md d rk res pc l [.long (iL x)] μ := by
  cases h; subst hrk
  exact K_lret hd hr ⟨rfl, rfl, rfl, rfl⟩
theorem Z_vret (hd : decode md.2.1 pc = .ok (.return_, 1)) (hr : md.2.2.2.1 = none) (hrk : rk = 0) (h : some (μ, 0, 0) = some res) : KK X md d rk res pc l [] μ := by
  cases h; subst hrk
  exact K_vret hd hr ⟨rfl, rfl, rfl, rfl⟩
theorem Z_th {ik is ic e0 : Nat} {text : String} (F : kTH md.1.cls ic e0) (hk : Cond.classLink md.1.cls ik (exName e0) ∈ kG) (hstr : (md.1.cls, is, text) ∈ kSR) (htab : md.2.2.2.2 = [])
    (d0 : decode md.2.1 pc = .ok (.new ik, 3)) (d3 : decode md.2.1 (pc + 3) = .ok (.dup, 1)) (d4 : decode md.2.1 (pc + 4) = .ok (.ldc is, 2)) (d6 : decode md.2.1 (pc + 6) = .ok (.invokespecial ic, 3)) (d9 : decode md.2.1 (pc + 9) = .ok (.athrow, 1)) (h : some (μ, e0 + 1, 0) = some res) : KK X md d rk res pc l [] μ := by
  cases h
  exact K_throwS (cr := 0) (sr := 0) F hk hstr htab d0 d3 d4 d6 d9 ⟨rfl, rfl, rfl⟩
theorem Z_thW {ik is ic e0 : Nat} {text : String} (F : kTH md.1.cls ic e0) (hk : Cond.classLink md.1.cls ik (exName e0) ∈ kG) (hstr : (md.1.cls, is, text) ∈ kSR) (htab : md.2.2.2.2 = [])
    (d0 : decode md.2.1 pc = .ok (.new ik, 3)) (d3 : decode md.2.1 (pc + 3) = .ok (.dup, 1)) (d4 : decode md.2.1 (pc + 4) = .ok (.ldc_w is, 3)) (d6 : decode md.2.1 (pc + 7) = .ok (.invokespecial ic, 3)) (d9 : decode md.2.1 (pc + 10) = .ok (.athrow, 1)) (h : some (μ, e0 + 1, 0) = some res) : KK X md d rk res pc l [] μ := by
  cases h
  exact K_throwSW (cr := 0) (sr := 0) F hk hstr htab d0 d3 d4 d6 d9 ⟨rfl, rfl, rfl⟩
theorem Z_callV {fY : Option Res} {k0 : Mu → Int → Option Res} {sv : Int → List Value} (hd : decode md.2.1 pc = .ok (.invokevirtual idx, 3)) (M : kMV md.1.cls idx mdY n ci) (hsk : SK[b]? = some (.inr (ci, rf))) (hn : As.length = n) (hst : (st.map fun v => v.category).sum ≤ 8) (hdd : d' + 1 ≤ d) (htab : md.2.2.2.2 = [])
    (hC : Cq X mdY d' rkY μ (.ref (X.1 + b) :: As) fY) (hsv : ∀ v, (rvO rkY v).toList ++ st = sv v) (h : rb fY k0 = some res) (kk : ∀ μ' v, k0 μ' v = some res → KK X md d rk res (pc + 3) l (sv v) μ') {st1 : List Value} (hs1 : st1 = As.reverse ++ .ref (X.1 + b) :: st) : KK X md d rk res pc l st1 μ := by
  cases fY with
  | none => cases h
  | some r =>
    obtain ⟨μ1, c1, x1⟩ := r
    cases c1 with
    | zero =>
      have hC0 := hC _ rfl
      rw [show cq (μ1, 0, x1) = 0 from rfl, Nat.mul_zero] at hC0
      refine K_callV (mcY := 0) (msY := 0) hd M hsk hn hst hdd htab hC0 (fun q => by cases q) (fun v sk' μ' hp => ?_) (fun e sk' μ' hp => ?_) hs1
      · obtain ⟨rfl, -, rfl, rfl⟩ := hp
        rw [hsv]; exact kk _ _ h
      · obtain ⟨-, q, -⟩ := hp; cases q
    | succ e =>
      cases h
      show KJ X md d false (poR rk SK (μ1, e + 1, 0)) SK (0 + 1) (0 + 6) pc l st1 μ
      have hC0 := hC _ rfl
      rw [show cq (μ1, e + 1, x1) = 1 from rfl, show 6 * 1 = 6 from rfl] at hC0
      refine K_callV (mcY := 1) (msY := 6) (cr := 0) (sr := 0) (po := poR rk SK (μ1, e + 1, 0)) hd M hsk hn hst hdd htab hC0 (fun q => by cases q) (fun v sk' μ' hp => ?_) (fun e sk' μ' hp => ⟨hp.1, hp.2.1, hp.2.2⟩) hs1
      obtain ⟨-, q, -⟩ := hp; cases q
theorem Z_callS {fY : Option Res} {k0 : Mu → Int → Option Res} {sv : Int → List Value} (hd : decode md.2.1 pc = .ok (.invokestatic idx, 3)) (M : kMS md.1.cls idx mdY n) (hn : As.length = n) (hst : (st.map fun v => v.category).sum ≤ 8) (hdd : d' + 1 ≤ d) (htab : md.2.2.2.2 = [])
    (hC : Cq X mdY d' rkY μ As fY) (hsv : ∀ v, (rvO rkY v).toList ++ st = sv v) (h : rb fY k0 = some res) (kk : ∀ μ' v, k0 μ' v = some res → KK X md d rk res (pc + 3) l (sv v) μ') {st1 : List Value} (hs1 : st1 = As.reverse ++ st) : KK X md d rk res pc l st1 μ := by
  cases fY with
  | none => cases h
  | some r =>
    obtain ⟨μ1, c1, x1⟩ := r
    cases c1 with
    | zero =>
      have hC0 := hC _ rfl
      rw [show cq (μ1, 0, x1) = 0 from rfl, Nat.mul_zero] at hC0
      refine K_callS (mcY := 0) (msY := 0) hd M hn hst hdd htab hC0 (fun q => by cases q) (fun v sk' μ' hp => ?_) (fun e sk' μ' hp => ?_) hs1
      · obtain ⟨rfl, -, rfl, rfl⟩ := hp
        rw [hsv]; exact kk _ _ h
      · obtain ⟨-, q, -⟩ := hp; cases q
    | succ e =>
      cases h
      show KJ X md d false (poR rk SK (μ1, e + 1, 0)) SK (0 + 1) (0 + 6) pc l st1 μ
      have hC0 := hC _ rfl
      rw [show cq (μ1, e + 1, x1) = 1 from rfl, show 6 * 1 = 6 from rfl] at hC0
      refine K_callS (mcY := 1) (msY := 6) (cr := 0) (sr := 0) (po := poR rk SK (μ1, e + 1, 0)) hd M hn hst hdd htab hC0 (fun q => by cases q) (fun v sk' μ' hp => ?_) (fun e sk' μ' hp => ⟨hp.1, hp.2.1, hp.2.2⟩) hs1
      obtain ⟨-, q, -⟩ := hp; cases q
/-- a function that never says that it has thrown -/
def nth (f : Option Res) : Prop := ∀ r : Res, f = some r → r.2.1 = 0
theorem Z_callSN {fY : Option Res} {k0 : Mu → Int → Option Res} {sv : Int → List Value} (hd : decode md.2.1 pc = .ok (.invokestatic idx, 3)) (M : kMSN md.1.cls idx mdY n host) (hn : As.length = n) (hst : (st.map fun v => v.category).sum ≤ 8) (hdd : d' + 1 ≤ d)
    (hC : Cq X mdY d' rkY μ As fY) (hno : nth fY) (hsv : ∀ v, (rvO rkY v).toList ++ st = sv v) (h : rb fY k0 = some res) (kk : ∀ μ' v, k0 μ' v = some res → KK X md d rk res (pc + 3) l (sv v) μ') {st1 : List Value} (hs1 : st1 = As.reverse ++ st) : KK X md d rk res pc l st1 μ := by
  cases fY with
  | none => cases h
  | some r =>
    obtain ⟨μ1, c1, x1⟩ := r
    have hc := hno _ rfl
    dsimp only at hc
    subst hc
    have hC0 := hC _ rfl
    rw [show cq (μ1, 0, x1) = 0 from rfl, Nat.mul_zero] at hC0
    refine K_callSN (mcY := 0) (msY := 0) hd M hn hst hdd hC0 (fun q => by cases q) (fun v sk' μ' hp => ?_) (fun e sk' μ' hp => ?_) hs1
    · obtain ⟨rfl, -, rfl, rfl⟩ := hp
      rw [hsv]; exact kk _ _ h
    · obtain ⟨-, q, -⟩ := hp; cases q
end KZ

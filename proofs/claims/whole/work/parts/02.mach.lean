/-! values, stores, instructions of the small machine -/
abbrev x_V : Type := Int ⊕ (Int ⊕ ((Nat × Nat) ⊕ Unit))
def xI (a : Int) : x_V := .inl a
def xJ (a : Int) : x_V := .inr (.inl a)
def xR (c j : Nat) : x_V := .inr (.inr (.inl (c, j)))
def xU : x_V := .inr (.inr (.inr ()))
abbrev x_S : Type := Nat → Nat → Int → Int
abbrev x_K : Type := Nat × Nat
abbrev x_I : Type := Nat × Int × Nat × Nat × Nat × Nat
abbrev x_F : Type := Int → Nat → Nat → Nat → List x_V → List x_V → x_K → x_S → Option (List x_V × List x_V × x_K × x_S)
def x_r32 (a : Int) : Prop := -2147483648 ≤ a ∧ a ≤ 2147483647
def x_r64 (a : Int) : Prop := -9223372036854775808 ≤ a ∧ a ≤ 9223372036854775807
def x_b32 (a : Int) : Bool := decide (-2147483648 ≤ a) && decide (a ≤ 2147483647)
def x_b64 (a : Int) : Bool := decide (-9223372036854775808 ≤ a) && decide (a ≤ 9223372036854775807)
theorem x_b32_iff {a : Int} : x_b32 a = true ↔ x_r32 a := by simp [x_b32, x_r32]
theorem x_b64_iff {a : Int} : x_b64 a = true ↔ x_r64 a := by simp [x_b64, x_r64]
def x_st (σ : x_S) (c j : Nat) (i v : Int) : x_S := fun c' j' i' => if c' = c ∧ j' = j ∧ i' = i then v else σ c' j' i'
def x_zr (σ : x_S) (c j : Nat) : x_S := fun c' j' i' => if c' = c ∧ j' = j then 0 else σ c' j' i'
def x_cp (σ : x_S) (c j : Nat) (i : Int) (c2 j2 : Nat) (i2 n : Int) : x_S := fun c' j' i' => if c' = c2 ∧ j' = j2 ∧ i2 ≤ i' ∧ i' < i2 + n then σ c j (i + (i' - i2)) else σ c' j' i'
def x_get : List x_V → Nat → x_V
  | [], _ => xU
  | v :: _, 0 => v
  | _ :: L, n + 1 => x_get L n
def x_clr : x_V → x_V
  | .inr (.inl _) => xU
  | v => v
def x_set : List x_V → Nat → x_V → List x_V
  | [], _, _ => []
  | _ :: L, 0, v => v :: L
  | x :: L, 1, v => x_clr x :: x_set L 0 v
  | x :: L, n + 2, v => x :: x_set L (n + 1) v
def x_un1 : List x_V → Nat → List x_V
  | [], _ => []
  | _ :: L, 0 => xU :: L
  | x :: L, n + 1 => x :: x_un1 L n
def x_arg : List x_V → List x_V
  | [] => []
  | .inr (.inl a) :: vs => .inr (.inl a) :: xU :: x_arg vs
  | .inl a :: vs => .inl a :: x_arg vs
  | .inr (.inr r) :: vs => .inr (.inr r) :: x_arg vs
def x_pop : Nat → List x_V → List x_V → Option (List x_V × List x_V)
  | 0, st, as => some (as, st)
  | n + 1, v :: st, as => x_pop n st (v :: as)
  | _ + 1, [], _ => none
def x_psh : Option x_V → List x_V → List x_V
  | none, st => st
  | some v, st => v :: st
def x_wt : List x_V → Nat
  | [] => 0
  | .inr (.inl _) :: st => x_wt st + 2
  | .inl _ :: st => x_wt st + 1
  | .inr (.inr _) :: st => x_wt st + 1
def x_pay (a : Int) : Int := if a = 0 then 100000000 else if a = 1 then 1000000 else if a = 2 then 10000 else if a = 3 then 100 else 1
def x_kds : List (Nat × Nat) := [(0, 8), (1, 42), (2, 42), (0, 2), (3, 1800), (1, 40), (0, 5), (1, 40), (1, 40), (1, 40), (1, 40), (1, 40), (1, 40), (1, 40), (1, 40), (1, 200), (0, 4), (1, 4), (1, 4), (2, 240), (0, 3), (1, 40), (1, 40), (5, 3), (0, 0), (2, 1680), (2, 40), (2, 42), (2, 42), (0, 7), (2, 40), (1, 1680), (1, 42), (0, 6), (4, 40), (4, 40), (1, 40), (1, 40), (1, 40), (1, 40), (1, 40), (1, 40), (2, 40), (4, 40), (0, 1), (1, 40), (1, 40), (1, 40), (1, 200), (1, 200), (0, 9), (1, 616), (1, 1848), (4, 3), (3, 1800), (1, 5), (1, 616), (1, 40), (4, 5), (2, 1680), (2, 40), (2, 1680), (1, 40), (1, 40), (2, 40), (2, 42), (2, 42), (1, 8), (4, 40), (1, 616), (1, 4), (1, 4), (2, 240), (2, 60)]
def x_rhs : List (List (Nat × Nat)) := [[(3, 0), (16, 0), (20, 2), (23, 0), (24, 0), (24, 2), (24, 3), (24, 4), (29, 0), (33, 0), (44, 0), (1, 0), (2, 0), (0, 0), (0, 0), (0, 0), (0, 0), (0, 0)], [], [], [(6, 0), (0, 0), (0, 0), (0, 0), (4, 0), (5, 0), (0, 0), (0, 0), (0, 0), (0, 0)], [], [], [(0, 0), (0, 0), (0, 0), (0, 0), (0, 0), (0, 0), (0, 0), (7, 0), (8, 0), (9, 0), (10, 0), (11, 0), (12, 0), (13, 0), (14, 0), (15, 0)], [], [], [], [], [], [], [], [], [], [(17, 0), (18, 0), (19, 0)], [], [], [], [(6, 0), (21, 0), (22, 0), (0, 0), (0, 0), (0, 0), (0, 0), (0, 0), (0, 0)], [], [], [], [(6, 2), (0, 0), (0, 0), (0, 0), (25, 0), (26, 0), (27, 0), (0, 0), (0, 0), (0, 0), (28, 0)], [], [], [], [], [(6, 2), (30, 0), (31, 0), (32, 0)], [], [], [], [(20, 2), (34, 0), (35, 0), (36, 0), (37, 0), (38, 0), (39, 0), (40, 0), (41, 0), (42, 0), (0, 0), (43, 0)], [], [], [], [], [], [], [], [], [], [], [(6, 2), (45, 0), (46, 0), (47, 0), (48, 0), (49, 0)], [], [], [], [], [], [(0, 0), (51, 0), (52, 0), (53, 0), (54, 0), (0, 0), (55, 0), (0, 0), (0, 0), (0, 0), (0, 0), (0, 0), (0, 0), (0, 0), (56, 0), (57, 0), (58, 0), (0, 0), (0, 0), (0, 0), (59, 0), (60, 0), (61, 0), (0, 0), (0, 0), (62, 0), (63, 0), (64, 0), (65, 0), (66, 0), (67, 0), (68, 0), (69, 0), (0, 0), (70, 0), (71, 0), (72, 0), (73, 0)], [], [], [], [], [], [], [], [], [], [], [], [], [], [], [], [], [], [], [], [], [], [], []]
def x_nms : List (Nat × Nat) := [(0, 0), (3, 0), (6, 0), (7, 0), (8, 0), (9, 0), (10, 0), (11, 0), (12, 0), (13, 0), (14, 0), (15, 0), (4, 0), (5, 0), (16, 0), (17, 0), (18, 0), (19, 0), (20, 1), (6, 1), (7, 1), (8, 1), (9, 1), (10, 1), (11, 1), (12, 1), (13, 1), (14, 1), (15, 1), (21, 1), (22, 1), (23, 0), (24, 0), (25, 0), (26, 0), (27, 0), (28, 0), (24, 1), (25, 1), (26, 1), (27, 1), (28, 1), (24, 2), (25, 2), (26, 2), (27, 2), (28, 2), (24, 3), (25, 3), (26, 3), (27, 3), (28, 3), (29, 0), (30, 0), (31, 0), (32, 0), (33, 0), (34, 0), (35, 0), (36, 0), (37, 0), (38, 0), (39, 0), (40, 0), (41, 0), (42, 0), (43, 0), (44, 0), (45, 0), (46, 0), (47, 0), (48, 0), (49, 0), (1, 0), (2, 0), (20, 2), (6, 2), (7, 2), (8, 2), (9, 2), (10, 2), (11, 2), (12, 2), (13, 2), (14, 2), (15, 2), (21, 2), (22, 2), (20, 3), (6, 3), (7, 3), (8, 3), (9, 3), (10, 3), (11, 3), (12, 3), (13, 3), (14, 3), (15, 3), (21, 3), (22, 3), (20, 4), (6, 4), (7, 4), (8, 4), (9, 4), (10, 4), (11, 4), (12, 4), (13, 4), (14, 4), (15, 4), (21, 4), (22, 4), (50, 0), (51, 0), (52, 0), (53, 0), (54, 0), (55, 0), (56, 0), (57, 0), (58, 0), (59, 0), (60, 0), (61, 0), (62, 0), (63, 0), (64, 0), (65, 0), (66, 0), (67, 0), (68, 0), (69, 0), (70, 0), (71, 0), (72, 0), (73, 0)]
def x_puts : List (Nat × Nat × Nat) := [(6, 7, 0), (6, 8, 0), (6, 9, 0), (6, 10, 0), (6, 11, 0), (6, 12, 0), (6, 13, 0), (6, 14, 0), (6, 15, 0), (3, 0, 0), (3, 4, 0), (3, 5, 0), (0, 0, 0), (16, 0, 0), (16, 1, 0), (16, 2, 0), (0, 1, 0), (6, 7, 1), (6, 8, 1), (6, 9, 1), (6, 10, 1), (6, 11, 1), (6, 12, 1), (6, 13, 1), (6, 14, 1), (6, 15, 1), (20, 0, 1), (20, 1, 1), (20, 2, 1), (0, 2, 0), (0, 3, 0), (24, 4, 0), (24, 5, 0), (24, 6, 0), (24, 10, 0), (24, 0, 0), (0, 4, 0), (24, 4, 1), (24, 5, 1), (24, 6, 1), (24, 10, 1), (24, 0, 1), (0, 5, 0), (24, 4, 2), (24, 5, 2), (24, 6, 2), (24, 10, 2), (24, 0, 2), (0, 6, 0), (24, 4, 3), (24, 5, 3), (24, 6, 3), (24, 10, 3), (24, 0, 3), (0, 7, 0), (29, 1, 0), (29, 2, 0), (29, 3, 0), (29, 0, 0), (0, 8, 0), (33, 1, 0), (33, 2, 0), (33, 3, 0), (33, 4, 0), (33, 5, 0), (33, 6, 0), (33, 7, 0), (33, 8, 0), (33, 9, 0), (33, 11, 0), (33, 0, 0), (0, 9, 0), (44, 1, 0), (44, 2, 0), (44, 3, 0), (44, 4, 0), (44, 5, 0), (44, 0, 0), (0, 10, 0), (0, 11, 0), (0, 12, 0), (6, 7, 2), (6, 8, 2), (6, 9, 2), (6, 10, 2), (6, 11, 2), (6, 12, 2), (6, 13, 2), (6, 14, 2), (6, 15, 2), (20, 0, 2), (20, 1, 2), (20, 2, 2), (23, 0, 0), (6, 7, 3), (6, 8, 3), (6, 9, 3), (6, 10, 3), (6, 11, 3), (6, 12, 3), (6, 13, 3), (6, 14, 3), (6, 15, 3), (20, 0, 3), (20, 1, 3), (20, 2, 3), (23, 1, 0), (6, 7, 4), (6, 8, 4), (6, 9, 4), (6, 10, 4), (6, 11, 4), (6, 12, 4), (6, 13, 4), (6, 14, 4), (6, 15, 4), (20, 0, 4), (20, 1, 4), (20, 2, 4), (23, 2, 0), (50, 1, 0), (50, 2, 0), (50, 3, 0), (50, 4, 0), (50, 6, 0), (50, 14, 0), (50, 15, 0), (50, 16, 0), (50, 20, 0), (50, 21, 0), (50, 22, 0), (50, 25, 0), (50, 26, 0), (50, 27, 0), (50, 28, 0), (50, 29, 0), (50, 30, 0), (50, 31, 0), (50, 32, 0), (50, 34, 0), (50, 35, 0), (50, 36, 0), (50, 37, 0)]
def x_strs : List (List Int) := [[115, 116, 97, 114, 116], [99, 97, 112], [119, 105, 100, 101], [99, 111, 115, 116], [104, 111, 108, 100], [108, 101, 102, 116], [114, 111, 111, 116], [112, 114, 105, 99, 101], [109, 111, 115, 116], [115, 101, 108, 108], [110, 101, 101, 100], [102, 111, 114, 107], [117, 110, 100, 101, 114], [99, 104, 97, 110, 99, 101], [115, 116, 97, 114, 116], [99, 97, 112], [119, 105, 100, 101], [104, 111, 108, 100], [108, 101, 102, 116], [99, 111, 115, 116], [114, 111, 111, 116], [112, 114, 105, 99, 101], [109, 111, 115, 116], [115, 101, 108, 108], [110, 101, 101, 100], [102, 111, 114, 107], [117, 110, 100, 101, 114], [99, 104, 97, 110, 99, 101]]
def x_tsw : List (Int × Nat × List Nat) := [(0, 4, [1, 2, 3]), (0, 10, [2, 3, 4, 5, 6, 7, 8, 9]), (0, 12, [1, 2, 3, 4, 5, 6, 7, 8, 9, 10, 11]), (0, 6, [1, 2, 3, 4, 5]), (0, 16, [1, 2, 9, 2, 10, 10, 10, 10, 10, 10, 11]), (0, 52, [2, 3, 4, 5, 6, 7, 8, 9, 10, 11, 12, 13, 14, 15, 16, 17, 18, 19, 20, 21, 22, 23, 24, 25, 26, 27, 28, 29, 30, 31, 32, 33, 34, 35, 36, 37, 38, 39, 40, 41, 42, 43, 44, 45, 46, 47, 48, 49, 50, 51])]
def x_lsw : List (Nat × List (Int × Nat)) := [(3, [(0, 1), (1, 2)])]
def x_kd (c : Nat) : Nat × Nat := x_kds.getD c (99, 0)
def x_rh (c f : Nat) : Nat × Nat := ((x_rhs.getD c []).getD f (0, 0))
def x_rho (c f j : Nat) : Nat × Nat := ((x_rh c f).1, match (x_rh c f).2 with | 0 => j | n + 1 => n)
def x_flg (k : x_K) (c f j : Nat) : Bool := decide ((c, f, j) ∈ x_puts.take k.2)
def x_chr (s : Nat) (i : Int) : Int := ((x_strs.getD s []).getD i.toNat 0)
def x_sln (s : Nat) : Int := (x_strs.getD s []).length
def x_kF : x_K := (x_nms.length, x_puts.length)
/-! the straight instructions, by their numbers -/
def o_ic : x_F := fun a _ _ _ L st k σ => some (L, xI a :: st, k, σ)
def o_lc : x_F := fun a _ _ _ L st k σ => some (L, xJ a :: st, k, σ)
def o_ild : x_F := fun _ b _ _ L st k σ => match x_get L b with | .inl a => some (L, xI a :: st, k, σ) | _ => none
def o_lld : x_F := fun _ b _ _ L st k σ => match x_get L b with | .inr (.inl a) => some (L, xJ a :: st, k, σ) | _ => none
def o_ald : x_F := fun _ b _ _ L st k σ => match x_get L b with | .inr (.inr (.inl (c, j))) => some (L, xR c j :: st, k, σ) | _ => none
def o_ist : x_F := fun _ b _ _ L st k σ => match st with | .inl a :: st => some (x_set L b (xI a), st, k, σ) | _ => none
def o_lst : x_F := fun _ b _ _ L st k σ => match st with | .inr (.inl a) :: st => some (x_un1 (x_set L b (xJ a)) (b + 1), st, k, σ) | _ => none
def o_ast : x_F := fun _ b _ _ L st k σ => match st with | .inr (.inr (.inl (c, j))) :: st => some (x_set L b (xR c j), st, k, σ) | _ => none
def o_inc : x_F := fun a b _ _ L st k σ => match x_get L b with | .inl x => some (x_set L b (xI (x + a)), st, k, σ) | _ => none
def o_i2 (f : Int → Int → Int) : x_F := fun _ _ _ _ L st k σ => match st with | .inl y :: .inl x :: st => some (L, xI (f x y) :: st, k, σ) | _ => none
def o_l2 (f : Int → Int → Int) : x_F := fun _ _ _ _ L st k σ => match st with | .inr (.inl y) :: .inr (.inl x) :: st => some (L, xJ (f x y) :: st, k, σ) | _ => none
def o_iadd : x_F := o_i2 (· + ·)
def o_isub : x_F := o_i2 (· - ·)
def o_imul : x_F := o_i2 (· * ·)
def o_idiv : x_F := fun _ _ _ _ L st k σ => match st with | .inl y :: .inl x :: st => if x_b32 x && x_b32 y && decide (y ≠ 0) then some (L, xI (x.tdiv y) :: st, k, σ) else none | _ => none
def o_irem : x_F := fun _ _ _ _ L st k σ => match st with | .inl y :: .inl x :: st => if x_b32 x && x_b32 y && decide (y ≠ 0) then some (L, xI (x.tmod y) :: st, k, σ) else none | _ => none
def o_ineg : x_F := fun _ _ _ _ L st k σ => match st with | .inl x :: st => some (L, xI (-x) :: st, k, σ) | _ => none
def x_and (x y : Int) : Int := (Int32.ofInt x &&& Int32.ofInt y).toInt
def x_or (x y : Int) : Int := (Int32.ofInt x ||| Int32.ofInt y).toInt
def x_shl (x y : Int) : Int := (Int32.ofInt x <<< (Int32.ofInt y &&& 31)).toInt
def x_shr (x y : Int) : Int := (Int32.ofInt x >>> (Int32.ofInt y &&& 31)).toInt
def x_ushr (x y : Int) : Int := ((Int32.ofInt x).toUInt32 >>> ((Int32.ofInt y).toUInt32 &&& Int32.toUInt32 31)).toInt32.toInt
def o_iand : x_F := o_i2 x_and
def o_ior : x_F := o_i2 x_or
def o_ishl : x_F := o_i2 x_shl
def o_ishr : x_F := o_i2 x_shr
def o_iushr : x_F := o_i2 x_ushr
def o_ladd : x_F := o_l2 (· + ·)
def o_lsub : x_F := o_l2 (· - ·)
def o_lmul : x_F := o_l2 (· * ·)
def o_ldiv : x_F := fun _ _ _ _ L st k σ => match st with | .inr (.inl y) :: .inr (.inl x) :: st => if x_b64 x && x_b64 y && decide (y ≠ 0) then some (L, xJ (x.tdiv y) :: st, k, σ) else none | _ => none
def o_lneg : x_F := fun _ _ _ _ L st k σ => match st with | .inr (.inl x) :: st => some (L, xJ (-x) :: st, k, σ) | _ => none
def x_land (x y : Int) : Int := (Int64.ofInt x &&& Int64.ofInt y).toInt
def x_lor (x y : Int) : Int := (Int64.ofInt x ||| Int64.ofInt y).toInt
def x_lshl (x y : Int) : Int := (Int64.ofInt x <<< ((Int32.ofInt y).toInt64 &&& 63)).toInt
def x_lshr (x y : Int) : Int := (Int64.ofInt x >>> ((Int32.ofInt y).toInt64 &&& 63)).toInt
def o_land : x_F := o_l2 x_land
def o_lor : x_F := o_l2 x_lor
def o_lsh (f : Int → Int → Int) : x_F := fun _ _ _ _ L st k σ => match st with | .inl y :: .inr (.inl x) :: st => some (L, xJ (f x y) :: st, k, σ) | _ => none
def o_lshl : x_F := o_lsh x_lshl
def o_lshr : x_F := o_lsh x_lshr
def o_i2l : x_F := fun _ _ _ _ L st k σ => match st with | .inl x :: st => if x_b32 x then some (L, xJ x :: st, k, σ) else none | _ => none
def o_l2i : x_F := fun _ _ _ _ L st k σ => match st with | .inr (.inl x) :: st => some (L, xI (x.bmod 4294967296) :: st, k, σ) | _ => none
def o_i2b : x_F := fun _ _ _ _ L st k σ => match st with | .inl x :: st => some (L, xI (x.bmod 256) :: st, k, σ) | _ => none
def o_i2s : x_F := fun _ _ _ _ L st k σ => match st with | .inl x :: st => some (L, xI (x.bmod 65536) :: st, k, σ) | _ => none
def o_i2c : x_F := fun _ _ _ _ L st k σ => match st with | .inl x :: st => some (L, xI (x % 65536) :: st, k, σ) | _ => none
def x_lcmp (x y : Int) : Int := if x < y then -1 else if x = y then 0 else 1
def o_lcmp : x_F := fun _ _ _ _ L st k σ => match st with | .inr (.inl y) :: .inr (.inl x) :: st => if x_b64 x && x_b64 y then some (L, xI (x_lcmp x y) :: st, k, σ) else none | _ => none
def o_dup : x_F := fun _ _ _ _ L st k σ => match st with | .inl a :: st => some (L, xI a :: xI a :: st, k, σ) | .inr (.inr (.inl (c, j))) :: st => some (L, xR c j :: xR c j :: st, k, σ) | _ => none
def o_dup2 : x_F := fun _ _ _ _ L st k σ => match st with | .inl i :: .inr (.inr (.inl (c, j))) :: st => some (L, xI i :: xR c j :: xI i :: xR c j :: st, k, σ) | _ => none
def o_pop : x_F := fun _ _ _ _ L st k σ => match st with | .inl _ :: st => some (L, st, k, σ) | _ => none
def o_pop2 : x_F := fun _ _ _ _ L st k σ => match st with | .inr (.inl _) :: st => some (L, st, k, σ) | _ => none
def o_geti : x_F := fun _ b f _ L st k σ => match st with | .inr (.inr (.inl (c, j))) :: st => if x_kd c = (0, b) then some (L, xI (σ c j f) :: st, k, σ) else none | _ => none
def o_getj : x_F := fun _ b f _ L st k σ => match st with | .inr (.inr (.inl (c, j))) :: st => if x_kd c = (0, b) then some (L, xJ (σ c j f) :: st, k, σ) else none | _ => none
def o_getr : x_F := fun _ b f _ L st k σ => match st with | .inr (.inr (.inl (c, j))) :: st => if x_kd c = (0, b) ∧ x_flg k c f j = true then some (L, xR (x_rho c f j).1 (x_rho c f j).2 :: st, k, σ) else none | _ => none
def o_puti : x_F := fun _ b f _ L st k σ => match st with | .inl v :: .inr (.inr (.inl (c, j))) :: st => if x_kd c = (0, b) then some (L, st, k, x_st σ c j f v) else none | _ => none
def o_putj : x_F := fun _ b f _ L st k σ => match st with | .inr (.inl v) :: .inr (.inr (.inl (c, j))) :: st => if x_kd c = (0, b) then some (L, st, k, x_st σ c j f v) else none | _ => none
def o_putr : x_F := fun _ b f _ L st k σ => match st with | .inr (.inr (.inl (c2, j2))) :: .inr (.inr (.inl (c, j))) :: st => if x_kd c = (0, b) ∧ x_rho c f j = (c2, j2) ∧ c2 < 100 ∧ x_puts[k.2]? = some (c, f, j) then some (L, st, (k.1, k.2 + 1), σ) else none | _ => none
def o_putz : x_F := fun _ b f _ L st k σ => match st with | .inl v :: .inr (.inr (.inl (c, j))) :: st => if x_kd c = (0, b) ∧ (v = 0 ∨ v = 1) then some (L, st, k, x_st σ c j f v) else none | _ => none
def o_iald : x_F := fun _ _ _ _ L st k σ => match st with | .inl i :: .inr (.inr (.inl (c, j))) :: st => if (x_kd c).1 = 1 ∧ 0 ≤ i ∧ i < (x_kd c).2 then some (L, xI (σ c j i) :: st, k, σ) else if c = 100 ∧ j = 0 ∧ 0 ≤ i ∧ i < σ 100 1 0 then some (L, xI (σ 100 0 i) :: st, k, σ) else none | _ => none
def o_lald : x_F := fun _ _ _ _ L st k σ => match st with | .inl i :: .inr (.inr (.inl (c, j))) :: st => if (x_kd c).1 = 2 ∧ 0 ≤ i ∧ i < (x_kd c).2 then some (L, xJ (σ c j i) :: st, k, σ) else if c = 103 ∧ 0 ≤ i ∧ i < 5 then some (L, xJ (x_pay i) :: st, k, σ) else none | _ => none
def o_bald : x_F := fun _ _ _ _ L st k σ => match st with | .inl i :: .inr (.inr (.inl (c, j))) :: st => if ((x_kd c).1 = 3 ∨ (x_kd c).1 = 4) ∧ 0 ≤ i ∧ i < (x_kd c).2 then some (L, xI (σ c j i) :: st, k, σ) else if c = 102 ∧ j < 28 ∧ 0 ≤ i ∧ i < x_sln j then some (L, xI (x_chr j i) :: st, k, σ) else none | _ => none
def o_aald : x_F := fun _ _ _ _ L st k σ => match st with | .inl i :: .inr (.inr (.inl (c, j))) :: st => if c = 23 ∧ j = 0 ∧ 0 ≤ i ∧ i < 3 ∧ x_flg k 23 i.toNat 0 = true then some (L, xR 20 (i.toNat + 2) :: st, k, σ) else none | _ => none
def o_iast : x_F := fun _ _ _ _ L st k σ => match st with | .inl v :: .inl i :: .inr (.inr (.inl (c, j))) :: st => if (x_kd c).1 = 1 ∧ 0 ≤ i ∧ i < (x_kd c).2 then some (L, st, k, x_st σ c j i v) else none | _ => none
def o_last : x_F := fun _ _ _ _ L st k σ => match st with | .inr (.inl v) :: .inl i :: .inr (.inr (.inl (c, j))) :: st => if (x_kd c).1 = 2 ∧ 0 ≤ i ∧ i < (x_kd c).2 then some (L, st, k, x_st σ c j i v) else none | _ => none
def o_bast : x_F := fun _ _ _ _ L st k σ => match st with | .inl v :: .inl i :: .inr (.inr (.inl (c, j))) :: st => if (((x_kd c).1 = 3 ∧ -128 ≤ v ∧ v < 128) ∨ ((x_kd c).1 = 4 ∧ (v = 0 ∨ v = 1))) ∧ 0 ≤ i ∧ i < (x_kd c).2 then some (L, st, k, x_st σ c j i v) else none | _ => none
def o_aast : x_F := fun _ _ _ _ L st k σ => match st with | .inr (.inr (.inl (c2, j2))) :: .inl i :: .inr (.inr (.inl (c, j))) :: st => if c = 23 ∧ j = 0 ∧ 0 ≤ i ∧ i < 3 ∧ c2 = 20 ∧ j2 = i.toNat + 2 ∧ x_puts[k.2]? = some (23, i.toNat, 0) then some (L, st, (k.1, k.2 + 1), σ) else none | _ => none
def o_alen : x_F := fun _ _ _ _ L st k σ => match st with | .inr (.inr (.inl (c, j))) :: st => if 1 ≤ (x_kd c).1 ∧ (x_kd c).1 ≤ 5 then some (L, xI (x_kd c).2 :: st, k, σ) else if c = 100 ∧ j = 0 then some (L, xI (σ 100 1 0) :: st, k, σ) else if c = 102 ∧ j < 28 then some (L, xI (x_sln j) :: st, k, σ) else none | _ => none
def o_newa : x_F := fun _ b _ _ L st k σ => match st with | .inl n :: st => (match x_nms[k.1]? with | some (c, j) => if x_kd c = (b + 1, n.toNat) ∧ 0 ≤ n ∧ b ≤ 3 then some (L, xR c j :: st, (k.1 + 1, k.2), x_zr σ c j) else none | none => none) | _ => none
def o_anew : x_F := fun _ _ _ _ L st k σ => match st with | .inl n :: st => (match x_nms[k.1]? with | some (c, j) => if x_kd c = (5, n.toNat) ∧ 0 ≤ n ∧ c = 23 then some (L, xR c j :: st, (k.1 + 1, k.2), x_zr σ c j) else none | none => none) | _ => none
def o_new : x_F := fun _ b _ _ L st k σ => match x_nms[k.1]? with | some (c, j) => if x_kd c = (0, b) then some (L, xR c j :: st, (k.1 + 1, k.2), x_zr σ c j) else none | none => none
def o_obji : x_F := fun _ _ _ _ L st k σ => match st with | .inr (.inr (.inl (c, _))) :: st => if c < 100 ∧ x_wt st ≤ 8 then some (L, st, k, σ) else none | _ => none
def o_acpy : x_F := fun _ _ _ _ L st k σ => match st with | .inl n :: .inl dp :: .inr (.inr (.inl (c2, j2))) :: .inl sp :: .inr (.inr (.inl (c, j))) :: st => if ((x_kd c).1 = 1 ∨ (x_kd c).1 = 2) ∧ (x_kd c2).1 = (x_kd c).1 ∧ 0 ≤ n ∧ 0 ≤ dp ∧ 0 ≤ sp ∧ sp + n ≤ (x_kd c).2 ∧ dp + n ≤ (x_kd c2).2 ∧ x_wt st ≤ 8 then some (L, st, k, x_cp σ c j sp c2 j2 dp n) else none | _ => none
def o_gets : x_F := fun _ b _ _ L st k σ => match b with | 0 => some (L, xR 103 0 :: st, k, σ) | 1 => some (L, xI 1 :: st, k, σ) | 2 => some (L, xR 104 0 :: st, k, σ) | _ => none
def o_lds : x_F := fun _ b _ _ L st k σ => if b < 28 then some (L, xR 101 b :: st, k, σ) else none
def o_sval : x_F := fun _ _ _ _ L st k σ => match st with | .inr (.inr (.inl (c, j))) :: st => if c = 101 ∧ j < 28 then some (L, xR 102 j :: st, k, σ) else none | _ => none
def o_scod : x_F := fun _ _ _ _ L st k σ => match st with | .inr (.inr (.inl (c, j))) :: st => if c = 101 ∧ j < 28 then some (L, xI 0 :: st, k, σ) else none | _ => none
def x_ops : List x_F := [o_ic, o_lc, o_ild, o_lld, o_ald, o_ist, o_lst, o_ast, o_inc, o_iadd, o_isub, o_imul, o_idiv, o_irem, o_ineg, o_iand, o_ior, o_ishl, o_ishr, o_iushr, o_ladd, o_lsub, o_lmul, o_ldiv, o_lneg, o_land, o_lor, o_lshl, o_lshr, o_i2l, o_l2i, o_i2b, o_i2s, o_i2c, o_lcmp, o_dup, o_dup2, o_pop, o_pop2, o_geti, o_getj, o_getr, o_puti, o_putj, o_putr, o_putz, o_iald, o_lald, o_bald, o_aald, o_iast, o_last, o_bast, o_aast, o_alen, o_newa, o_anew, o_new, o_obji, o_acpy, o_gets, o_lds, o_sval, o_scod]
def o_no : x_F := fun _ _ _ _ _ _ _ _ => none
def x_sx (op : Nat) : x_F := x_ops.getD op o_no
/-! branches: the target, if one is taken -/
def x_if (c : Bool) (t : Nat) (st : List x_V) : Option (Option Nat × List x_V) := some (if c then some t else none, st)
def x_br (op : Nat) (b : Nat) (st : List x_V) : Option (Option Nat × List x_V) :=
  match op with
  | 64 => match st with | .inl x :: st => if x_b32 x then x_if (decide (x = 0)) b st else none | _ => none
  | 65 => match st with | .inl x :: st => if x_b32 x then x_if (decide (x ≠ 0)) b st else none | _ => none
  | 66 => match st with | .inl x :: st => if x_b32 x then x_if (decide (x < 0)) b st else none | _ => none
  | 67 => match st with | .inl x :: st => if x_b32 x then x_if (decide (0 ≤ x)) b st else none | _ => none
  | 68 => match st with | .inl x :: st => if x_b32 x then x_if (decide (0 < x)) b st else none | _ => none
  | 69 => match st with | .inl x :: st => if x_b32 x then x_if (decide (x ≤ 0)) b st else none | _ => none
  | 70 => match st with | .inl y :: .inl x :: st => if decide (x = y) || (x_b32 x && x_b32 y) then x_if (decide (x = y)) b st else none | _ => none
  | 71 => match st with | .inl y :: .inl x :: st => if decide (x = y) || (x_b32 x && x_b32 y) then x_if (decide (x ≠ y)) b st else none | _ => none
  | 72 => match st with | .inl y :: .inl x :: st => if x_b32 x && x_b32 y then x_if (decide (x < y)) b st else none | _ => none
  | 73 => match st with | .inl y :: .inl x :: st => if x_b32 x && x_b32 y then x_if (decide (y ≤ x)) b st else none | _ => none
  | 74 => match st with | .inl y :: .inl x :: st => if x_b32 x && x_b32 y then x_if (decide (y < x)) b st else none | _ => none
  | 75 => match st with | .inl y :: .inl x :: st => if x_b32 x && x_b32 y then x_if (decide (x ≤ y)) b st else none | _ => none
  | 76 => some (some b, st)
  | 77 => some (some b, st)
  | 78 => match st with | .inl x :: st => if x_b32 x then some (some (let w := x_tsw.getD b (0, 0, []); if w.1 ≤ x ∧ x < w.1 + (w.2.2.length : Int) then w.2.2.getD (x - w.1).toNat 0 else w.2.1), st) else none | _ => none
  | 79 => match st with | .inl x :: st => if x_b32 x then some (some (let w := x_lsw.getD b (0, []); ((w.2.find? (fun q => decide (q.1 = x))).map (·.2)).getD w.1), st) else none | _ => none
  | _ => none
def x_rt (op : Nat) (z : Nat) (st : List x_V) : Option (Option x_V) :=
  match op with
  | 80 => match st with | [.inl x] => if z = 0 ∨ (z = 1 ∧ (x = 0 ∨ x = 1)) ∨ (z = 2 ∧ -128 ≤ x ∧ x < 128) ∨ (z = 3 ∧ 0 ≤ x ∧ x < 65536) then some (some (xI x)) else none | _ => none
  | 81 => match st with | [.inr (.inl x)] => some (some (xJ x)) | _ => none
  | 82 => match st with | [.inr (.inr (.inl (c, j)))] => if c < 100 then some (some (xR c j)) else none | _ => none
  | 83 => match st with | [] => some none | _ => none
  | _ => none

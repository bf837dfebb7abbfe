/-! what each instruction is in bytes, and the words that it needs, by their places in the tables -/
abbrev x_B : Type := Nat → Int → Nat → Nat → Nat → Nat → Bool
noncomputable def x_dc (m p : Nat) (i : Instr) (n : Nat) : Bool := decide (decode (x_mC m) p = .ok (i, n))
def x_tb (e : Nat) (w : Jvm.Cond) : Bool := decide (lw_tbl[e]? = some w)
def x_clb (b : Nat) : vw_C := x_cl.getD b ("", x_T0, 0)
def x_fty (b f : Nat) : FieldType := (x_tyl.getD b x_ty0) f
noncomputable def x_fl (m : Nat) (a : Int) (b f : Nat) : Jvm.Cond := .fieldLink (x_ow m) a.toNat (x_clb b).1 ((x_clb b).2.1 f).2.1 ((x_clb b).2.1 f).2.2.1
def x_isr (t : FieldType) : Bool := match t with | .object _ => true | .array _ => true | _ => false
def x_fit (k : Nat) (t : FieldType) : Bool := match k with | 0 => decide (t = .int ∨ t = .boolean) | 1 => decide (t = .long) | 2 => x_isr t | 3 => decide (t = .int) | _ => decide (t = .boolean)
def x_f4 (b : Nat) : Fin 4 := Fin.ofNat 4 b
noncomputable def x_is (i : Instr) : x_B := fun m _ _ _ _ p => x_dc m p i 1
noncomputable def k_ic : x_B := fun m a b c e p => match b with
  | 0 => x_dc m p (.iconst a) 1
  | 1 => x_dc m p (.bipush a) 2 && decide ((Int8.ofInt a).toInt32 = Int32.ofInt a)
  | 2 => x_dc m p (.sipush a) 3 && decide ((Int16.ofInt a).toInt32 = Int32.ofInt a)
  | 3 => x_dc m p (.ldc c) 2 && x_tb e (.constant (x_ow m) c (Int32.ofInt a))
  | 4 => x_dc m p (.ldc_w c) 3 && x_tb e (.constant (x_ow m) c (Int32.ofInt a))
  | _ => false
noncomputable def k_lc : x_B := fun m a b c e p => match b with
  | 0 => (decide (a = 0) && x_dc m p (.lconst 0) 1) || (decide (a = 1) && x_dc m p (.lconst 1) 1)
  | 1 => x_dc m p (.ldc2_w c) 3 && x_tb e (.constantLong (x_ow m) c (Int64.ofInt a))
  | _ => false
noncomputable def x_kl (f : Fin 4 → Instr) (g : Nat → Instr) (w : Nat) : x_B := fun m _ b c _ p => decide (b + w < x_mL m) && match c with
  | 0 => decide (b < 4) && x_dc m p (f (x_f4 b)) 1
  | 1 => x_dc m p (g b) 2
  | _ => false
noncomputable def k_inc : x_B := fun m a b _ _ p => decide (b < x_mL m) && x_dc m p (.iinc b a) 3
noncomputable def x_kg (k : Nat) : x_B := fun m a b f e p => x_dc m p (.getfield a.toNat) 3 && x_tb e (x_fl m a b f) && decide (f < (x_clb b).2.2) && decide (b < 10) && x_fit k (x_fty b f)
noncomputable def x_kp (k : Nat) : x_B := fun m a b f e p => x_dc m p (.putfield a.toNat) 3 && x_tb e (x_fl m a b f) && decide (f < (x_clb b).2.2) && decide (b < 10) && x_fit k (x_fty b f) && decide (((x_clb b).2.1 f).2.2.2 = false)
noncomputable def k_putr : x_B := fun m a b f e p => x_dc m p (.putfield a.toNat) 3 && x_tb e (x_fl m a b f) && decide (f < (x_clb b).2.2) && decide (b < 10) && x_fit 2 (x_fty b f) && decide (((x_clb b).2.1 f).2.2.2 = true) && decide ((x_md m).2.1 = "<init>") && decide (((x_clb b).2.1 f).1 = x_ow m)
def x_at (b : Nat) : ArrayType := match b with | 0 => .int | 1 => .long | 2 => .byte | _ => .boolean
noncomputable def k_newa : x_B := fun m _ b _ _ p => x_dc m p (.newarray (x_at b)) 2 && decide (b ≤ 3)
noncomputable def k_anew : x_B := fun m a _ _ e p => x_dc m p (.anewarray a.toNat) 3 && x_tb e (.classLink (x_ow m) a.toNat "LoftTree$Scene")
noncomputable def k_new : x_B := fun m a b _ e p => x_dc m p (.new a.toNat) 3 && x_tb e (.classLink (x_ow m) a.toNat (x_clb b).1) && decide (b < 10)
noncomputable def k_obji : x_B := fun m a _ _ e p => x_dc m p (.invokespecial a.toNat) 3 && x_tb e (.methodLink (x_ow m) a.toNat Lib.objectInit)
noncomputable def k_acpy : x_B := fun m a _ _ e p => x_dc m p (.invokestatic a.toNat) 3 && x_tb e (.methodLink (x_ow m) a.toNat arraycopyName)
def x_sts (b : Nat) : String × String × String := match b with | 0 => ("LoftTree", "PARTS", "[J") | 1 => ("java/lang/String", "COMPACT_STRINGS", "Z") | _ => ("jdk/internal/util/Preconditions", "SIOOBE_FORMATTER", "Ljava/util/function/BiFunction;")
noncomputable def k_gets : x_B := fun m a b c e p => x_dc m p (.getstatic a.toNat) 3 && match c with
  | 0 => x_tb e (.fieldLink (x_ow m) a.toNat (x_sts b).1 (x_sts b).2.1 (x_sts b).2.2)
  | _ => x_tb e (.fieldLinkNest (x_ow m) a.toNat (x_sts b).1 (x_sts b).2.1 (x_sts b).2.2 "LoftTree")
def x_stx : List String := ["start", "cap", "wide", "cost", "hold", "left", "root", "price", "most", "sell", "need", "fork", "under", "chance", "start", "cap", "wide", "hold", "left", "cost", "root", "price", "most", "sell", "need", "fork", "under", "chance"]
def x_srf : List (String × Nat × Nat) := [("LoftTree$Reader", 64, 0), ("LoftTree$Reader", 79, 1), ("LoftTree$Reader", 83, 2), ("LoftTree$Reader", 87, 3), ("LoftTree$Reader", 96, 4), ("LoftTree$Reader", 100, 5), ("LoftTree$Reader", 104, 6), ("LoftTree$Reader", 133, 7), ("LoftTree$Reader", 137, 8), ("LoftTree$Reader", 141, 9), ("LoftTree$Reader", 145, 10), ("LoftTree$Reader", 109, 11), ("LoftTree$Reader", 124, 12), ("LoftTree$Reader", 131, 13), ("LoftTreeModel", 195, 14), ("LoftTreeModel", 197, 15), ("LoftTreeModel", 199, 16), ("LoftTreeModel", 201, 17), ("LoftTreeModel", 203, 18), ("LoftTreeModel", 205, 19), ("LoftTreeModel", 232, 20), ("LoftTreeModel", 211, 21), ("LoftTreeModel", 213, 22), ("LoftTreeModel", 215, 23), ("LoftTreeModel", 217, 24), ("LoftTreeModel", 234, 25), ("LoftTreeModel", 219, 26), ("LoftTreeModel", 221, 27)]
noncomputable def k_lds : x_B := fun m a b c e p => decide (a = 0) && x_dc m p (.ldc c) 2 && x_tb e (.stringRef (x_ow m) c (x_stx.getD b "")) && decide ((x_ow m, c, b) ∈ x_srf)
noncomputable def k_sval : x_B := fun m _ b _ e p => x_dc m p (.getfield b) 3 && x_tb e (.fieldLink (x_ow m) b "java/lang/String" "value" "[B")
noncomputable def k_scod : x_B := fun m _ b _ e p => x_dc m p (.getfield b) 3 && x_tb e (.fieldLink (x_ow m) b "java/lang/String" "coder" "B")
noncomputable def x_oks : List x_B := [k_ic, k_lc, x_kl .iload_n .iload 0, x_kl .lload_n .lload 1, x_kl .aload_n .aload 0, x_kl .istore_n .istore 0, x_kl .lstore_n .lstore 1, x_kl .astore_n .astore 0, k_inc, x_is .iadd, x_is .isub, x_is .imul, x_is .idiv, x_is .irem, x_is .ineg, x_is .iand, x_is .ior, x_is .ishl, x_is .ishr, x_is .iushr, x_is .ladd, x_is .lsub, x_is .lmul, x_is .ldiv, x_is .lneg, x_is .land, x_is .lor, x_is .lshl, x_is .lshr, x_is .i2l, x_is .l2i, x_is .i2b, x_is .i2s, x_is .i2c, x_is .lcmp, x_is .dup, x_is .dup2, x_is .pop, x_is .pop2, x_kg 0, x_kg 1, x_kg 2, x_kp 3, x_kp 1, k_putr, x_kp 4, x_is .iaload, x_is .laload, x_is .baload, x_is .aaload, x_is .iastore, x_is .lastore, x_is .bastore, x_is .aastore, x_is .arraylength, k_newa, k_anew, k_new, k_obji, k_acpy, k_gets, k_lds, k_sval, k_scod]
def x_len (op b c : Nat) : Nat :=
  if op = 0 then (if b = 0 then 1 else if b = 1 then 2 else if b = 2 then 3 else if b = 3 then 2 else 3)
  else if op = 1 then (if b = 0 then 1 else 3)
  else if op ≤ 7 then (if c = 0 then 1 else 2)
  else if op = 8 then 3
  else if op ≤ 38 then 1
  else if op ≤ 45 then 3
  else if op ≤ 54 then 1
  else if op = 55 then 2
  else if op = 61 then 2
  else 3
noncomputable def x_tg (m : Nat) (p b : Nat) : Int := (x_bpc m b : Int) - (p : Int)
noncomputable def x_bri (m op b p : Nat) : Option Instr :=
  match op with
  | 64 => some (.ifCond .eq (x_tg m p b)) | 65 => some (.ifCond .ne (x_tg m p b)) | 66 => some (.ifCond .lt (x_tg m p b)) | 67 => some (.ifCond .ge (x_tg m p b)) | 68 => some (.ifCond .gt (x_tg m p b)) | 69 => some (.ifCond .le (x_tg m p b))
  | 70 => some (.if_icmp .eq (x_tg m p b)) | 71 => some (.if_icmp .ne (x_tg m p b)) | 72 => some (.if_icmp .lt (x_tg m p b)) | 73 => some (.if_icmp .ge (x_tg m p b)) | 74 => some (.if_icmp .gt (x_tg m p b)) | 75 => some (.if_icmp .le (x_tg m p b))
  | 76 => some (.goto (x_tg m p b))
  | _ => none
noncomputable def x_kb (m op b c p : Nat) : Bool :=
  match op with
  | 77 => decide (x_bpc m b = p)
  | 78 => let w := x_tsw.getD b (0, 0, []); x_dc m p (.tableswitch (x_tg m p w.2.1) w.1 (w.1 + (w.2.2.length : Int) - 1) (w.2.2.map (x_tg m p)).toArray) c
  | 79 => let w := x_lsw.getD b (0, []); x_dc m p (.lookupswitch (x_tg m p w.1) (w.2.map (fun q => (q.1, x_tg m p q.2))).toArray) c && (w.2.zip (w.2.drop 1)).all (fun q => decide (q.1.1 < q.2.1))
  | _ => match x_bri m op b p with | some i => x_dc m p i 3 | none => false
noncomputable def x_kr (m op p : Nat) : Bool :=
  match op with
  | 80 => x_dc m p .ireturn 1 && decide ((x_mZ m = 0 ∧ x_mR m = some .int) ∨ (x_mZ m = 1 ∧ x_mR m = some .boolean) ∨ (x_mZ m = 2 ∧ x_mR m = some .byte) ∨ (x_mZ m = 3 ∧ x_mR m = some .char))
  | 81 => x_dc m p .lreturn 1 && decide (x_mR m = some .long)
  | 82 => x_dc m p .areturn 1 && (match x_mR m with | some t => x_isr t | none => false)
  | _ => x_dc m p .return_ 1 && decide (x_mR m = none)
def x_mp (m : Nat) : Nat × Nat × Nat × Nat × Nat × Nat := x_mps.getD m (0, 0, 0, 0, 9, 0)
noncomputable def x_kc (m op : Nat) (a : Int) (b c e p : Nat) : Bool :=
  decide (b < 286) && decide (b ≠ 272) && match op with
  | 84 => x_dc m p (.invokevirtual a.toNat) 3 && x_tb e (.methodLink (x_ow m) a.toNat (x_mY b)) && decide ((x_mp b).2.2.2.2.1 = 1 ∧ c = (x_mp b).2.2.2.2.2 + 1)
  | 85 => x_dc m p (.invokestatic a.toNat) 3 && x_tb e (.methodLink (x_ow m) a.toNat (x_mY b)) && decide ((x_mp b).2.2.2.2.1 = 0 ∧ c = (x_mp b).2.2.2.2.2)
  | 86 => x_dc m p (.invokespecial a.toNat) 3 && x_tb e (.methodLink (x_ow m) a.toNat (x_mY b)) && decide ((x_mp b).2.2.2.2.1 = 2 ∧ c = (x_mp b).2.2.2.2.2 + 1)
  | 87 => x_dc m p (.invokespecial a.toNat) 3 && x_tb e (.methodLinkNest (x_ow m) a.toNat (x_mY b) "LoftTree") && decide ((x_mp b).2.2.2.2.1 = 2 ∧ c = (x_mp b).2.2.2.2.2 + 1)
  | _ => false
def x_nob : x_B := fun _ _ _ _ _ _ => false
/-- a stretch from a place on -/
noncomputable def x_chk (m : Nat) : Nat → List x_I → Bool
  | _, [] => false
  | pc, (op, a, b, c, e, p) :: K => decide (p = pc) &&
    (if op < 64 then (x_oks.getD op x_nob) m a b c e p && x_chk m (pc + x_len op b c) K
     else if op < 76 then x_kb m op b c p && x_chk m (pc + 3) K
     else if op < 80 then x_kb m op b c p
     else if op < 84 then x_kr m op p
     else x_kc m op a b c e p && x_chk m (pc + 3) K)
/-- all stretches of a method; its own words -/
noncomputable def x_ok (m : Nat) : Bool := (List.range (x_md m).2.2.2.2.2.2.2.1.length).all (fun b => (x_blk m b).isEmpty || x_chk m (x_bpc m b) (x_blk m b))
noncomputable def x_wok (m : Nat) : Bool :=
  x_tb (x_mp m).1 (.code (x_mY m) (x_mC m) (x_mL m) (x_mR m)) && x_tb (x_mp m).2.1 (.initialized (x_ow m)) &&
  (match (x_mp m).2.2.2.2.1 with
   | 0 => x_tb (x_mp m).2.2.1 (.static (x_mY m))
   | 1 => x_tb (x_mp m).2.2.1 (.instanceMethod (x_mY m)) && x_tb (x_mp m).2.2.2.1 (.selects (x_ow m) (x_mY m) (x_mY m))
   | 2 => x_tb (x_mp m).2.2.1 (.instanceMethod (x_mY m)) && decide ((x_md m).2.1 = "<init>") && decide (x_mR m = none)
   | _ => false) &&
  decide (x_mL m ≤ 40) && decide ((parseMethodDescriptor (x_mY m).desc).map (fun d => d.parameters.length) = some (x_mp m).2.2.2.2.2) &&
  decide (plainName (x_ow m) = true) && decide (x_ow m ≠ "java/lang/invoke/MethodHandle") && decide (x_ow m ≠ "java/lang/invoke/VarHandle") && decide (x_bpc m 0 = 0)

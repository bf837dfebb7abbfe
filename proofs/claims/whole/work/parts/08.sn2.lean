/-! one instruction -/
def x_lns : List Nat := x_strs.map List.length
def x_byt : List (List Int32) := x_strs.map (·.map Int32.ofInt)
def x_tys (dA : Nat → ClassId) : List (ClassId × FieldType) := [(dA 0, .int), (dA 1, .long), (dA 2, .byte), (dA 3, .boolean), (dA 4, .object "LoftTree$Scene")]
def x_TB : List Jvm.Cond := lw_tbl.filter goodWord
def x_isn (w : Jvm.Cond) : Bool := match w with | .methodLinkNest .. => true | .fieldLinkNest .. => true | _ => false
def x_nst : List Jvm.Cond := lw_tbl.filter x_isn
def x_SS (X : x_X) (A : Nat → Prop) (U : State) (H : Heap) : Prop := ∀ i : Nat, i < 28 → va_O "java/lang/String" (X.1 i) A U H ∧ va_OF "java/lang/String" "coder" "B" (.int 0) (X.1 i) A U H ∧ va_OF "java/lang/String" "value" "[B" (.ref (X.2.1 i)) (X.1 i) A U H ∧ va_T .byte (X.2.1 i) (x_lns.getD i 0) (fun j => .int ((x_byt.getD i []).getD j 0)) A U H
def x_E (X : x_X) (A : Nat → Prop) (U : State) (H : Heap) : Prop :=
  x_SS X A U H ∧ va_Z "LoftTree" "PARTS" "[J" (.ref X.2.2.1) A U H ∧ va_T .long X.2.2.1 5 (fun j => .long (Int64.ofInt (x_pay j))) A U H ∧
  va_Z "java/lang/String" "COMPACT_STRINGS" "Z" (.int 1) A U H ∧ va_Z "jdk/internal/util/Preconditions" "SIOOBE_FORMATTER" "Ljava/util/function/BiFunction;" (va_rf X.2.2.2.1) A U H ∧
  (va_X X.2.2.2.2.1 X.2.2.2.2.2.1 X.2.2.2.2.2.2 U H ∧ X.2.2.2.2.1 < H.size ∧ ¬ A X.2.2.2.2.1 ∧ X.2.2.2.2.2.1 ≤ 3072) ∧
  (∀ w ∈ x_nst, va_Nw w U) ∧ (∀ q ∈ x_srf, vk_R q.1 q.2.1 (x_stx.getD q.2.2 "") (X.1 q.2.2) U) ∧ va_AO "LoftTree$Scene" U
noncomputable def x_C (p : Program) (R : Room) (s : State) (mi : MethodId) (args : Array Value) (meth : Method) (c : Code) (D : va_G) (dA : Nat → ClassId) (A : Nat → Prop) (X : x_X) (m d : Nat) : Prop :=
  p.tables.exec = Jvm.exec ∧ c.code = x_mC m ∧ c.maxLocals = x_mL m ∧ s.vm.findClass (x_ow m) = some mi.cls ∧ (∀ w ∈ x_TB, w.before args s = true) ∧ va_K D x_cl (x_tys dA) s ∧ x_E X A s s.heap ∧ (∀ q, s.heap.size ≤ q → A q) ∧
  ((x_md m).2.1 = "<init>" → meth.name = "<init>") ∧ d + 1 ≤ R.frames ∧ 64 * (d + 1) ≤ R.locals
def x_Wd (s : State) (D : va_G) (dA : Nat → ClassId) (A : Nat → Prop) (X : x_X) (α0 : Nat → Nat → Nat) (k0 : x_K) (α : Nat → Nat → Nat) (k : x_K) (σ : x_S) (H : Heap) (locs : List Loc) : Prop :=
  va_P D x_cl (x_w dA α k σ) H ∧ va_D A (x_w dA α k σ) ∧ va_S A s.heap H locs ∧ x_In X k σ ∧ (∀ q ∈ x_nms.take k0.1, α q.1 q.2 = α0 q.1 q.2) ∧ k0.1 ≤ k.1
noncomputable def x_G (p : Program) (l : Launch) (e : Env) (R : Room) (s : State) (mi : MethodId) (args : Array Value) (below : List Frame) (meth : Method) (c : Code) (Q : State → Prop) (D : va_G) (dA : Nat → ClassId) (A : Nat → Prop) (X : x_X) (α0 : Nat → Nat → Nat) (k0 : x_K) (m pc : Nat) (L st : List x_V) (k : x_K) (σ : x_S) : Prop :=
  ∀ (H : Heap) (locs : List Loc) (ls : Array Slot) (α : Nat → Nat → Nat), x_Wd s D dA A X α0 k0 α k σ H locs → L.length = x_mL m → x_ovs k L → x_ovs k st → lv_has ls (x_mL m) (x_ll X α (x_mL m) L) →
    W p l e R s mi args below meth c H locs (k.1 - k0.1) (x_sl k.1 - x_sl k0.1) Q (F0 mi pc ls (st.map (x_cv X α)))
noncomputable def x_SND (op : Nat) (f : x_F) (kf : x_B) : Prop :=
  ∀ (p : Program) (l : Launch) (e : Env) (R : Room) (s : State) (mi : MethodId) (args : Array Value) (below : List Frame) (meth : Method) (c : Code) (Q : State → Prop) (D : va_G) (dA : Nat → ClassId) (A : Nat → Prop) (X : x_X) (α0 : Nat → Nat → Nat) (k0 : x_K) (m d pc : Nat) (a : Int) (b cc ee : Nat) (L st : List x_V) (k : x_K) (σ : x_S) (L' st' : List x_V) (k' : x_K) (σ' : x_S),
    x_C p R s mi args meth c D dA A X m d → f a b cc ee L st k σ = some (L', st', k', σ') → kf m a b cc ee pc = true → (k'.1 - k0.1 ≤ R.cells ∧ x_sl k'.1 - x_sl k0.1 ≤ R.slots) →
    x_G p l e R s mi args below meth c Q D dA A X α0 k0 m (pc + x_len op b cc) L' st' k' σ' → x_G p l e R s mi args below meth c Q D dA A X α0 k0 m pc L st k σ
theorem x_dec {m p : Nat} {i : Instr} {n : Nat} (h : x_dc m p i n = true) : decode (x_mC m) p = .ok (i, n) := of_decide_eq_true h
theorem x_ovs_cons {k : x_K} {v : x_V} {l : List x_V} : x_ovs k (v :: l) ↔ x_ov k v ∧ x_ovs k l := by simp [x_ovs]
theorem x_ovi (k : x_K) (a : Int) : x_ov k (xI a) := trivial
theorem x_ovj (k : x_K) (a : Int) : x_ov k (xJ a) := trivial
theorem x_i2_inv {f : Int → Int → Int} {a : Int} {b c e : Nat} {L st : List x_V} {k : x_K} {σ : x_S} {L' st' : List x_V} {k' : x_K} {σ' : x_S} (h : o_i2 f a b c e L st k σ = some (L', st', k', σ')) : ∃ x y st0, st = xI y :: xI x :: st0 ∧ L' = L ∧ st' = xI (f x y) :: st0 ∧ k' = k ∧ σ' = σ := by
  unfold o_i2 at h
  split at h
  · cases h; exact ⟨_, _, _, rfl, rfl, rfl, rfl, rfl⟩
  · cases h
theorem x_l2_inv {f : Int → Int → Int} {a : Int} {b c e : Nat} {L st : List x_V} {k : x_K} {σ : x_S} {L' st' : List x_V} {k' : x_K} {σ' : x_S} (h : o_l2 f a b c e L st k σ = some (L', st', k', σ')) : ∃ x y st0, st = xJ y :: xJ x :: st0 ∧ L' = L ∧ st' = xJ (f x y) :: st0 ∧ k' = k ∧ σ' = σ := by
  unfold o_l2 at h
  split at h
  · cases h; exact ⟨_, _, _, rfl, rfl, rfl, rfl, rfl⟩
  · cases h
theorem s_iadd : x_SND 9 o_iadd (x_is .iadd) := by
  intro p l e R s mi args below meth c Q D dA A X α0 k0 m d pc a b cc ee L st k σ L' st' k' σ' C h hk hR hG H locs ls α hW hL hov hos hls
  obtain ⟨hx, hb, hml, hown, hts, hK, hE, hA, hin, hfr, hlo⟩ := C
  obtain ⟨x, y, st0, rfl, rfl, rfl, rfl, rfl⟩ := x_i2_inv h
  refine lv_iadd hx hb (x_dec hk) ?_
  have hos := (x_ovs_cons.mp (x_ovs_cons.mp hos).2).2
  have := hG H locs ls α hW hL hov (x_ovs_cons.mpr ⟨trivial, hos⟩) hls
  simp only [List.map_cons, x_cv_i, Int32.ofInt_add] at this
  exact this
theorem s_isub : x_SND 10 o_isub (x_is .isub) := by
  intro p l e R s mi args below meth c Q D dA A X α0 k0 m d pc a b cc ee L st k σ L' st' k' σ' C h hk hR hG H locs ls α hW hL hov hos hls
  obtain ⟨hx, hb, hml, hown, hts, hK, hE, hA, hin, hfr, hlo⟩ := C
  obtain ⟨x, y, st0, rfl, rfl, rfl, rfl, rfl⟩ := x_i2_inv h
  refine lv_isub hx hb (x_dec hk) ?_
  have hos := (x_ovs_cons.mp (x_ovs_cons.mp hos).2).2
  have := hG H locs ls α hW hL hov (x_ovs_cons.mpr ⟨trivial, hos⟩) hls
  simp only [List.map_cons, x_cv_i, Int32.ofInt_sub] at this
  exact this
theorem s_imul : x_SND 11 o_imul (x_is .imul) := by
  intro p l e R s mi args below meth c Q D dA A X α0 k0 m d pc a b cc ee L st k σ L' st' k' σ' C h hk hR hG H locs ls α hW hL hov hos hls
  obtain ⟨hx, hb, hml, hown, hts, hK, hE, hA, hin, hfr, hlo⟩ := C
  obtain ⟨x, y, st0, rfl, rfl, rfl, rfl, rfl⟩ := x_i2_inv h
  refine lv_imul hx hb (x_dec hk) ?_
  have hos := (x_ovs_cons.mp (x_ovs_cons.mp hos).2).2
  have := hG H locs ls α hW hL hov (x_ovs_cons.mpr ⟨trivial, hos⟩) hls
  simp only [List.map_cons, x_cv_i, Int32.ofInt_mul] at this
  exact this
theorem s_iand : x_SND 15 o_iand (x_is .iand) := by
  intro p l e R s mi args below meth c Q D dA A X α0 k0 m d pc a b cc ee L st k σ L' st' k' σ' C h hk hR hG H locs ls α hW hL hov hos hls
  obtain ⟨hx, hb, hml, hown, hts, hK, hE, hA, hin, hfr, hlo⟩ := C
  obtain ⟨x, y, st0, rfl, rfl, rfl, rfl, rfl⟩ := x_i2_inv h
  refine lv_iand hx hb (x_dec hk) ?_
  have hos := (x_ovs_cons.mp (x_ovs_cons.mp hos).2).2
  have := hG H locs ls α hW hL hov (x_ovs_cons.mpr ⟨trivial, hos⟩) hls
  simp only [List.map_cons, x_cv_i, x_and, Int32.ofInt_toInt] at this
  exact this
theorem s_ior : x_SND 16 o_ior (x_is .ior) := by
  intro p l e R s mi args below meth c Q D dA A X α0 k0 m d pc a b cc ee L st k σ L' st' k' σ' C h hk hR hG H locs ls α hW hL hov hos hls
  obtain ⟨hx, hb, hml, hown, hts, hK, hE, hA, hin, hfr, hlo⟩ := C
  obtain ⟨x, y, st0, rfl, rfl, rfl, rfl, rfl⟩ := x_i2_inv h
  refine lv_ior hx hb (x_dec hk) ?_
  have hos := (x_ovs_cons.mp (x_ovs_cons.mp hos).2).2
  have := hG H locs ls α hW hL hov (x_ovs_cons.mpr ⟨trivial, hos⟩) hls
  simp only [List.map_cons, x_cv_i, x_or, Int32.ofInt_toInt] at this
  exact this
theorem s_ishl : x_SND 17 o_ishl (x_is .ishl) := by
  intro p l e R s mi args below meth c Q D dA A X α0 k0 m d pc a b cc ee L st k σ L' st' k' σ' C h hk hR hG H locs ls α hW hL hov hos hls
  obtain ⟨hx, hb, hml, hown, hts, hK, hE, hA, hin, hfr, hlo⟩ := C
  obtain ⟨x, y, st0, rfl, rfl, rfl, rfl, rfl⟩ := x_i2_inv h
  refine lv_ishl hx hb (x_dec hk) ?_
  have hos := (x_ovs_cons.mp (x_ovs_cons.mp hos).2).2
  have := hG H locs ls α hW hL hov (x_ovs_cons.mpr ⟨trivial, hos⟩) hls
  simp only [List.map_cons, x_cv_i, x_shl, Int32.ofInt_toInt] at this
  exact this
theorem s_ishr : x_SND 18 o_ishr (x_is .ishr) := by
  intro p l e R s mi args below meth c Q D dA A X α0 k0 m d pc a b cc ee L st k σ L' st' k' σ' C h hk hR hG H locs ls α hW hL hov hos hls
  obtain ⟨hx, hb, hml, hown, hts, hK, hE, hA, hin, hfr, hlo⟩ := C
  obtain ⟨x, y, st0, rfl, rfl, rfl, rfl, rfl⟩ := x_i2_inv h
  refine lv_ishr hx hb (x_dec hk) ?_
  have hos := (x_ovs_cons.mp (x_ovs_cons.mp hos).2).2
  have := hG H locs ls α hW hL hov (x_ovs_cons.mpr ⟨trivial, hos⟩) hls
  simp only [List.map_cons, x_cv_i, x_shr, Int32.ofInt_toInt] at this
  exact this
theorem s_iushr : x_SND 19 o_iushr (x_is .iushr) := by
  intro p l e R s mi args below meth c Q D dA A X α0 k0 m d pc a b cc ee L st k σ L' st' k' σ' C h hk hR hG H locs ls α hW hL hov hos hls
  obtain ⟨hx, hb, hml, hown, hts, hK, hE, hA, hin, hfr, hlo⟩ := C
  obtain ⟨x, y, st0, rfl, rfl, rfl, rfl, rfl⟩ := x_i2_inv h
  refine lv_iushr hx hb (x_dec hk) rfl ?_
  have hos := (x_ovs_cons.mp (x_ovs_cons.mp hos).2).2
  have := hG H locs ls α hW hL hov (x_ovs_cons.mpr ⟨trivial, hos⟩) hls
  simp only [List.map_cons, x_cv_i, x_ushr, Int32.ofInt_toInt] at this
  exact this
theorem s_ladd : x_SND 20 o_ladd (x_is .ladd) := by
  intro p l e R s mi args below meth c Q D dA A X α0 k0 m d pc a b cc ee L st k σ L' st' k' σ' C h hk hR hG H locs ls α hW hL hov hos hls
  obtain ⟨hx, hb, hml, hown, hts, hK, hE, hA, hin, hfr, hlo⟩ := C
  obtain ⟨x, y, st0, rfl, rfl, rfl, rfl, rfl⟩ := x_l2_inv h
  refine lv_ladd hx hb (x_dec hk) ?_
  have hos := (x_ovs_cons.mp (x_ovs_cons.mp hos).2).2
  have := hG H locs ls α hW hL hov (x_ovs_cons.mpr ⟨trivial, hos⟩) hls
  simp only [List.map_cons, x_cv_j, Int64.ofInt_add] at this
  exact this
theorem s_lsub : x_SND 21 o_lsub (x_is .lsub) := by
  intro p l e R s mi args below meth c Q D dA A X α0 k0 m d pc a b cc ee L st k σ L' st' k' σ' C h hk hR hG H locs ls α hW hL hov hos hls
  obtain ⟨hx, hb, hml, hown, hts, hK, hE, hA, hin, hfr, hlo⟩ := C
  obtain ⟨x, y, st0, rfl, rfl, rfl, rfl, rfl⟩ := x_l2_inv h
  refine lv_lsub hx hb (x_dec hk) ?_
  have hos := (x_ovs_cons.mp (x_ovs_cons.mp hos).2).2
  have := hG H locs ls α hW hL hov (x_ovs_cons.mpr ⟨trivial, hos⟩) hls
  simp only [List.map_cons, x_cv_j, Int64.ofInt_sub] at this
  exact this
theorem s_lmul : x_SND 22 o_lmul (x_is .lmul) := by
  intro p l e R s mi args below meth c Q D dA A X α0 k0 m d pc a b cc ee L st k σ L' st' k' σ' C h hk hR hG H locs ls α hW hL hov hos hls
  obtain ⟨hx, hb, hml, hown, hts, hK, hE, hA, hin, hfr, hlo⟩ := C
  obtain ⟨x, y, st0, rfl, rfl, rfl, rfl, rfl⟩ := x_l2_inv h
  refine lv_lmul hx hb (x_dec hk) ?_
  have hos := (x_ovs_cons.mp (x_ovs_cons.mp hos).2).2
  have := hG H locs ls α hW hL hov (x_ovs_cons.mpr ⟨trivial, hos⟩) hls
  simp only [List.map_cons, x_cv_j, Int64.ofInt_mul] at this
  exact this
theorem s_land : x_SND 25 o_land (x_is .land) := by
  intro p l e R s mi args below meth c Q D dA A X α0 k0 m d pc a b cc ee L st k σ L' st' k' σ' C h hk hR hG H locs ls α hW hL hov hos hls
  obtain ⟨hx, hb, hml, hown, hts, hK, hE, hA, hin, hfr, hlo⟩ := C
  obtain ⟨x, y, st0, rfl, rfl, rfl, rfl, rfl⟩ := x_l2_inv h
  refine lv_land hx hb (x_dec hk) ?_
  have hos := (x_ovs_cons.mp (x_ovs_cons.mp hos).2).2
  have := hG H locs ls α hW hL hov (x_ovs_cons.mpr ⟨trivial, hos⟩) hls
  simp only [List.map_cons, x_cv_j, x_land, Int64.ofInt_toInt] at this
  exact this
theorem s_lor : x_SND 26 o_lor (x_is .lor) := by
  intro p l e R s mi args below meth c Q D dA A X α0 k0 m d pc a b cc ee L st k σ L' st' k' σ' C h hk hR hG H locs ls α hW hL hov hos hls
  obtain ⟨hx, hb, hml, hown, hts, hK, hE, hA, hin, hfr, hlo⟩ := C
  obtain ⟨x, y, st0, rfl, rfl, rfl, rfl, rfl⟩ := x_l2_inv h
  refine lv_lor hx hb (x_dec hk) ?_
  have hos := (x_ovs_cons.mp (x_ovs_cons.mp hos).2).2
  have := hG H locs ls α hW hL hov (x_ovs_cons.mpr ⟨trivial, hos⟩) hls
  simp only [List.map_cons, x_cv_j, x_lor, Int64.ofInt_toInt] at this
  exact this
theorem s_idiv : x_SND 12 o_idiv (x_is .idiv) := by
  intro p l e R s mi args below meth c Q D dA A X α0 k0 m d pc a b cc ee L st k σ L' st' k' σ' C h hk hR hG H locs ls α hW hL hov hos hls
  obtain ⟨hx, hb, hml, hown, hts, hK, hE, hA, hin, hfr, hlo⟩ := C
  unfold o_idiv at h
  split at h
  · split at h
    · rename_i y x st0 hc
      cases h
      simp only [Bool.and_eq_true, decide_eq_true_eq] at hc
      refine lv_idiv hx hb (x_dec hk) (x_n_ne hc.1.2 hc.2) ?_
      have hos := (x_ovs_cons.mp (x_ovs_cons.mp hos).2).2
      have := hG H locs ls α hW hL hov (x_ovs_cons.mpr ⟨trivial, hos⟩) hls
      simp only [List.map_cons, x_cv_i, ← x_n_div hc.1.1 hc.1.2] at this
      exact this
    · cases h
  · cases h
theorem s_irem : x_SND 13 o_irem (x_is .irem) := by
  intro p l e R s mi args below meth c Q D dA A X α0 k0 m d pc a b cc ee L st k σ L' st' k' σ' C h hk hR hG H locs ls α hW hL hov hos hls
  obtain ⟨hx, hb, hml, hown, hts, hK, hE, hA, hin, hfr, hlo⟩ := C
  unfold o_irem at h
  split at h
  · split at h
    · rename_i y x st0 hc
      cases h
      simp only [Bool.and_eq_true, decide_eq_true_eq] at hc
      refine lv_irem hx hb (x_dec hk) (x_n_ne hc.1.2 hc.2) ?_
      have hos := (x_ovs_cons.mp (x_ovs_cons.mp hos).2).2
      have := hG H locs ls α hW hL hov (x_ovs_cons.mpr ⟨trivial, hos⟩) hls
      simp only [List.map_cons, x_cv_i, ← x_n_rem hc.1.1 hc.1.2] at this
      exact this
    · cases h
  · cases h
theorem s_ldiv : x_SND 23 o_ldiv (x_is .ldiv) := by
  intro p l e R s mi args below meth c Q D dA A X α0 k0 m d pc a b cc ee L st k σ L' st' k' σ' C h hk hR hG H locs ls α hW hL hov hos hls
  obtain ⟨hx, hb, hml, hown, hts, hK, hE, hA, hin, hfr, hlo⟩ := C
  unfold o_ldiv at h
  split at h
  · split at h
    · rename_i y x st0 hc
      cases h
      simp only [Bool.and_eq_true, decide_eq_true_eq] at hc
      refine lv_ldiv hx hb (x_dec hk) (x_n_lne hc.1.2 hc.2) ?_
      have hos := (x_ovs_cons.mp (x_ovs_cons.mp hos).2).2
      have := hG H locs ls α hW hL hov (x_ovs_cons.mpr ⟨trivial, hos⟩) hls
      simp only [List.map_cons, x_cv_j, ← x_n_ldiv hc.1.1 hc.1.2] at this
      exact this
    · cases h
  · cases h
theorem s_lcmp : x_SND 34 o_lcmp (x_is .lcmp) := by
  intro p l e R s mi args below meth c Q D dA A X α0 k0 m d pc a b cc ee L st k σ L' st' k' σ' C h hk hR hG H locs ls α hW hL hov hos hls
  obtain ⟨hx, hb, hml, hown, hts, hK, hE, hA, hin, hfr, hlo⟩ := C
  unfold o_lcmp at h
  split at h
  · split at h
    · rename_i y x st0 hc
      cases h
      simp only [Bool.and_eq_true, decide_eq_true_eq] at hc
      refine W.lcmp hx hb (x_dec hk) ?_
      have hos := (x_ovs_cons.mp (x_ovs_cons.mp hos).2).2
      have := hG H locs ls α hW hL hov (x_ovs_cons.mpr ⟨trivial, hos⟩) hls
      simp only [List.map_cons, x_cv_i, ← x_n_cmp hc.1 hc.2] at this
      exact this
    · cases h
  · cases h
theorem s_ineg : x_SND 14 o_ineg (x_is .ineg) := by
  intro p l e R s mi args below meth c Q D dA A X α0 k0 m d pc a b cc ee L st k σ L' st' k' σ' C h hk hR hG H locs ls α hW hL hov hos hls
  obtain ⟨hx, hb, hml, hown, hts, hK, hE, hA, hin, hfr, hlo⟩ := C
  unfold o_ineg at h
  split at h
  · cases h
    refine lv_ineg hx hb (x_dec hk) ?_
    have hos := (x_ovs_cons.mp hos).2
    have := hG H locs ls α hW hL hov (x_ovs_cons.mpr ⟨trivial, hos⟩) hls
    simp only [List.map_cons, x_cv_i, Int32.ofInt_neg] at this
    exact this
  · cases h
theorem s_lneg : x_SND 24 o_lneg (x_is .lneg) := by
  intro p l e R s mi args below meth c Q D dA A X α0 k0 m d pc a b cc ee L st k σ L' st' k' σ' C h hk hR hG H locs ls α hW hL hov hos hls
  obtain ⟨hx, hb, hml, hown, hts, hK, hE, hA, hin, hfr, hlo⟩ := C
  unfold o_lneg at h
  split at h
  · cases h
    refine lv_lneg hx hb (x_dec hk) ?_
    have hos := (x_ovs_cons.mp hos).2
    have := hG H locs ls α hW hL hov (x_ovs_cons.mpr ⟨trivial, hos⟩) hls
    simp only [List.map_cons, x_cv_j, Int64.ofInt_neg] at this
    exact this
  · cases h
theorem s_l2i : x_SND 30 o_l2i (x_is .l2i) := by
  intro p l e R s mi args below meth c Q D dA A X α0 k0 m d pc a b cc ee L st k σ L' st' k' σ' C h hk hR hG H locs ls α hW hL hov hos hls
  obtain ⟨hx, hb, hml, hown, hts, hK, hE, hA, hin, hfr, hlo⟩ := C
  unfold o_l2i at h
  split at h
  · cases h
    refine lv_l2i hx hb (x_dec hk) (x_n_l2i _) ?_
    have hos := (x_ovs_cons.mp hos).2
    have := hG H locs ls α hW hL hov (x_ovs_cons.mpr ⟨trivial, hos⟩) hls
    simp only [List.map_cons, x_cv_i] at this
    exact this
  · cases h
theorem s_i2b : x_SND 31 o_i2b (x_is .i2b) := by
  intro p l e R s mi args below meth c Q D dA A X α0 k0 m d pc a b cc ee L st k σ L' st' k' σ' C h hk hR hG H locs ls α hW hL hov hos hls
  obtain ⟨hx, hb, hml, hown, hts, hK, hE, hA, hin, hfr, hlo⟩ := C
  unfold o_i2b at h
  split at h
  · cases h
    refine lv_i2b hx hb (x_dec hk) (x_n_i2b _) ?_
    have hos := (x_ovs_cons.mp hos).2
    have := hG H locs ls α hW hL hov (x_ovs_cons.mpr ⟨trivial, hos⟩) hls
    simp only [List.map_cons, x_cv_i] at this
    exact this
  · cases h
theorem s_i2s : x_SND 32 o_i2s (x_is .i2s) := by
  intro p l e R s mi args below meth c Q D dA A X α0 k0 m d pc a b cc ee L st k σ L' st' k' σ' C h hk hR hG H locs ls α hW hL hov hos hls
  obtain ⟨hx, hb, hml, hown, hts, hK, hE, hA, hin, hfr, hlo⟩ := C
  unfold o_i2s at h
  split at h
  · cases h
    refine lv_i2s hx hb (x_dec hk) (x_n_i2s _) ?_
    have hos := (x_ovs_cons.mp hos).2
    have := hG H locs ls α hW hL hov (x_ovs_cons.mpr ⟨trivial, hos⟩) hls
    simp only [List.map_cons, x_cv_i] at this
    exact this
  · cases h
theorem s_i2c : x_SND 33 o_i2c (x_is .i2c) := by
  intro p l e R s mi args below meth c Q D dA A X α0 k0 m d pc a b cc ee L st k σ L' st' k' σ' C h hk hR hG H locs ls α hW hL hov hos hls
  obtain ⟨hx, hb, hml, hown, hts, hK, hE, hA, hin, hfr, hlo⟩ := C
  unfold o_i2c at h
  split at h
  · cases h
    refine lv_i2c hx hb (x_dec hk) (x_n_i2c _) ?_
    have hos := (x_ovs_cons.mp hos).2
    have := hG H locs ls α hW hL hov (x_ovs_cons.mpr ⟨trivial, hos⟩) hls
    simp only [List.map_cons, x_cv_i] at this
    exact this
  · cases h
theorem s_i2l : x_SND 29 o_i2l (x_is .i2l) := by
  intro p l e R s mi args below meth c Q D dA A X α0 k0 m d pc a b cc ee L st k σ L' st' k' σ' C h hk hR hG H locs ls α hW hL hov hos hls
  obtain ⟨hx, hb, hml, hown, hts, hK, hE, hA, hin, hfr, hlo⟩ := C
  unfold o_i2l at h
  split at h
  · split at h
    · rename_i x st0 hc
      cases h
      refine lv_i2l hx hb (x_dec hk) (x_n_i2l hc) ?_
      have hos := (x_ovs_cons.mp hos).2
      exact hG H locs ls α hW hL hov (x_ovs_cons.mpr ⟨trivial, hos⟩) hls
    · cases h
  · cases h
theorem s_lshl : x_SND 27 o_lshl (x_is .lshl) := by
  intro p l e R s mi args below meth c Q D dA A X α0 k0 m d pc a b cc ee L st k σ L' st' k' σ' C h hk hR hG H locs ls α hW hL hov hos hls
  obtain ⟨hx, hb, hml, hown, hts, hK, hE, hA, hin, hfr, hlo⟩ := C
  unfold o_lshl o_lsh at h
  split at h
  · cases h
    refine lv_lshl hx hb (x_dec hk) rfl ?_
    have hos := (x_ovs_cons.mp (x_ovs_cons.mp hos).2).2
    have := hG H locs ls α hW hL hov (x_ovs_cons.mpr ⟨trivial, hos⟩) hls
    simp only [List.map_cons, x_cv_j, x_lshl, Int64.ofInt_toInt] at this
    exact this
  · cases h
theorem s_lshr : x_SND 28 o_lshr (x_is .lshr) := by
  intro p l e R s mi args below meth c Q D dA A X α0 k0 m d pc a b cc ee L st k σ L' st' k' σ' C h hk hR hG H locs ls α hW hL hov hos hls
  obtain ⟨hx, hb, hml, hown, hts, hK, hE, hA, hin, hfr, hlo⟩ := C
  unfold o_lshr o_lsh at h
  split at h
  · cases h
    refine lv_lshr hx hb (x_dec hk) rfl ?_
    have hos := (x_ovs_cons.mp (x_ovs_cons.mp hos).2).2
    have := hG H locs ls α hW hL hov (x_ovs_cons.mpr ⟨trivial, hos⟩) hls
    simp only [List.map_cons, x_cv_j, x_lshr, Int64.ofInt_toInt] at this
    exact this
  · cases h

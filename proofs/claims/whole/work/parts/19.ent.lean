theorem x_arr {s : State} {args : Array Value} {ty : FieldType} (h : (Cond.arrayClass ty).before args s = true) : ∃ cA, ArrOfT s cA ty ∧ s.vm.findClass ("[" ++ ty.toString) = some cA := by
  obtain ⟨cA, kA, comp, h1, h2, h3⟩ := Cond.arrayClass_spec h
  exact ⟨cA, fun n z => ⟨(fun k h => by cases h), kA, h2, comp, h3⟩, h1⟩
theorem x_arrO {s : State} {args : Array Value} {C : String} (h : (Cond.arrayOver (.object C)).before args s = true) : ∃ cA, ArrOfT s cA (.object C) ∧ va_RA s cA (.object C) := by
  obtain ⟨comp, cA, kA, h1, -, h3, h4, h5⟩ := Cond.arrayOver_spec h
  exact ⟨cA, fun n z => ⟨(fun k h => by cases h), kA, h3, comp, h4⟩, kA, comp, h3, h4, h1, h5⟩
theorem x_tb_351 : x_tb 351 (.arrayOver (.object "LoftTree$Scene")) = true := by decide +kernel
theorem x_str1 {s : State} {args : Array Value} {A : Nat → Prop} {own : String} {k n : Nat} {bs : List Int32} (hn : n < 2 ^ 31) (hA : ∀ a : Nat, a < s.heap.size → ¬ A a)
    (h1 : (Cond.exactly (.string own k) "java/lang/String").before args s = true) (h2 : (Cond.eq (.field (.string own k) "java/lang/String" "coder" "B") (.int 0)).before args s = true) (h3 : (Cond.arrayOf (.field (.string own k) "java/lang/String" "value" "[B") .byte).before args s = true)
    (h4 : (Cond.eq (.length (.field (.string own k) "java/lang/String" "value" "[B")) (.int (Int32.ofNat n))).before args s = true) (h5 : ∀ j : Nat, j < n → (Cond.eq (.elem (.field (.string own k) "java/lang/String" "value" "[B") (.int (Int32.ofNat j))) (.int (bs.getD j 0))).before args s = true) :
    ∃ a v : Nat, (va_O "java/lang/String" a A s s.heap ∧ va_OF "java/lang/String" "coder" "B" (.int 0) a A s s.heap ∧ va_OF "java/lang/String" "value" "[B" (.ref v) a A s s.heap ∧ va_T .byte v n (fun j => .int (bs.getD j 0)) A s s.heap) ∧ (Term.string own k).eval args s none [] s = some (.ref a) := by
  obtain ⟨adK, adV, hS, he⟩ := vk_Sof (N := 1) (tm := fun _ => .string own k) (len := [n]) (byt := [bs]) (A := A) (fun i hi => by obtain rfl : i = 0 := (by omega); exact hn) (fun _ _ => h1) (fun _ _ => h2) (fun _ _ => h3) (fun i hi => by obtain rfl : i = 0 := (by omega); exact h4) (fun i hi j hj => by obtain rfl : i = 0 := (by omega); exact h5 j hj) (fun i j hi hj hne => by omega) hA
  have h := hS.1 0 (by decide)
  exact ⟨adK 0, adV 0, h, he 0 (by decide)⟩
def x_flat : List Jvm.Cond := flatC (Jvm.Cond.and given_1 narrow_1)
def x_skey : List (String × Nat) := [("LoftTree$Reader", 64), ("LoftTree$Reader", 79), ("LoftTree$Reader", 83), ("LoftTree$Reader", 87), ("LoftTree$Reader", 96), ("LoftTree$Reader", 100), ("LoftTree$Reader", 104), ("LoftTree$Reader", 133), ("LoftTree$Reader", 137), ("LoftTree$Reader", 141), ("LoftTree$Reader", 145), ("LoftTree$Reader", 109), ("LoftTree$Reader", 124), ("LoftTree$Reader", 131), ("LoftTreeModel", 195), ("LoftTreeModel", 197), ("LoftTreeModel", 199), ("LoftTreeModel", 201), ("LoftTreeModel", 203), ("LoftTreeModel", 205), ("LoftTreeModel", 232), ("LoftTreeModel", 211), ("LoftTreeModel", 213), ("LoftTreeModel", 215), ("LoftTreeModel", 217), ("LoftTreeModel", 234), ("LoftTreeModel", 219), ("LoftTreeModel", 221)]
def x_sk (i : Nat) : String × Nat := x_skey.getD i ("", 0)
def x_sck (i : Nat) : Bool := decide (Cond.exactly (.string (x_sk i).1 (x_sk i).2) "java/lang/String" ∈ x_flat) && decide (Cond.eq (.field (.string (x_sk i).1 (x_sk i).2) "java/lang/String" "coder" "B") (.int 0) ∈ x_flat) && decide (Cond.arrayOf (.field (.string (x_sk i).1 (x_sk i).2) "java/lang/String" "value" "[B") .byte ∈ x_flat) &&
  decide (Cond.eq (.length (.field (.string (x_sk i).1 (x_sk i).2) "java/lang/String" "value" "[B")) (.int (Int32.ofNat (x_lns.getD i 0))) ∈ x_flat) && (List.range (x_lns.getD i 0)).all (fun j => decide (Cond.eq (.elem (.field (.string (x_sk i).1 (x_sk i).2) "java/lang/String" "value" "[B") (.int (Int32.ofNat j))) (.int ((x_byt.getD i []).getD j 0)) ∈ x_flat)) && decide (Cond.stringRef (x_sk i).1 (x_sk i).2 (x_stx.getD i "") ∈ lw_tbl)
set_option maxRecDepth 100000 in
theorem x_sck_0 : x_sck 0 = true := by decide +kernel
set_option maxRecDepth 100000 in
theorem x_sck_1 : x_sck 1 = true := by decide +kernel
set_option maxRecDepth 100000 in
theorem x_sck_2 : x_sck 2 = true := by decide +kernel
set_option maxRecDepth 100000 in
theorem x_sck_3 : x_sck 3 = true := by decide +kernel
set_option maxRecDepth 100000 in
theorem x_sck_4 : x_sck 4 = true := by decide +kernel
set_option maxRecDepth 100000 in
theorem x_sck_5 : x_sck 5 = true := by decide +kernel
set_option maxRecDepth 100000 in
theorem x_sck_6 : x_sck 6 = true := by decide +kernel
set_option maxRecDepth 100000 in
theorem x_sck_7 : x_sck 7 = true := by decide +kernel
set_option maxRecDepth 100000 in
theorem x_sck_8 : x_sck 8 = true := by decide +kernel
set_option maxRecDepth 100000 in
theorem x_sck_9 : x_sck 9 = true := by decide +kernel
set_option maxRecDepth 100000 in
theorem x_sck_10 : x_sck 10 = true := by decide +kernel
set_option maxRecDepth 100000 in
theorem x_sck_11 : x_sck 11 = true := by decide +kernel
set_option maxRecDepth 100000 in
theorem x_sck_12 : x_sck 12 = true := by decide +kernel
set_option maxRecDepth 100000 in
theorem x_sck_13 : x_sck 13 = true := by decide +kernel
set_option maxRecDepth 100000 in
theorem x_sck_14 : x_sck 14 = true := by decide +kernel
set_option maxRecDepth 100000 in
theorem x_sck_15 : x_sck 15 = true := by decide +kernel
set_option maxRecDepth 100000 in
theorem x_sck_16 : x_sck 16 = true := by decide +kernel
set_option maxRecDepth 100000 in
theorem x_sck_17 : x_sck 17 = true := by decide +kernel
set_option maxRecDepth 100000 in
theorem x_sck_18 : x_sck 18 = true := by decide +kernel
set_option maxRecDepth 100000 in
theorem x_sck_19 : x_sck 19 = true := by decide +kernel
set_option maxRecDepth 100000 in
theorem x_sck_20 : x_sck 20 = true := by decide +kernel
set_option maxRecDepth 100000 in
theorem x_sck_21 : x_sck 21 = true := by decide +kernel
set_option maxRecDepth 100000 in
theorem x_sck_22 : x_sck 22 = true := by decide +kernel
set_option maxRecDepth 100000 in
theorem x_sck_23 : x_sck 23 = true := by decide +kernel
set_option maxRecDepth 100000 in
theorem x_sck_24 : x_sck 24 = true := by decide +kernel
set_option maxRecDepth 100000 in
theorem x_sck_25 : x_sck 25 = true := by decide +kernel
set_option maxRecDepth 100000 in
theorem x_sck_26 : x_sck 26 = true := by decide +kernel
set_option maxRecDepth 100000 in
theorem x_sck_27 : x_sck 27 = true := by decide +kernel
theorem x_scks : ∀ i, i < 28 → x_sck i = true := by
  intro i hi
  have : i = 0 ∨ i = 1 ∨ i = 2 ∨ i = 3 ∨ i = 4 ∨ i = 5 ∨ i = 6 ∨ i = 7 ∨ i = 8 ∨ i = 9 ∨ i = 10 ∨ i = 11 ∨ i = 12 ∨ i = 13 ∨ i = 14 ∨ i = 15 ∨ i = 16 ∨ i = 17 ∨ i = 18 ∨ i = 19 ∨ i = 20 ∨ i = 21 ∨ i = 22 ∨ i = 23 ∨ i = 24 ∨ i = 25 ∨ i = 26 ∨ i = 27 := by omega
  rcases this with rfl | rfl | rfl | rfl | rfl | rfl | rfl | rfl | rfl | rfl | rfl | rfl | rfl | rfl | rfl | rfl | rfl | rfl | rfl | rfl | rfl | rfl | rfl | rfl | rfl | rfl | rfl | rfl
  · exact x_sck_0
  · exact x_sck_1
  · exact x_sck_2
  · exact x_sck_3
  · exact x_sck_4
  · exact x_sck_5
  · exact x_sck_6
  · exact x_sck_7
  · exact x_sck_8
  · exact x_sck_9
  · exact x_sck_10
  · exact x_sck_11
  · exact x_sck_12
  · exact x_sck_13
  · exact x_sck_14
  · exact x_sck_15
  · exact x_sck_16
  · exact x_sck_17
  · exact x_sck_18
  · exact x_sck_19
  · exact x_sck_20
  · exact x_sck_21
  · exact x_sck_22
  · exact x_sck_23
  · exact x_sck_24
  · exact x_sck_25
  · exact x_sck_26
  · exact x_sck_27
theorem x_srf_ok : ∀ q ∈ x_srf, q.2.2 < 28 ∧ x_sk q.2.2 = (q.1, q.2.1) := by decide +kernel
theorem x_fl_1 : Cond.eq (.static "java/lang/String" "COMPACT_STRINGS" "Z") (.int 1) ∈ x_flat := by decide +kernel
theorem x_fl_2 : Cond.isRef (.static "jdk/internal/util/Preconditions" "SIOOBE_FORMATTER" "Ljava/util/function/BiFunction;") ∈ x_flat := by decide +kernel
theorem x_fl_3 : Cond.arrayOf (.static "LoftTree" "PARTS" "[J") .long ∈ x_flat := by decide +kernel
theorem x_fl_4 : Cond.eq (.length (.static "LoftTree" "PARTS" "[J")) (.int 5) ∈ x_flat := by decide +kernel
theorem x_fl_5 : ∀ j, j < 5 → Cond.eq (.elem (.static "LoftTree" "PARTS" "[J") (.int (Int32.ofNat j))) (.long (Int64.ofInt (x_pay j))) ∈ x_flat := by decide +kernel
theorem x_tbl_1 : Cond.laysStatic "java/lang/String" "COMPACT_STRINGS" "Z" ∈ lw_tbl ∧ Cond.initialized "java/lang/String" ∈ lw_tbl ∧ Cond.laysStatic "jdk/internal/util/Preconditions" "SIOOBE_FORMATTER" "Ljava/util/function/BiFunction;" ∈ lw_tbl ∧ Cond.initialized "jdk/internal/util/Preconditions" ∈ lw_tbl ∧ Cond.laysStatic "LoftTree" "PARTS" "[J" ∈ lw_tbl ∧ Cond.initialized "LoftTree" ∈ lw_tbl := by decide +kernel
theorem x_ext {s : State} {b L : Nat} {xs : Nat → Int32} (hts : ∀ w ∈ lw_tbl, w.before #[Value.ref b] s = true) (hfl : ∀ w ∈ x_flat, w.before #[Value.ref b] s = true) (hX : va_X b L xs s s.heap) (hbl : b < s.heap.size) (hL : L ≤ 3072) :
    ∃ X : x_X, X.2.2.2.2.1 = b ∧ X.2.2.2.2.2.1 = L ∧ X.2.2.2.2.2.2 = xs ∧ x_E X (fun q => s.heap.size ≤ q) s s.heap := by
  have hA : ∀ a : Nat, a < s.heap.size → ¬ s.heap.size ≤ a := fun a h => Nat.not_le.mpr h
  have hstr : ∀ i : Nat, ∃ a v : Nat, i < 28 → (va_O "java/lang/String" a (fun q => s.heap.size ≤ q) s s.heap ∧ va_OF "java/lang/String" "coder" "B" (.int 0) a (fun q => s.heap.size ≤ q) s s.heap ∧ va_OF "java/lang/String" "value" "[B" (.ref v) a (fun q => s.heap.size ≤ q) s s.heap ∧ va_T .byte v (x_lns.getD i 0) (fun j => .int ((x_byt.getD i []).getD j 0)) (fun q => s.heap.size ≤ q) s s.heap) ∧ vk_R (x_sk i).1 (x_sk i).2 (x_stx.getD i "") a s := by
    intro i
    by_cases hi : i < 28
    · have h := x_scks i hi
      unfold x_sck at h
      simp only [Bool.and_eq_true] at h
      obtain ⟨⟨⟨⟨⟨h1, h2⟩, h3⟩, h4⟩, h5⟩, h6⟩ := h
      obtain ⟨a, v, hav, he⟩ := x_str1 (bs := x_byt.getD i []) (n := x_lns.getD i 0) (by have := (x_sln_eq i hi).2; omega) hA (hfl _ (of_decide_eq_true h1)) (hfl _ (of_decide_eq_true h2)) (hfl _ (of_decide_eq_true h3)) (hfl _ (of_decide_eq_true h4)) (fun j hj => hfl _ (of_decide_eq_true (List.all_eq_true.mp h5 j (List.mem_range.mpr hj))))
      exact ⟨a, v, fun _ => ⟨hav, vk_R.of (hts _ (of_decide_eq_true h6)) he⟩⟩
    · exact ⟨0, 0, fun h => absurd h hi⟩
  obtain ⟨t1, t2, t3, t4, t5, t6⟩ := x_tbl_1
  obtain ⟨tP, hP, hT⟩ := va_Tof (N := 5) (f := fun j => .long (Int64.ofInt (x_pay j))) (A := fun q => s.heap.size ≤ q) (by decide) (hfl _ x_fl_3) (va_eqt (hfl _ x_fl_4)) (fun j hj => va_eqtl (hfl _ (x_fl_5 j hj))) hA
  have hZ := va_Zqof (A := fun q => s.heap.size ≤ q) (hts _ t3) (hts _ t4) (hfl _ x_fl_2) hA
  have hF : ∃ r : Option Nat, va_Z "jdk/internal/util/Preconditions" "SIOOBE_FORMATTER" "Ljava/util/function/BiFunction;" (va_rf r) (fun q => s.heap.size ≤ q) s s.heap := by
    rcases hZ with h | ⟨t, h⟩
    · exact ⟨none, h⟩
    · exact ⟨some t, h⟩
  obtain ⟨vF, hF⟩ := hF
  refine ⟨(fun i => (hstr i).choose, fun i => (hstr i).choose_spec.choose, tP, vF, b, L, xs), rfl, rfl, rfl, fun i hi => ((hstr i).choose_spec.choose_spec hi).1, va_Zref (hts _ t5) (hts _ t6) hP hA, hT, va_Zof (hts _ t1) (hts _ t2) (va_eqi (hfl _ x_fl_1)) hA, hF, ⟨hX, hbl, hA b hbl, hL⟩, fun w hw => ?_, fun q hq => ?_, va_AO.of (hts _ (x_tb_in x_tb_351))⟩
  · refine va_Nw.of ?_ (hts w (List.mem_filter.mp hw).1)
    have := (List.mem_filter.mp hw).2
    cases w <;> first | rfl | (simp [x_isn] at this)
  · obtain ⟨h1, h2⟩ := x_srf_ok q hq
    have hh : ∀ a, vk_R (x_sk q.2.2).1 (x_sk q.2.2).2 (x_stx.getD q.2.2 "") a s → vk_R q.1 q.2.1 (x_stx.getD q.2.2 "") a s := fun a h => by rw [h2] at h; exact h
    exact hh _ ((hstr q.2.2).choose_spec.choose_spec h1).2
theorem x_known {s : State} {args : Array Value} (hts : ∀ w ∈ x_TB, w.before args s = true) : ∃ D : va_G, ∀ (c : Nat) (q : vw_C), x_cl[c]? = some q → u_Kn s q.1 q.2.1 q.2.2 (D.1 c) (D.2 c) := by
  have h : ∀ b, ∃ (cC : ClassId) (iS : Nat → Nat), b < 10 → u_Kn s (x_clb b).1 (x_clb b).2.1 (x_clb b).2.2 cC iS := by
    intro b
    by_cases hb : b < 10
    · obtain ⟨hl, hi, -⟩ := x_cfacts hb
      obtain ⟨cC, iS, h⟩ := u_known hts hl (hts _ hi)
      exact ⟨cC, iS, fun _ => h⟩
    · exact ⟨0, fun _ => 0, fun h => absurd h hb⟩
  refine ⟨(fun b => (h b).choose, fun b => (h b).choose_spec.choose), fun c q hc => ?_⟩
  have hc10 : c < 10 := by
    have := (List.getElem?_eq_some_iff.mp hc).1
    simpa [x_cl] using this
  have e := (x_clb_at c hc10).symm.trans hc
  cases e
  exact (h c).choose_spec.choose_spec hc10
theorem x_karr {s : State} {args : Array Value} (hts : ∀ w ∈ x_TB, w.before args s = true) (hO : (Cond.arrayOver (.object "LoftTree$Scene")).before args s = true) : ∃ dA : Nat → ClassId, ∀ (k : Nat) (q : ClassId × FieldType), (x_tys dA)[k]? = some q → ArrOfT s q.1 q.2 ∧ va_RA s q.1 q.2 := by
  obtain ⟨c0, a0, b0⟩ := x_arr (hts _ (x_tb_TB x_tb_240 rfl))
  obtain ⟨c1, a1, b1⟩ := x_arr (hts _ (x_tb_TB x_tb_295 rfl))
  obtain ⟨c2, a2, b2⟩ := x_arr (hts _ (x_tb_TB x_tb_276 rfl))
  obtain ⟨c3, a3, b3⟩ := x_arr (hts _ (x_tb_TB x_tb_467 rfl))
  obtain ⟨c4, a4, b4⟩ := x_arrO hO
  refine ⟨fun i => if i = 0 then c0 else if i = 1 then c1 else if i = 2 then c2 else if i = 3 then c3 else c4, fun k q hq => ?_⟩
  have hk : k < 5 := by
    have := (List.getElem?_eq_some_iff.mp hq).1
    simpa [x_tys] using this
  have : k = 0 ∨ k = 1 ∨ k = 2 ∨ k = 3 ∨ k = 4 := by omega
  rcases this with rfl | rfl | rfl | rfl | rfl
  · cases hq; exact ⟨a0, b0⟩
  · cases hq; exact ⟨a1, b1⟩
  · cases hq; exact ⟨a2, b2⟩
  · cases hq; exact ⟨a3, b3⟩
  · cases hq; exact ⟨a4, b4⟩
def x_sc0 (L : Nat) (xs : Nat → Int32) : x_S := fun c j i => if c = 100 ∧ j = 1 ∧ i = 0 then (L : Int) else if c = 100 ∧ j = 0 then (xs i.toNat).toInt else 0

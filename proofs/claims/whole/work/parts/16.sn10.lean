theorem x_pop_spec : ∀ (n : Nat) (st acc as st' : List x_V), x_pop n st acc = some (as, st') → ∃ l, l.length = n ∧ as = l ++ acc ∧ st = l.reverse ++ st' := by
  intro n
  induction n with
  | zero => intro st acc as st' h; simp only [x_pop] at h; cases h; exact ⟨[], rfl, rfl, rfl⟩
  | succ n ih =>
    intro st acc as st' h
    match st with
    | [] => simp [x_pop] at h
    | v :: st =>
      simp only [x_pop] at h
      obtain ⟨l, h1, h2, h3⟩ := ih st (v :: acc) as st' h
      exact ⟨l ++ [v], by simp [h1], by simp [h2], by simp [h3]⟩
theorem x_arg_mem (as : List x_V) (v : x_V) : v ∈ x_arg as → v = xU ∨ v ∈ as := by
  induction as with
  | nil => intro h; simp [x_arg] at h
  | cons w as ih =>
    intro h
    rcases w with a | a | a <;> simp only [x_arg, List.mem_cons] at h
    · rcases h with h | h
      · exact Or.inr (by rw [h]; exact List.mem_cons_self)
      · rcases ih h with h | h
        · exact Or.inl h
        · exact Or.inr (List.mem_cons_of_mem _ h)
    · rcases h with h | h | h
      · exact Or.inr (by rw [h]; exact List.mem_cons_self)
      · exact Or.inl h
      · rcases ih h with h | h
        · exact Or.inl h
        · exact Or.inr (List.mem_cons_of_mem _ h)
    · rcases h with h | h
      · exact Or.inr (by rw [h]; exact List.mem_cons_self)
      · rcases ih h with h | h
        · exact Or.inl h
        · exact Or.inr (List.mem_cons_of_mem _ h)
theorem x_ovs_ini {k : x_K} {b : Nat} {as : List x_V} (h : x_ovs k as) : x_ovs k (x_ini b as) := by
  intro v hv
  rcases List.mem_append.mp hv with hv | hv
  · rcases x_arg_mem as v hv with rfl | hv
    · trivial
    · exact h v hv
  · rw [List.eq_of_mem_replicate hv]
    trivial
section XGO
variable {p : Program} {l : Launch} {e : Env} {R : Room} {s : State} {mi : MethodId} {args : Array Value} {below : List Frame} {meth : Method} {c : Code} {Q : State → Prop} {D : va_G} {dA : Nat → ClassId} {A : Nat → Prop} {X : x_X} {α0 : Nat → Nat → Nat} {k0 : x_K} {m d pc : Nat} {L st st' : List x_V} {k : x_K} {σ : x_S} {H : Heap} {locs : List Loc} {ls : Array Slot} {α : Nat → Nat → Nat}
theorem x_sub (C : x_C p R s mi args meth c D dA A X m d) (hW : x_Wd s D dA A X α0 k0 α k σ H locs) : ∀ q, va_A (x_w dA α k σ) H.size q → A q := by
  intro q hq
  obtain ⟨-, -, -, -, -, -, -, hA, -⟩ := C
  rcases hq with ⟨i, z, hz⟩ | hq
  · exact hW.2.1.2 i _ hz
  · exact hA q (Nat.le_trans hW.2.2.1.1 hq)
theorem x_go (C : x_C p R s mi args meth c D dA A X m d) (hW : x_Wd s D dA A X α0 k0 α k σ H locs) (hL : L.length = x_mL m) (hov : x_ovs k L) (hos : x_ovs k st') (hls : lv_has ls (x_mL m) (x_ll X α (x_mL m) L))
    {r1 : Option x_V} {k1 : x_K} {σ1 : x_S} {stv : List Value} {av : Array Value} (hk1 : k.1 ≤ k1.1)
    (hr : va_Run p l e R s mi args below meth c H locs (k.1 - k0.1) (x_sl k.1 - x_sl k0.1) (k1.1 - k.1) (x_sl k1.1 - x_sl k.1) (F0 mi pc ls stv) (st'.map (x_cv X α)) (x_Post D dA X α k σ k1 σ1 H.size r1 av) (va_A (x_w dA α k σ) H.size))
    (hG : x_G p l e R s mi args below meth c Q D dA A X α0 k0 m (pc + 3) L (x_psh r1 st') k1 σ1) : W p l e R s mi args below meth c H locs (k.1 - k0.1) (x_sl k.1 - x_sl k0.1) Q (F0 mi pc ls stv) := by
  have hsub := x_sub C hW
  have hk0 := hW.2.2.2.2.2
  have e1 : k.1 - k0.1 + (k1.1 - k.1) = k1.1 - k0.1 := by omega
  have e2 : x_sl k.1 - x_sl k0.1 + (x_sl k1.1 - x_sl k.1) = x_sl k1.1 - x_sl k0.1 := by
    have := x_sl_mono hk0
    have := x_sl_mono hk1
    omega
  have fin : ∀ (α' : Nat → Nat → Nat) (t : State) (H1 : Heap) (locs1 : List Loc), t.heap = H1 → x_ag k α α' → x_Af D dA X (va_A (x_w dA α k σ) H.size) k1 σ1 α' t → va_S A s.heap H1 locs1 → (∀ v, r1 = some v → x_ov k1 v) →
      W p l e R s mi args below meth c H1 locs1 (k.1 - k0.1 + (k1.1 - k.1)) (x_sl k.1 - x_sl k0.1 + (x_sl k1.1 - x_sl k.1)) Q (F0 mi (pc + 3) ls ((x_psh r1 st').map (x_cv X α'))) := by
    intro α' t H1 locs1 ht hag haf hS1 hrv
    rw [e1, e2]
    obtain ⟨hP1, hD1, hI1⟩ := haf
    rw [ht] at hP1
    refine hG H1 locs1 ls α' ⟨hP1, hD1.weaken (fun _ _ _ hz => hsub _ hz), hS1, hI1, fun q hq => (hag q (x_take_sub hk0 hq)).trans (hW.2.2.2.2.1 q hq), Nat.le_trans hk0 hk1⟩ hL (fun v hv => x_ov_mono hk1 (hov v hv)) ?_ (by rw [x_ll_ag hag hov]; exact hls)
    intro v hv
    cases r1 with
    | none => exact x_ov_mono hk1 (hos v hv)
    | some w =>
      rcases List.mem_cons.mp hv with rfl | hv
      · exact hrv _ rfl
      · exact x_ov_mono hk1 (hos v hv)
  match r1, hr, fin with
  | none, hr, fin =>
    refine va_callv (a := av) hr hW.2.2.1 (fun q _ hq => hsub q hq) hsub (fun α' t H1 locs1 ht _ hag haf _ _ hS1 => ?_)
    have := fin α' t H1 locs1 ht hag haf hS1 (fun v hv => by cases hv)
    rw [show x_psh none st' = st' from rfl, x_map_ag hag hos] at this
    exact this
  | some (.inl a), hr, fin =>
    refine va_calli (a := av) hr hW.2.2.1 (fun q _ hq => hsub q hq) hsub (fun z α' t H1 locs1 ht _ hpo haf _ _ hS1 => ?_)
    obtain ⟨rfl, hag⟩ := hpo
    have := fin α' t H1 locs1 ht hag haf hS1 (fun v hv => by cases hv; trivial)
    rw [show x_psh (some (Sum.inl a)) st' = Sum.inl a :: st' from rfl, List.map_cons, x_map_ag hag hos] at this
    exact this
  | some (.inr (.inl a)), hr, fin =>
    refine va_calll (a := av) hr hW.2.2.1 (fun q _ hq => hsub q hq) hsub (fun z α' t H1 locs1 ht _ hpo haf _ _ hS1 => ?_)
    obtain ⟨rfl, hag⟩ := hpo
    have := fin α' t H1 locs1 ht hag haf hS1 (fun v hv => by cases hv; trivial)
    rw [show x_psh (some (Sum.inr (Sum.inl a))) st' = Sum.inr (Sum.inl a) :: st' from rfl, List.map_cons, x_map_ag hag hos] at this
    exact this
  | some (.inr (.inr (.inl (v, w)))), hr, fin =>
    refine va_callr (a := av) hr hW.2.2.1 (fun q _ hq => hsub q hq) hsub (fun α' ra t H1 locs1 ht _ hpo hB _ _ hS1 => ?_)
    obtain ⟨hag, hm⟩ := hpo
    obtain ⟨rfl, haf⟩ := hB
    have := fin α' t H1 locs1 ht hag haf hS1 (fun v hv => by cases hv; exact Or.inl hm)
    have hcv : x_cv X α' (Sum.inr (Sum.inr (Sum.inl (v, w)))) = .ref (α' v w) := x_cv_r X α' w (x_nms_ok _ (x_take_mem hm)).1
    rw [show x_psh (some (Sum.inr (Sum.inr (Sum.inl (v, w))))) st' = Sum.inr (Sum.inr (Sum.inl (v, w))) :: st' from rfl, List.map_cons, hcv, x_map_ag hag hos] at this
    exact this
  | some (.inr (.inr (.inr u))), hr, fin =>
    intro T hT X1
    obtain ⟨_, _, _, _, _, _, _, _, _, _, hq, _⟩ := hr T hT X1
    exact hq.elim
theorem x_own_c : ∀ b, b < 10 → (x_clb b).1 = x_own.getD b "" := by decide +kernel
theorem x_n_ltl {x y : Int} (hx : x_b64 x = true) (hy : x_b64 y = true) : Int64.ofInt x < Int64.ofInt y ↔ x < y := by rw [Int64.lt_iff_toInt_lt, x_toL hx, x_toL hy]
theorem x_mcall {n : Nat} (C : x_C p R s mi args meth c D dA A X m d) (hW : x_Wd s D dA A X α0 k0 α k σ H locs) (hL : L.length = x_mL m) (hov : x_ovs k L) (hos : x_ovs k st) (hls : lv_has ls (x_mL m) (x_ll X α (x_mL m) L))
    {op : Nat} {a : Int} {b cc ee : Nat} {as : List x_V} {r1 : Option x_V} {k1 : x_K} {σ1 : x_S} (hmth : 273 ≤ b ∧ b ≤ 276) (hk : x_kc m op a b cc ee pc = true) (hpop : x_pop cc st [] = some (as, st')) (hcok : x_cok op b as st' = true) (hrun : x_run n (d - 1) b (x_blk b 0) (x_ini b as) [] k σ = some (r1, k1, σ1))
    (hR : k1.1 - k0.1 ≤ R.cells ∧ x_sl k1.1 - x_sl k0.1 ≤ R.slots)
    (hG : x_G p l e R s mi args below meth c Q D dA A X α0 k0 m (pc + 3) L (x_psh r1 st') k1 σ1) : W p l e R s mi args below meth c H locs (k.1 - k0.1) (x_sl k.1 - x_sl k0.1) Q (F0 mi pc ls (st.map (x_cv X α))) := by
  obtain ⟨as2, hal, has2, hst⟩ := x_pop_spec cc st [] as st' hpop
  rw [List.append_nil] at has2
  subst has2
  unfold x_cok at hcok
  simp only [Bool.and_eq_true] at hcok
  obtain ⟨⟨hwt, hlen⟩, hrc⟩ := hcok
  have hwt := Nat.le_of_ble_eq_true hwt
  have hlen := Nat.le_of_ble_eq_true hlen
  have hosv : x_ovs k st' := fun v hv => hos v (by rw [hst]; exact List.mem_append_right _ hv)
  have hrest : 2 * (F0 mi pc ls (st.map (x_cv X α))).monitorRoom + ((st'.map (x_cv X α)).map fun v => v.category).sum ≤ 8 := lv_room (by rw [x_wt_eq]; exact hwt)
  unfold x_kc at hk
  simp only [Bool.and_eq_true] at hk
  obtain ⟨-, hk⟩ := hk
  obtain ⟨hx, hb, hml, hown, hts, hK, hE, hA, hin, hfr, hlo⟩ := C
  have hb4 : b = 273 ∨ b = 274 ∨ b = 275 ∨ b = 276 := by omega
  rcases hb4 with rfl | rfl | rfl | rfl
  · split at hk
    · have hz := of_decide_eq_true ((Bool.and_eq_true _ _).mp hk).2
      exact absurd hz.1 (by decide +kernel)
    · simp only [Bool.and_eq_true] at hk
      obtain ⟨⟨hd1, hl1⟩, hq⟩ := hk
      obtain ⟨hq1, hq2⟩ := of_decide_eq_true hq
      have hmo := x_mok273
      unfold x_mok at hmo
      simp only [Bool.and_eq_true] at hmo
      obtain ⟨⟨⟨m1, m2⟩, m3⟩, m4⟩ := hmo
      have m4 := (of_decide_eq_true m4).2
      obtain ⟨x, y, rfl, hx3, hy3, rfl, rfl, rfl⟩ := x_mt273 (by rw [hal, hq2, m4]) hlen hrun
      have hstm : st.map (x_cv X α) = .int (Int32.ofInt y) :: .int (Int32.ofInt x) :: st'.map (x_cv X α) := by rw [hst]; rfl
      have ey : x_mY 273 = Lib.Math.min.name := rfl
      have ec : x_mC 273 = Lib.Math.min.code := rfl
      have q1 := hts _ (x_tb_TB hl1 rfl)
      have q2 := hts _ (x_tb_TB m3 rfl)
      have q3 := hts _ (x_tb_TB m2 rfl)
      have q4 := hts _ (x_tb_TB m1 rfl)
      rw [ey] at q1 q2 q4
      rw [ec] at q4
      rw [hstm]
      refine va_mmin hx hb (hml.trans hls.1.symm) hown q1 q2 q3 q4 (by omega) (by omega) hR.1 hR.2 (x_dec hd1) ?_
      have hg := hG H locs ls α hW hL hov (x_ovs_cons.mpr ⟨trivial, hosv⟩) hls
      have hv : (.int (if Int32.ofInt y < Int32.ofInt x then Int32.ofInt y else Int32.ofInt x) : Value) = .int (Int32.ofInt (if y < x then y else x)) := by
        refine congrArg Value.int ?_
        have hh : Int32.ofInt y < Int32.ofInt x ↔ y < x := x_n_lt hy3 hx3
        by_cases z : y < x
        · rw [if_pos (hh.mpr z), if_pos z]
        · rw [if_neg (fun w => z (hh.mp w))]
          rw [if_neg z]
      rw [hv]
      exact hg
    · have hz := of_decide_eq_true ((Bool.and_eq_true _ _).mp hk).2
      exact absurd hz.1 (by decide +kernel)
    · have hz := of_decide_eq_true ((Bool.and_eq_true _ _).mp hk).2
      exact absurd hz.1 (by decide +kernel)
    · cases hk
  · split at hk
    · have hz := of_decide_eq_true ((Bool.and_eq_true _ _).mp hk).2
      exact absurd hz.1 (by decide +kernel)
    · simp only [Bool.and_eq_true] at hk
      obtain ⟨⟨hd1, hl1⟩, hq⟩ := hk
      obtain ⟨hq1, hq2⟩ := of_decide_eq_true hq
      have hmo := x_mok274
      unfold x_mok at hmo
      simp only [Bool.and_eq_true] at hmo
      obtain ⟨⟨⟨m1, m2⟩, m3⟩, m4⟩ := hmo
      have m4 := (of_decide_eq_true m4).2
      obtain ⟨x, y, rfl, hx3, hy3, rfl, rfl, rfl⟩ := x_mt274 (by rw [hal, hq2, m4]) hlen hrun
      have hstm : st.map (x_cv X α) = .int (Int32.ofInt y) :: .int (Int32.ofInt x) :: st'.map (x_cv X α) := by rw [hst]; rfl
      have ey : x_mY 274 = Lib.Math.max.name := rfl
      have ec : x_mC 274 = Lib.Math.max.code := rfl
      have q1 := hts _ (x_tb_TB hl1 rfl)
      have q2 := hts _ (x_tb_TB m3 rfl)
      have q3 := hts _ (x_tb_TB m2 rfl)
      have q4 := hts _ (x_tb_TB m1 rfl)
      rw [ey] at q1 q2 q4
      rw [ec] at q4
      rw [hstm]
      refine va_mmax hx hb (hml.trans hls.1.symm) hown q1 q2 q3 q4 (by omega) (by omega) hR.1 hR.2 (x_dec hd1) ?_
      have hg := hG H locs ls α hW hL hov (x_ovs_cons.mpr ⟨trivial, hosv⟩) hls
      have hv : (.int (if Int32.ofInt x < Int32.ofInt y then Int32.ofInt y else Int32.ofInt x) : Value) = .int (Int32.ofInt (if x < y then y else x)) := by
        refine congrArg Value.int ?_
        have hh : Int32.ofInt x < Int32.ofInt y ↔ x < y := x_n_lt hx3 hy3
        by_cases z : x < y
        · rw [if_pos (hh.mpr z), if_pos z]
        · rw [if_neg (fun w => z (hh.mp w))]
          rw [if_neg z]
      rw [hv]
      exact hg
    · have hz := of_decide_eq_true ((Bool.and_eq_true _ _).mp hk).2
      exact absurd hz.1 (by decide +kernel)
    · have hz := of_decide_eq_true ((Bool.and_eq_true _ _).mp hk).2
      exact absurd hz.1 (by decide +kernel)
    · cases hk
  · split at hk
    · have hz := of_decide_eq_true ((Bool.and_eq_true _ _).mp hk).2
      exact absurd hz.1 (by decide +kernel)
    · simp only [Bool.and_eq_true] at hk
      obtain ⟨⟨hd1, hl1⟩, hq⟩ := hk
      obtain ⟨hq1, hq2⟩ := of_decide_eq_true hq
      have hmo := x_mok275
      unfold x_mok at hmo
      simp only [Bool.and_eq_true] at hmo
      obtain ⟨⟨⟨m1, m2⟩, m3⟩, m4⟩ := hmo
      have m4 := (of_decide_eq_true m4).2
      obtain ⟨x, y, rfl, hx3, hy3, rfl, rfl, rfl⟩ := x_mt275 (by rw [hal, hq2, m4]) hlen hrun
      have hstm : st.map (x_cv X α) = .long (Int64.ofInt y) :: .long (Int64.ofInt x) :: st'.map (x_cv X α) := by rw [hst]; rfl
      have ey : x_mY 275 = Lib.MathLoose.min_long.x := rfl
      have ec : x_mC 275 = Lib.MathLoose.min_long.code := rfl
      have q1 := hts _ (x_tb_TB hl1 rfl)
      have q2 := hts _ (x_tb_TB m3 rfl)
      have q3 := hts _ (x_tb_TB m2 rfl)
      have q4 := hts _ (x_tb_TB m1 rfl)
      rw [ey] at q1 q2 q4
      rw [ec] at q4
      rw [hstm]
      refine va_mmin_long hx hb (hml.trans hls.1.symm) hown q1 q2 q3 q4 (by omega) (by omega) hR.1 hR.2 (x_dec hd1) ?_
      have hg := hG H locs ls α hW hL hov (x_ovs_cons.mpr ⟨trivial, hosv⟩) hls
      have hv : (.long (if Int64.ofInt y < Int64.ofInt x then Int64.ofInt y else Int64.ofInt x) : Value) = .long (Int64.ofInt (if y < x then y else x)) := by
        refine congrArg Value.long ?_
        have hh : Int64.ofInt y < Int64.ofInt x ↔ y < x := x_n_ltl hy3 hx3
        by_cases z : y < x
        · rw [if_pos (hh.mpr z), if_pos z]
        · rw [if_neg (fun w => z (hh.mp w))]
          rw [if_neg z]
      rw [hv]
      exact hg
    · have hz := of_decide_eq_true ((Bool.and_eq_true _ _).mp hk).2
      exact absurd hz.1 (by decide +kernel)
    · have hz := of_decide_eq_true ((Bool.and_eq_true _ _).mp hk).2
      exact absurd hz.1 (by decide +kernel)
    · cases hk
  · split at hk
    · have hz := of_decide_eq_true ((Bool.and_eq_true _ _).mp hk).2
      exact absurd hz.1 (by decide +kernel)
    · simp only [Bool.and_eq_true] at hk
      obtain ⟨⟨hd1, hl1⟩, hq⟩ := hk
      obtain ⟨hq1, hq2⟩ := of_decide_eq_true hq
      have hmo := x_mok276
      unfold x_mok at hmo
      simp only [Bool.and_eq_true] at hmo
      obtain ⟨⟨⟨m1, m2⟩, m3⟩, m4⟩ := hmo
      have m4 := (of_decide_eq_true m4).2
      obtain ⟨x, y, rfl, hx3, hy3, rfl, rfl, rfl⟩ := x_mt276 (by rw [hal, hq2, m4]) hlen hrun
      have hstm : st.map (x_cv X α) = .long (Int64.ofInt y) :: .long (Int64.ofInt x) :: st'.map (x_cv X α) := by rw [hst]; rfl
      have ey : x_mY 276 = Lib.MathLoose.max_long.x := rfl
      have ec : x_mC 276 = Lib.MathLoose.max_long.code := rfl
      have q1 := hts _ (x_tb_TB hl1 rfl)
      have q2 := hts _ (x_tb_TB m3 rfl)
      have q3 := hts _ (x_tb_TB m2 rfl)
      have q4 := hts _ (x_tb_TB m1 rfl)
      rw [ey] at q1 q2 q4
      rw [ec] at q4
      rw [hstm]
      refine va_mmax_long hx hb (hml.trans hls.1.symm) hown q1 q2 q3 q4 (by omega) (by omega) hR.1 hR.2 (x_dec hd1) ?_
      have hg := hG H locs ls α hW hL hov (x_ovs_cons.mpr ⟨trivial, hosv⟩) hls
      have hv : (.long (if Int64.ofInt y < Int64.ofInt x then Int64.ofInt x else Int64.ofInt y) : Value) = .long (Int64.ofInt (if x < y then y else x)) := by
        refine congrArg Value.long ?_
        have hh : Int64.ofInt y < Int64.ofInt x ↔ y < x := x_n_ltl hy3 hx3
        by_cases z : y < x
        · rw [if_pos (hh.mpr z), if_neg (by omega)]
        · rw [if_neg (fun w => z (hh.mp w))]
          by_cases z2 : x < y
          · rw [if_pos z2]
          · rw [if_neg z2, show y = x by omega]
      rw [hv]
      exact hg
    · have hz := of_decide_eq_true ((Bool.and_eq_true _ _).mp hk).2
      exact absurd hz.1 (by decide +kernel)
    · have hz := of_decide_eq_true ((Bool.and_eq_true _ _).mp hk).2
      exact absurd hz.1 (by decide +kernel)
    · cases hk
theorem x_call (hwok : ∀ b, b < 286 → b ≠ 272 → ¬ (273 ≤ b ∧ b ≤ 276) → x_wok b = true) {n : Nat} (hP : x_P n) (C : x_C p R s mi args meth c D dA A X m d) (hW : x_Wd s D dA A X α0 k0 α k σ H locs) (hL : L.length = x_mL m) (hov : x_ovs k L) (hos : x_ovs k st) (hls : lv_has ls (x_mL m) (x_ll X α (x_mL m) L))
    {op : Nat} {a : Int} {b cc ee : Nat} {as : List x_V} {r1 : Option x_V} {k1 : x_K} {σ1 : x_S} (hop : 84 ≤ op) (hk : x_kc m op a b cc ee pc = true) (hpop : x_pop cc st [] = some (as, st')) (hd : 0 < d) (hcok : x_cok op b as st' = true) (hrun : x_run n (d - 1) b (x_blk b 0) (x_ini b as) [] k σ = some (r1, k1, σ1)) (hchk : x_chk b (x_bpc b 0) (x_blk b 0) = true)
    (hR : k1.1 - k0.1 ≤ R.cells ∧ x_sl k1.1 - x_sl k0.1 ≤ R.slots)
    (hG : x_G p l e R s mi args below meth c Q D dA A X α0 k0 m (pc + 3) L (x_psh r1 st') k1 σ1) : W p l e R s mi args below meth c H locs (k.1 - k0.1) (x_sl k.1 - x_sl k0.1) Q (F0 mi pc ls (st.map (x_cv X α))) := by
  have hk1 := x_run_mono _ _ _ _ _ _ _ _ _ _ _ hrun
  have hk0 := hk
  unfold x_kc at hk
  simp only [Bool.and_eq_true] at hk
  obtain ⟨⟨hb1, hb2⟩, hk⟩ := hk
  have hb1 := of_decide_eq_true hb1
  have hb2 := of_decide_eq_true hb2
  by_cases hmth : 273 ≤ b ∧ b ≤ 276
  · exact x_mcall C hW hL hov hos hls hmth hk0 hpop hcok hrun hR hG
  have hw := hwok b hb1 hb2 hmth
  obtain ⟨hgood, hini, hml40, hpar, -, hmh, hvh, -, hst0, hin1, hin2⟩ := x_wfacts hw
  unfold x_cok at hcok
  simp only [Bool.and_eq_true] at hcok
  obtain ⟨⟨hwt, hlen⟩, hrc⟩ := hcok
  have hwt := Nat.le_of_ble_eq_true hwt
  have hlen := Nat.le_of_ble_eq_true hlen
  obtain ⟨as2, hal, has2, hst⟩ := x_pop_spec cc st [] as st' hpop
  rw [List.append_nil] at has2
  subst has2
  have hasv : x_ovs k as := fun v hv => hos v (by rw [hst]; exact List.mem_append_left _ (List.mem_reverse.mpr hv))
  have hosv : x_ovs k st' := fun v hv => hos v (by rw [hst]; exact List.mem_append_right _ hv)
  have hM := x_met hP hb1 hw hrun hlen hchk (x_ovs_ini hasv) l D dA X α H.size hW.2.2.2.1
  have hC := C
  obtain ⟨hx, hb, hml, hown, hts, hK, hE, hA, hin, hfr, hlo⟩ := C
  have hsub := x_sub hC hW
  have hk0 := hW.2.2.2.2.2
  have hf : k.1 - k0.1 + (k1.1 - k.1) ≤ R.cells ∧ x_sl k.1 - x_sl k0.1 + (x_sl k1.1 - x_sl k.1) ≤ R.slots := by
    have h1 := x_sl_mono hk0
    have h2 := x_sl_mono hk1
    have h3 := hR.1
    have h4 := hR.2
    constructor <;> omega
  have hpre : ∀ U : State, U.heap = H → s.WarmedH U.vm → x_Pre D dA X α k σ H.size as (as.map (x_cv X α)).toArray U := fun U hU hWm =>
    ⟨rfl, by rw [hU], by rw [hU]; exact hW.1, va_K.moved hWm.alike hK, hW.2.1.weaken (fun _ _ _ _ => trivial), x_E_move hE hW.2.2.1 hsub hU hWm⟩
  have hroom : (x_rm (d - 1) (k1.1 - k.1) (x_sl k1.1 - x_sl k.1)).frames + 1 ≤ R.frames ∧ 8 + (x_mL b + 11) + (x_rm (d - 1) (k1.1 - k.1) (x_sl k1.1 - x_sl k.1)).locals ≤ R.locals := by
    simp only [x_rm]
    constructor <;> omega
  have hfix : CallFix p mi c (x_mC m) (x_mL m) s args x_TB (x_ow m) := ⟨hx, hb, hml, hown, hts⟩
  have hrest : 2 * (F0 mi pc ls (st.map (x_cv X α))).monitorRoom + ((st'.map (x_cv X α)).map fun v => v.category).sum ≤ 8 := lv_room (by rw [x_wt_eq]; exact hwt)
  have hstm : st.map (x_cv X α) = (as.map (x_cv X α)).reverse ++ st'.map (x_cv X α) := by rw [hst]; simp
  have hmp : ∀ q : Nat, q = (x_mp b).2.2.2.2.2 → (parseMethodDescriptor (x_mY b).desc).map (fun d => d.parameters.length) = some q := fun q hq => by rw [hq]; exact hpar
  split at hk
  · -- by the receiver
    simp only [Bool.and_eq_true] at hk
    obtain ⟨⟨hd1, hl1⟩, hq⟩ := hk
    obtain ⟨hq1, hq2⟩ := of_decide_eq_true hq
    obtain ⟨hi1, hi2⟩ := hin1 hq1
    match as, hal, hM, hpre, hstm, hrc, hasv with
    | [], hal, _, _, _, _, _ => simp at hal; omega
    | .inl _ :: as, _, _, _, _, hrc, _ => simp [x_rcv] at hrc
    | .inr (.inl _) :: as, _, _, _, _, hrc, _ => simp [x_rcv] at hrc
    | .inr (.inr (.inr _)) :: as, _, _, _, _, hrc, _ => simp [x_rcv] at hrc
    | .inr (.inr (.inl (v, w))) :: as, hal, hM, hpre, hstm, hrc, hasv =>
      have hrcv : ∃ z, x_cv X α (.inr (.inr (.inl (v, w)))) = .ref z ∧ ∃ cellB : Cell, H[z]? = some cellB ∧ cellB.vm.isStatics = false ∧ s.vm.findClass (x_ow b) = some cellB.cls := by
        simp only [x_rcv, if_true, Bool.or_eq_true, Bool.and_eq_true, decide_eq_true_eq] at hrc
        rcases hrc with hkd | ⟨⟨rfl, hj⟩, ho⟩
        · obtain ⟨hm, hc⟩ := x_kd_c hkd (hasv _ List.mem_cons_self)
          obtain ⟨q0, -, he⟩ := x_w_at (dA := dA) (α := α) (σ := σ) hm
          rw [x_en_o hkd] at he
          have hci := (x_nms_ok _ (x_take_mem hm)).2.2
          simp only [hkd] at hci
          have hci := hci trivial
          refine ⟨_, x_cv_r X α w hc, ?_⟩
          have := va_recv hK hW.1 (x_clb_at _ hci) he
          rw [x_own_c _ hci] at this
          exact this
        · refine ⟨X.1 w, rfl, ?_⟩
          have := va_Orecv (hE.1 w hj).1 hW.2.2.1
          unfold x_ow
          unfold x_mO at ho
          rw [ho]
          exact this
      obtain ⟨z, hz, hcell⟩ := hrcv
      rw [List.map_cons, hz] at hpre hstm
      have hcw : CallW R s args (x_ow m) (x_ow b) a.toNat (x_mY b) (x_mC b) (x_mL b) (x_mR b) (x_ws b) (x_rm (d - 1) (k1.1 - k.1) (x_sl k1.1 - x_sl k.1)) (k1.1 - k.1) (x_sl k1.1 - x_sl k.1) as.length :=
        ⟨callB_of as.length hts hgood rfl rfl rfl (hts _ hini) (hts _ (x_tb_TB hl1 rfl)) ⟨hmh, hvh, hmp _ (by simp at hal; omega)⟩ hroom, hts _ hi1, hts _ hi2⟩
      have hrun2 := va_runV (l := l) (e := e) (below := below) (meth := meth) (locs := locs) (cells := k.1 - k0.1) (slots := x_sl k.1 - x_sl k0.1) (rest := st'.map (x_cv X α)) (g := F0 mi pc ls (st.map (x_cv X α))) (As := as.map (x_cv X α)) hfix hM hcw ⟨x_blind, hcell, hpre⟩ rfl (by simp) hls.1 (by rw [hstm]; simp) hrest (x_dec hd1) hf
      exact x_go hC hW hL hov hosv hls hk1 hrun2 hG
  · simp only [Bool.and_eq_true] at hk
    obtain ⟨⟨hd1, hl1⟩, hq⟩ := hk
    obtain ⟨hq1, hq2⟩ := of_decide_eq_true hq
    have hcw : CallB R s args (x_ow m) a.toNat (x_mY b) (x_mC b) (x_mL b) (x_mR b) (x_ws b) (x_rm (d - 1) (k1.1 - k.1) (x_sl k1.1 - x_sl k.1)) (k1.1 - k.1) (x_sl k1.1 - x_sl k.1) as.length ∧ (Cond.static (x_mY b)).before args s = true :=
      ⟨callB_of as.length hts hgood rfl rfl rfl (hts _ hini) (hts _ (x_tb_TB hl1 rfl)) ⟨hmh, hvh, hmp _ (by omega)⟩ hroom, hts _ (hst0 hq1)⟩
    have hrun2 := va_runS (l := l) (e := e) (below := below) (meth := meth) (locs := locs) (cells := k.1 - k0.1) (slots := x_sl k.1 - x_sl k0.1) (rest := st'.map (x_cv X α)) (g := F0 mi pc ls (st.map (x_cv X α))) (As := as.map (x_cv X α)) hfix hM hcw ⟨x_blind, hpre⟩ rfl (by simp) hls.1 hstm hrest (x_dec hd1) hf
    exact x_go hC hW hL hov hosv hls hk1 hrun2 hG
  · simp only [Bool.and_eq_true] at hk
    obtain ⟨⟨hd1, hl1⟩, hq⟩ := hk
    obtain ⟨hq1, hq2⟩ := of_decide_eq_true hq
    obtain ⟨hi1, hi2, hi3⟩ := hin2 hq1
    match as, hal, hM, hpre, hstm, hrc, hasv with
    | [], hal, _, _, _, _, _ => simp at hal; omega
    | .inl _ :: as, _, _, _, _, hrc, _ => simp [x_rcv] at hrc
    | .inr (.inl _) :: as, _, _, _, _, hrc, _ => simp [x_rcv] at hrc
    | .inr (.inr (.inr _)) :: as, _, _, _, _, hrc, _ => simp [x_rcv] at hrc
    | .inr (.inr (.inl (v, w))) :: as, hal, hM, hpre, hstm, hrc, hasv =>
      have hvc : v < 100 := by simpa [x_rcv] using hrc
      have hz : x_cv X α (.inr (.inr (.inl (v, w)))) = .ref (α v w) := x_cv_r X α w hvc
      rw [List.map_cons, hz] at hpre hstm
      have hcw : CallB R s args (x_ow m) a.toNat (x_mY b) (x_mC b) (x_mL b) none (x_ws b) (x_rm (d - 1) (k1.1 - k.1) (x_sl k1.1 - x_sl k.1)) (k1.1 - k.1) (x_sl k1.1 - x_sl k.1) as.length ∧ (x_mY b).name = "<init>" ∧ (Cond.instanceMethod (x_mY b)).before args s = true :=
        ⟨callB_of as.length hts hgood (by rw [x_ws, hi3]) rfl rfl (hts _ hini) (hts _ (x_tb_TB hl1 rfl)) ⟨hmh, hvh, hmp _ (by simp at hal; omega)⟩ hroom, hi2, hts _ hi1⟩
      have hrun2 := va_runI (l := l) (e := e) (below := below) (meth := meth) (locs := locs) (cells := k.1 - k0.1) (slots := x_sl k.1 - x_sl k0.1) (rest := st'.map (x_cv X α)) (g := F0 mi pc ls (st.map (x_cv X α))) (As := as.map (x_cv X α)) hfix hM hcw ⟨x_blind, hpre⟩ rfl (by simp) hls.1 (by rw [hstm]; simp) hrest (x_dec hd1) hf
      exact x_go hC hW hL hov hosv hls hk1 hrun2 hG
  · simp only [Bool.and_eq_true] at hk
    obtain ⟨⟨hd1, hl1⟩, hq⟩ := hk
    obtain ⟨hq1, hq2⟩ := of_decide_eq_true hq
    obtain ⟨hi1, hi2, hi3⟩ := hin2 hq1
    match as, hal, hM, hpre, hstm, hrc, hasv with
    | [], hal, _, _, _, _, _ => simp at hal; omega
    | .inl _ :: as, _, _, _, _, hrc, _ => simp [x_rcv] at hrc
    | .inr (.inl _) :: as, _, _, _, _, hrc, _ => simp [x_rcv] at hrc
    | .inr (.inr (.inr _)) :: as, _, _, _, _, hrc, _ => simp [x_rcv] at hrc
    | .inr (.inr (.inl (v, w))) :: as, hal, hM, hpre, hstm, hrc, hasv =>
      have hvc : v < 100 := by simpa [x_rcv] using hrc
      have hz : x_cv X α (.inr (.inr (.inl (v, w)))) = .ref (α v w) := x_cv_r X α w hvc
      rw [List.map_cons, hz] at hpre hstm
      obtain ⟨-, -, -, -, -, -, hnst, -, -⟩ := hE
      have hcw : va_CN R s args (x_ow m) a.toNat (x_mY b) "LoftTree" (x_mC b) (x_mL b) none (x_ws b) (x_rm (d - 1) (k1.1 - k.1) (x_sl k1.1 - x_sl k.1)) (k1.1 - k.1) (x_sl k1.1 - x_sl k.1) as.length ∧ (x_mY b).name = "<init>" ∧ (Cond.instanceMethod (x_mY b)).before args s = true :=
        ⟨va_cnB as.length hts hgood (by rw [x_ws, hi3]) rfl rfl (hnst _ (List.mem_filter.mpr ⟨x_tb_in hl1, rfl⟩)) (hts _ hini) ⟨hmh, hvh, hmp _ (by simp at hal; omega)⟩ hroom, hi2, hts _ hi1⟩
      have hrun2 := va_runIN (l := l) (e := e) (below := below) (meth := meth) (locs := locs) (cells := k.1 - k0.1) (slots := x_sl k.1 - x_sl k0.1) (rest := st'.map (x_cv X α)) (g := F0 mi pc ls (st.map (x_cv X α))) (As := as.map (x_cv X α)) hfix hM hcw ⟨x_blind, hpre⟩ rfl (by simp) hls.1 (by rw [hstm]; simp) hrest (x_dec hd1) hf
      exact x_go hC hW hL hov hosv hls hk1 hrun2 hG
  · cases hk
end XGO
theorem x_main (hall : ∀ m, m < 286 → ∀ t, x_blk m t ≠ [] → x_chk m (x_bpc m t) (x_blk m t) = true) (hwok : ∀ b, b < 286 → b ≠ 272 → ¬ (273 ≤ b ∧ b ≤ 276) → x_wok b = true) : ∀ n, x_P n := by
  intro n
  induction n with
  | zero => intro d m K pc L st k σ r kE σE hm h; simp [x_run] at h
  | succ n ih =>
    intro d m K pc L st k σ r kE σE hm h hchk p l e R s mi args below meth c Q D dA A X α0 k0 C hR hRT
    match K with
    | [] => simp [x_run] at h
    | (op, a, b, cc, ee, p0) :: K =>
      have hmono := x_run_mono _ _ _ _ _ _ _ _ _ _ _ h
      rw [x_run] at h
      rw [x_chk, Bool.and_eq_true] at hchk
      obtain ⟨hp, hchk⟩ := hchk
      have hp := of_decide_eq_true hp
      subst hp
      have hnil : ∀ t L2 st2 k2 σ2, x_run n d m (x_blk m t) L2 st2 k2 σ2 = some (r, kE, σE) → x_blk m t ≠ [] := fun t L2 st2 k2 σ2 hh hz => by
        rw [hz] at hh
        cases n <;> simp [x_run] at hh
      split at h
      · rename_i hop
        rw [if_pos hop, Bool.and_eq_true] at hchk
        split at h
        · rename_i L' st' k' σ' hs
          have hm2 := x_run_mono _ _ _ _ _ _ _ _ _ _ _ h
          exact x_sn_all op hop p l e R s mi args below meth c Q D dA A X α0 k0 m d p0 a b cc ee L st k σ L' st' k' σ' C hs hchk.1
            ⟨Nat.le_trans (Nat.sub_le_sub_right hm2 _) hR.1, Nat.le_trans (Nat.sub_le_sub_right (x_sl_mono hm2) _) hR.2⟩ (ih d m K _ L' st' k' σ' r kE σE hm h hchk.2 p l e R s mi args below meth c Q D dA A X α0 k0 C hR hRT)
        · cases h
      · rename_i hop
        rw [if_neg hop] at hchk
        split at h
        · rename_i hop2
          have hkb : x_kb m op b cc p0 = true ∧ (op < 76 → x_chk m (p0 + 3) K = true) := by
            split at hchk
            · rw [Bool.and_eq_true] at hchk
              exact ⟨hchk.1, fun _ => hchk.2⟩
            · rename_i h76
              exact ⟨hchk, fun hz => absurd hz h76⟩
          split at h
          · rename_i t st' hbr
            refine x_sb_all op (by omega) hop2 p l e R s mi args below meth c Q D dA A X α0 k0 m d p0 b cc L st k σ (some t) st' C hbr hkb.1 (fun t' ht => ?_) (fun hz => by cases hz)
            cases ht
            exact ih d m _ _ L st' k σ r kE σE hm h (hall m hm t (hnil _ _ _ _ _ h)) p l e R s mi args below meth c Q D dA A X α0 k0 C hR hRT
          · rename_i st' hbr
            have h76 : op < 76 := by
              by_cases h76 : op < 76
              · exact h76
              · exfalso
                have : op = 76 ∨ op = 77 ∨ op = 78 ∨ op = 79 := by omega
                rcases this with rfl | rfl | rfl | rfl
                · simp [x_br] at hbr
                · simp [x_br] at hbr
                · simp only [x_br] at hbr
                  split at hbr
                  · split at hbr
                    · cases hbr
                    · cases hbr
                  · cases hbr
                · simp only [x_br] at hbr
                  split at hbr
                  · split at hbr
                    · cases hbr
                    · cases hbr
                  · cases hbr
            exact x_sb_all op (by omega) hop2 p l e R s mi args below meth c Q D dA A X α0 k0 m d p0 b cc L st k σ none st' C hbr hkb.1 (fun t' ht => by cases ht) (fun _ => ih d m K _ L st' k σ r kE σE hm h (hkb.2 h76) p l e R s mi args below meth c Q D dA A X α0 k0 C hR hRT)
          · cases h
        · rename_i hop2
          have h76 : ¬ op < 76 := by omega
          rw [if_neg h76, if_neg hop2] at hchk
          split at h
          · rename_i hop3
            rw [if_pos hop3] at hchk
            split at h
            · rename_i r2 hrt
              cases h
              intro H locs ls α hW hL hov hos hls
              exact hRT op p0 st H locs ls α hrt hchk hW hos
            · cases h
          · rename_i hop3
            rw [if_neg hop3, Bool.and_eq_true] at hchk
            split at h
            · rename_i as st' hpop
              split at h
              · rename_i hc
                split at h
                · rename_i r1 k1 σ1 hrun
                  have hb286 : b < 286 := by
                    have := hchk.1
                    unfold x_kc at this
                    simp only [Bool.and_eq_true] at this
                    exact of_decide_eq_true this.1.1
                  have hm2 := x_run_mono _ _ _ _ _ _ _ _ _ _ _ h
                  have hnb : x_blk b 0 ≠ [] := fun hz => by
                    rw [hz] at hrun
                    cases n <;> simp [x_run] at hrun
                  intro H locs ls α hW hL hov hos hls
                  exact x_call hwok ih C hW hL hov hos hls (by omega) hchk.1 hpop hc.1 hc.2 hrun (hall b hb286 0 hnb)
                    ⟨Nat.le_trans (Nat.sub_le_sub_right hm2 _) hR.1, Nat.le_trans (Nat.sub_le_sub_right (x_sl_mono hm2) _) hR.2⟩ (ih d m K _ L _ k1 σ1 r kE σE hm h hchk.2 p l e R s mi args below meth c Q D dA A X α0 k0 C hR hRT)
                · cases h
              · cases h
            · cases h

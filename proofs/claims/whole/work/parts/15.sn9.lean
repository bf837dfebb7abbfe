noncomputable def x_ws (b : Nat) : List Jvm.Cond := .code (x_mY b) (x_mC b) (x_mL b) (x_mR b) :: x_TB
def x_rm (d mc ms : Nat) : Room := { frames := d + 1, cells := mc, slots := ms, locals := 64 * (d + 1) }
def x_Pre (D : va_G) (dA : Nat → ClassId) (X : x_X) (α : Nat → Nat → Nat) (k : x_K) (σ : x_S) (sz : Nat) (as : List x_V) : Array Value → State → Prop :=
  va_Pc (as.map (x_cv X α)) (fun U => U.heap.size = sz ∧ va_P D x_cl (x_w dA α k σ) U.heap ∧ va_K D x_cl (x_tys dA) U ∧ va_D (fun _ => True) (x_w dA α k σ) ∧ x_E X (va_A (x_w dA α k σ) sz) U U.heap)
def x_ag (k : x_K) (α α' : Nat → Nat → Nat) : Prop := ∀ q ∈ x_nms.take k.1, α' q.1 q.2 = α q.1 q.2
def x_Af (D : va_G) (dA : Nat → ClassId) (X : x_X) (A : Nat → Prop) (k1 : x_K) (σ1 : x_S) (α' : Nat → Nat → Nat) (t : State) : Prop := va_P D x_cl (x_w dA α' k1 σ1) t.heap ∧ va_D A (x_w dA α' k1 σ1) ∧ x_In X k1 σ1
def x_Post (D : va_G) (dA : Nat → ClassId) (X : x_X) (α : Nat → Nat → Nat) (k : x_K) (σ : x_S) (k1 : x_K) (σ1 : x_S) (sz : Nat) (r : Option x_V) : Array Value → State → Outcome → State → Prop :=
  match r with
  | none => va_Qv (fun α' => x_ag k α α') (x_Af D dA X (va_A (x_w dA α k σ) sz) k1 σ1) (va_A (x_w dA α k σ) sz)
  | some (.inl a) => va_Qi (fun z α' => z = Int32.ofInt a ∧ x_ag k α α') (x_Af D dA X (va_A (x_w dA α k σ) sz) k1 σ1) (va_A (x_w dA α k σ) sz)
  | some (.inr (.inl a)) => va_Ql (fun z α' => z = Int64.ofInt a ∧ x_ag k α α') (x_Af D dA X (va_A (x_w dA α k σ) sz) k1 σ1) (va_A (x_w dA α k σ) sz)
  | some (.inr (.inr (.inl (c, j)))) => va_Qr (fun α' => x_ag k α α' ∧ (c, j) ∈ x_nms.take k1.1) (fun α' ra t => ra = α' c j ∧ x_Af D dA X (va_A (x_w dA α k σ) sz) k1 σ1 α' t) (va_A (x_w dA α k σ) sz)
  | some (.inr (.inr (.inr _))) => fun _ _ _ _ => False
theorem x_SS_moved {X : x_X} {A : Nat → Prop} {u U : State} {H : Heap} (hvm : u.vm.Alike U.vm) (h : x_SS X A u H) : x_SS X A U H := fun i hi => ⟨va_O.moved hvm (h i hi).1, va_OF.moved hvm (h i hi).2.1, va_OF.moved hvm (h i hi).2.2.1, va_T.moved hvm (h i hi).2.2.2⟩
theorem x_SS_kept {X : x_X} {A : Nat → Prop} {U : State} {H H1 : Heap} (h : x_SS X A U H) (hq : ∀ a : Nat, a < H.size → ¬ A a → H1[a]? = H[a]?) : x_SS X A U H1 := fun i hi => ⟨(h i hi).1.kept hq, (h i hi).2.1.kept hq, (h i hi).2.2.1.kept hq, (h i hi).2.2.2.kept hq⟩
theorem x_SS_narrow {X : x_X} {A B : Nat → Prop} {U : State} {H : Heap} (h : x_SS X A U H) (hAB : ∀ q, B q → A q) : x_SS X B U H := fun i hi => ⟨(h i hi).1.narrow hAB, (h i hi).2.1.narrow hAB, (h i hi).2.2.1.narrow hAB, (h i hi).2.2.2.narrow hAB⟩
theorem x_E_same {X : x_X} {A : Nat → Prop} {u U : State} (hv : U.vm = u.vm) (hh : U.heap = u.heap) (h : x_E X A u u.heap) : x_E X A U U.heap := by
  have hal : u.vm.Alike U.vm := by rw [hv]; exact Vm.Alike.refl u.vm
  obtain ⟨h1, h2, h3, h4, h5, ⟨h6, h7, h8, h9⟩, h10, h11, h12⟩ := h
  rw [hh]
  exact ⟨x_SS_moved hal h1, h2.moved hal, h3.moved hal, h4.moved hal, h5.moved hal, ⟨h6.moved hal, h7, h8, h9⟩, fun w hw => va_Nw.same (by
    have := (List.mem_filter.mp hw).2
    cases w <;> first | rfl | (simp [x_isn] at this)) hv.symm (h10 w hw), fun q hq => vk_R.same hv (h11 q hq), h12.moved hal⟩
theorem x_E_move {X : x_X} {A A1 : Nat → Prop} {s U : State} {H : Heap} {locs : List Loc} (hE : x_E X A s s.heap) (hS : va_S A s.heap H locs) (hA : ∀ q, A1 q → A q) (hU : U.heap = H) (hW : s.WarmedH U.vm) : x_E X A1 U U.heap := by
  obtain ⟨h1, h2, h3, h4, h5, ⟨h6, h7, h8, h9⟩, h10, h11, h12⟩ := hE
  rw [hU]
  refine ⟨x_SS_moved hW.alike (x_SS_narrow (x_SS_kept h1 hS.2.1) hA), ((h2.kept hS.2.1).narrow hA).moved hW.alike, ((h3.kept hS.2.1).narrow hA).moved hW.alike, ((h4.kept hS.2.1).narrow hA).moved hW.alike, ((h5.kept hS.2.1).narrow hA).moved hW.alike,
    ⟨(h6.kept (hS.2.1 _ h7 h8)).moved hW.alike, Nat.lt_of_lt_of_le h7 hS.1, fun z => h8 (hA _ z), h9⟩, fun w hw => ?_, fun q hq => vk_R.warm hW (h11 q hq), h12.moved hW.alike⟩
  have h := h10 w hw
  have hn := (List.mem_filter.mp hw).2
  cases w <;> first | exact va_Nw.warmM hW h | exact va_Nw.warmF hW h | (simp [x_isn] at hn)
theorem x_blind {D : va_G} {dA : Nat → ClassId} {X : x_X} {α : Nat → Nat → Nat} {k : x_K} {σ : x_S} {sz : Nat} {as : List x_V} : FrameBlind (x_Pre D dA X α k σ sz as) := by
  intro a U g mk q
  obtain ⟨q0, q1, qP, qK, qD, qE⟩ := q
  exact ⟨q0, q1, qP, va_K.moved (u := U) (U := U.calling g mk a) (Vm.Alike.refl U.vm) qK, qD, x_E_same (u := U) (U := U.calling g mk a) rfl rfl qE⟩
theorem x_wfacts {b : Nat} (h : x_wok b = true) : GoodIn x_TB (x_ws b) ∧ Cond.initialized (x_ow b) ∈ x_TB ∧ x_mL b ≤ 40 ∧ (parseMethodDescriptor (x_mY b).desc).map (fun d => d.parameters.length) = some (x_mp b).2.2.2.2.2 ∧ plainName (x_ow b) = true ∧ x_ow b ≠ "java/lang/invoke/MethodHandle" ∧ x_ow b ≠ "java/lang/invoke/VarHandle" ∧ x_bpc b 0 = 0 ∧
    ((x_mp b).2.2.2.2.1 = 0 → Cond.static (x_mY b) ∈ x_TB) ∧ ((x_mp b).2.2.2.2.1 = 1 → Cond.instanceMethod (x_mY b) ∈ x_TB ∧ Cond.selects (x_ow b) (x_mY b) (x_mY b) ∈ x_TB) ∧ ((x_mp b).2.2.2.2.1 = 2 → Cond.instanceMethod (x_mY b) ∈ x_TB ∧ (x_md b).2.1 = "<init>" ∧ x_mR b = none) := by
  unfold x_wok at h
  simp only [Bool.and_eq_true] at h
  obtain ⟨⟨⟨⟨⟨⟨⟨⟨h1, h2⟩, h3⟩, h4⟩, h5⟩, h6⟩, h7⟩, h8⟩, h9⟩ := h
  refine ⟨fun w hw => ?_, x_tb_TB h2 rfl, of_decide_eq_true h4, of_decide_eq_true h5, of_decide_eq_true h6, of_decide_eq_true h7, of_decide_eq_true h8, of_decide_eq_true h9, fun hz => ?_, fun hz => ?_, fun hz => ?_⟩
  · rcases List.mem_cons.mp hw with rfl | hw
    · exact ⟨x_tb_TB h1 rfl, Or.inl rfl⟩
    · exact ⟨hw, good_of_word (List.mem_filter.mp hw).2⟩
  · rw [hz] at h3
    exact x_tb_TB h3 rfl
  · rw [hz] at h3
    simp only [Bool.and_eq_true] at h3
    exact ⟨x_tb_TB h3.1 rfl, x_tb_TB h3.2 rfl⟩
  · rw [hz] at h3
    simp only [Bool.and_eq_true] at h3
    exact ⟨x_tb_TB h3.1.1 rfl, of_decide_eq_true h3.1.2, of_decide_eq_true h3.2⟩
noncomputable def x_RT (p : Program) (l : Launch) (e : Env) (R : Room) (s : State) (mi : MethodId) (args : Array Value) (below : List Frame) (meth : Method) (c : Code) (Q : State → Prop) (D : va_G) (dA : Nat → ClassId) (A : Nat → Prop) (X : x_X) (α0 : Nat → Nat → Nat) (k0 : x_K) (m : Nat) (r : Option x_V) (kE : x_K) (σE : x_S) : Prop :=
  ∀ (op pc : Nat) (st0 : List x_V) (H : Heap) (locs : List Loc) (ls : Array Slot) (α : Nat → Nat → Nat), x_rt op (x_mZ m) st0 = some r → x_kr m op pc = true → x_Wd s D dA A X α0 k0 α kE σE H locs → x_ovs kE st0 →
    W p l e R s mi args below meth c H locs (kE.1 - k0.1) (x_sl kE.1 - x_sl k0.1) Q (F0 mi pc ls (st0.map (x_cv X α)))
noncomputable def x_P (n : Nat) : Prop :=
  ∀ (d m : Nat) (K : List x_I) (pc : Nat) (L st : List x_V) (k : x_K) (σ : x_S) (r : Option x_V) (kE : x_K) (σE : x_S), m < 286 → x_run n d m K L st k σ = some (r, kE, σE) → x_chk m pc K = true →
    ∀ (p : Program) (l : Launch) (e : Env) (R : Room) (s : State) (mi : MethodId) (args : Array Value) (below : List Frame) (meth : Method) (c : Code) (Q : State → Prop) (D : va_G) (dA : Nat → ClassId) (A : Nat → Prop) (X : x_X) (α0 : Nat → Nat → Nat) (k0 : x_K),
      x_C p R s mi args meth c D dA A X m d → (kE.1 - k0.1 ≤ R.cells ∧ x_sl kE.1 - x_sl k0.1 ≤ R.slots) → x_RT p l e R s mi args below meth c Q D dA A X α0 k0 m r kE σE → x_G p l e R s mi args below meth c Q D dA A X α0 k0 m pc L st k σ
theorem x_nar_c {x : Int} (h1 : 0 ≤ x) (h2 : x < 65536) : narrow .char (.int (Int32.ofInt x)) = .int (Int32.ofInt x) := by
  have h := (pk_charN (q := x.toNat) (by omega)).1
  rw [nI, ← Int32.ofInt_eq_ofNat, Int.toNat_of_nonneg h1] at h
  exact h
theorem x_nar_b2 {x : Int} (h1 : -128 ≤ x) (h2 : x < 128) : narrow .byte (.int (Int32.ofInt x)) = .int (Int32.ofInt x) := by
  have h := pk_nb (Int32.ofInt x)
  have e : (Int32.ofInt x).toInt8.toInt32 = Int32.ofInt x := by
    rw [x_n_i2b]
    congr 1
    exact Int.bmod_eq_of_le (by omega) (by omega)
  rw [e] at h
  exact h
theorem x_ret {p : Program} {l : Launch} {e : Env} {R : Room} {s : State} {mi : MethodId} {args : Array Value} {below : List Frame} {meth : Method} {c : Code} {D : va_G} {dA : Nat → ClassId} {X : x_X} {α0 : Nat → Nat → Nat} {k0 : x_K} {σ0 : x_S} {m d : Nat} {r : Option x_V} {kE : x_K} {σE : x_S}
    (C : x_C p R s mi args meth c D dA (va_A (x_w dA α0 k0 σ0) s.heap.size) X m d) (hr : meth.sig.returnType = x_mR m) (hlocks : meth.locks = false) :
    x_RT p l e R s mi args below meth c (MQ below (x_Post D dA X α0 k0 σ0 kE σE s.heap.size r) args s (kE.1 - k0.1) (x_sl kE.1 - x_sl k0.1) (va_A (x_w dA α0 k0 σ0) s.heap.size)) D dA (va_A (x_w dA α0 k0 σ0) s.heap.size) X α0 k0 m r kE σE := by
  intro op pc st0 H locs ls α hrt hkr hW hos
  obtain ⟨hx, hb, -⟩ := C
  have haf : ∀ t : State, t.heap = H → x_Af D dA X (va_A (x_w dA α0 k0 σ0) s.heap.size) kE σE α t := fun t ht => ⟨by rw [ht]; exact hW.1, hW.2.1, hW.2.2.2.1⟩
  unfold x_rt at hrt
  split at hrt
  · split at hrt
    · rename_i x
      split at hrt
      · rename_i hz
        cases hrt
        unfold x_kr at hkr
        simp only [Bool.and_eq_true] at hkr
        have hk2 := of_decide_eq_true hkr.2
        have hty : ∃ ty, x_mR m = some ty ∧ narrow ty (.int (Int32.ofInt x)) = .int (Int32.ofInt x) := by
          rcases hk2 with ⟨z, h⟩ | ⟨z, h⟩ | ⟨z, h⟩ | ⟨z, h⟩
          · exact ⟨_, h, rfl⟩
          · refine ⟨_, h, ?_⟩
            rw [z] at hz
            have : x = 0 ∨ x = 1 := by
              rcases hz with hz | hz | hz | hz
              · cases hz
              · exact hz.2
              · cases hz.1
              · cases hz.1
            rcases this with rfl | rfl <;> rfl
          · refine ⟨_, h, ?_⟩
            rw [z] at hz
            rcases hz with hz | hz | hz | hz
            · cases hz
            · cases hz.1
            · exact x_nar_b2 hz.2.1 hz.2.2
            · cases hz.1
          · refine ⟨_, h, ?_⟩
            rw [z] at hz
            rcases hz with hz | hz | hz | hz
            · cases hz
            · cases hz.1
            · cases hz.1
            · exact x_nar_c hz.2.1 hz.2.2
        obtain ⟨ty, h1, h2⟩ := hty
        exact W.zret hx hb (hr.trans h1) h2 (fun t ht _ => ⟨⟨_, α, rfl, ⟨rfl, hW.2.2.2.2.1⟩, haf t ht⟩, hW.2.2.1.F ht⟩) hW.2.2.1.2.2 (x_dec hkr.1) hlocks
      · cases hrt
    · cases hrt
  · split at hrt
    · rename_i x
      cases hrt
      unfold x_kr at hkr
      simp only [Bool.and_eq_true] at hkr
      exact W.lret hx hb (hr.trans (of_decide_eq_true hkr.2)) (fun t ht _ => ⟨⟨_, α, rfl, ⟨rfl, hW.2.2.2.2.1⟩, haf t ht⟩, hW.2.2.1.F ht⟩) hW.2.2.1.2.2 (x_dec hkr.1) hlocks
    · cases hrt
  · split at hrt
    · rename_i v w
      split at hrt
      · rename_i hc
        cases hrt
        unfold x_kr at hkr
        simp only [Bool.and_eq_true] at hkr
        have hm : (v, w) ∈ x_nms.take kE.1 := by
          rcases (x_ovs_cons.mp hos).1 with h | h
          · exact h
          · omega
        have hty : ∃ ty, x_mR m = some ty ∧ x_isr ty = true := by
          have h2 := hkr.2
          split at h2
          · rename_i t ht
            exact ⟨t, ht, h2⟩
          · cases h2
        obtain ⟨ty, h1, h2⟩ := hty
        have hcv : x_cv X α (Sum.inr (Sum.inr (Sum.inl (v, w)))) = .ref (α v w) := x_cv_r X α w hc
        rw [List.map_cons, hcv]
        refine W.aret hx hb (hr.trans h1) ?_ (Or.inr ⟨_, rfl⟩) (fun t ht _ => ⟨⟨α, _, rfl, ⟨hW.2.2.2.2.1, hm⟩, rfl, haf t ht⟩, hW.2.2.1.F ht⟩) hW.2.2.1.2.2 (x_dec hkr.1) hlocks
        unfold x_isr at h2
        split at h2
        · exact Or.inl ⟨_, rfl⟩
        · exact Or.inr ⟨_, rfl⟩
        · cases h2
      · cases hrt
    · cases hrt
  · split at hrt
    · cases hrt
      unfold x_kr at hkr
      simp only [Bool.and_eq_true] at hkr
      exact W.vret hx hb (hr.trans (of_decide_eq_true hkr.2)) (fun t ht _ => ⟨⟨α, rfl, hW.2.2.2.2.1, haf t ht⟩, hW.2.2.1.F ht⟩) hW.2.2.1.2.2 (x_dec hkr.1) hlocks
    · cases hrt
  · cases hrt
theorem x_met {n : Nat} (hP : x_P n) {d b : Nat} {as : List x_V} {k : x_K} {σ : x_S} {r : Option x_V} {k1 : x_K} {σ1 : x_S} (hb : b < 286) (hw : x_wok b = true) (hrun : x_run n d b (x_blk b 0) (x_ini b as) [] k σ = some (r, k1, σ1)) (hlen : (x_arg as).length ≤ x_mL b) (hchk : x_chk b (x_bpc b 0) (x_blk b 0) = true) (has : x_ovs k (x_ini b as))
    (l : Launch) (D : va_G) (dA : Nat → ClassId) (X : x_X) (α : Nat → Nat → Nat) (sz : Nat) (hI : x_In X k σ) :
    Met l (x_mY b) (x_ws b) (x_rm d (k1.1 - k.1) (x_sl k1.1 - x_sl k.1)) (x_Pre D dA X α k σ sz as) (x_Post D dA X α k σ k1 σ1 sz r) (k1.1 - k.1) (x_sl k1.1 - x_sl k.1) (va_A (x_w dA α k σ) sz) := by
  obtain ⟨-, -, -, -, hpl, -, -, h0, -, -, -⟩ := x_wfacts hw
  refine Met.ofW (cc := x_mC b) (maxL := x_mL b) (ret := x_mR b) hpl rfl ?_
  intro p e s mi args below meth c s₁ B hml hv
  obtain ⟨rfl, hsz, hPP, hK, hD0, hE⟩ := hv
  subst hsz
  have hts := atoms_spec (ws := x_ws b) B.pre
  have hD := hD0.self (sz := s.heap.size)
  have hown : s.vm.findClass (x_ow b) = some mi.cls := findClass_of_methodNamed B.named
  have hnm := (name_of_methodNamed B.named B.method).1
  have hC : x_C p (headSpec (x_ws b) (x_rm d (k1.1 - k.1) (x_sl k1.1 - x_sl k.1))).room s mi (as.map (x_cv X α)).toArray meth c D dA (va_A (x_w dA α k σ) s.heap.size) X b d :=
    ⟨B.exec, B.bytes, hml, hown, fun w hw => hts w (List.mem_cons_of_mem _ hw), hK, hE, fun q hq => Or.inr hq, fun hi => hnm.trans hi, Nat.le_refl _, Nat.le_refl _⟩
  have hG := hP d b _ _ _ _ _ _ _ _ _ hb hrun hchk p l e _ s mi _ below meth c _ D dA _ X α k hC ⟨Nat.le_refl _, Nat.le_refl _⟩ (x_ret (l := l) (e := e) (below := below) (α0 := α) (k0 := k) (σ0 := σ) (r := r) (kE := k1) (σE := σ1) hC B.returns B.notSynchronized)
  have hw := hG s.heap [] _ α ⟨hPP, hD, va_S.rf, hI, fun _ _ => rfl, Nat.le_refl _⟩ (x_ini_len b as hlen) has (fun _ h => by cases h) (x_lh_ini b as hlen)
  rw [Nat.sub_self, Nat.sub_self, h0] at hw
  rw [lg_entry_eq]
  exact hw

def R_law : String := "LoftTreeLaw"
def lw_P (b : Addr) (xs : List Int32) (args : Array Value) (s : State) : Prop := args = #[.ref b] ∧ s.IntsAt b xs ∧ xs.length ≤ 3072 ∧ (Jvm.Cond.and given_1 narrow_1).before args s = true
def lw_Q (_ : Array Value) (s : State) (o : Outcome) (t : State) : Prop := o = .returned (some (.int 1)) ∧ Framed s o t [] 600000 7302250
def lw_Z (below : List Frame) (a : Array Value) (s : State) : State → Prop := fun t => ∃ o, t.status = .running ∧ Ended t below o ∧ lw_Q a s o t
/-- the law's own end, with 1 on the stack, nothing written that was there before, its room as the claim has it -/
theorem lw_ret {p : Program} {l : Launch} {e : Env} {s : State} {m : MethodId} {below : List Frame} {meth : Method} {c : Code} {b : Nat} (hx : p.tables.exec = Jvm.exec) (hb : c.code = code) (hr : meth.sig.returnType = ret) (hlocks : meth.locks = false) {pc : Nat} {H : Heap} {ls : Array Slot} (hdg : decode code pc = .ok (.ireturn, 1)) : W p l e room_1 s m #[Value.ref b] below meth c H [] 600000 7302250 (lw_Z below #[Value.ref b] s) (F0 m pc ls [.int 1]) := by
  intro T hT X
  obtain ⟨fs, hret, hrun, hended, hW, hframe⟩ := X.leave (v := some (.int 1)) (hlocks := hlocks) (fun h => by rw [hr] at h; cases h)
  have hmeth' : T.vm.method? m = some meth := X.method'
  refine ⟨T.setFrames fs, ?_, .returned (some (.int 1)), hrun, hended, rfl, ⟨_, rfl⟩, hW, hframe⟩
  jvm_step X.here [X.here.top, hx, hb, hdg, hmeth', hr, ret, narrow_b1]
  (try refine ⟨rfl, ?_⟩); (try refine ⟨rfl, ?_⟩)
  first | (intro acts; rw [hret _ acts rfl rfl rfl]) | rw [hret _ _ rfl rfl rfl]
  exact Steps.refl _
/-- what holds at the law's entry: the machine, the code, the tables' words (any of lw_tbl by 'hts w (by decide +kernel)'), the script of L ints xs at the cell b, what the Statement gives of the start (any of its parts by flat_of_before) -/
def lw_At (p : Program) (s : State) (m : MethodId) (meth : Method) (c : Code) (b L : Nat) (xs : Nat → Int32) : Prop :=
  p.tables.exec = Jvm.exec ∧ c.code = code ∧ meth.sig.returnType = ret ∧ c.maxLocals = 4 ∧ s.vm.findClass R_law = some m.cls ∧ (∀ w ∈ lw_tbl, w.before #[Value.ref b] s = true) ∧ va_X b L xs s s.heap ∧ b < s.heap.size ∧ meth.locks = false ∧ (Jvm.Cond.and given_1 narrow_1).before #[Value.ref b] s = true

theorem x_sl_F : x_sl x_kF.1 ≤ 7302250 ∧ x_kF.1 ≤ 600000 := by decide +kernel
set_option maxRecDepth 100000 in
theorem x_start (hall : ∀ m, m < 286 → ∀ t, x_blk m t ≠ [] → x_chk m (x_bpc m t) (x_blk m t) = true) (hwok : ∀ b, b < 286 → b ≠ 272 → ¬ (273 ≤ b ∧ b ≤ 276) → x_wok b = true)
    (hlaw : ∀ (L : Nat) (xs : Nat → Int32), L ≤ 3072 → ∃ n σE, x_run n 1000 272 (x_blk 272 0) (x_ini 272 [xR 100 0]) [] (0, 0) (x_sc0 L xs) = some (some (xI 1), x_kF, σE))
    {p : Program} {e : Env} {s : State} {m : MethodId} {below : List Frame} {meth : Method} {c : Code} (l : Launch) {b L : Nat} {xs : Nat → Int32} (hL : L ≤ 3072) (C0 : lw_At p s m meth c b L xs) : W p l e room_1 s m #[Value.ref b] below meth c s.heap [] 0 0 (lw_Z below #[Value.ref b] s) (entryFrame m ([Value.ref b] : List Value).toArray 4) := by
  obtain ⟨hx, hb, hr, hml, hown, hts, hX, hbl, hlocks, hgv⟩ := C0
  have hTB : ∀ w ∈ x_TB, w.before #[Value.ref b] s = true := fun w hw => hts w (List.mem_filter.mp hw).1
  have hfl : ∀ w ∈ x_flat, w.before #[Value.ref b] s = true := flat_of_before _ hgv
  obtain ⟨X, eb, eL, exs, hE⟩ := x_ext hts hfl hX hbl hL
  obtain ⟨D, hD⟩ := x_known hTB
  obtain ⟨dA, hdA⟩ := x_karr hTB (hts _ (x_tb_in x_tb_351))
  obtain ⟨n, σE, hrun⟩ := hlaw L xs hL
  have hC : x_C p room_1 s m #[Value.ref b] meth c D dA (fun q => s.heap.size ≤ q) X 272 1000 :=
    ⟨hx, hb, hml, hown, hTB, ⟨hD, hdA⟩, hE, fun q h => h, fun h => absurd h (by decide), by decide, by decide⟩
  obtain ⟨f1, f2⟩ := x_sl_F
  have hRT : x_RT p l e room_1 s m #[Value.ref b] below meth c (lw_Z below #[Value.ref b] s) D dA (fun q => s.heap.size ≤ q) X (fun _ _ => 0) (0, 0) 272 (some (xI 1)) x_kF σE := by
    intro op pc st0 H locs ls α hrt hkr hW hos
    have h80 : op = 80 ∧ st0 = [xI 1] := by
      unfold x_rt at hrt
      split at hrt
      · split at hrt
        · split at hrt
          · cases hrt; exact ⟨rfl, rfl⟩
          · cases hrt
        · cases hrt
      · split at hrt
        · cases hrt
        · cases hrt
      · split at hrt
        · split at hrt
          · cases hrt
          · cases hrt
        · cases hrt
      · split at hrt
        · cases hrt
        · cases hrt
      · cases hrt
    obtain ⟨rfl, rfl⟩ := h80
    unfold x_kr at hkr
    simp only [Bool.and_eq_true] at hkr
    refine va_forget (fun q hq => hW.2.2.1.2.2 q hq) ?_
    refine W.widen (k := 600000) (n := 7302250) (Nat.le_trans (Nat.sub_le _ _) f2) (Nat.le_trans (Nat.sub_le _ _) f1) ?_
    have hdc := x_dec hkr.1
    rw [show x_mC 272 = code from rfl] at hdc
    exact lw_ret hx hb hr hlocks hdc
  have hnb : x_blk 272 0 ≠ [] := by
    intro hz
    rw [hz] at hrun
    cases n <;> simp [x_run] at hrun
  have hG := x_main hall hwok n 1000 272 _ _ _ _ _ _ _ _ _ (by decide) hrun (hall 272 (by decide) 0 hnb) p l e room_1 s m #[Value.ref b] below meth c _ D dA _ X (fun _ _ => 0) (0, 0) hC ⟨Nat.le_trans (Nat.sub_le _ _) f2, Nat.le_trans (Nat.sub_le _ _) f1⟩ hRT
  have hlen : (x_arg [xR 100 0]).length ≤ x_mL 272 := by decide
  have hIn : x_In X (0, 0) (x_sc0 L xs) := by
    refine ⟨Nat.zero_le _, fun q hq => by simp at hq, ?_, fun i hi => ?_⟩
    · rw [eL]; simp [x_sc0]
    · rw [exs]
      have : ¬ (100 = 100 ∧ 0 = 1 ∧ (i : Int) = 0) := by omega
      simp [x_sc0]
  have hw := hG s.heap [] _ (fun _ _ => 0) ⟨fun k q h => by simp [x_w] at h, ⟨fun i j x y h => by simp [x_w] at h, fun k q h => by simp [x_w] at h⟩, va_S.rf, hIn, fun _ _ => rfl, Nat.le_refl _⟩ (x_ini_len 272 [xR 100 0] hlen) (x_ovs_ini (fun v hv => by rw [List.mem_singleton.mp hv]; exact Or.inr (by decide))) (fun _ h => by cases h) (x_lh_ini 272 [xR 100 0] hlen)
  have hcv : [xR 100 0].map (x_cv X (fun _ _ => 0)) = [Value.ref b] := by
    rw [← eb]; rfl
  rw [hcv] at hw
  have h0 : x_bpc 272 0 = 0 := by decide
  rw [h0] at hw
  rw [lg_entry_eq]
  exact hw

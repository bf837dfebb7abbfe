/-! the store behind both constructors keeps the invariant -/
section ST
variable {L : Nat} {xs : Nat → Int32}
theorem q_w0 : x_sF (x_sc0 L xs) 51 0 0 = 1 := rfl
theorem q_w16 : x_sF (x_sc0 L xs) 51 0 16 = -1 := rfl
theorem q_wz {i : Int} (h : ¬ i = 0) (h16 : ¬ i = 16) : x_sF (x_sc0 L xs) 51 0 i = 0 := by
  unfold x_sF x_sm
  rw [x_rd_ne (by omega)]
  unfold x_pl0
  rw [x_rd_ne (by omega)]
  by_cases z : 0 ≤ i ∧ i < 616
  · rw [s_fl_w]
    exact if_pos z
  · rw [s_fl_w]
    dsimp only
    rw [if_neg z]
    rfl
theorem q_wk {k : Int} (h : 0 < k) : w_of (x_sF (x_sc0 L xs) 51 0) 0 k = 0 := q_wz (by omega) (by omega)
theorem q_2 {a b : Int} (v : Int) (h : a = v) (g : b = v) : a = b := h.trans g.symm
set_option maxRecDepth 16384 in
theorem q_start : iN L (fun z => (xs z.toNat).toInt) (x_sF (x_sc0 L xs)) := by
  have wu : w_of (x_sF (x_sc0 L xs) 51 0) 0 0 = -1 := q_w16
  have wk : ∀ k, 0 < k → w_of (x_sF (x_sc0 L xs) 51 0) 0 k = 0 := fun k h => q_wk h
  refine ⟨⟨⟨⟨?_, fun f f0 f1 => ?_⟩, fun f f0 f1 k0 => ?_, ?_, fun f f0 f1 => ?_⟩, ⟨⟨q_2 0 rfl (q_wz (by omega) (by omega)), q_2 0 rfl (q_wz (by omega) (by omega)), q_2 0 rfl (q_wz (by omega) (by omega)), q_2 0 rfl (q_wz (by omega) (by omega)), q_2 0 rfl (q_wz (by omega) (by omega)), q_2 0 rfl (q_wz (by omega) (by omega)), q_2 1 rfl q_w0⟩, fun f f0 f1 => ?_⟩, ⟨q_2 0 rfl (q_wz (by omega) (by omega)), q_2 0 rfl (q_wz (by omega) (by omega)), q_2 0 rfl (q_wz (by omega) (by omega)), q_2 0 rfl (q_wz (by omega) (by omega)), q_2 0 rfl (q_wz (by omega) (by omega))⟩, fun f f0 f1 => ?_⟩, iT_zero (fun k k0 k1 => ?_), ⟨⟨rfl, rfl, rfl⟩, ⟨rfl, rfl, rfl⟩, ⟨rfl, rfl, rfl⟩⟩, ⟨rfl, rfl, rfl, q_2 (-2000000000) rfl rfl⟩, ⟨fun s s0 s1 => Or.inl ?_, fun i i0 i1 => ?_⟩, ⟨⟨q_2 0 rfl rfl, ?_, ?_⟩, fun i i0 i1 => ?_, ⟨q_2 0 rfl rfl, q_2 (-1) rfl rfl⟩⟩, fun k hk => ⟨Or.inl ?_, ?_, fun z => ?_⟩, ⟨fun z => rfl, rfl⟩⟩
  · unfold wf_hdr
    rw [q_w0, q_wz (by omega) (by omega), q_wz (by omega) (by omega), q_wz (by omega) (by omega), q_wz (by omega) (by omega), q_wz (by omega) (by omega), q_wz (by omega) (by omega)]
    omega
  · rw [q_w0] at f1
    have e : f = 0 := by omega
    subst e
    refine ⟨?_, fun i i0 i1 => ?_, fun i j i0 ij j1 => ?_, fun y => by omega⟩
    · unfold wf_one
      rw [wu, wk 1 (by omega), wk 2 (by omega), wk 3 (by omega), wk 4 (by omega), wk 5 (by omega), wk 6 (by omega), wk 7 (by omega)]
      omega
    · rw [wk 7 (by omega)] at i1
      omega
    · rw [wk 7 (by omega)] at j1
      omega
  · rw [q_w0] at f1
    have e : f = 0 := by omega
    subst e
    rw [wk 7 (by omega)] at k0
    omega
  · unfold wn
    rw [q_w0, q_wz (i := 8) (by omega) (by omega), q_wz (i := 9) (by omega) (by omega), q_wz (i := 10) (by omega) (by omega), q_wz (i := 11) (by omega) (by omega), q_wz (i := 12) (by omega) (by omega), wk 6 (by omega)]
    omega
  · rw [q_w0] at f1
    have e : f = 0 := by omega
    subst e
    rw [wk 2 (by omega), q_wz (by omega) (by omega), q_wz (by omega) (by omega)]
    omega
  · rw [q_w0] at f1
    have e : f = 0 := by omega
    subst e
    refine ⟨⟨q_2 (-1) rfl wu, q_2 0 rfl (wk 1 (by omega)), q_2 0 rfl (wk 2 (by omega)), q_2 0 rfl (wk 3 (by omega)), q_2 0 rfl (wk 4 (by omega)), q_2 0 rfl (wk 5 (by omega)), q_2 0 rfl (wk 6 (by omega)), q_2 0 rfl (wk 7 (by omega))⟩, fun i i0 i1 => ?_⟩
    rw [wk 7 (by omega)] at i1
    omega
  · rw [q_w0] at f1
    have e : f = 0 := by omega
    subst e
    exact ⟨q_2 0 rfl (q_wz (by omega) (by omega)), q_2 0 rfl (q_wz (by omega) (by omega))⟩
  · have kk : k = 13 ∨ k = 14 ∨ k = 15 ∨ k = 16 := by omega
    rcases kk with rfl | rfl | rfl | rfl <;> rfl
  · have kk : s = 0 ∨ s = 1 ∨ s = 2 ∨ s = 3 := by omega
    rcases kk with rfl | rfl | rfl | rfl <;> exact ⟨rfl, rfl⟩
  · have e : x_sF (x_sc0 L xs) 72 0 i = 0 := rfl
    rw [e]
    exact ⟨rfl, by omega, by omega⟩
  · have e : x_sF (x_sc0 L xs) 50 0 5 = 0 := rfl
    rw [e]
    omega
  · have e : x_sF (x_sc0 L xs) 50 0 5 = 0 := rfl
    rw [e]
    omega
  · have e : x_sF (x_sc0 L xs) 50 0 5 = 0 := rfl
    rw [e] at i1
    omega
  · rfl
  · have kk : k = 0 ∨ k = 1 ∨ k = 2 := by omega
    rcases kk with rfl | rfl | rfl <;> exact q_2 0 rfl rfl
  · have e : x_sF (x_sc0 L xs) 53 0 (k : Int) = 0 := rfl
    rw [e] at z
    omega
end ST
theorem x_hlaw : ∀ (L : Nat) (xs : Nat → Int32), L ≤ 3072 → ∃ n σE, x_run n 1000 272 (x_blk 272 0) (x_ini 272 [xR 100 0]) [] (0, 0) (x_sc0 L xs) = some (some (xI 1), x_kF, σE) := by
  intro L xs hL
  have hS : ∀ z : Int, -2147483648 ≤ (xs z.toNat).toInt ∧ (xs z.toNat).toInt ≤ 2147483647 := by
    intro z
    have a := Int32.le_toInt (xs z.toNat)
    have c := Int32.toInt_lt (xs z.toNat)
    omega
  exact x_hlaw0 (x_lawloop (I := iN L (fun z => (xs z.toNat).toInt)) o_feed o_end o_text o_fault o_fork o_best o_step o_steps o_first o_more o_ties o_plan o_plans o_planned o_judge o_cost o_within o_reach o_dead o_worth o_unit o_joined o_costTo o_take o_gap o_know o_sooner o_middle o_late o_coin o_ruin o_tail o_lose o_same o_kinds o_edge o_rise o_move o_set o_go o_now o_again o_run o_ran o_count o_keep o_back o_row o_write o_paste (L := (L : Int)) ⟨by omega, by omega⟩ (S0 := fun z => (xs z.toNat).toInt) hS (fun σ h => h.2.2.2.2.2.2.2) (L + 1) 0 (x_sF (x_sc0 L xs)) q_start (by omega) (by omega) (by omega))

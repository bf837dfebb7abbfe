/-! how many kinds -/
def imK (kd : Int → Int) : Nat → Int → Int
  | 0, _ => 0
  | j + 1, v => if kd j = v then 1 else imK kd j v
def smK (g : Int → Int) : Nat → Int
  | 0 => 0
  | n + 1 => smK g n + g n
theorem smK_cg {g g' : Int → Int} : ∀ n : Nat, (∀ v : Int, 0 ≤ v → v < n → g' v = g v) → smK g' n = smK g n := by
  intro n
  induction n with
  | zero => intro _; rfl
  | succ n ih =>
    intro h
    show smK g' n + g' n = smK g n + g n
    rw [ih (fun v a b => h v a (by omega)), h n (by omega) (by omega)]
theorem smK_s {g : Int → Int} {n : Int} (h : 0 ≤ n) : smK g (n + 1).toNat = smK g n.toNat + g n := by
  rw [show (n + 1).toNat = n.toNat + 1 by omega]
  show smK g n.toNat + g (n.toNat : Int) = _
  rw [Int.toNat_of_nonneg h]
theorem smK_u {h : Int → Int} {c : Int} : ∀ n : Nat, smK (fun v => if c = v then 1 else h v) n = smK h n + (if 0 ≤ c ∧ c < n then 1 - h c else 0) := by
  intro n
  induction n with
  | zero =>
    rw [if_neg (by omega)]
    rfl
  | succ n ih =>
    show smK (fun v => if c = v then 1 else h v) n + (if c = (n : Int) then 1 else h n) = smK h n + h n + _
    rw [ih]
    by_cases z : c = (n : Int)
    · rw [if_pos z, if_neg (by omega), if_pos (by omega), z]
      omega
    · rw [if_neg z]
      by_cases y : 0 ≤ c ∧ c < (n : Int)
      · rw [if_pos y, if_pos (by omega)]
        omega
      · rw [if_neg y, if_neg (by omega)]
        omega
theorem im_01 {kd : Int → Int} : ∀ (j : Nat) (v : Int), (imK kd j v = 0 ∧ ∀ f : Int, 0 ≤ f → f < j → ¬ kd f = v) ∨ (imK kd j v = 1 ∧ ∃ f : Int, (0 ≤ f ∧ f < j) ∧ kd f = v) := by
  intro j
  induction j with
  | zero => intro v; exact Or.inl ⟨rfl, fun f a b => by omega⟩
  | succ j ih =>
    intro v
    by_cases c : kd j = v
    · exact Or.inr ⟨if_pos c, j, by omega, c⟩
    · have e : imK kd (j + 1) v = imK kd j v := if_neg c
      rcases ih v with ⟨a, b⟩ | ⟨a, f, b, d⟩
      · refine Or.inl ⟨e.trans a, fun f f0 f1 => ?_⟩
        by_cases z : f = j
        · rw [z]
          exact c
        · exact b f f0 (by omega)
      · exact Or.inr ⟨e.trans a, f, by omega, d⟩
theorem cntK {kd : Int → Int} {N : Nat} {j : Int} (h0 : 0 ≤ j) (hr : 0 ≤ kd j ∧ kd j < N) : smK (imK kd (j + 1).toNat) N = smK (imK kd j.toNat) N + (1 - imK kd j.toNat (kd j)) := by
  have e : ∀ v, imK kd (j + 1).toNat v = if kd j = v then 1 else imK kd j.toNat v := by
    intro v
    rw [show (j + 1).toNat = j.toNat + 1 by omega]
    show (if kd (j.toNat : Int) = v then 1 else imK kd j.toNat v) = _
    rw [Int.toNat_of_nonneg h0]
  rw [smK_cg (g := fun v => if kd j = v then 1 else imK kd j.toNat v) N (fun v _ _ => e v), smK_u, if_pos hr]
theorem smK_b {g : Int → Int} (h : ∀ v, 0 ≤ g v ∧ g v ≤ 1) : ∀ n : Nat, 0 ≤ smK g n ∧ smK g n ≤ n := by
  intro n
  induction n with
  | zero => exact ⟨Int.le_refl 0, Int.le_refl 0⟩
  | succ n ih =>
    show 0 ≤ smK g n + g n ∧ smK g n + g n ≤ ((n + 1 : Nat) : Int)
    have := h n
    omega
theorem smK_z {kd : Int → Int} : ∀ n : Nat, smK (imK kd (Int.toNat 0)) n = 0 := by
  intro n
  induction n with
  | zero => rfl
  | succ n ih =>
    show smK (imK kd (Int.toNat 0)) n + imK kd (Int.toNat 0) n = 0
    rw [ih]
    rfl
section OKI
variable {L : Int} {S0 : Int → Int}
theorem h_differing {σ : x_S} {w : Int → Int} (hM : mir σ 1 w) (hw : wf w) (hA : lkA 0 w σ 0) : x_Sp 0 23 [xR 44 0] σ (fun r σ' => σ' = σ ∧ r = some (xI (smK (imK (σ 45 0) (w 0).toNat) (w 0).toNat))) := by
  have a := wf_h hw
  unfold wf_hdr at a
  have kr : ∀ v, 0 ≤ v → v < w 0 → (v ≤ σ 45 0 v ∧ σ 45 0 v < w 0) ∧ σ 45 0 (σ 45 0 v) = σ 45 0 v := fun v v0 v1 => (hA.1 v v0 v1).2
  have eq : ∀ v, 0 ≤ v → v < w 0 → imK (σ 45 0) (w 0).toNat v = if σ 45 0 v = v then 1 else 0 := by
    intro v v0 v1
    rcases im_01 (kd := σ 45 0) (w 0).toNat v with ⟨z1, z2⟩ | ⟨z1, f, z2, z3⟩
    · rw [z1, if_neg (z2 v v0 (by omega))]
    · have x := (kr f z2.1 (by omega)).2
      rw [z3] at x
      rw [z1, if_pos x]
  have eS : smK (imK (σ 45 0) (w 0).toNat) (w 0).toNat = smK (fun v => if σ 45 0 v = v then 1 else 0) (w 0).toNat := smK_cg _ (fun v v0 v1 => eq v v0 (by omega))
  rw [eS]
  refine x_gen (fun Q hQ => ?_)
  have fin := hQ _ σ ⟨rfl, rfl⟩
  simp (disch := first | omega | (simp only [x_wtI, x_wtJ, x_wtR, x_wtN]; omega) | assumption | (simp (disch := omega) only [x_st_o, x_rd_ne]; first | assumption | omega) | (apply mir_eq; assumption; (intro c h1 h2; simp (disch := omega) only [x_st_o])) | (apply mis_eq; assumption; (intro c h1 h2; simp (disch := omega) only [x_st_o])) | rfl) only [sp_23, bk_23_0, bk_23_2, bk_23_3, wp_ic, wp_ist1, wp_ist2, wp_fall, wp_ild2, wp_ald0, wr_44_0, wp_geti kd_6, wp_icge, wr_44_1, wl_45, wp_cald, wp_icne, wp_inc1, wp_inc2, wp_goto, wp_ild1, wp_iret mz_23, x_clr_I, x_clr_J, x_clr_R, x_clr_U, ct_some, ct_none, lc_lt, lc_ge, lc_gt, lc_le, lc_eq, lc_r, xI_inj, xJ_inj, Option.some.injEq, eq_self, bi_r, bi_0, bi_1, bi_n, Classical.not_not, and_true, true_and, ite_true, ite_false, ↓reduceIte, ↓x_andl, z_le, z_nle, z_lt, z_nlt, z_eq, z_neq, if_pos, if_neg, x_andl, false_and, and_false, or_true, true_or, or_false, false_or, not_true, not_false_iff, x_rd_eq, x_rd_ne, x_st_o, Int.cast_ofNat_Int, Int.ofNat_zero, Int.ofNat_one, not_true_eq_false, not_false_eq_true, if_true, if_false, ite_self, and_self, Int.ofNat_eq_natCast, Int.tdiv_eq_ediv_of_nonneg, Int.tmod_eq_emod_of_nonneg, x_bm32]
  refine x_lpJ (fun i n => n = smK (fun v => if σ 45 0 v = v then 1 else 0) i.toNat) (fun i n => x_Wp 0 23 (x_blk 23 1) [xR 44 0, xI n, xI i] [] σ Q) (lo := 0) (hi := w 0) (by omega) (a0 := 0) rfl ?_ ?_
  · intro i n i0 i1 hJ
    subst hJ
    refine ⟨_, rfl, fun H => ?_⟩
    rw [smK_s i0] at H
    have x := (kr i i0 i1).1
    rw [bk_23_1]
    by_cases c : σ 45 0 i = i
    · rw [if_pos c] at H
      generalize smK (fun v => if σ 45 0 v = v then 1 else 0) i.toNat = n at H
      simp (disch := first | omega | (simp only [x_wtI, x_wtJ, x_wtR, x_wtN]; omega) | assumption | (simp (disch := omega) only [x_st_o, x_rd_ne]; first | assumption | omega) | (apply mir_eq; assumption; (intro c h1 h2; simp (disch := omega) only [x_st_o])) | (apply mis_eq; assumption; (intro c h1 h2; simp (disch := omega) only [x_st_o])) | rfl) only [bk_23_0, bk_23_2, bk_23_3, wp_ic, wp_ist1, wp_ist2, wp_fall, wp_ild2, wp_ald0, wr_44_0, wp_geti kd_6, wp_icge, wr_44_1, wl_45, wp_cald, wp_icne, wp_inc1, wp_inc2, wp_goto, wp_ild1, wp_iret mz_23, x_clr_I, x_clr_J, x_clr_R, x_clr_U, ct_some, ct_none, lc_lt, lc_ge, lc_gt, lc_le, lc_eq, lc_r, xI_inj, xJ_inj, Option.some.injEq, eq_self, bi_r, bi_0, bi_1, bi_n, Classical.not_not, and_true, true_and, ite_true, ite_false, ↓reduceIte, ↓x_andl, z_le, z_nle, z_lt, z_nlt, z_eq, z_neq, if_pos, if_neg, x_andl, false_and, and_false, or_true, true_or, or_false, false_or, not_true, not_false_iff, x_rd_eq, x_rd_ne, x_st_o, Int.cast_ofNat_Int, Int.ofNat_zero, Int.ofNat_one, not_true_eq_false, not_false_eq_true, if_true, if_false, ite_self, and_self, Int.ofNat_eq_natCast, Int.tdiv_eq_ediv_of_nonneg, Int.tmod_eq_emod_of_nonneg, x_bm32, mi_size hM, c]
      exact H
    · rw [if_neg c, Int.add_zero] at H
      generalize smK (fun v => if σ 45 0 v = v then 1 else 0) i.toNat = n at H
      simp (disch := first | omega | (simp only [x_wtI, x_wtJ, x_wtR, x_wtN]; omega) | assumption | (simp (disch := omega) only [x_st_o, x_rd_ne]; first | assumption | omega) | (apply mir_eq; assumption; (intro c h1 h2; simp (disch := omega) only [x_st_o])) | (apply mis_eq; assumption; (intro c h1 h2; simp (disch := omega) only [x_st_o])) | rfl) only [bk_23_0, bk_23_2, bk_23_3, wp_ic, wp_ist1, wp_ist2, wp_fall, wp_ild2, wp_ald0, wr_44_0, wp_geti kd_6, wp_icge, wr_44_1, wl_45, wp_cald, wp_icne, wp_inc1, wp_inc2, wp_goto, wp_ild1, wp_iret mz_23, x_clr_I, x_clr_J, x_clr_R, x_clr_U, ct_some, ct_none, lc_lt, lc_ge, lc_gt, lc_le, lc_eq, lc_r, xI_inj, xJ_inj, Option.some.injEq, eq_self, bi_r, bi_0, bi_1, bi_n, Classical.not_not, and_true, true_and, ite_true, ite_false, ↓reduceIte, ↓x_andl, z_le, z_nle, z_lt, z_nlt, z_eq, z_neq, if_pos, if_neg, x_andl, false_and, and_false, or_true, true_or, or_false, false_or, not_true, not_false_iff, x_rd_eq, x_rd_ne, x_st_o, Int.cast_ofNat_Int, Int.ofNat_zero, Int.ofNat_one, not_true_eq_false, not_false_eq_true, if_true, if_false, ite_self, and_self, Int.ofNat_eq_natCast, Int.tdiv_eq_ediv_of_nonneg, Int.tmod_eq_emod_of_nonneg, x_bm32, mi_size hM]
      exact H
  · intro n hJ
    subst hJ
    generalize smK (fun v => if σ 45 0 v = v then 1 else 0) (w 0).toNat = n at fin
    rw [bk_23_1]
    simp (disch := first | omega | (simp only [x_wtI, x_wtJ, x_wtR, x_wtN]; omega) | assumption | (simp (disch := omega) only [x_st_o, x_rd_ne]; first | assumption | omega) | (apply mir_eq; assumption; (intro c h1 h2; simp (disch := omega) only [x_st_o])) | (apply mis_eq; assumption; (intro c h1 h2; simp (disch := omega) only [x_st_o])) | rfl) only [bk_23_0, bk_23_2, bk_23_3, wp_ic, wp_ist1, wp_ist2, wp_fall, wp_ild2, wp_ald0, wr_44_0, wp_geti kd_6, wp_icge, wr_44_1, wl_45, wp_cald, wp_icne, wp_inc1, wp_inc2, wp_goto, wp_ild1, wp_iret mz_23, x_clr_I, x_clr_J, x_clr_R, x_clr_U, ct_some, ct_none, lc_lt, lc_ge, lc_gt, lc_le, lc_eq, lc_r, xI_inj, xJ_inj, Option.some.injEq, eq_self, bi_r, bi_0, bi_1, bi_n, Classical.not_not, and_true, true_and, ite_true, ite_false, ↓reduceIte, ↓x_andl, z_le, z_nle, z_lt, z_nlt, z_eq, z_neq, if_pos, if_neg, x_andl, false_and, and_false, or_true, true_or, or_false, false_or, not_true, not_false_iff, x_rd_eq, x_rd_ne, x_st_o, Int.cast_ofNat_Int, Int.ofNat_zero, Int.ofNat_one, not_true_eq_false, not_false_eq_true, if_true, if_false, ite_self, and_self, Int.ofNat_eq_natCast, Int.tdiv_eq_ediv_of_nonneg, Int.tmod_eq_emod_of_nonneg, x_bm32, mi_size hM]
    exact fin
theorem o_kinds : x_o36 (iN L S0) := by
  intro σ hh
  refine ag_I ?_
  obtain ⟨w, h51, hw, h100, hn, hq, hM, hS⟩ := iN_w hh
  have a := wf_h hw
  unfold wf_hdr at a
  simp (disch := first | omega | (simp only [x_wtI, x_wtJ, x_wtR, x_wtN]; omega) | assumption | (simp (disch := omega) only [x_st_o, x_rd_ne]; first | assumption | omega) | (apply mir_eq; assumption; (intro c h1 h2; simp (disch := omega) only [x_st_o])) | (apply mis_eq; assumption; (intro c h1 h2; simp (disch := omega) only [x_st_o])) | rfl) only [sp_148, bk_148_0, wp_ald0, wr_0_10, wp_ic, wk_18, wk_23, wp_iret mz_148, x_clr_I, x_clr_J, x_clr_R, x_clr_U, ct_some, ct_none, lc_lt, lc_ge, lc_gt, lc_le, lc_eq, lc_r, xI_inj, xJ_inj, Option.some.injEq, eq_self, bi_r, bi_0, bi_1, bi_n, Classical.not_not, and_true, true_and, ite_true, ite_false, ↓reduceIte, ↓x_andl, z_le, z_nle, z_lt, z_nlt, z_eq, z_neq, if_pos, if_neg, x_andl, false_and, and_false, or_true, true_or, or_false, false_or, not_true, not_false_iff, x_rd_eq, x_rd_ne, x_st_o, Int.cast_ofNat_Int, Int.ofNat_zero, Int.ofNat_one, not_true_eq_false, not_false_eq_true, if_true, if_false, ite_self, and_self, Int.ofNat_eq_natCast, Int.tdiv_eq_ediv_of_nonneg, Int.tmod_eq_emod_of_nonneg, x_bm32]
  refine x_use (d := 995) (h_sort (jn := 0) hM hw (Or.inl rfl)) ?_
  rintro r σ1 ⟨rfl, e1, hA⟩
  have g51 : σ1 51 0 = w := (e1 51 0 (by simp)).trans h51
  have hh1 := iN_lk hh e1
  have hM1 : mir σ1 1 w := mir_eq hM (fun c q1 q2 => e1 c 1 (by simp))
  simp (disch := first | omega | (simp only [x_wtI, x_wtJ, x_wtR, x_wtN]; omega) | assumption | (simp (disch := omega) only [x_st_o, x_rd_ne]; first | assumption | omega) | (apply mir_eq; assumption; (intro c h1 h2; simp (disch := omega) only [x_st_o])) | (apply mis_eq; assumption; (intro c h1 h2; simp (disch := omega) only [x_st_o])) | rfl) only [bk_148_0, wp_ald0, wr_0_10, wp_ic, wk_18, wk_23, wp_iret mz_148, x_clr_I, x_clr_J, x_clr_R, x_clr_U, ct_some, ct_none, lc_lt, lc_ge, lc_gt, lc_le, lc_eq, lc_r, xI_inj, xJ_inj, Option.some.injEq, eq_self, bi_r, bi_0, bi_1, bi_n, Classical.not_not, and_true, true_and, ite_true, ite_false, ↓reduceIte, ↓x_andl, z_le, z_nle, z_lt, z_nlt, z_eq, z_neq, if_pos, if_neg, x_andl, false_and, and_false, or_true, true_or, or_false, false_or, not_true, not_false_iff, x_rd_eq, x_rd_ne, x_st_o, Int.cast_ofNat_Int, Int.ofNat_zero, Int.ofNat_one, not_true_eq_false, not_false_eq_true, if_true, if_false, ite_self, and_self, Int.ofNat_eq_natCast, Int.tdiv_eq_ediv_of_nonneg, Int.tmod_eq_emod_of_nonneg, x_bm32]
  refine x_use (d := 998) (h_differing hM1 hw hA) ?_
  rintro r σ2 ⟨hσ2, rfl⟩
  subst hσ2
  simp (disch := first | omega | (simp only [x_wtI, x_wtJ, x_wtR, x_wtN]; omega) | assumption | (simp (disch := omega) only [x_st_o, x_rd_ne]; first | assumption | omega) | (apply mir_eq; assumption; (intro c h1 h2; simp (disch := omega) only [x_st_o])) | (apply mis_eq; assumption; (intro c h1 h2; simp (disch := omega) only [x_st_o])) | rfl) only [bk_148_0, wp_ald0, wr_0_10, wp_ic, wk_18, wk_23, wp_iret mz_148, x_clr_I, x_clr_J, x_clr_R, x_clr_U, ct_some, ct_none, lc_lt, lc_ge, lc_gt, lc_le, lc_eq, lc_r, xI_inj, xJ_inj, Option.some.injEq, eq_self, bi_r, bi_0, bi_1, bi_n, Classical.not_not, and_true, true_and, ite_true, ite_false, ↓reduceIte, ↓x_andl, z_le, z_nle, z_lt, z_nlt, z_eq, z_neq, if_pos, if_neg, x_andl, false_and, and_false, or_true, true_or, or_false, false_or, not_true, not_false_iff, x_rd_eq, x_rd_ne, x_st_o, Int.cast_ofNat_Int, Int.ofNat_zero, Int.ofNat_one, not_true_eq_false, not_false_eq_true, if_true, if_false, ite_self, and_self, Int.ofNat_eq_natCast, Int.tdiv_eq_ediv_of_nonneg, Int.tmod_eq_emod_of_nonneg, x_bm32]
  refine ⟨_, rfl, fun j i => by rw [e1 100 j (by simp)], ?_⟩
  have kr : ∀ v, 0 ≤ v → v < w 0 → (v ≤ σ2 45 0 v ∧ σ2 45 0 v < w 0) := fun v v0 v1 => (hA.1 v v0 v1).2.1
  obtain ⟨Q, hQd⟩ : ∃ Q : Option x_V → x_S → Prop, Q = fun r2 σ3 => r2 = some (xI (smK (imK (σ2 45 0) (w 0).toNat) (w 0).toNat)) ∧ iN L S0 σ3 := ⟨_, rfl⟩
  rw [← hQd]
  simp (disch := first | omega | (simp only [x_wtI, x_wtJ, x_wtR, x_wtN]; omega) | assumption | (simp (disch := omega) only [x_st_o, x_rd_ne]; first | assumption | omega) | (apply mir_eq; assumption; (intro c h1 h2; simp (disch := omega) only [x_st_o])) | (apply mis_eq; assumption; (intro c h1 h2; simp (disch := omega) only [x_st_o])) | rfl) only [sp_252, bk_252_0, bk_252_2, bk_252_3, bk_252_4, bk_252_5, bk_252_6, bk_252_7, bk_252_8, wp_ic, wp_ist1, wp_ist2, wp_fall, wp_ild2, wp_ald0, wr_50_1, wl_51, wp_cald, wp_icge, wp_ist3, wp_ist4, wp_ild4, wp_ild3, wp_ifeq, wk_251, wp_ifne, wp_goto, wp_inc4, wp_ild1, wp_iadd, wp_inc2, wp_iret mz_252, x_clr_I, x_clr_J, x_clr_R, x_clr_U, ct_some, ct_none, lc_lt, lc_ge, lc_gt, lc_le, lc_eq, lc_r, xI_inj, xJ_inj, Option.some.injEq, eq_self, bi_r, bi_0, bi_1, bi_n, Classical.not_not, and_true, true_and, ite_true, ite_false, ↓reduceIte, ↓x_andl, z_le, z_nle, z_lt, z_nlt, z_eq, z_neq, if_pos, if_neg, x_andl, false_and, and_false, or_true, true_or, or_false, false_or, not_true, not_false_iff, x_rd_eq, x_rd_ne, x_st_o, Int.cast_ofNat_Int, Int.ofNat_zero, Int.ofNat_one, not_true_eq_false, not_false_eq_true, if_true, if_false, ite_self, and_self, Int.ofNat_eq_natCast, Int.tdiv_eq_ediv_of_nonneg, Int.tmod_eq_emod_of_nonneg, x_bm32]
  suffices h : x_Wp 999 252 (x_blk 252 1) [xR 50 0, xI (smK (imK (σ2 45 0) (Int.toNat 0)) (w 0).toNat), xI 0, xU, xU] [] σ2 Q by
    rw [smK_z] at h
    exact h
  refine x_lpK (α := x_V × x_V) (fun _ _ => True) (fun f q => x_Wp 999 252 (x_blk 252 1) [xR 50 0, xI (smK (imK (σ2 45 0) f.toNat) (w 0).toNat), xI f, q.1, q.2] [] σ2 Q) (lo := 0) (hi := w 0) (by omega) (a0 := (xU, xU)) trivial ?_ ?_
  · intro f ⟨u3, u4⟩ f0 f1 _ K
    simp only at K ⊢
    have cn := cntK (kd := σ2 45 0) (N := (w 0).toNat) (j := f) f0 (by have := kr f f0 f1; omega)
    have sb := smK_b (g := imK (σ2 45 0) f.toNat) (fun v => by rcases im_01 (kd := σ2 45 0) f.toNat v with ⟨z, _⟩ | ⟨z, _⟩ <;> omega) (w 0).toNat
    have fin : ∀ (isn : Int) (g : Int), isn = 1 - imK (σ2 45 0) f.toNat (σ2 45 0 f) → (isn = 0 ∨ isn = 1) → x_Wp 999 252 (x_blk 252 5) [xR 50 0, xI (smK (imK (σ2 45 0) f.toNat) (w 0).toNat), xI f, xI isn, xI g] [] σ2 Q := by
      intro isn g hi h01
      have K2 := K (xI isn, xI g) trivial
      rw [cn, ← hi] at K2
      generalize smK (imK (σ2 45 0) f.toNat) (w 0).toNat = n at K2 sb
      rw [bk_252_5]
      rcases h01 with rfl | rfl
      · simp (disch := first | omega | (simp only [x_wtI, x_wtJ, x_wtR, x_wtN]; omega) | assumption | (simp (disch := omega) only [x_st_o, x_rd_ne]; first | assumption | omega) | (apply mir_eq; assumption; (intro c h1 h2; simp (disch := omega) only [x_st_o])) | (apply mis_eq; assumption; (intro c h1 h2; simp (disch := omega) only [x_st_o])) | rfl) only [bk_252_0, bk_252_2, bk_252_3, bk_252_4, bk_252_6, bk_252_7, bk_252_8, wp_ic, wp_ist1, wp_ist2, wp_fall, wp_ild2, wp_ald0, wr_50_1, wl_51, wp_cald, wp_icge, wp_ist3, wp_ist4, wp_ild4, wp_ild3, wp_ifeq, wk_251, wp_ifne, wp_goto, wp_inc4, wp_ild1, wp_iadd, wp_inc2, wp_iret mz_252, x_clr_I, x_clr_J, x_clr_R, x_clr_U, ct_some, ct_none, lc_lt, lc_ge, lc_gt, lc_le, lc_eq, lc_r, xI_inj, xJ_inj, Option.some.injEq, eq_self, bi_r, bi_0, bi_1, bi_n, Classical.not_not, and_true, true_and, ite_true, ite_false, ↓reduceIte, ↓x_andl, z_le, z_nle, z_lt, z_nlt, z_eq, z_neq, if_pos, if_neg, x_andl, false_and, and_false, or_true, true_or, or_false, false_or, not_true, not_false_iff, x_rd_eq, x_rd_ne, x_st_o, Int.cast_ofNat_Int, Int.ofNat_zero, Int.ofNat_one, not_true_eq_false, not_false_eq_true, if_true, if_false, ite_self, and_self, Int.ofNat_eq_natCast, Int.tdiv_eq_ediv_of_nonneg, Int.tmod_eq_emod_of_nonneg, x_bm32]
        exact K2
      · simp (disch := first | omega | (simp only [x_wtI, x_wtJ, x_wtR, x_wtN]; omega) | assumption | (simp (disch := omega) only [x_st_o, x_rd_ne]; first | assumption | omega) | (apply mir_eq; assumption; (intro c h1 h2; simp (disch := omega) only [x_st_o])) | (apply mis_eq; assumption; (intro c h1 h2; simp (disch := omega) only [x_st_o])) | rfl) only [bk_252_0, bk_252_2, bk_252_3, bk_252_4, bk_252_6, bk_252_7, bk_252_8, wp_ic, wp_ist1, wp_ist2, wp_fall, wp_ild2, wp_ald0, wr_50_1, wl_51, wp_cald, wp_icge, wp_ist3, wp_ist4, wp_ild4, wp_ild3, wp_ifeq, wk_251, wp_ifne, wp_goto, wp_inc4, wp_ild1, wp_iadd, wp_inc2, wp_iret mz_252, x_clr_I, x_clr_J, x_clr_R, x_clr_U, ct_some, ct_none, lc_lt, lc_ge, lc_gt, lc_le, lc_eq, lc_r, xI_inj, xJ_inj, Option.some.injEq, eq_self, bi_r, bi_0, bi_1, bi_n, Classical.not_not, and_true, true_and, ite_true, ite_false, ↓reduceIte, ↓x_andl, z_le, z_nle, z_lt, z_nlt, z_eq, z_neq, if_pos, if_neg, x_andl, false_and, and_false, or_true, true_or, or_false, false_or, not_true, not_false_iff, x_rd_eq, x_rd_ne, x_st_o, Int.cast_ofNat_Int, Int.ofNat_zero, Int.ofNat_one, not_true_eq_false, not_false_eq_true, if_true, if_false, ite_self, and_self, Int.ofNat_eq_natCast, Int.tdiv_eq_ediv_of_nonneg, Int.tmod_eq_emod_of_nonneg, x_bm32]
        exact K2
    have inner : x_Wp 999 252 (x_blk 252 2) [xR 50 0, xI (smK (imK (σ2 45 0) f.toNat) (w 0).toNat), xI f, xI 1, xI 0] [] σ2 Q := by
      refine x_lpX (α := Unit) (fun g _ => ∀ q, 0 ≤ q → q < g → ¬ σ2 45 0 f = σ2 45 0 q) (fun g _ => x_Wp 999 252 (x_blk 252 2) [xR 50 0, xI (smK (imK (σ2 45 0) f.toNat) (w 0).toNat), xI f, xI 1, xI g] [] σ2 Q) (lo := 0) (hi := f) f0 (a0 := ()) (fun q p z => by omega) ?_ ?_
      · intro g _ g0 g1 hJ
        have iff := kd_same hw hA f0 f1 g0 (by omega)
        have of := (wS_of hw).2 f f0 f1
        obtain ⟨r, σ', ⟨hσ', v, hr, hv⟩, ev⟩ := x_ex (h_alike (wS_of hw) 4 f g σ2 g51 f0 f1 g0 (by omega) (by have := of.2.1; omega))
        subst hσ'
        subst hr
        rcases hv with ⟨rfl, hl⟩ | ⟨rfl, hl⟩
        · have eq := iff.mpr hl
          have F := fin 0 (g + 1) (by
            rcases im_01 (kd := σ' 45 0) f.toNat (σ' 45 0 f) with ⟨_, z⟩ | ⟨z, _⟩
            · exact absurd eq.symm (z g g0 (by omega))
            · omega) (Or.inl rfl)
          generalize smK (imK (σ' 45 0) f.toNat) (w 0).toNat = n at F sb
          refine Or.inl ?_
          rw [bk_252_2]
          simp (disch := first | omega | (simp only [x_wtI, x_wtJ, x_wtR, x_wtN]; omega) | assumption | (simp (disch := omega) only [x_st_o, x_rd_ne]; first | assumption | omega) | (apply mir_eq; assumption; (intro c h1 h2; simp (disch := omega) only [x_st_o])) | (apply mis_eq; assumption; (intro c h1 h2; simp (disch := omega) only [x_st_o])) | rfl) only [bk_252_0, bk_252_1, bk_252_3, bk_252_4, bk_252_5, bk_252_6, bk_252_7, bk_252_8, wp_ic, wp_ist1, wp_ist2, wp_fall, wp_ild2, wp_ald0, wr_50_1, wl_51, wp_cald, wp_icge, wp_ist3, wp_ist4, wp_ild4, wp_ild3, wp_ifeq, wk_251, wp_ifne, wp_goto, wp_inc4, wp_ild1, wp_iadd, wp_inc2, wp_iret mz_252, x_clr_I, x_clr_J, x_clr_R, x_clr_U, ct_some, ct_none, lc_lt, lc_ge, lc_gt, lc_le, lc_eq, lc_r, xI_inj, xJ_inj, Option.some.injEq, eq_self, bi_r, bi_0, bi_1, bi_n, Classical.not_not, and_true, true_and, ite_true, ite_false, ↓reduceIte, ↓x_andl, z_le, z_nle, z_lt, z_nlt, z_eq, z_neq, if_pos, if_neg, x_andl, false_and, and_false, or_true, true_or, or_false, false_or, not_true, not_false_iff, x_rd_eq, x_rd_ne, x_st_o, Int.cast_ofNat_Int, Int.ofNat_zero, Int.ofNat_one, not_true_eq_false, not_false_eq_true, if_true, if_false, ite_self, and_self, Int.ofNat_eq_natCast, Int.tdiv_eq_ediv_of_nonneg, Int.tmod_eq_emod_of_nonneg, x_bm32]
          refine (ev 993 _).mpr ?_
          simp (disch := first | omega | (simp only [x_wtI, x_wtJ, x_wtR, x_wtN]; omega) | assumption | (simp (disch := omega) only [x_st_o, x_rd_ne]; first | assumption | omega) | (apply mir_eq; assumption; (intro c h1 h2; simp (disch := omega) only [x_st_o])) | (apply mis_eq; assumption; (intro c h1 h2; simp (disch := omega) only [x_st_o])) | rfl) only [bk_252_0, bk_252_1, bk_252_3, bk_252_4, bk_252_5, bk_252_6, bk_252_7, bk_252_8, wp_ic, wp_ist1, wp_ist2, wp_fall, wp_ild2, wp_ald0, wr_50_1, wl_51, wp_cald, wp_icge, wp_ist3, wp_ist4, wp_ild4, wp_ild3, wp_ifeq, wk_251, wp_ifne, wp_goto, wp_inc4, wp_ild1, wp_iadd, wp_inc2, wp_iret mz_252, x_clr_I, x_clr_J, x_clr_R, x_clr_U, ct_some, ct_none, lc_lt, lc_ge, lc_gt, lc_le, lc_eq, lc_r, xI_inj, xJ_inj, Option.some.injEq, eq_self, bi_r, bi_0, bi_1, bi_n, Classical.not_not, and_true, true_and, ite_true, ite_false, ↓reduceIte, ↓x_andl, z_le, z_nle, z_lt, z_nlt, z_eq, z_neq, if_pos, if_neg, x_andl, false_and, and_false, or_true, true_or, or_false, false_or, not_true, not_false_iff, x_rd_eq, x_rd_ne, x_st_o, Int.cast_ofNat_Int, Int.ofNat_zero, Int.ofNat_one, not_true_eq_false, not_false_eq_true, if_true, if_false, ite_self, and_self, Int.ofNat_eq_natCast, Int.tdiv_eq_ediv_of_nonneg, Int.tmod_eq_emod_of_nonneg, x_bm32]
          rw [bk_252_2]
          by_cases cg : g + 1 < f
          · simp (disch := first | omega | (simp only [x_wtI, x_wtJ, x_wtR, x_wtN]; omega) | assumption | (simp (disch := omega) only [x_st_o, x_rd_ne]; first | assumption | omega) | (apply mir_eq; assumption; (intro c h1 h2; simp (disch := omega) only [x_st_o])) | (apply mis_eq; assumption; (intro c h1 h2; simp (disch := omega) only [x_st_o])) | rfl) only [bk_252_0, bk_252_1, bk_252_3, bk_252_4, bk_252_6, bk_252_7, bk_252_8, wp_ic, wp_ist1, wp_ist2, wp_fall, wp_ild2, wp_ald0, wr_50_1, wl_51, wp_cald, wp_icge, wp_ist3, wp_ist4, wp_ild4, wp_ild3, wp_ifeq, wk_251, wp_ifne, wp_goto, wp_inc4, wp_ild1, wp_iadd, wp_inc2, wp_iret mz_252, x_clr_I, x_clr_J, x_clr_R, x_clr_U, ct_some, ct_none, lc_lt, lc_ge, lc_gt, lc_le, lc_eq, lc_r, xI_inj, xJ_inj, Option.some.injEq, eq_self, bi_r, bi_0, bi_1, bi_n, Classical.not_not, and_true, true_and, ite_true, ite_false, ↓reduceIte, ↓x_andl, z_le, z_nle, z_lt, z_nlt, z_eq, z_neq, if_pos, if_neg, x_andl, false_and, and_false, or_true, true_or, or_false, false_or, not_true, not_false_iff, x_rd_eq, x_rd_ne, x_st_o, Int.cast_ofNat_Int, Int.ofNat_zero, Int.ofNat_one, not_true_eq_false, not_false_eq_true, if_true, if_false, ite_self, and_self, Int.ofNat_eq_natCast, Int.tdiv_eq_ediv_of_nonneg, Int.tmod_eq_emod_of_nonneg, x_bm32]
            exact F
          · simp (disch := first | omega | (simp only [x_wtI, x_wtJ, x_wtR, x_wtN]; omega) | assumption | (simp (disch := omega) only [x_st_o, x_rd_ne]; first | assumption | omega) | (apply mir_eq; assumption; (intro c h1 h2; simp (disch := omega) only [x_st_o])) | (apply mis_eq; assumption; (intro c h1 h2; simp (disch := omega) only [x_st_o])) | rfl) only [bk_252_0, bk_252_1, bk_252_3, bk_252_4, bk_252_6, bk_252_7, bk_252_8, wp_ic, wp_ist1, wp_ist2, wp_fall, wp_ild2, wp_ald0, wr_50_1, wl_51, wp_cald, wp_icge, wp_ist3, wp_ist4, wp_ild4, wp_ild3, wp_ifeq, wk_251, wp_ifne, wp_goto, wp_inc4, wp_ild1, wp_iadd, wp_inc2, wp_iret mz_252, x_clr_I, x_clr_J, x_clr_R, x_clr_U, ct_some, ct_none, lc_lt, lc_ge, lc_gt, lc_le, lc_eq, lc_r, xI_inj, xJ_inj, Option.some.injEq, eq_self, bi_r, bi_0, bi_1, bi_n, Classical.not_not, and_true, true_and, ite_true, ite_false, ↓reduceIte, ↓x_andl, z_le, z_nle, z_lt, z_nlt, z_eq, z_neq, if_pos, if_neg, x_andl, false_and, and_false, or_true, true_or, or_false, false_or, not_true, not_false_iff, x_rd_eq, x_rd_ne, x_st_o, Int.cast_ofNat_Int, Int.ofNat_zero, Int.ofNat_one, not_true_eq_false, not_false_eq_true, if_true, if_false, ite_self, and_self, Int.ofNat_eq_natCast, Int.tdiv_eq_ediv_of_nonneg, Int.tmod_eq_emod_of_nonneg, x_bm32]
            exact F
        · refine Or.inr ⟨(), fun q q0 q1 z => ?_, fun H => ?_⟩
          · by_cases y : q = g
            · rw [y] at z
              exact hl (iff.mp z)
            · exact hJ q q0 (by omega) z
          · generalize smK (imK (σ' 45 0) f.toNat) (w 0).toNat = n at H sb
            rw [bk_252_2]
            simp (disch := first | omega | (simp only [x_wtI, x_wtJ, x_wtR, x_wtN]; omega) | assumption | (simp (disch := omega) only [x_st_o, x_rd_ne]; first | assumption | omega) | (apply mir_eq; assumption; (intro c h1 h2; simp (disch := omega) only [x_st_o])) | (apply mis_eq; assumption; (intro c h1 h2; simp (disch := omega) only [x_st_o])) | rfl) only [bk_252_0, bk_252_1, bk_252_3, bk_252_4, bk_252_5, bk_252_6, bk_252_7, bk_252_8, wp_ic, wp_ist1, wp_ist2, wp_fall, wp_ild2, wp_ald0, wr_50_1, wl_51, wp_cald, wp_icge, wp_ist3, wp_ist4, wp_ild4, wp_ild3, wp_ifeq, wk_251, wp_ifne, wp_goto, wp_inc4, wp_ild1, wp_iadd, wp_inc2, wp_iret mz_252, x_clr_I, x_clr_J, x_clr_R, x_clr_U, ct_some, ct_none, lc_lt, lc_ge, lc_gt, lc_le, lc_eq, lc_r, xI_inj, xJ_inj, Option.some.injEq, eq_self, bi_r, bi_0, bi_1, bi_n, Classical.not_not, and_true, true_and, ite_true, ite_false, ↓reduceIte, ↓x_andl, z_le, z_nle, z_lt, z_nlt, z_eq, z_neq, if_pos, if_neg, x_andl, false_and, and_false, or_true, true_or, or_false, false_or, not_true, not_false_iff, x_rd_eq, x_rd_ne, x_st_o, Int.cast_ofNat_Int, Int.ofNat_zero, Int.ofNat_one, not_true_eq_false, not_false_eq_true, if_true, if_false, ite_self, and_self, Int.ofNat_eq_natCast, Int.tdiv_eq_ediv_of_nonneg, Int.tmod_eq_emod_of_nonneg, x_bm32]
            refine (ev 993 _).mpr ?_
            simp (disch := first | omega | (simp only [x_wtI, x_wtJ, x_wtR, x_wtN]; omega) | assumption | (simp (disch := omega) only [x_st_o, x_rd_ne]; first | assumption | omega) | (apply mir_eq; assumption; (intro c h1 h2; simp (disch := omega) only [x_st_o])) | (apply mis_eq; assumption; (intro c h1 h2; simp (disch := omega) only [x_st_o])) | rfl) only [bk_252_0, bk_252_1, bk_252_3, bk_252_4, bk_252_5, bk_252_6, bk_252_7, bk_252_8, wp_ic, wp_ist1, wp_ist2, wp_fall, wp_ild2, wp_ald0, wr_50_1, wl_51, wp_cald, wp_icge, wp_ist3, wp_ist4, wp_ild4, wp_ild3, wp_ifeq, wk_251, wp_ifne, wp_goto, wp_inc4, wp_ild1, wp_iadd, wp_inc2, wp_iret mz_252, x_clr_I, x_clr_J, x_clr_R, x_clr_U, ct_some, ct_none, lc_lt, lc_ge, lc_gt, lc_le, lc_eq, lc_r, xI_inj, xJ_inj, Option.some.injEq, eq_self, bi_r, bi_0, bi_1, bi_n, Classical.not_not, and_true, true_and, ite_true, ite_false, ↓reduceIte, ↓x_andl, z_le, z_nle, z_lt, z_nlt, z_eq, z_neq, if_pos, if_neg, x_andl, false_and, and_false, or_true, true_or, or_false, false_or, not_true, not_false_iff, x_rd_eq, x_rd_ne, x_st_o, Int.cast_ofNat_Int, Int.ofNat_zero, Int.ofNat_one, not_true_eq_false, not_false_eq_true, if_true, if_false, ite_self, and_self, Int.ofNat_eq_natCast, Int.tdiv_eq_ediv_of_nonneg, Int.tmod_eq_emod_of_nonneg, x_bm32]
            exact H
      · intro _ hJ
        have F := fin 1 f (by
          rcases im_01 (kd := σ2 45 0) f.toNat (σ2 45 0 f) with ⟨z, _⟩ | ⟨_, q, q1, z⟩
          · omega
          · exact absurd z.symm (hJ q q1.1 (by omega))) (Or.inr rfl)
        generalize smK (imK (σ2 45 0) f.toNat) (w 0).toNat = n at F sb
        rw [bk_252_2]
        simp (disch := first | omega | (simp only [x_wtI, x_wtJ, x_wtR, x_wtN]; omega) | assumption | (simp (disch := omega) only [x_st_o, x_rd_ne]; first | assumption | omega) | (apply mir_eq; assumption; (intro c h1 h2; simp (disch := omega) only [x_st_o])) | (apply mis_eq; assumption; (intro c h1 h2; simp (disch := omega) only [x_st_o])) | rfl) only [bk_252_0, bk_252_1, bk_252_3, bk_252_4, bk_252_6, bk_252_7, bk_252_8, wp_ic, wp_ist1, wp_ist2, wp_fall, wp_ild2, wp_ald0, wr_50_1, wl_51, wp_cald, wp_icge, wp_ist3, wp_ist4, wp_ild4, wp_ild3, wp_ifeq, wk_251, wp_ifne, wp_goto, wp_inc4, wp_ild1, wp_iadd, wp_inc2, wp_iret mz_252, x_clr_I, x_clr_J, x_clr_R, x_clr_U, ct_some, ct_none, lc_lt, lc_ge, lc_gt, lc_le, lc_eq, lc_r, xI_inj, xJ_inj, Option.some.injEq, eq_self, bi_r, bi_0, bi_1, bi_n, Classical.not_not, and_true, true_and, ite_true, ite_false, ↓reduceIte, ↓x_andl, z_le, z_nle, z_lt, z_nlt, z_eq, z_neq, if_pos, if_neg, x_andl, false_and, and_false, or_true, true_or, or_false, false_or, not_true, not_false_iff, x_rd_eq, x_rd_ne, x_st_o, Int.cast_ofNat_Int, Int.ofNat_zero, Int.ofNat_one, not_true_eq_false, not_false_eq_true, if_true, if_false, ite_self, and_self, Int.ofNat_eq_natCast, Int.tdiv_eq_ediv_of_nonneg, Int.tmod_eq_emod_of_nonneg, x_bm32]
        exact F
    generalize smK (imK (σ2 45 0) f.toNat) (w 0).toNat = n at inner sb
    rw [bk_252_1]
    simp (disch := first | omega | (simp only [x_wtI, x_wtJ, x_wtR, x_wtN]; omega) | assumption | (simp (disch := omega) only [x_st_o, x_rd_ne]; first | assumption | omega) | (apply mir_eq; assumption; (intro c h1 h2; simp (disch := omega) only [x_st_o])) | (apply mis_eq; assumption; (intro c h1 h2; simp (disch := omega) only [x_st_o])) | rfl) only [bk_252_0, bk_252_3, bk_252_4, bk_252_5, bk_252_6, bk_252_7, bk_252_8, wp_ic, wp_ist1, wp_ist2, wp_fall, wp_ild2, wp_ald0, wr_50_1, wl_51, wp_cald, wp_icge, wp_ist3, wp_ist4, wp_ild4, wp_ild3, wp_ifeq, wk_251, wp_ifne, wp_goto, wp_inc4, wp_ild1, wp_iadd, wp_inc2, wp_iret mz_252, x_clr_I, x_clr_J, x_clr_R, x_clr_U, ct_some, ct_none, lc_lt, lc_ge, lc_gt, lc_le, lc_eq, lc_r, xI_inj, xJ_inj, Option.some.injEq, eq_self, bi_r, bi_0, bi_1, bi_n, Classical.not_not, and_true, true_and, ite_true, ite_false, ↓reduceIte, ↓x_andl, z_le, z_nle, z_lt, z_nlt, z_eq, z_neq, if_pos, if_neg, x_andl, false_and, and_false, or_true, true_or, or_false, false_or, not_true, not_false_iff, x_rd_eq, x_rd_ne, x_st_o, Int.cast_ofNat_Int, Int.ofNat_zero, Int.ofNat_one, not_true_eq_false, not_false_eq_true, if_true, if_false, ite_self, and_self, Int.ofNat_eq_natCast, Int.tdiv_eq_ediv_of_nonneg, Int.tmod_eq_emod_of_nonneg, x_bm32, g51]
    exact inner
  · intro ⟨u3, u4⟩ _
    simp only
    have F : Q (some (xI (smK (imK (σ2 45 0) (w 0).toNat) (w 0).toNat))) σ2 := by
      rw [hQd]
      exact ⟨rfl, hh1⟩
    generalize smK (imK (σ2 45 0) (w 0).toNat) (w 0).toNat = n at F
    rw [bk_252_1]
    simp (disch := first | omega | (simp only [x_wtI, x_wtJ, x_wtR, x_wtN]; omega) | assumption | (simp (disch := omega) only [x_st_o, x_rd_ne]; first | assumption | omega) | (apply mir_eq; assumption; (intro c h1 h2; simp (disch := omega) only [x_st_o])) | (apply mis_eq; assumption; (intro c h1 h2; simp (disch := omega) only [x_st_o])) | rfl) only [bk_252_0, bk_252_2, bk_252_3, bk_252_4, bk_252_5, bk_252_6, bk_252_7, bk_252_8, wp_ic, wp_ist1, wp_ist2, wp_fall, wp_ild2, wp_ald0, wr_50_1, wl_51, wp_cald, wp_icge, wp_ist3, wp_ist4, wp_ild4, wp_ild3, wp_ifeq, wk_251, wp_ifne, wp_goto, wp_inc4, wp_ild1, wp_iadd, wp_inc2, wp_iret mz_252, x_clr_I, x_clr_J, x_clr_R, x_clr_U, ct_some, ct_none, lc_lt, lc_ge, lc_gt, lc_le, lc_eq, lc_r, xI_inj, xJ_inj, Option.some.injEq, eq_self, bi_r, bi_0, bi_1, bi_n, Classical.not_not, and_true, true_and, ite_true, ite_false, ↓reduceIte, ↓x_andl, z_le, z_nle, z_lt, z_nlt, z_eq, z_neq, if_pos, if_neg, x_andl, false_and, and_false, or_true, true_or, or_false, false_or, not_true, not_false_iff, x_rd_eq, x_rd_ne, x_st_o, Int.cast_ofNat_Int, Int.ofNat_zero, Int.ofNat_one, not_true_eq_false, not_false_eq_true, if_true, if_false, ite_self, and_self, Int.ofNat_eq_natCast, Int.tdiv_eq_ediv_of_nonneg, Int.tmod_eq_emod_of_nonneg, x_bm32, g51]
    exact F
end OKI

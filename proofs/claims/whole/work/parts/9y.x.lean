/-! what a plan costs -/
section OCO
variable {L : Int} {S0 : Int → Int}
theorem h_meanC {σ : x_S} {w : Int → Int} (hM : mir σ 1 w) (hS : mis σ 1 w) (hw : wf w) (h100 : wf_100 w) (hn : wn w) (hq : wq w) (hf : fol w σ) (al : ∀ f, 0 ≤ f → f < w 0 → p_fr w (w 8) f → ¬ cV σ f = -1) : x_Sp 2 123 [xR 0 0] σ (fun r σ' => r = some (xJ (sumE w (fun e => p_po w e * σ 40 0 e) (w 0).toNat)) ∧ σ' = σ) := by
  have a := wf_h hw
  unfold wf_hdr at a
  have wb := wk_b hw hn hq (Int.le_refl _) hf.2.1
  simp (disch := first | omega | (simp only [x_wtI, x_wtJ, x_wtR, x_wtN]; omega) | assumption | (simp (disch := omega) only [x_st_o, x_rd_ne]; first | assumption | omega) | (apply mir_eq; assumption; (intro c h1 h2; simp (disch := omega) only [x_st_o])) | (apply mis_eq; assumption; (intro c h1 h2; simp (disch := omega) only [x_st_o])) | rfl) only [sp_123, bk_123_0, bk_123_2, bk_123_3, wp_lc, wp_lst1, wp_ic, wp_ist3, wp_fall, wp_ild3, wp_ald0, wr_0_2, wr_20_0, wp_geti kd_6, wp_icge, wr_0_9, wk_82, wp_ifeq, wp_lld1, wr_33_7, wl_40, wp_cald, wp_i2l, wr_33_9, wl_42, wp_pald, wp_lmul, wp_ladd, wp_inc3, wp_goto, wk_124, wp_lret, x_clr_I, x_clr_J, x_clr_R, x_clr_U, ct_some, ct_none, lc_lt, lc_ge, lc_gt, lc_le, lc_eq, lc_r, xI_inj, xJ_inj, Option.some.injEq, eq_self, bi_r, bi_0, bi_1, bi_n, Classical.not_not, and_true, true_and, ite_true, ite_false, ↓reduceIte, ↓x_andl, z_le, z_nle, z_lt, z_nlt, z_eq, z_neq, if_pos, if_neg, x_andl, false_and, and_false, or_true, true_or, or_false, false_or, not_true, not_false_iff, x_rd_eq, x_rd_ne, x_st_o, Int.cast_ofNat_Int, Int.ofNat_zero, Int.ofNat_one, not_true_eq_false, not_false_eq_true, if_true, if_false, ite_self, and_self, Int.ofNat_eq_natCast, Int.tdiv_eq_ediv_of_nonneg, Int.tmod_eq_emod_of_nonneg, x_bm32]
  refine x_lpJ (fun i sm => sm = sumE w (fun e => σ 40 0 e * p_part w e) i.toNat) (fun i sm => x_Wp 2 123 (x_blk 123 1) [xR 0 0, xJ sm, xU, xI i] [] σ (fun r σ' => r = some (xJ (sumE w (fun e => p_po w e * σ 40 0 e) (w 0).toNat)) ∧ σ' = σ)) (lo := 0) (hi := w 0) (by omega) (a0 := 0) rfl ?_ ?_
  · intro i sm i0 i1 hJ
    subst hJ
    refine ⟨_, rfl, ?_⟩
    intro H
    rw [sumE_s i0] at H
    have cel := hf.1 i i0 i1
    have tr := hf.2.2.2.2.2 i i0 i1
    have ep := hf.2.2.2.2.1 i i0 i1
    rw [bk_123_1]
    by_cases c : p_ed w i
    · rw [if_pos c] at H
      have m : ¬ cV σ i = -1 ∧ w_of w i 7 = 0 := ⟨al i i0 i1 c.1, c.2⟩
      simp (disch := first | omega | (simp only [x_wtI, x_wtJ, x_wtR, x_wtN]; omega) | assumption | (simp (disch := omega) only [x_st_o, x_rd_ne]; first | assumption | omega) | (apply mir_eq; assumption; (intro c h1 h2; simp (disch := omega) only [x_st_o])) | (apply mis_eq; assumption; (intro c h1 h2; simp (disch := omega) only [x_st_o])) | rfl) only [bk_123_0, bk_123_2, bk_123_3, wp_lc, wp_lst1, wp_ic, wp_ist3, wp_fall, wp_ild3, wp_ald0, wr_0_2, wr_20_0, wp_geti kd_6, wp_icge, wr_0_9, wk_82, wp_ifeq, wp_lld1, wr_33_7, wl_40, wp_cald, wp_i2l, wr_33_9, wl_42, wp_pald, wp_lmul, wp_ladd, wp_inc3, wp_goto, wk_124, wp_lret, x_clr_I, x_clr_J, x_clr_R, x_clr_U, ct_some, ct_none, lc_lt, lc_ge, lc_gt, lc_le, lc_eq, lc_r, xI_inj, xJ_inj, Option.some.injEq, eq_self, bi_r, bi_0, bi_1, bi_n, Classical.not_not, and_true, true_and, ite_true, ite_false, ↓reduceIte, ↓x_andl, z_le, z_nle, z_lt, z_nlt, z_eq, z_neq, if_pos, if_neg, x_andl, false_and, and_false, or_true, true_or, or_false, false_or, not_true, not_false_iff, x_rd_eq, x_rd_ne, x_st_o, Int.cast_ofNat_Int, Int.ofNat_zero, Int.ofNat_one, not_true_eq_false, not_false_eq_true, if_true, if_false, ite_self, and_self, Int.ofNat_eq_natCast, Int.tdiv_eq_ediv_of_nonneg, Int.tmod_eq_emod_of_nonneg, x_bm32, mi_size hM, k_isEndOfPlan, bi_t m, ep]
      exact H
    · rw [if_neg c, Int.add_zero] at H
      have m : ¬ (¬ cV σ i = -1 ∧ w_of w i 7 = 0) := fun z => c ⟨((wb i i0 i1).2.2 z.1).1, z.2⟩
      simp (disch := first | omega | (simp only [x_wtI, x_wtJ, x_wtR, x_wtN]; omega) | assumption | (simp (disch := omega) only [x_st_o, x_rd_ne]; first | assumption | omega) | (apply mir_eq; assumption; (intro c h1 h2; simp (disch := omega) only [x_st_o])) | (apply mis_eq; assumption; (intro c h1 h2; simp (disch := omega) only [x_st_o])) | rfl) only [bk_123_0, bk_123_2, bk_123_3, wp_lc, wp_lst1, wp_ic, wp_ist3, wp_fall, wp_ild3, wp_ald0, wr_0_2, wr_20_0, wp_geti kd_6, wp_icge, wr_0_9, wk_82, wp_ifeq, wp_lld1, wr_33_7, wl_40, wp_cald, wp_i2l, wr_33_9, wl_42, wp_pald, wp_lmul, wp_ladd, wp_inc3, wp_goto, wk_124, wp_lret, x_clr_I, x_clr_J, x_clr_R, x_clr_U, ct_some, ct_none, lc_lt, lc_ge, lc_gt, lc_le, lc_eq, lc_r, xI_inj, xJ_inj, Option.some.injEq, eq_self, bi_r, bi_0, bi_1, bi_n, Classical.not_not, and_true, true_and, ite_true, ite_false, ↓reduceIte, ↓x_andl, z_le, z_nle, z_lt, z_nlt, z_eq, z_neq, if_pos, if_neg, x_andl, false_and, and_false, or_true, true_or, or_false, false_or, not_true, not_false_iff, x_rd_eq, x_rd_ne, x_st_o, Int.cast_ofNat_Int, Int.ofNat_zero, Int.ofNat_one, not_true_eq_false, not_false_eq_true, if_true, if_false, ite_self, and_self, Int.ofNat_eq_natCast, Int.tdiv_eq_ediv_of_nonneg, Int.tmod_eq_emod_of_nonneg, x_bm32, mi_size hM, k_isEndOfPlan, bi_f m]
      exact H
  · intro sm hJ
    subst hJ
    have e1 : sumE w (fun e => σ 40 0 e * p_part w e) (w 0).toNat = x_pay (4 - w_of w (w 8) 6) * sumE w (fun e => p_po w e * σ 40 0 e) (w 0).toNat := by
      rw [← sumE_mul]
      refine sumE_cg (N := w 0) (fun f f0 f1 ed => ?_) _ (by omega)
      show σ 40 0 f * p_part w f = x_pay (4 - w_of w (w 8) 6) * (p_po w f * σ 40 0 f)
      rw [part_po hw hn f0 f1 ed.1, Int.mul_comm, Int.mul_assoc]
    have b1 := sumE_b (w := w) (g := fun e => σ 40 0 e * p_part w e) (N := w 0) (B := 100000000000000) (by omega) (fun f f0 f1 ed => by
      have := part_r hw h100 hn.1 f0 f1
      have m := mulb (a := σ 40 0 f) (b := p_part w f) (A := 1000000) (B := 100000000) (hf.2.2.2.2.2 f f0 f1) (by omega)
      show -100000000000000 ≤ σ 40 0 f * p_part w f ∧ σ 40 0 f * p_part w f ≤ 100000000000000
      omega) (w 0).toNat (by omega)
    rw [e1] at b1 ⊢
    have ki := fun (d' : Nat) (Q' : Option x_V → x_S → Prop) => k_inParts (d := d') (σ := σ) (Q := Q') (w := w) (S := sumE w (fun e => p_po w e * σ 40 0 e) (w 0).toNat) hM hS hw hn (by omega)
    generalize x_pay (4 - w_of w (w 8) 6) * sumE w (fun e => p_po w e * σ 40 0 e) (w 0).toNat = PS at ki b1
    rw [bk_123_1]
    simp (disch := first | omega | (simp only [x_wtI, x_wtJ, x_wtR, x_wtN]; omega) | assumption | (simp (disch := omega) only [x_st_o, x_rd_ne]; first | assumption | omega) | (apply mir_eq; assumption; (intro c h1 h2; simp (disch := omega) only [x_st_o])) | (apply mis_eq; assumption; (intro c h1 h2; simp (disch := omega) only [x_st_o])) | rfl) only [bk_123_0, bk_123_2, bk_123_3, wp_lc, wp_lst1, wp_ic, wp_ist3, wp_fall, wp_ild3, wp_ald0, wr_0_2, wr_20_0, wp_geti kd_6, wp_icge, wr_0_9, wk_82, wp_ifeq, wp_lld1, wr_33_7, wl_40, wp_cald, wp_i2l, wr_33_9, wl_42, wp_pald, wp_lmul, wp_ladd, wp_inc3, wp_goto, wk_124, wp_lret, x_clr_I, x_clr_J, x_clr_R, x_clr_U, ct_some, ct_none, lc_lt, lc_ge, lc_gt, lc_le, lc_eq, lc_r, xI_inj, xJ_inj, Option.some.injEq, eq_self, bi_r, bi_0, bi_1, bi_n, Classical.not_not, and_true, true_and, ite_true, ite_false, ↓reduceIte, ↓x_andl, z_le, z_nle, z_lt, z_nlt, z_eq, z_neq, if_pos, if_neg, x_andl, false_and, and_false, or_true, true_or, or_false, false_or, not_true, not_false_iff, x_rd_eq, x_rd_ne, x_st_o, Int.cast_ofNat_Int, Int.ofNat_zero, Int.ofNat_one, not_true_eq_false, not_false_eq_true, if_true, if_false, ite_self, and_self, Int.ofNat_eq_natCast, Int.tdiv_eq_ediv_of_nonneg, Int.tmod_eq_emod_of_nonneg, x_bm32, mi_size hM, ki]
theorem h_worstPC {σ : x_S} {w : Int → Int} (hM : mir σ 1 w) (hw : wf w) (hn : wn w) (hq : wq w) (hf : fol w σ) (al : ∀ f, 0 ≤ f → f < w 0 → p_fr w (w 8) f → ¬ cV σ f = -1) : x_Sp 2 125 [xR 0 0] σ (fun r σ' => r = some (xJ (maxE w (fun e => σ 40 0 e) (w 0).toNat)) ∧ σ' = σ) := by
  have a := wf_h hw
  unfold wf_hdr at a
  have wb := wk_b hw hn hq (Int.le_refl _) hf.2.1
  simp (disch := first | omega | (simp only [x_wtI, x_wtJ, x_wtR, x_wtN]; omega) | assumption | (simp (disch := omega) only [x_st_o, x_rd_ne]; first | assumption | omega) | (apply mir_eq; assumption; (intro c h1 h2; simp (disch := omega) only [x_st_o])) | (apply mis_eq; assumption; (intro c h1 h2; simp (disch := omega) only [x_st_o])) | rfl) only [sp_125, bk_125_0, bk_125_2, bk_125_3, wp_lc, wp_lst1, wp_ic, wp_ist3, wp_fall, wp_ild3, wp_ald0, wr_0_2, wr_20_0, wp_geti kd_6, wp_icge, wr_0_9, wk_82, wp_ifeq, wp_lld1, wr_33_7, wl_40, wp_cald, wp_i2l, wk_276, c_maxj, wp_inc3, wp_goto, wp_lret, x_clr_I, x_clr_J, x_clr_R, x_clr_U, ct_some, ct_none, lc_lt, lc_ge, lc_gt, lc_le, lc_eq, lc_r, xI_inj, xJ_inj, Option.some.injEq, eq_self, bi_r, bi_0, bi_1, bi_n, Classical.not_not, and_true, true_and, ite_true, ite_false, ↓reduceIte, ↓x_andl, z_le, z_nle, z_lt, z_nlt, z_eq, z_neq, if_pos, if_neg, x_andl, false_and, and_false, or_true, true_or, or_false, false_or, not_true, not_false_iff, x_rd_eq, x_rd_ne, x_st_o, Int.cast_ofNat_Int, Int.ofNat_zero, Int.ofNat_one, not_true_eq_false, not_false_eq_true, if_true, if_false, ite_self, and_self, Int.ofNat_eq_natCast, Int.tdiv_eq_ediv_of_nonneg, Int.tmod_eq_emod_of_nonneg, x_bm32]
  refine x_lpJ (fun i sm => sm = maxE w (fun e => σ 40 0 e) i.toNat) (fun i sm => x_Wp 2 125 (x_blk 125 1) [xR 0 0, xJ sm, xU, xI i] [] σ (fun r σ' => r = some (xJ (maxE w (fun e => σ 40 0 e) (w 0).toNat)) ∧ σ' = σ)) (lo := 0) (hi := w 0) (by omega) (a0 := (-9223372036854775808)) rfl ?_ ?_
  · intro i sm i0 i1 hJ
    subst hJ
    refine ⟨_, rfl, ?_⟩
    intro H
    rw [maxE_s i0] at H
    have cel := hf.1 i i0 i1
    have tr := hf.2.2.2.2.2 i i0 i1
    have mb := maxE_b (w := w) (g := fun e => σ 40 0 e) (N := w 0) (B := 1000000) (by omega) (fun f f0 f1 ed => hf.2.2.2.2.2 f f0 f1) i.toNat (by omega)
    generalize maxE w (fun e => σ 40 0 e) i.toNat = sm at mb H
    rw [bk_125_1]
    by_cases c : p_ed w i
    · rw [if_pos c] at H
      have m : ¬ cV σ i = -1 ∧ w_of w i 7 = 0 := ⟨al i i0 i1 c.1, c.2⟩
      simp (disch := first | omega | (simp only [x_wtI, x_wtJ, x_wtR, x_wtN]; omega) | assumption | (simp (disch := omega) only [x_st_o, x_rd_ne]; first | assumption | omega) | (apply mir_eq; assumption; (intro c h1 h2; simp (disch := omega) only [x_st_o])) | (apply mis_eq; assumption; (intro c h1 h2; simp (disch := omega) only [x_st_o])) | rfl) only [bk_125_0, bk_125_2, bk_125_3, wp_lc, wp_lst1, wp_ic, wp_ist3, wp_fall, wp_ild3, wp_ald0, wr_0_2, wr_20_0, wp_geti kd_6, wp_icge, wr_0_9, wk_82, wp_ifeq, wp_lld1, wr_33_7, wl_40, wp_cald, wp_i2l, wk_276, c_maxj, wp_inc3, wp_goto, wp_lret, x_clr_I, x_clr_J, x_clr_R, x_clr_U, ct_some, ct_none, lc_lt, lc_ge, lc_gt, lc_le, lc_eq, lc_r, xI_inj, xJ_inj, Option.some.injEq, eq_self, bi_r, bi_0, bi_1, bi_n, Classical.not_not, and_true, true_and, ite_true, ite_false, ↓reduceIte, ↓x_andl, z_le, z_nle, z_lt, z_nlt, z_eq, z_neq, if_pos, if_neg, x_andl, false_and, and_false, or_true, true_or, or_false, false_or, not_true, not_false_iff, x_rd_eq, x_rd_ne, x_st_o, Int.cast_ofNat_Int, Int.ofNat_zero, Int.ofNat_one, not_true_eq_false, not_false_eq_true, if_true, if_false, ite_self, and_self, Int.ofNat_eq_natCast, Int.tdiv_eq_ediv_of_nonneg, Int.tmod_eq_emod_of_nonneg, x_bm32, mi_size hM, k_isEndOfPlan, bi_t m, c_maxj]
      exact H
    · rw [if_neg c] at H
      have m : ¬ (¬ cV σ i = -1 ∧ w_of w i 7 = 0) := fun z => c ⟨((wb i i0 i1).2.2 z.1).1, z.2⟩
      simp (disch := first | omega | (simp only [x_wtI, x_wtJ, x_wtR, x_wtN]; omega) | assumption | (simp (disch := omega) only [x_st_o, x_rd_ne]; first | assumption | omega) | (apply mir_eq; assumption; (intro c h1 h2; simp (disch := omega) only [x_st_o])) | (apply mis_eq; assumption; (intro c h1 h2; simp (disch := omega) only [x_st_o])) | rfl) only [bk_125_0, bk_125_2, bk_125_3, wp_lc, wp_lst1, wp_ic, wp_ist3, wp_fall, wp_ild3, wp_ald0, wr_0_2, wr_20_0, wp_geti kd_6, wp_icge, wr_0_9, wk_82, wp_ifeq, wp_lld1, wr_33_7, wl_40, wp_cald, wp_i2l, wk_276, c_maxj, wp_inc3, wp_goto, wp_lret, x_clr_I, x_clr_J, x_clr_R, x_clr_U, ct_some, ct_none, lc_lt, lc_ge, lc_gt, lc_le, lc_eq, lc_r, xI_inj, xJ_inj, Option.some.injEq, eq_self, bi_r, bi_0, bi_1, bi_n, Classical.not_not, and_true, true_and, ite_true, ite_false, ↓reduceIte, ↓x_andl, z_le, z_nle, z_lt, z_nlt, z_eq, z_neq, if_pos, if_neg, x_andl, false_and, and_false, or_true, true_or, or_false, false_or, not_true, not_false_iff, x_rd_eq, x_rd_ne, x_st_o, Int.cast_ofNat_Int, Int.ofNat_zero, Int.ofNat_one, not_true_eq_false, not_false_eq_true, if_true, if_false, ite_self, and_self, Int.ofNat_eq_natCast, Int.tdiv_eq_ediv_of_nonneg, Int.tmod_eq_emod_of_nonneg, x_bm32, mi_size hM, k_isEndOfPlan, bi_f m]
      exact H
  · intro sm hJ
    subst hJ
    rw [bk_125_1]
    simp (disch := first | omega | (simp only [x_wtI, x_wtJ, x_wtR, x_wtN]; omega) | assumption | (simp (disch := omega) only [x_st_o, x_rd_ne]; first | assumption | omega) | (apply mir_eq; assumption; (intro c h1 h2; simp (disch := omega) only [x_st_o])) | (apply mis_eq; assumption; (intro c h1 h2; simp (disch := omega) only [x_st_o])) | rfl) only [bk_125_0, bk_125_2, bk_125_3, wp_lc, wp_lst1, wp_ic, wp_ist3, wp_fall, wp_ild3, wp_ald0, wr_0_2, wr_20_0, wp_geti kd_6, wp_icge, wr_0_9, wk_82, wp_ifeq, wp_lld1, wr_33_7, wl_40, wp_cald, wp_i2l, wk_276, c_maxj, wp_inc3, wp_goto, wp_lret, x_clr_I, x_clr_J, x_clr_R, x_clr_U, ct_some, ct_none, lc_lt, lc_ge, lc_gt, lc_le, lc_eq, lc_r, xI_inj, xJ_inj, Option.some.injEq, eq_self, bi_r, bi_0, bi_1, bi_n, Classical.not_not, and_true, true_and, ite_true, ite_false, ↓reduceIte, ↓x_andl, z_le, z_nle, z_lt, z_nlt, z_eq, z_neq, if_pos, if_neg, x_andl, false_and, and_false, or_true, true_or, or_false, false_or, not_true, not_false_iff, x_rd_eq, x_rd_ne, x_st_o, Int.cast_ofNat_Int, Int.ofNat_zero, Int.ofNat_one, not_true_eq_false, not_false_eq_true, if_true, if_false, ite_self, and_self, Int.ofNat_eq_natCast, Int.tdiv_eq_ediv_of_nonneg, Int.tmod_eq_emod_of_nonneg, x_bm32, mi_size hM]
theorem fol_e2 {σ σ' : x_S} {w : Int → Int} (h : fol w σ) (e : ∀ c, 33 ≤ c → c ≤ 42 → σ' c 0 = σ c 0) : fol w σ' := by
  have eC : cC σ' = cC σ := by
    funext f
    unfold cC
    rw [e 34 (by omega) (by omega), e 36 (by omega) (by omega), e 37 (by omega) (by omega)]
  have eV : cV σ' = cV σ := by
    funext f
    unfold cV
    rw [e 35 (by omega) (by omega), e 38 (by omega) (by omega), e 39 (by omega) (by omega)]
  unfold fol at h ⊢
  rw [eC, eV, e 40 (by omega) (by omega), e 41 (by omega) (by omega), e 33 (by omega) (by omega), e 42 (by omega) (by omega)]
  refine ⟨fun f f0 f1 => ?_, h.2⟩
  have := h.1 f f0 f1
  unfold wcell at this ⊢
  rw [e 34 (by omega) (by omega), e 35 (by omega) (by omega), e 36 (by omega) (by omega), e 37 (by omega) (by omega), e 38 (by omega) (by omega), e 39 (by omega) (by omega)]
  exact this
theorem h_ruePC {σ : x_S} {w : Int → Int} (hh : iN L S0 σ) (h51 : σ 51 0 = w) (hf : fol w σ) (al : ∀ f, 0 ≤ f → f < w 0 → p_fr w (w 8) f → ¬ cV σ f = -1) : x_Sp 6 126 [xR 0 0] σ (fun r σ' => r = some (xJ (maxE w (fun e => σ 40 0 e - σ' 30 0 e) (w 0).toNat)) ∧ x_eqo [(0, 0), (30, 0), (31, 0), (32, 0)] σ σ' ∧ g_wayC w (σ' 31 0) (σ' 30 0) ∧ iN L S0 σ') := by
  obtain ⟨w', h51', hw, h100, hn, hq, hM, hS⟩ := iN_w hh
  have ew : w' = w := h51'.symm.trans h51
  subst ew
  have a := wf_h hw
  unfold wf_hdr at a
  refine x_gen (fun Q hQ => ?_)
  simp (disch := first | omega | (simp only [x_wtI, x_wtJ, x_wtR, x_wtN]; omega) | assumption | (simp (disch := omega) only [x_st_o, x_rd_ne]; first | assumption | omega) | (apply mir_eq; assumption; (intro c h1 h2; simp (disch := omega) only [x_st_o])) | (apply mis_eq; assumption; (intro c h1 h2; simp (disch := omega) only [x_st_o])) | rfl) only [sp_126, bk_126_0, bk_126_2, bk_126_3, wp_ald0, wk_106, wp_lc, wp_lst1, wp_ic, wp_ist3, wp_fall, wp_ild3, wr_0_2, wr_20_0, wp_geti kd_6, wp_icge, wr_0_9, wk_82, wp_ifeq, wp_lld1, wr_33_7, wl_40, wp_cald, wp_i2l, wr_0_8, wr_29_1, wl_30, wp_pald, wp_lsub, wk_276, c_maxj, wp_inc3, wp_goto, wp_lret, x_clr_I, x_clr_J, x_clr_R, x_clr_U, ct_some, ct_none, lc_lt, lc_ge, lc_gt, lc_le, lc_eq, lc_r, xI_inj, xJ_inj, Option.some.injEq, eq_self, bi_r, bi_0, bi_1, bi_n, Classical.not_not, and_true, true_and, ite_true, ite_false, ↓reduceIte, ↓x_andl, z_le, z_nle, z_lt, z_nlt, z_eq, z_neq, if_pos, if_neg, x_andl, false_and, and_false, or_true, true_or, or_false, false_or, not_true, not_false_iff, x_rd_eq, x_rd_ne, x_st_o, Int.cast_ofNat_Int, Int.ofNat_zero, Int.ofNat_one, not_true_eq_false, not_false_eq_true, if_true, if_false, ite_self, and_self, Int.ofNat_eq_natCast, Int.tdiv_eq_ediv_of_nonneg, Int.tmod_eq_emod_of_nonneg, x_bm32]
  refine x_use (d := 0) (h_traceWays hh) ?_
  rintro r σ2 ⟨rfl, tk2, k2, e2, gw, hh2⟩
  rw [h51] at gw
  have hf2 : fol w' σ2 := fol_e2 hf (fun c q1 q2 => e2 c 0 (by simp; omega))
  have hM2 : mir σ2 1 w' := mir_eq hM (fun c q1 q2 => e2 c 1 (by simp))
  have e40 : σ2 40 0 = σ 40 0 := e2 40 0 (by simp)
  have wb := wk_b hw hn hq (Int.le_refl _) hf2.2.1
  have al2 : ∀ f, 0 ≤ f → f < w' 0 → p_fr w' (w' 8) f → ¬ cV σ2 f = -1 := by
    intro f f0 f1 fr
    have : cV σ2 f = cV σ f := by
      unfold cV
      rw [e2 35 0 (by simp), e2 38 0 (by simp), e2 39 0 (by simp)]
    rw [this]
    exact al f f0 f1 fr
  have fin := hQ (some (xJ (maxE w' (fun e => σ2 40 0 e - σ2 30 0 e) (w' 0).toNat))) σ2 ⟨by rw [e40], e2, gw, hh2⟩
  have ge : ∀ f, p_ed w' f → w' 8 ≤ f := by
    intro f ed
    by_cases q : f < w' 8
    · exact absurd ed.1 (fr_lt q)
    · omega
  have lbd : ∀ e, 0 ≤ e → e < w' 0 → p_ed w' e → -170000 ≤ σ2 30 0 e ∧ σ2 30 0 e ≤ 170000 := by
    intro e e0 e1 ed
    have := (wayC_b hw hn gw).2 e (ge e ed) e1 ed.1 ed.2
    omega
  simp (disch := first | omega | (simp only [x_wtI, x_wtJ, x_wtR, x_wtN]; omega) | assumption | (simp (disch := omega) only [x_st_o, x_rd_ne]; first | assumption | omega) | (apply mir_eq; assumption; (intro c h1 h2; simp (disch := omega) only [x_st_o])) | (apply mis_eq; assumption; (intro c h1 h2; simp (disch := omega) only [x_st_o])) | rfl) only [bk_126_0, bk_126_2, bk_126_3, wp_ald0, wk_106, wp_lc, wp_lst1, wp_ic, wp_ist3, wp_fall, wp_ild3, wr_0_2, wr_20_0, wp_geti kd_6, wp_icge, wr_0_9, wk_82, wp_ifeq, wp_lld1, wr_33_7, wl_40, wp_cald, wp_i2l, wr_0_8, wr_29_1, wl_30, wp_pald, wp_lsub, wk_276, c_maxj, wp_inc3, wp_goto, wp_lret, x_clr_I, x_clr_J, x_clr_R, x_clr_U, ct_some, ct_none, lc_lt, lc_ge, lc_gt, lc_le, lc_eq, lc_r, xI_inj, xJ_inj, Option.some.injEq, eq_self, bi_r, bi_0, bi_1, bi_n, Classical.not_not, and_true, true_and, ite_true, ite_false, ↓reduceIte, ↓x_andl, z_le, z_nle, z_lt, z_nlt, z_eq, z_neq, if_pos, if_neg, x_andl, false_and, and_false, or_true, true_or, or_false, false_or, not_true, not_false_iff, x_rd_eq, x_rd_ne, x_st_o, Int.cast_ofNat_Int, Int.ofNat_zero, Int.ofNat_one, not_true_eq_false, not_false_eq_true, if_true, if_false, ite_self, and_self, Int.ofNat_eq_natCast, Int.tdiv_eq_ediv_of_nonneg, Int.tmod_eq_emod_of_nonneg, x_bm32]
  refine x_lpJ (fun i sm => sm = maxE w' (fun e => σ2 40 0 e - σ2 30 0 e) i.toNat) (fun i sm => x_Wp 6 126 (x_blk 126 1) [xR 0 0, xJ sm, xU, xI i] [] σ2 Q) (lo := 0) (hi := w' 0) (by omega) (a0 := (-9223372036854775808)) rfl ?_ ?_
  · intro i sm i0 i1 hJ
    subst hJ
    refine ⟨_, rfl, ?_⟩
    intro H
    rw [maxE_s i0] at H
    have cel := hf2.1 i i0 i1
    have tr := hf2.2.2.2.2.2 i i0 i1
    have mb := maxE_b (w := w') (g := fun e => σ2 40 0 e - σ2 30 0 e) (N := w' 0) (B := 2000000) (by omega) (fun f f0 f1 ed => by
      have x := hf2.2.2.2.2.2 f f0 f1
      have y := lbd f f0 f1 ed
      show -2000000 ≤ σ2 40 0 f - σ2 30 0 f ∧ σ2 40 0 f - σ2 30 0 f ≤ 2000000
      omega) i.toNat (by omega)
    generalize maxE w' (fun e => σ2 40 0 e - σ2 30 0 e) i.toNat = sm at mb H
    rw [bk_126_1]
    by_cases c : p_ed w' i
    · rw [if_pos c] at H
      have m : ¬ cV σ2 i = -1 ∧ w_of w' i 7 = 0 := ⟨al2 i i0 i1 c.1, c.2⟩
      have lb := lbd i i0 i1 c
      simp (disch := first | omega | (simp only [x_wtI, x_wtJ, x_wtR, x_wtN]; omega) | assumption | (simp (disch := omega) only [x_st_o, x_rd_ne]; first | assumption | omega) | (apply mir_eq; assumption; (intro c h1 h2; simp (disch := omega) only [x_st_o])) | (apply mis_eq; assumption; (intro c h1 h2; simp (disch := omega) only [x_st_o])) | rfl) only [bk_126_0, bk_126_2, bk_126_3, wp_ald0, wk_106, wp_lc, wp_lst1, wp_ic, wp_ist3, wp_fall, wp_ild3, wr_0_2, wr_20_0, wp_geti kd_6, wp_icge, wr_0_9, wk_82, wp_ifeq, wp_lld1, wr_33_7, wl_40, wp_cald, wp_i2l, wr_0_8, wr_29_1, wl_30, wp_pald, wp_lsub, wk_276, c_maxj, wp_inc3, wp_goto, wp_lret, x_clr_I, x_clr_J, x_clr_R, x_clr_U, ct_some, ct_none, lc_lt, lc_ge, lc_gt, lc_le, lc_eq, lc_r, xI_inj, xJ_inj, Option.some.injEq, eq_self, bi_r, bi_0, bi_1, bi_n, Classical.not_not, and_true, true_and, ite_true, ite_false, ↓reduceIte, ↓x_andl, z_le, z_nle, z_lt, z_nlt, z_eq, z_neq, if_pos, if_neg, x_andl, false_and, and_false, or_true, true_or, or_false, false_or, not_true, not_false_iff, x_rd_eq, x_rd_ne, x_st_o, Int.cast_ofNat_Int, Int.ofNat_zero, Int.ofNat_one, not_true_eq_false, not_false_eq_true, if_true, if_false, ite_self, and_self, Int.ofNat_eq_natCast, Int.tdiv_eq_ediv_of_nonneg, Int.tmod_eq_emod_of_nonneg, x_bm32, mi_size hM2, k_isEndOfPlan, bi_t m, c_maxj]
      exact H
    · rw [if_neg c] at H
      have m : ¬ (¬ cV σ2 i = -1 ∧ w_of w' i 7 = 0) := fun z => c ⟨((wb i i0 i1).2.2 z.1).1, z.2⟩
      simp (disch := first | omega | (simp only [x_wtI, x_wtJ, x_wtR, x_wtN]; omega) | assumption | (simp (disch := omega) only [x_st_o, x_rd_ne]; first | assumption | omega) | (apply mir_eq; assumption; (intro c h1 h2; simp (disch := omega) only [x_st_o])) | (apply mis_eq; assumption; (intro c h1 h2; simp (disch := omega) only [x_st_o])) | rfl) only [bk_126_0, bk_126_2, bk_126_3, wp_ald0, wk_106, wp_lc, wp_lst1, wp_ic, wp_ist3, wp_fall, wp_ild3, wr_0_2, wr_20_0, wp_geti kd_6, wp_icge, wr_0_9, wk_82, wp_ifeq, wp_lld1, wr_33_7, wl_40, wp_cald, wp_i2l, wr_0_8, wr_29_1, wl_30, wp_pald, wp_lsub, wk_276, c_maxj, wp_inc3, wp_goto, wp_lret, x_clr_I, x_clr_J, x_clr_R, x_clr_U, ct_some, ct_none, lc_lt, lc_ge, lc_gt, lc_le, lc_eq, lc_r, xI_inj, xJ_inj, Option.some.injEq, eq_self, bi_r, bi_0, bi_1, bi_n, Classical.not_not, and_true, true_and, ite_true, ite_false, ↓reduceIte, ↓x_andl, z_le, z_nle, z_lt, z_nlt, z_eq, z_neq, if_pos, if_neg, x_andl, false_and, and_false, or_true, true_or, or_false, false_or, not_true, not_false_iff, x_rd_eq, x_rd_ne, x_st_o, Int.cast_ofNat_Int, Int.ofNat_zero, Int.ofNat_one, not_true_eq_false, not_false_eq_true, if_true, if_false, ite_self, and_self, Int.ofNat_eq_natCast, Int.tdiv_eq_ediv_of_nonneg, Int.tmod_eq_emod_of_nonneg, x_bm32, mi_size hM2, k_isEndOfPlan, bi_f m]
      exact H
  · intro sm hJ
    subst hJ
    rw [bk_126_1]
    simp (disch := first | omega | (simp only [x_wtI, x_wtJ, x_wtR, x_wtN]; omega) | assumption | (simp (disch := omega) only [x_st_o, x_rd_ne]; first | assumption | omega) | (apply mir_eq; assumption; (intro c h1 h2; simp (disch := omega) only [x_st_o])) | (apply mis_eq; assumption; (intro c h1 h2; simp (disch := omega) only [x_st_o])) | rfl) only [bk_126_0, bk_126_2, bk_126_3, wp_ald0, wk_106, wp_lc, wp_lst1, wp_ic, wp_ist3, wp_fall, wp_ild3, wr_0_2, wr_20_0, wp_geti kd_6, wp_icge, wr_0_9, wk_82, wp_ifeq, wp_lld1, wr_33_7, wl_40, wp_cald, wp_i2l, wr_0_8, wr_29_1, wl_30, wp_pald, wp_lsub, wk_276, c_maxj, wp_inc3, wp_goto, wp_lret, x_clr_I, x_clr_J, x_clr_R, x_clr_U, ct_some, ct_none, lc_lt, lc_ge, lc_gt, lc_le, lc_eq, lc_r, xI_inj, xJ_inj, Option.some.injEq, eq_self, bi_r, bi_0, bi_1, bi_n, Classical.not_not, and_true, true_and, ite_true, ite_false, ↓reduceIte, ↓x_andl, z_le, z_nle, z_lt, z_nlt, z_eq, z_neq, if_pos, if_neg, x_andl, false_and, and_false, or_true, true_or, or_false, false_or, not_true, not_false_iff, x_rd_eq, x_rd_ne, x_st_o, Int.cast_ofNat_Int, Int.ofNat_zero, Int.ofNat_one, not_true_eq_false, not_false_eq_true, if_true, if_false, ite_self, and_self, Int.ofNat_eq_natCast, Int.tdiv_eq_ediv_of_nonneg, Int.tmod_eq_emod_of_nonneg, x_bm32, mi_size hM2]
    exact fin
/-! the model's loop -/
theorem h_costM {σ : x_S} {w S L' : Int → Int} {c v0 : Int} (hc : 0 ≤ c ∧ c ≤ 2) (h51 : σ 51 0 = w) (hw : wf w) (h100 : wf_100 w) (hn : wn w) (hS : ∀ f, 0 ≤ f → f < w 0 → p_ed w f → σ 64 0 f = S f ∧ -1000000 ≤ S f ∧ S f ≤ 1000000) (hL : c = 2 → ∀ f, 0 ≤ f → f < w 0 → p_ed w f → σ 60 0 f = L' f ∧ -170000 ≤ L' f ∧ L' f ≤ 170000) (hv : v0 = if c = 0 then 0 else (-9223372036854775808)) : x_Wp 999 225 (x_blk 225 6) [xR 50 0, xI c, xJ v0, xU, xI (w 8)] [] σ (fun r σ' => r = some (xJ (if c = 0 then sumE w (fun e => p_po w e * S e) (w 0).toNat else maxE w (fun e => S e - (if c = 2 then L' e else 0)) (w 0).toNat)) ∧ σ' = σ) := by
  have a := wf_h hw
  unfold wf_hdr at a
  have n8 := hn.1
  by_cases c0 : c = 0
  · rw [if_pos c0] at hv ⊢
    refine x_lpJ (fun i v => v = sumE w (fun e => p_po w e * S e) i.toNat) (fun i v => x_Wp 999 225 (x_blk 225 6) [xR 50 0, xI c, xJ v, xU, xI i] [] σ (fun r σ' => r = some (xJ (sumE w (fun e => p_po w e * S e) (w 0).toNat)) ∧ σ' = σ)) (lo := w 8) (hi := w 0) (by omega) (a0 := v0) (by rw [hv, sumE_0 _ (by omega)]) ?_ ?_
    · intro i v i0 i1 hJ
      subst hJ
      refine ⟨_, rfl, ?_⟩
      intro H
      rw [sumE_s (by omega)] at H
      rw [bk_225_6]
      by_cases ce : p_ed w i
      · rw [if_pos ce] at H
        have cf := ce.1
        have s1 := (hS i (by omega) i1 ce).1
        simp (disch := first | omega | (simp only [x_wtI, x_wtJ, x_wtR, x_wtN]; omega) | assumption | (simp (disch := omega) only [x_st_o, x_rd_ne]; first | assumption | omega) | (apply mir_eq; assumption; (intro c h1 h2; simp (disch := omega) only [x_st_o])) | (apply mis_eq; assumption; (intro c h1 h2; simp (disch := omega) only [x_st_o])) | rfl) only [bk_225_0, bk_225_1, bk_225_2, bk_225_3, bk_225_4, bk_225_5, bk_225_7, bk_225_8, bk_225_9, bk_225_10, bk_225_11, bk_225_12, wp_ild1, wk_194, wp_ifeq, wp_ald0, wk_224, wp_ic, wp_iceq, wp_fall, wp_lc, wp_lret, wp_icne, wk_196, wp_ifne, wp_goto, wp_lst2, wr_50_1, wl_51, wp_cald, wp_ist4, wp_ild4, wp_icge, wk_226, wp_lld2, wk_227, wr_50_27, wl_60, wl_64, wp_pald, wp_lmul, wp_ladd, wr_50_21, wp_lsub, wk_276, c_maxj, wp_inc4, x_clr_I, x_clr_J, x_clr_R, x_clr_U, ct_some, ct_none, lc_lt, lc_ge, lc_gt, lc_le, lc_eq, lc_r, xI_inj, xJ_inj, Option.some.injEq, eq_self, bi_r, bi_0, bi_1, bi_n, Classical.not_not, and_true, true_and, ite_true, ite_false, ↓reduceIte, ↓x_andl, z_le, z_nle, z_lt, z_nlt, z_eq, z_neq, if_pos, if_neg, x_andl, false_and, and_false, or_true, true_or, or_false, false_or, not_true, not_false_iff, x_rd_eq, x_rd_ne, x_st_o, Int.cast_ofNat_Int, Int.ofNat_zero, Int.ofNat_one, not_true_eq_false, not_false_eq_true, if_true, if_false, ite_self, and_self, Int.ofNat_eq_natCast, Int.tdiv_eq_ediv_of_nonneg, Int.tmod_eq_emod_of_nonneg, x_bm32, h51, k_isAnEnd h51 hw n8, bi_t ce, k_partsOf h51 hw h100 hn, s1]
        exact H
      · rw [if_neg ce, Int.add_zero] at H
        simp (disch := first | omega | (simp only [x_wtI, x_wtJ, x_wtR, x_wtN]; omega) | assumption | (simp (disch := omega) only [x_st_o, x_rd_ne]; first | assumption | omega) | (apply mir_eq; assumption; (intro c h1 h2; simp (disch := omega) only [x_st_o])) | (apply mis_eq; assumption; (intro c h1 h2; simp (disch := omega) only [x_st_o])) | rfl) only [bk_225_0, bk_225_1, bk_225_2, bk_225_3, bk_225_4, bk_225_5, bk_225_7, bk_225_8, bk_225_9, bk_225_10, bk_225_11, bk_225_12, wp_ild1, wk_194, wp_ifeq, wp_ald0, wk_224, wp_ic, wp_iceq, wp_fall, wp_lc, wp_lret, wp_icne, wk_196, wp_ifne, wp_goto, wp_lst2, wr_50_1, wl_51, wp_cald, wp_ist4, wp_ild4, wp_icge, wk_226, wp_lld2, wk_227, wr_50_27, wl_60, wl_64, wp_pald, wp_lmul, wp_ladd, wr_50_21, wp_lsub, wk_276, c_maxj, wp_inc4, x_clr_I, x_clr_J, x_clr_R, x_clr_U, ct_some, ct_none, lc_lt, lc_ge, lc_gt, lc_le, lc_eq, lc_r, xI_inj, xJ_inj, Option.some.injEq, eq_self, bi_r, bi_0, bi_1, bi_n, Classical.not_not, and_true, true_and, ite_true, ite_false, ↓reduceIte, ↓x_andl, z_le, z_nle, z_lt, z_nlt, z_eq, z_neq, if_pos, if_neg, x_andl, false_and, and_false, or_true, true_or, or_false, false_or, not_true, not_false_iff, x_rd_eq, x_rd_ne, x_st_o, Int.cast_ofNat_Int, Int.ofNat_zero, Int.ofNat_one, not_true_eq_false, not_false_eq_true, if_true, if_false, ite_self, and_self, Int.ofNat_eq_natCast, Int.tdiv_eq_ediv_of_nonneg, Int.tmod_eq_emod_of_nonneg, x_bm32, h51, k_isAnEnd h51 hw n8, bi_f ce]
        exact H
    · intro v hJ
      subst hJ
      rw [bk_225_6]
      simp (disch := first | omega | (simp only [x_wtI, x_wtJ, x_wtR, x_wtN]; omega) | assumption | (simp (disch := omega) only [x_st_o, x_rd_ne]; first | assumption | omega) | (apply mir_eq; assumption; (intro c h1 h2; simp (disch := omega) only [x_st_o])) | (apply mis_eq; assumption; (intro c h1 h2; simp (disch := omega) only [x_st_o])) | rfl) only [bk_225_0, bk_225_1, bk_225_2, bk_225_3, bk_225_4, bk_225_5, bk_225_7, bk_225_8, bk_225_9, bk_225_10, bk_225_11, bk_225_12, wp_ild1, wk_194, wp_ifeq, wp_ald0, wk_224, wp_ic, wp_iceq, wp_fall, wp_lc, wp_lret, wp_icne, wk_196, wp_ifne, wp_goto, wp_lst2, wr_50_1, wl_51, wp_cald, wp_ist4, wp_ild4, wp_icge, wk_226, wp_lld2, wk_227, wr_50_27, wl_60, wl_64, wp_pald, wp_lmul, wp_ladd, wr_50_21, wp_lsub, wk_276, c_maxj, wp_inc4, x_clr_I, x_clr_J, x_clr_R, x_clr_U, ct_some, ct_none, lc_lt, lc_ge, lc_gt, lc_le, lc_eq, lc_r, xI_inj, xJ_inj, Option.some.injEq, eq_self, bi_r, bi_0, bi_1, bi_n, Classical.not_not, and_true, true_and, ite_true, ite_false, ↓reduceIte, ↓x_andl, z_le, z_nle, z_lt, z_nlt, z_eq, z_neq, if_pos, if_neg, x_andl, false_and, and_false, or_true, true_or, or_false, false_or, not_true, not_false_iff, x_rd_eq, x_rd_ne, x_st_o, Int.cast_ofNat_Int, Int.ofNat_zero, Int.ofNat_one, not_true_eq_false, not_false_eq_true, if_true, if_false, ite_self, and_self, Int.ofNat_eq_natCast, Int.tdiv_eq_ediv_of_nonneg, Int.tmod_eq_emod_of_nonneg, x_bm32, h51]
  · rw [if_neg c0] at hv ⊢
    obtain ⟨g, hg⟩ : ∃ g : Int → Int, g = (fun e => S e - (if c = 2 then L' e else 0)) := ⟨_, rfl⟩
    rw [← hg]
    have gv : ∀ f, g f = S f - (if c = 2 then L' f else 0) := fun f => by rw [hg]
    have gb : ∀ f, 0 ≤ f → f < w 0 → p_ed w f → -2000000 ≤ g f ∧ g f ≤ 2000000 := by
      intro f f0 f1 ed
      have s := hS f f0 f1 ed
      rw [gv]
      by_cases z : c = 2
      · rw [if_pos z]
        have l := hL z f f0 f1 ed
        omega
      · rw [if_neg z]
        omega
    clear hg
    refine x_lpJ (fun i v => v = maxE w g i.toNat) (fun i v => x_Wp 999 225 (x_blk 225 6) [xR 50 0, xI c, xJ v, xU, xI i] [] σ (fun r σ' => r = some (xJ (maxE w g (w 0).toNat)) ∧ σ' = σ)) (lo := w 8) (hi := w 0) (by omega) (a0 := v0) (by rw [hv, maxE_0 _ (by omega)]) ?_ ?_
    · intro i v i0 i1 hJ
      subst hJ
      refine ⟨_, rfl, ?_⟩
      intro H
      rw [maxE_s (by omega)] at H
      have mb := maxE_b (w := w) (g := g) (N := w 0) (B := 2000000) (by omega) gb i.toNat (by omega)
      generalize maxE w g i.toNat = sm at mb H
      rw [bk_225_6]
      by_cases ce : p_ed w i
      · have gi := gv i
        rw [if_pos ce, gi] at H
        have s1 := hS i (by omega) i1 ce
        have s0 := s1.1
        by_cases z : c = 2
        · have l1 := hL z i (by omega) i1 ce
          have l0 := l1.1
          rw [if_pos z] at H
          clear gv gi
          simp (disch := first | omega | (simp only [x_wtI, x_wtJ, x_wtR, x_wtN]; omega) | assumption | (simp (disch := omega) only [x_st_o, x_rd_ne]; first | assumption | omega) | (apply mir_eq; assumption; (intro c h1 h2; simp (disch := omega) only [x_st_o])) | (apply mis_eq; assumption; (intro c h1 h2; simp (disch := omega) only [x_st_o])) | rfl) only [bk_225_0, bk_225_1, bk_225_2, bk_225_3, bk_225_4, bk_225_5, bk_225_7, bk_225_8, bk_225_9, bk_225_10, bk_225_11, bk_225_12, wp_ild1, wk_194, wp_ifeq, wp_ald0, wk_224, wp_ic, wp_iceq, wp_fall, wp_lc, wp_lret, wp_icne, wk_196, wp_ifne, wp_goto, wp_lst2, wr_50_1, wl_51, wp_cald, wp_ist4, wp_ild4, wp_icge, wk_226, wp_lld2, wk_227, wr_50_27, wl_60, wl_64, wp_pald, wp_lmul, wp_ladd, wr_50_21, wp_lsub, wk_276, c_maxj, wp_inc4, x_clr_I, x_clr_J, x_clr_R, x_clr_U, ct_some, ct_none, lc_lt, lc_ge, lc_gt, lc_le, lc_eq, lc_r, xI_inj, xJ_inj, Option.some.injEq, eq_self, bi_r, bi_0, bi_1, bi_n, Classical.not_not, and_true, true_and, ite_true, ite_false, ↓reduceIte, ↓x_andl, z_le, z_nle, z_lt, z_nlt, z_eq, z_neq, if_pos, if_neg, x_andl, false_and, and_false, or_true, true_or, or_false, false_or, not_true, not_false_iff, x_rd_eq, x_rd_ne, x_st_o, Int.cast_ofNat_Int, Int.ofNat_zero, Int.ofNat_one, not_true_eq_false, not_false_eq_true, if_true, if_false, ite_self, and_self, Int.ofNat_eq_natCast, Int.tdiv_eq_ediv_of_nonneg, Int.tmod_eq_emod_of_nonneg, x_bm32, h51, k_isAnEnd h51 hw n8, bi_t ce, s0, l0, c_maxj]
          exact H
        · rw [if_neg z, Int.sub_zero] at H
          clear gv gi
          simp (disch := first | omega | (simp only [x_wtI, x_wtJ, x_wtR, x_wtN]; omega) | assumption | (simp (disch := omega) only [x_st_o, x_rd_ne]; first | assumption | omega) | (apply mir_eq; assumption; (intro c h1 h2; simp (disch := omega) only [x_st_o])) | (apply mis_eq; assumption; (intro c h1 h2; simp (disch := omega) only [x_st_o])) | rfl) only [bk_225_0, bk_225_1, bk_225_2, bk_225_3, bk_225_4, bk_225_5, bk_225_7, bk_225_8, bk_225_9, bk_225_10, bk_225_11, bk_225_12, wp_ild1, wk_194, wp_ifeq, wp_ald0, wk_224, wp_ic, wp_iceq, wp_fall, wp_lc, wp_lret, wp_icne, wk_196, wp_ifne, wp_goto, wp_lst2, wr_50_1, wl_51, wp_cald, wp_ist4, wp_ild4, wp_icge, wk_226, wp_lld2, wk_227, wr_50_27, wl_60, wl_64, wp_pald, wp_lmul, wp_ladd, wr_50_21, wp_lsub, wk_276, c_maxj, wp_inc4, x_clr_I, x_clr_J, x_clr_R, x_clr_U, ct_some, ct_none, lc_lt, lc_ge, lc_gt, lc_le, lc_eq, lc_r, xI_inj, xJ_inj, Option.some.injEq, eq_self, bi_r, bi_0, bi_1, bi_n, Classical.not_not, and_true, true_and, ite_true, ite_false, ↓reduceIte, ↓x_andl, z_le, z_nle, z_lt, z_nlt, z_eq, z_neq, if_pos, if_neg, x_andl, false_and, and_false, or_true, true_or, or_false, false_or, not_true, not_false_iff, x_rd_eq, x_rd_ne, x_st_o, Int.cast_ofNat_Int, Int.ofNat_zero, Int.ofNat_one, not_true_eq_false, not_false_eq_true, if_true, if_false, ite_self, and_self, Int.ofNat_eq_natCast, Int.tdiv_eq_ediv_of_nonneg, Int.tmod_eq_emod_of_nonneg, x_bm32, h51, k_isAnEnd h51 hw n8, bi_t ce, s0, Int.sub_zero, c_maxj]
          exact H
      · rw [if_neg ce] at H
        simp (disch := first | omega | (simp only [x_wtI, x_wtJ, x_wtR, x_wtN]; omega) | assumption | (simp (disch := omega) only [x_st_o, x_rd_ne]; first | assumption | omega) | (apply mir_eq; assumption; (intro c h1 h2; simp (disch := omega) only [x_st_o])) | (apply mis_eq; assumption; (intro c h1 h2; simp (disch := omega) only [x_st_o])) | rfl) only [bk_225_0, bk_225_1, bk_225_2, bk_225_3, bk_225_4, bk_225_5, bk_225_7, bk_225_8, bk_225_9, bk_225_10, bk_225_11, bk_225_12, wp_ild1, wk_194, wp_ifeq, wp_ald0, wk_224, wp_ic, wp_iceq, wp_fall, wp_lc, wp_lret, wp_icne, wk_196, wp_ifne, wp_goto, wp_lst2, wr_50_1, wl_51, wp_cald, wp_ist4, wp_ild4, wp_icge, wk_226, wp_lld2, wk_227, wr_50_27, wl_60, wl_64, wp_pald, wp_lmul, wp_ladd, wr_50_21, wp_lsub, wk_276, c_maxj, wp_inc4, x_clr_I, x_clr_J, x_clr_R, x_clr_U, ct_some, ct_none, lc_lt, lc_ge, lc_gt, lc_le, lc_eq, lc_r, xI_inj, xJ_inj, Option.some.injEq, eq_self, bi_r, bi_0, bi_1, bi_n, Classical.not_not, and_true, true_and, ite_true, ite_false, ↓reduceIte, ↓x_andl, z_le, z_nle, z_lt, z_nlt, z_eq, z_neq, if_pos, if_neg, x_andl, false_and, and_false, or_true, true_or, or_false, false_or, not_true, not_false_iff, x_rd_eq, x_rd_ne, x_st_o, Int.cast_ofNat_Int, Int.ofNat_zero, Int.ofNat_one, not_true_eq_false, not_false_eq_true, if_true, if_false, ite_self, and_self, Int.ofNat_eq_natCast, Int.tdiv_eq_ediv_of_nonneg, Int.tmod_eq_emod_of_nonneg, x_bm32, h51, k_isAnEnd h51 hw n8, bi_f ce]
        exact H
    · intro v hJ
      subst hJ
      rw [bk_225_6]
      simp (disch := first | omega | (simp only [x_wtI, x_wtJ, x_wtR, x_wtN]; omega) | assumption | (simp (disch := omega) only [x_st_o, x_rd_ne]; first | assumption | omega) | (apply mir_eq; assumption; (intro c h1 h2; simp (disch := omega) only [x_st_o])) | (apply mis_eq; assumption; (intro c h1 h2; simp (disch := omega) only [x_st_o])) | rfl) only [bk_225_0, bk_225_1, bk_225_2, bk_225_3, bk_225_4, bk_225_5, bk_225_7, bk_225_8, bk_225_9, bk_225_10, bk_225_11, bk_225_12, wp_ild1, wk_194, wp_ifeq, wp_ald0, wk_224, wp_ic, wp_iceq, wp_fall, wp_lc, wp_lret, wp_icne, wk_196, wp_ifne, wp_goto, wp_lst2, wr_50_1, wl_51, wp_cald, wp_ist4, wp_ild4, wp_icge, wk_226, wp_lld2, wk_227, wr_50_27, wl_60, wl_64, wp_pald, wp_lmul, wp_ladd, wr_50_21, wp_lsub, wk_276, c_maxj, wp_inc4, x_clr_I, x_clr_J, x_clr_R, x_clr_U, ct_some, ct_none, lc_lt, lc_ge, lc_gt, lc_le, lc_eq, lc_r, xI_inj, xJ_inj, Option.some.injEq, eq_self, bi_r, bi_0, bi_1, bi_n, Classical.not_not, and_true, true_and, ite_true, ite_false, ↓reduceIte, ↓x_andl, z_le, z_nle, z_lt, z_nlt, z_eq, z_neq, if_pos, if_neg, x_andl, false_and, and_false, or_true, true_or, or_false, false_or, not_true, not_false_iff, x_rd_eq, x_rd_ne, x_st_o, Int.cast_ofNat_Int, Int.ofNat_zero, Int.ofNat_one, not_true_eq_false, not_false_eq_true, if_true, if_false, ite_self, and_self, Int.ofNat_eq_natCast, Int.tdiv_eq_ediv_of_nonneg, Int.tmod_eq_emod_of_nonneg, x_bm32, h51]
set_option maxHeartbeats 4000000 in
theorem o_cost : x_o17 (iN L S0) := by
  intro σ hh c hcr
  refine ag_J ?_
  obtain ⟨w, h51, hw, h100, hn, hq, hM, hS⟩ := iN_w hh
  have a := wf_h hw
  unfold wf_hdr at a
  have n8 := hn.1
  simp (disch := first | omega | (simp only [x_wtI, x_wtJ, x_wtR, x_wtN]; omega) | assumption | (simp (disch := omega) only [x_st_o, x_rd_ne]; first | assumption | omega) | (apply mir_eq; assumption; (intro c h1 h2; simp (disch := omega) only [x_st_o])) | (apply mis_eq; assumption; (intro c h1 h2; simp (disch := omega) only [x_st_o])) | rfl) only [sp_122, bk_122_0, bk_122_1, bk_122_2, bk_122_3, bk_122_4, bk_122_5, wp_ald0, wr_0_9, wk_77, wp_ild1, wk_103, wp_ifeq, wp_geti kd_33, wp_ic, wp_iceq, wp_fall, wp_lc, wp_lret, wp_ifne, wk_123, wp_icne, wk_125, wp_goto, wk_126, x_clr_I, x_clr_J, x_clr_R, x_clr_U, ct_some, ct_none, lc_lt, lc_ge, lc_gt, lc_le, lc_eq, lc_r, xI_inj, xJ_inj, Option.some.injEq, eq_self, bi_r, bi_0, bi_1, bi_n, Classical.not_not, and_true, true_and, ite_true, ite_false, ↓reduceIte, ↓x_andl, z_le, z_nle, z_lt, z_nlt, z_eq, z_neq, if_pos, if_neg, x_andl, false_and, and_false, or_true, true_or, or_false, false_or, not_true, not_false_iff, x_rd_eq, x_rd_ne, x_st_o, Int.cast_ofNat_Int, Int.ofNat_zero, Int.ofNat_one, not_true_eq_false, not_false_eq_true, if_true, if_false, ite_self, and_self, Int.ofNat_eq_natCast, Int.tdiv_eq_ediv_of_nonneg, Int.tmod_eq_emod_of_nonneg, x_bm32]
  refine x_use (d := 994) (h_follow hM hS hw h100 hn hq) ?_
  rintro r σ1 ⟨rfl, e1, f1⟩
  have g51 : σ1 51 0 = w := (e1 51 0 (by decide)).trans h51
  have hh1 : iN L S0 σ1 := iN_e hh e1 (by decide)
  have hM1 : mir σ1 1 w := mir_eq hM (fun c q1 q2 => e1 c 1 (by simp))
  have hS1 : mis σ1 1 w := mis_eq hS (fun c q1 q2 => e1 c 1 (by simp))
  have f100 : ∀ j i, σ1 100 j i = σ 100 j i := fun j i => by rw [e1 100 j (by simp)]
  have sr : -1 ≤ σ1 33 0 10 ∧ σ1 33 0 10 < 40 := by
    rcases f1.2.2.2.1 with ⟨z, _⟩ | ⟨z, _⟩ <;> omega
  by_cases cm : 0 ≤ c ∧ c ≤ 2
  · by_cases c2 : σ1 33 0 10 = -1
    · have ns : ∀ g, 0 ≤ g → g < w 0 → ¬ (¬ cC σ1 g = -1 ∧ cV σ1 g = -1) := by
        rcases f1.2.2.2.1 with ⟨_, z⟩ | ⟨z, _⟩
        · exact z
        · omega
      have al : ∀ f, 0 ≤ f → f < w 0 → p_fr w (w 8) f → ¬ cV σ1 f = -1 := fun f f0 f1' => all_law hw hn f1.2.1 ns (f + 1).toNat f f0 (by omega) f1'
      have ge : ∀ f, p_ed w f → w 8 ≤ f := by
        intro f ed
        by_cases q : f < w 8
        · exact absurd ed.1 (fr_lt q)
        · omega
      -- the model, from a store that holds what it needs
      have mod : ∀ (σa : x_S) (v : Int), iN L S0 σa → σa 51 0 = w → (∀ L' Ym : Int → Int, (c = 2 → mwy w Ym L') → v = (if c = 0 then sumE w (fun e => p_po w e * σ1 40 0 e) (w 0).toNat else maxE w (fun e => σ1 40 0 e - (if c = 2 then L' e else 0)) (w 0).toNat) ∧ (c = 2 → ∀ f, 0 ≤ f → f < w 0 → p_ed w f → -170000 ≤ L' f ∧ L' f ≤ 170000)) → x_Sp 999 225 [xR 50 0, xI c] σa (fun r2 σ2 => r2 = some (xJ v) ∧ iN L S0 σ2) := by
        intro σa v ha ga hv
        have gE := ha.2.2.2.1.1
        simp (disch := first | omega | (simp only [x_wtI, x_wtJ, x_wtR, x_wtN]; omega) | assumption | (simp (disch := omega) only [x_st_o, x_rd_ne]; first | assumption | omega) | (apply mir_eq; assumption; (intro c h1 h2; simp (disch := omega) only [x_st_o])) | (apply mis_eq; assumption; (intro c h1 h2; simp (disch := omega) only [x_st_o])) | rfl) only [sp_225, bk_225_0, bk_225_1, bk_225_2, bk_225_3, bk_225_4, bk_225_5, bk_225_7, bk_225_8, bk_225_9, bk_225_10, bk_225_11, bk_225_12, wp_ild1, wk_194, wp_ifeq, wp_ald0, wk_224, wp_ic, wp_iceq, wp_fall, wp_lc, wp_lret, wp_icne, wk_196, wp_ifne, wp_goto, wp_lst2, wr_50_1, wl_51, wp_cald, wp_ist4, wp_ild4, wp_icge, wk_226, wp_lld2, wk_227, wr_50_27, wl_60, wl_64, wp_pald, wp_lmul, wp_ladd, wr_50_21, wp_lsub, wk_276, c_maxj, wp_inc4, x_clr_I, x_clr_J, x_clr_R, x_clr_U, ct_some, ct_none, lc_lt, lc_ge, lc_gt, lc_le, lc_eq, lc_r, xI_inj, xJ_inj, Option.some.injEq, eq_self, bi_r, bi_0, bi_1, bi_n, Classical.not_not, and_true, true_and, ite_true, ite_false, ↓reduceIte, ↓x_andl, z_le, z_nle, z_lt, z_nlt, z_eq, z_neq, if_pos, if_neg, x_andl, false_and, and_false, or_true, true_or, or_false, false_or, not_true, not_false_iff, x_rd_eq, x_rd_ne, x_st_o, Int.cast_ofNat_Int, Int.ofNat_zero, Int.ofNat_one, not_true_eq_false, not_false_eq_true, if_true, if_false, ite_self, and_self, Int.ofNat_eq_natCast, Int.tdiv_eq_ediv_of_nonneg, Int.tmod_eq_emod_of_nonneg, x_bm32, k_isCount, bi_t]
        refine x_use (d := 993) (h_stops ga gE hw hn hq) ?_
        rintro r σ2 ⟨s, rfl, e2, k2, s2, _⟩
        have u := wk_uniq hw hn.1 (Int.le_refl _) f1.2.1 k2
        have s0 : s = -1 := by
          rw [← c2]
          exact stm_uniq s2 (stm_cg (fun f f0 f1 => ⟨(u f f0 f1).1.symm, (u f f0 f1).2.1.symm⟩) f1.2.2.2.1)
        subst s0
        have g2 : σ2 51 0 = w := (e2 51 0 (by decide)).trans ga
        have hh2 : iN L S0 σ2 := iN_e ha e2 (by decide)
        have sE : ∀ f, 0 ≤ f → f < w 0 → p_ed w f → σ2 64 0 f = σ1 40 0 f ∧ -1000000 ≤ σ1 40 0 f ∧ σ1 40 0 f ≤ 1000000 := fun f f0 f1' ed => ⟨((u f f0 f1').2.2 (al f f0 f1' ed.1)).symm, f1.2.2.2.2.2 f f0 f1'⟩
        by_cases z2 : c = 2
        · simp (disch := first | omega | (simp only [x_wtI, x_wtJ, x_wtR, x_wtN]; omega) | assumption | (simp (disch := omega) only [x_st_o, x_rd_ne]; first | assumption | omega) | (apply mir_eq; assumption; (intro c h1 h2; simp (disch := omega) only [x_st_o])) | (apply mis_eq; assumption; (intro c h1 h2; simp (disch := omega) only [x_st_o])) | rfl) only [bk_225_0, bk_225_1, bk_225_2, bk_225_3, bk_225_4, bk_225_5, bk_225_7, bk_225_8, bk_225_9, bk_225_10, bk_225_11, bk_225_12, wp_ild1, wk_194, wp_ifeq, wp_ald0, wk_224, wp_ic, wp_iceq, wp_fall, wp_lc, wp_lret, wp_icne, wk_196, wp_ifne, wp_goto, wp_lst2, wr_50_1, wl_51, wp_cald, wp_ist4, wp_ild4, wp_icge, wk_226, wp_lld2, wk_227, wr_50_27, wl_60, wl_64, wp_pald, wp_lmul, wp_ladd, wr_50_21, wp_lsub, wk_276, c_maxj, wp_inc4, x_clr_I, x_clr_J, x_clr_R, x_clr_U, ct_some, ct_none, lc_lt, lc_ge, lc_gt, lc_le, lc_eq, lc_r, xI_inj, xJ_inj, Option.some.injEq, eq_self, bi_r, bi_0, bi_1, bi_n, Classical.not_not, and_true, true_and, ite_true, ite_false, ↓reduceIte, ↓x_andl, z_le, z_nle, z_lt, z_nlt, z_eq, z_neq, if_pos, if_neg, x_andl, false_and, and_false, or_true, true_or, or_false, false_or, not_true, not_false_iff, x_rd_eq, x_rd_ne, x_st_o, Int.cast_ofNat_Int, Int.ofNat_zero, Int.ofNat_one, not_true_eq_false, not_false_eq_true, if_true, if_false, ite_self, and_self, Int.ofNat_eq_natCast, Int.tdiv_eq_ediv_of_nonneg, Int.tmod_eq_emod_of_nonneg, x_bm32]
          refine x_use (d := 994) (h_findLeast g2 hh2.2.2.2.1.1 hw hn) ?_
          rintro r σ3 ⟨rfl, e3, m3⟩
          have g3 : σ3 51 0 = w := (e3 51 0 (by simp)).trans g2
          have hh3 : iN L S0 σ3 := iN_e hh2 e3 (by decide)
          obtain ⟨hv1, hv2⟩ := hv (σ3 60 0) (σ3 61 0) (fun _ => m3)
          have K := h_costM (σ := σ3) (S := σ1 40 0) (L' := σ3 60 0) (c := c) (v0 := (-9223372036854775808)) cm g3 hw h100 hn (fun f f0 f1' ed => by rw [e3 64 0 (by simp)]; exact sE f f0 f1' ed) (fun z f f0 f1' ed => ⟨rfl, hv2 z f f0 f1' ed⟩) (by rw [if_neg (by omega)])
          rw [← hv1] at K
          simp (disch := first | omega | (simp only [x_wtI, x_wtJ, x_wtR, x_wtN]; omega) | assumption | (simp (disch := omega) only [x_st_o, x_rd_ne]; first | assumption | omega) | (apply mir_eq; assumption; (intro c h1 h2; simp (disch := omega) only [x_st_o])) | (apply mis_eq; assumption; (intro c h1 h2; simp (disch := omega) only [x_st_o])) | rfl) only [bk_225_0, bk_225_1, bk_225_2, bk_225_3, bk_225_4, bk_225_5, bk_225_7, bk_225_8, bk_225_9, bk_225_10, bk_225_11, bk_225_12, wp_ild1, wk_194, wp_ifeq, wp_ald0, wk_224, wp_ic, wp_iceq, wp_fall, wp_lc, wp_lret, wp_icne, wk_196, wp_ifne, wp_goto, wp_lst2, wr_50_1, wl_51, wp_cald, wp_ist4, wp_ild4, wp_icge, wk_226, wp_lld2, wk_227, wr_50_27, wl_60, wl_64, wp_pald, wp_lmul, wp_ladd, wr_50_21, wp_lsub, wk_276, c_maxj, wp_inc4, x_clr_I, x_clr_J, x_clr_R, x_clr_U, ct_some, ct_none, lc_lt, lc_ge, lc_gt, lc_le, lc_eq, lc_r, xI_inj, xJ_inj, Option.some.injEq, eq_self, bi_r, bi_0, bi_1, bi_n, Classical.not_not, and_true, true_and, ite_true, ite_false, ↓reduceIte, ↓x_andl, z_le, z_nle, z_lt, z_nlt, z_eq, z_neq, if_pos, if_neg, x_andl, false_and, and_false, or_true, true_or, or_false, false_or, not_true, not_false_iff, x_rd_eq, x_rd_ne, x_st_o, Int.cast_ofNat_Int, Int.ofNat_zero, Int.ofNat_one, not_true_eq_false, not_false_eq_true, if_true, if_false, ite_self, and_self, Int.ofNat_eq_natCast, Int.tdiv_eq_ediv_of_nonneg, Int.tmod_eq_emod_of_nonneg, x_bm32, g3]
          refine x_mono K ?_
          rintro r σ4 ⟨rfl, rfl⟩
          exact ⟨rfl, hh3⟩
        · obtain ⟨hv1, hv2⟩ := hv (fun _ => 0) (fun _ => 0) (fun z => absurd z z2)
          by_cases z0 : c = 0
          · have K := h_costM (σ := σ2) (S := σ1 40 0) (L' := fun _ => 0) (c := c) (v0 := 0) cm g2 hw h100 hn sE (fun z => absurd z z2) (by rw [if_pos z0])
            rw [← hv1] at K
            simp (disch := first | omega | (simp only [x_wtI, x_wtJ, x_wtR, x_wtN]; omega) | assumption | (simp (disch := omega) only [x_st_o, x_rd_ne]; first | assumption | omega) | (apply mir_eq; assumption; (intro c h1 h2; simp (disch := omega) only [x_st_o])) | (apply mis_eq; assumption; (intro c h1 h2; simp (disch := omega) only [x_st_o])) | rfl) only [bk_225_0, bk_225_1, bk_225_2, bk_225_3, bk_225_4, bk_225_5, bk_225_7, bk_225_8, bk_225_9, bk_225_10, bk_225_11, bk_225_12, wp_ild1, wk_194, wp_ifeq, wp_ald0, wk_224, wp_ic, wp_iceq, wp_fall, wp_lc, wp_lret, wp_icne, wk_196, wp_ifne, wp_goto, wp_lst2, wr_50_1, wl_51, wp_cald, wp_ist4, wp_ild4, wp_icge, wk_226, wp_lld2, wk_227, wr_50_27, wl_60, wl_64, wp_pald, wp_lmul, wp_ladd, wr_50_21, wp_lsub, wk_276, c_maxj, wp_inc4, x_clr_I, x_clr_J, x_clr_R, x_clr_U, ct_some, ct_none, lc_lt, lc_ge, lc_gt, lc_le, lc_eq, lc_r, xI_inj, xJ_inj, Option.some.injEq, eq_self, bi_r, bi_0, bi_1, bi_n, Classical.not_not, and_true, true_and, ite_true, ite_false, ↓reduceIte, ↓x_andl, z_le, z_nle, z_lt, z_nlt, z_eq, z_neq, if_pos, if_neg, x_andl, false_and, and_false, or_true, true_or, or_false, false_or, not_true, not_false_iff, x_rd_eq, x_rd_ne, x_st_o, Int.cast_ofNat_Int, Int.ofNat_zero, Int.ofNat_one, not_true_eq_false, not_false_eq_true, if_true, if_false, ite_self, and_self, Int.ofNat_eq_natCast, Int.tdiv_eq_ediv_of_nonneg, Int.tmod_eq_emod_of_nonneg, x_bm32, g2]
            refine x_mono K ?_
            rintro r σ4 ⟨rfl, rfl⟩
            exact ⟨rfl, hh2⟩
          · have K := h_costM (σ := σ2) (S := σ1 40 0) (L' := fun _ => 0) (c := c) (v0 := (-9223372036854775808)) cm g2 hw h100 hn sE (fun z => absurd z z2) (by rw [if_neg z0])
            rw [← hv1] at K
            simp (disch := first | omega | (simp only [x_wtI, x_wtJ, x_wtR, x_wtN]; omega) | assumption | (simp (disch := omega) only [x_st_o, x_rd_ne]; first | assumption | omega) | (apply mir_eq; assumption; (intro c h1 h2; simp (disch := omega) only [x_st_o])) | (apply mis_eq; assumption; (intro c h1 h2; simp (disch := omega) only [x_st_o])) | rfl) only [bk_225_0, bk_225_1, bk_225_2, bk_225_3, bk_225_4, bk_225_5, bk_225_7, bk_225_8, bk_225_9, bk_225_10, bk_225_11, bk_225_12, wp_ild1, wk_194, wp_ifeq, wp_ald0, wk_224, wp_ic, wp_iceq, wp_fall, wp_lc, wp_lret, wp_icne, wk_196, wp_ifne, wp_goto, wp_lst2, wr_50_1, wl_51, wp_cald, wp_ist4, wp_ild4, wp_icge, wk_226, wp_lld2, wk_227, wr_50_27, wl_60, wl_64, wp_pald, wp_lmul, wp_ladd, wr_50_21, wp_lsub, wk_276, c_maxj, wp_inc4, x_clr_I, x_clr_J, x_clr_R, x_clr_U, ct_some, ct_none, lc_lt, lc_ge, lc_gt, lc_le, lc_eq, lc_r, xI_inj, xJ_inj, Option.some.injEq, eq_self, bi_r, bi_0, bi_1, bi_n, Classical.not_not, and_true, true_and, ite_true, ite_false, ↓reduceIte, ↓x_andl, z_le, z_nle, z_lt, z_nlt, z_eq, z_neq, if_pos, if_neg, x_andl, false_and, and_false, or_true, true_or, or_false, false_or, not_true, not_false_iff, x_rd_eq, x_rd_ne, x_st_o, Int.cast_ofNat_Int, Int.ofNat_zero, Int.ofNat_one, not_true_eq_false, not_false_eq_true, if_true, if_false, ite_self, and_self, Int.ofNat_eq_natCast, Int.tdiv_eq_ediv_of_nonneg, Int.tmod_eq_emod_of_nonneg, x_bm32, g2]
            refine x_mono K ?_
            rintro r σ4 ⟨rfl, rfl⟩
            exact ⟨rfl, hh2⟩
      by_cases z0 : c = 0
      · simp (disch := first | omega | (simp only [x_wtI, x_wtJ, x_wtR, x_wtN]; omega) | assumption | (simp (disch := omega) only [x_st_o, x_rd_ne]; first | assumption | omega) | (apply mir_eq; assumption; (intro c h1 h2; simp (disch := omega) only [x_st_o])) | (apply mis_eq; assumption; (intro c h1 h2; simp (disch := omega) only [x_st_o])) | rfl) only [bk_122_0, bk_122_1, bk_122_2, bk_122_3, bk_122_4, bk_122_5, wp_ald0, wr_0_9, wk_77, wp_ild1, wk_103, wp_ifeq, wp_geti kd_33, wp_ic, wp_iceq, wp_fall, wp_lc, wp_lret, wp_ifne, wk_123, wp_icne, wk_125, wp_goto, wk_126, x_clr_I, x_clr_J, x_clr_R, x_clr_U, ct_some, ct_none, lc_lt, lc_ge, lc_gt, lc_le, lc_eq, lc_r, xI_inj, xJ_inj, Option.some.injEq, eq_self, bi_r, bi_0, bi_1, bi_n, Classical.not_not, and_true, true_and, ite_true, ite_false, ↓reduceIte, ↓x_andl, z_le, z_nle, z_lt, z_nlt, z_eq, z_neq, if_pos, if_neg, x_andl, false_and, and_false, or_true, true_or, or_false, false_or, not_true, not_false_iff, x_rd_eq, x_rd_ne, x_st_o, Int.cast_ofNat_Int, Int.ofNat_zero, Int.ofNat_one, not_true_eq_false, not_false_eq_true, if_true, if_false, ite_self, and_self, Int.ofNat_eq_natCast, Int.tdiv_eq_ediv_of_nonneg, Int.tmod_eq_emod_of_nonneg, x_bm32, k_isMeasure, bi_t, c2]
        refine x_use (d := 996) (h_meanC hM1 hS1 hw h100 hn hq f1 al) ?_
        rintro r σ2 ⟨rfl, hσ2⟩
        subst hσ2
        have sb := sumE_b (w := w) (g := fun e => p_po w e * σ2 40 0 e) (N := w 0) (B := 100000000000000) (by omega) (fun f f0 f1' ed => by
          have p := po_b hw h100 hn f0 f1' ed.1
          have m := mulb (a := σ2 40 0 f) (b := p_po w f) (A := 1000000) (B := 100000000) (f1.2.2.2.2.2 f f0 f1') (by omega)
          rw [Int.mul_comm (σ2 40 0 f)] at m
          show -100000000000000 ≤ p_po w f * σ2 40 0 f ∧ p_po w f * σ2 40 0 f ≤ 100000000000000
          omega) (w 0).toNat (by omega)
        simp (disch := first | omega | (simp only [x_wtI, x_wtJ, x_wtR, x_wtN]; omega) | assumption | (simp (disch := omega) only [x_st_o, x_rd_ne]; first | assumption | omega) | (apply mir_eq; assumption; (intro c h1 h2; simp (disch := omega) only [x_st_o])) | (apply mis_eq; assumption; (intro c h1 h2; simp (disch := omega) only [x_st_o])) | rfl) only [bk_122_0, bk_122_1, bk_122_2, bk_122_3, bk_122_4, bk_122_5, wp_ald0, wr_0_9, wk_77, wp_ild1, wk_103, wp_ifeq, wp_geti kd_33, wp_ic, wp_iceq, wp_fall, wp_lc, wp_lret, wp_ifne, wk_123, wp_icne, wk_125, wp_goto, wk_126, x_clr_I, x_clr_J, x_clr_R, x_clr_U, ct_some, ct_none, lc_lt, lc_ge, lc_gt, lc_le, lc_eq, lc_r, xI_inj, xJ_inj, Option.some.injEq, eq_self, bi_r, bi_0, bi_1, bi_n, Classical.not_not, and_true, true_and, ite_true, ite_false, ↓reduceIte, ↓x_andl, z_le, z_nle, z_lt, z_nlt, z_eq, z_neq, if_pos, if_neg, x_andl, false_and, and_false, or_true, true_or, or_false, false_or, not_true, not_false_iff, x_rd_eq, x_rd_ne, x_st_o, Int.cast_ofNat_Int, Int.ofNat_zero, Int.ofNat_one, not_true_eq_false, not_false_eq_true, if_true, if_false, ite_self, and_self, Int.ofNat_eq_natCast, Int.tdiv_eq_ediv_of_nonneg, Int.tmod_eq_emod_of_nonneg, x_bm32]
        refine ⟨_, rfl, fun j i => f100 j i, by omega, mod σ2 _ hh1 g51 (fun L' Ym hm => ⟨by rw [if_pos z0], fun z => by omega⟩)⟩
      · by_cases z1 : c = 1
        · simp (disch := first | omega | (simp only [x_wtI, x_wtJ, x_wtR, x_wtN]; omega) | assumption | (simp (disch := omega) only [x_st_o, x_rd_ne]; first | assumption | omega) | (apply mir_eq; assumption; (intro c h1 h2; simp (disch := omega) only [x_st_o])) | (apply mis_eq; assumption; (intro c h1 h2; simp (disch := omega) only [x_st_o])) | rfl) only [bk_122_0, bk_122_1, bk_122_2, bk_122_3, bk_122_4, bk_122_5, wp_ald0, wr_0_9, wk_77, wp_ild1, wk_103, wp_ifeq, wp_geti kd_33, wp_ic, wp_iceq, wp_fall, wp_lc, wp_lret, wp_ifne, wk_123, wp_icne, wk_125, wp_goto, wk_126, x_clr_I, x_clr_J, x_clr_R, x_clr_U, ct_some, ct_none, lc_lt, lc_ge, lc_gt, lc_le, lc_eq, lc_r, xI_inj, xJ_inj, Option.some.injEq, eq_self, bi_r, bi_0, bi_1, bi_n, Classical.not_not, and_true, true_and, ite_true, ite_false, ↓reduceIte, ↓x_andl, z_le, z_nle, z_lt, z_nlt, z_eq, z_neq, if_pos, if_neg, x_andl, false_and, and_false, or_true, true_or, or_false, false_or, not_true, not_false_iff, x_rd_eq, x_rd_ne, x_st_o, Int.cast_ofNat_Int, Int.ofNat_zero, Int.ofNat_one, not_true_eq_false, not_false_eq_true, if_true, if_false, ite_self, and_self, Int.ofNat_eq_natCast, Int.tdiv_eq_ediv_of_nonneg, Int.tmod_eq_emod_of_nonneg, x_bm32, k_isMeasure, bi_t, c2]
          refine x_use (d := 996) (h_worstPC hM1 hw hn hq f1 al) ?_
          rintro r σ2 ⟨rfl, hσ2⟩
          subst hσ2
          have mb := maxE_b (w := w) (g := fun e => σ2 40 0 e) (N := w 0) (B := 1000000) (by omega) (fun f f0 f1' ed => f1.2.2.2.2.2 f f0 f1') (w 0).toNat (by omega)
          simp (disch := first | omega | (simp only [x_wtI, x_wtJ, x_wtR, x_wtN]; omega) | assumption | (simp (disch := omega) only [x_st_o, x_rd_ne]; first | assumption | omega) | (apply mir_eq; assumption; (intro c h1 h2; simp (disch := omega) only [x_st_o])) | (apply mis_eq; assumption; (intro c h1 h2; simp (disch := omega) only [x_st_o])) | rfl) only [bk_122_0, bk_122_1, bk_122_2, bk_122_3, bk_122_4, bk_122_5, wp_ald0, wr_0_9, wk_77, wp_ild1, wk_103, wp_ifeq, wp_geti kd_33, wp_ic, wp_iceq, wp_fall, wp_lc, wp_lret, wp_ifne, wk_123, wp_icne, wk_125, wp_goto, wk_126, x_clr_I, x_clr_J, x_clr_R, x_clr_U, ct_some, ct_none, lc_lt, lc_ge, lc_gt, lc_le, lc_eq, lc_r, xI_inj, xJ_inj, Option.some.injEq, eq_self, bi_r, bi_0, bi_1, bi_n, Classical.not_not, and_true, true_and, ite_true, ite_false, ↓reduceIte, ↓x_andl, z_le, z_nle, z_lt, z_nlt, z_eq, z_neq, if_pos, if_neg, x_andl, false_and, and_false, or_true, true_or, or_false, false_or, not_true, not_false_iff, x_rd_eq, x_rd_ne, x_st_o, Int.cast_ofNat_Int, Int.ofNat_zero, Int.ofNat_one, not_true_eq_false, not_false_eq_true, if_true, if_false, ite_self, and_self, Int.ofNat_eq_natCast, Int.tdiv_eq_ediv_of_nonneg, Int.tmod_eq_emod_of_nonneg, x_bm32]
          refine ⟨_, rfl, fun j i => f100 j i, by omega, mod σ2 _ hh1 g51 (fun L' Ym hm => ⟨?_, fun z => by omega⟩)⟩
          rw [if_neg z0]
          refine (maxE_cg (N := w 0) (fun f f0 f1' ed => ?_) _ (by omega)).symm
          show σ2 40 0 f - (if c = 2 then L' f else 0) = σ2 40 0 f
          rw [if_neg (by omega), Int.sub_zero]
        · have z2 : c = 2 := by omega
          simp (disch := first | omega | (simp only [x_wtI, x_wtJ, x_wtR, x_wtN]; omega) | assumption | (simp (disch := omega) only [x_st_o, x_rd_ne]; first | assumption | omega) | (apply mir_eq; assumption; (intro c h1 h2; simp (disch := omega) only [x_st_o])) | (apply mis_eq; assumption; (intro c h1 h2; simp (disch := omega) only [x_st_o])) | rfl) only [bk_122_0, bk_122_1, bk_122_2, bk_122_3, bk_122_4, bk_122_5, wp_ald0, wr_0_9, wk_77, wp_ild1, wk_103, wp_ifeq, wp_geti kd_33, wp_ic, wp_iceq, wp_fall, wp_lc, wp_lret, wp_ifne, wk_123, wp_icne, wk_125, wp_goto, wk_126, x_clr_I, x_clr_J, x_clr_R, x_clr_U, ct_some, ct_none, lc_lt, lc_ge, lc_gt, lc_le, lc_eq, lc_r, xI_inj, xJ_inj, Option.some.injEq, eq_self, bi_r, bi_0, bi_1, bi_n, Classical.not_not, and_true, true_and, ite_true, ite_false, ↓reduceIte, ↓x_andl, z_le, z_nle, z_lt, z_nlt, z_eq, z_neq, if_pos, if_neg, x_andl, false_and, and_false, or_true, true_or, or_false, false_or, not_true, not_false_iff, x_rd_eq, x_rd_ne, x_st_o, Int.cast_ofNat_Int, Int.ofNat_zero, Int.ofNat_one, not_true_eq_false, not_false_eq_true, if_true, if_false, ite_self, and_self, Int.ofNat_eq_natCast, Int.tdiv_eq_ediv_of_nonneg, Int.tmod_eq_emod_of_nonneg, x_bm32, k_isMeasure, bi_t, c2]
          refine x_use (d := 992) (h_ruePC hh1 g51 f1 al) ?_
          rintro r σ2 ⟨rfl, e2, gw, hh2⟩
          have g52 : σ2 51 0 = w := (e2 51 0 (by simp)).trans g51
          have lbd : ∀ e, 0 ≤ e → e < w 0 → p_ed w e → -170000 ≤ σ2 30 0 e ∧ σ2 30 0 e ≤ 170000 := by
            intro e e0 e1' ed
            have := (wayC_b hw hn gw).2 e (ge e ed) e1' ed.1 ed.2
            omega
          have mb := maxE_b (w := w) (g := fun e => σ1 40 0 e - σ2 30 0 e) (N := w 0) (B := 2000000) (by omega) (fun f f0 f1' ed => by
            have x := f1.2.2.2.2.2 f f0 f1'
            have y := lbd f f0 f1' ed
            show -2000000 ≤ σ1 40 0 f - σ2 30 0 f ∧ σ1 40 0 f - σ2 30 0 f ≤ 2000000
            omega) (w 0).toNat (by omega)
          simp (disch := first | omega | (simp only [x_wtI, x_wtJ, x_wtR, x_wtN]; omega) | assumption | (simp (disch := omega) only [x_st_o, x_rd_ne]; first | assumption | omega) | (apply mir_eq; assumption; (intro c h1 h2; simp (disch := omega) only [x_st_o])) | (apply mis_eq; assumption; (intro c h1 h2; simp (disch := omega) only [x_st_o])) | rfl) only [bk_122_0, bk_122_1, bk_122_2, bk_122_3, bk_122_4, bk_122_5, wp_ald0, wr_0_9, wk_77, wp_ild1, wk_103, wp_ifeq, wp_geti kd_33, wp_ic, wp_iceq, wp_fall, wp_lc, wp_lret, wp_ifne, wk_123, wp_icne, wk_125, wp_goto, wk_126, x_clr_I, x_clr_J, x_clr_R, x_clr_U, ct_some, ct_none, lc_lt, lc_ge, lc_gt, lc_le, lc_eq, lc_r, xI_inj, xJ_inj, Option.some.injEq, eq_self, bi_r, bi_0, bi_1, bi_n, Classical.not_not, and_true, true_and, ite_true, ite_false, ↓reduceIte, ↓x_andl, z_le, z_nle, z_lt, z_nlt, z_eq, z_neq, if_pos, if_neg, x_andl, false_and, and_false, or_true, true_or, or_false, false_or, not_true, not_false_iff, x_rd_eq, x_rd_ne, x_st_o, Int.cast_ofNat_Int, Int.ofNat_zero, Int.ofNat_one, not_true_eq_false, not_false_eq_true, if_true, if_false, ite_self, and_self, Int.ofNat_eq_natCast, Int.tdiv_eq_ediv_of_nonneg, Int.tmod_eq_emod_of_nonneg, x_bm32]
          refine ⟨_, rfl, fun j i => by rw [e2 100 j (by simp), f100], by omega, mod σ2 _ hh2 g52 (fun L' Ym hm => ?_)⟩
          have eL : ∀ f, 0 ≤ f → f < w 0 → p_ed w f → L' f = σ2 30 0 f := fun f f0 f1' ed => plan_end hw hn hq f1.2.1 al (hm z2) gw (ge f ed) f1' ed
          refine ⟨?_, fun _ f f0 f1' ed => by rw [eL f f0 f1' ed]; exact lbd f f0 f1' ed⟩
          rw [if_neg z0]
          refine (maxE_cg (N := w 0) (fun f f0 f1' ed => ?_) _ (by omega)).symm
          show σ1 40 0 f - (if c = 2 then L' f else 0) = σ1 40 0 f - σ2 30 0 f
          rw [if_pos z2, eL f f0 f1' ed]
    · simp (disch := first | omega | (simp only [x_wtI, x_wtJ, x_wtR, x_wtN]; omega) | assumption | (simp (disch := omega) only [x_st_o, x_rd_ne]; first | assumption | omega) | (apply mir_eq; assumption; (intro c h1 h2; simp (disch := omega) only [x_st_o])) | (apply mis_eq; assumption; (intro c h1 h2; simp (disch := omega) only [x_st_o])) | rfl) only [bk_122_0, bk_122_1, bk_122_2, bk_122_3, bk_122_4, bk_122_5, wp_ald0, wr_0_9, wk_77, wp_ild1, wk_103, wp_ifeq, wp_geti kd_33, wp_ic, wp_iceq, wp_fall, wp_lc, wp_lret, wp_ifne, wk_123, wp_icne, wk_125, wp_goto, wk_126, x_clr_I, x_clr_J, x_clr_R, x_clr_U, ct_some, ct_none, lc_lt, lc_ge, lc_gt, lc_le, lc_eq, lc_r, xI_inj, xJ_inj, Option.some.injEq, eq_self, bi_r, bi_0, bi_1, bi_n, Classical.not_not, and_true, true_and, ite_true, ite_false, ↓reduceIte, ↓x_andl, z_le, z_nle, z_lt, z_nlt, z_eq, z_neq, if_pos, if_neg, x_andl, false_and, and_false, or_true, true_or, or_false, false_or, not_true, not_false_iff, x_rd_eq, x_rd_ne, x_st_o, Int.cast_ofNat_Int, Int.ofNat_zero, Int.ofNat_one, not_true_eq_false, not_false_eq_true, if_true, if_false, ite_self, and_self, Int.ofNat_eq_natCast, Int.tdiv_eq_ediv_of_nonneg, Int.tmod_eq_emod_of_nonneg, x_bm32, k_isMeasure, bi_t]
      refine ⟨(-9223372036854775808), rfl, fun j i => f100 j i, by omega, ?_⟩
      have gE := hh1.2.2.2.1.1
      simp (disch := first | omega | (simp only [x_wtI, x_wtJ, x_wtR, x_wtN]; omega) | assumption | (simp (disch := omega) only [x_st_o, x_rd_ne]; first | assumption | omega) | (apply mir_eq; assumption; (intro c h1 h2; simp (disch := omega) only [x_st_o])) | (apply mis_eq; assumption; (intro c h1 h2; simp (disch := omega) only [x_st_o])) | rfl) only [sp_225, bk_225_0, bk_225_1, bk_225_2, bk_225_3, bk_225_4, bk_225_5, bk_225_7, bk_225_8, bk_225_9, bk_225_10, bk_225_11, bk_225_12, wp_ild1, wk_194, wp_ifeq, wp_ald0, wk_224, wp_ic, wp_iceq, wp_fall, wp_lc, wp_lret, wp_icne, wk_196, wp_ifne, wp_goto, wp_lst2, wr_50_1, wl_51, wp_cald, wp_ist4, wp_ild4, wp_icge, wk_226, wp_lld2, wk_227, wr_50_27, wl_60, wl_64, wp_pald, wp_lmul, wp_ladd, wr_50_21, wp_lsub, wk_276, c_maxj, wp_inc4, x_clr_I, x_clr_J, x_clr_R, x_clr_U, ct_some, ct_none, lc_lt, lc_ge, lc_gt, lc_le, lc_eq, lc_r, xI_inj, xJ_inj, Option.some.injEq, eq_self, bi_r, bi_0, bi_1, bi_n, Classical.not_not, and_true, true_and, ite_true, ite_false, ↓reduceIte, ↓x_andl, z_le, z_nle, z_lt, z_nlt, z_eq, z_neq, if_pos, if_neg, x_andl, false_and, and_false, or_true, true_or, or_false, false_or, not_true, not_false_iff, x_rd_eq, x_rd_ne, x_st_o, Int.cast_ofNat_Int, Int.ofNat_zero, Int.ofNat_one, not_true_eq_false, not_false_eq_true, if_true, if_false, ite_self, and_self, Int.ofNat_eq_natCast, Int.tdiv_eq_ediv_of_nonneg, Int.tmod_eq_emod_of_nonneg, x_bm32, k_isCount, bi_t]
      refine x_use (d := 993) (h_stops g51 gE hw hn hq) ?_
      rintro r σ2 ⟨s, rfl, e2, k2, s2, sb⟩
      have u := wk_uniq hw hn.1 (Int.le_refl _) f1.2.1 k2
      have s0 : s = σ1 33 0 10 := stm_uniq s2 (stm_cg (fun f f0 f1 => ⟨(u f f0 f1).1.symm, (u f f0 f1).2.1.symm⟩) f1.2.2.2.1)
      simp (disch := first | omega | (simp only [x_wtI, x_wtJ, x_wtR, x_wtN]; omega) | assumption | (simp (disch := omega) only [x_st_o, x_rd_ne]; first | assumption | omega) | (apply mir_eq; assumption; (intro c h1 h2; simp (disch := omega) only [x_st_o])) | (apply mis_eq; assumption; (intro c h1 h2; simp (disch := omega) only [x_st_o])) | rfl) only [bk_225_0, bk_225_1, bk_225_2, bk_225_3, bk_225_4, bk_225_5, bk_225_7, bk_225_8, bk_225_9, bk_225_10, bk_225_11, bk_225_12, wp_ild1, wk_194, wp_ifeq, wp_ald0, wk_224, wp_ic, wp_iceq, wp_fall, wp_lc, wp_lret, wp_icne, wk_196, wp_ifne, wp_goto, wp_lst2, wr_50_1, wl_51, wp_cald, wp_ist4, wp_ild4, wp_icge, wk_226, wp_lld2, wk_227, wr_50_27, wl_60, wl_64, wp_pald, wp_lmul, wp_ladd, wr_50_21, wp_lsub, wk_276, c_maxj, wp_inc4, x_clr_I, x_clr_J, x_clr_R, x_clr_U, ct_some, ct_none, lc_lt, lc_ge, lc_gt, lc_le, lc_eq, lc_r, xI_inj, xJ_inj, Option.some.injEq, eq_self, bi_r, bi_0, bi_1, bi_n, Classical.not_not, and_true, true_and, ite_true, ite_false, ↓reduceIte, ↓x_andl, z_le, z_nle, z_lt, z_nlt, z_eq, z_neq, if_pos, if_neg, x_andl, false_and, and_false, or_true, true_or, or_false, false_or, not_true, not_false_iff, x_rd_eq, x_rd_ne, x_st_o, Int.cast_ofNat_Int, Int.ofNat_zero, Int.ofNat_one, not_true_eq_false, not_false_eq_true, if_true, if_false, ite_self, and_self, Int.ofNat_eq_natCast, Int.tdiv_eq_ediv_of_nonneg, Int.tmod_eq_emod_of_nonneg, x_bm32]
      exact iN_e hh1 e2 (by decide)
  · simp (disch := first | omega | (simp only [x_wtI, x_wtJ, x_wtR, x_wtN]; omega) | assumption | (simp (disch := omega) only [x_st_o, x_rd_ne]; first | assumption | omega) | (apply mir_eq; assumption; (intro c h1 h2; simp (disch := omega) only [x_st_o])) | (apply mis_eq; assumption; (intro c h1 h2; simp (disch := omega) only [x_st_o])) | rfl) only [bk_122_0, bk_122_1, bk_122_2, bk_122_3, bk_122_4, bk_122_5, wp_ald0, wr_0_9, wk_77, wp_ild1, wk_103, wp_ifeq, wp_geti kd_33, wp_ic, wp_iceq, wp_fall, wp_lc, wp_lret, wp_ifne, wk_123, wp_icne, wk_125, wp_goto, wk_126, x_clr_I, x_clr_J, x_clr_R, x_clr_U, ct_some, ct_none, lc_lt, lc_ge, lc_gt, lc_le, lc_eq, lc_r, xI_inj, xJ_inj, Option.some.injEq, eq_self, bi_r, bi_0, bi_1, bi_n, Classical.not_not, and_true, true_and, ite_true, ite_false, ↓reduceIte, ↓x_andl, z_le, z_nle, z_lt, z_nlt, z_eq, z_neq, if_pos, if_neg, x_andl, false_and, and_false, or_true, true_or, or_false, false_or, not_true, not_false_iff, x_rd_eq, x_rd_ne, x_st_o, Int.cast_ofNat_Int, Int.ofNat_zero, Int.ofNat_one, not_true_eq_false, not_false_eq_true, if_true, if_false, ite_self, and_self, Int.ofNat_eq_natCast, Int.tdiv_eq_ediv_of_nonneg, Int.tmod_eq_emod_of_nonneg, x_bm32, k_isMeasure, bi_f]
    refine ⟨(-9223372036854775808), rfl, fun j i => f100 j i, by omega, ?_⟩
    simp (disch := first | omega | (simp only [x_wtI, x_wtJ, x_wtR, x_wtN]; omega) | assumption | (simp (disch := omega) only [x_st_o, x_rd_ne]; first | assumption | omega) | (apply mir_eq; assumption; (intro c h1 h2; simp (disch := omega) only [x_st_o])) | (apply mis_eq; assumption; (intro c h1 h2; simp (disch := omega) only [x_st_o])) | rfl) only [sp_225, bk_225_0, bk_225_1, bk_225_2, bk_225_3, bk_225_4, bk_225_5, bk_225_7, bk_225_8, bk_225_9, bk_225_10, bk_225_11, bk_225_12, wp_ild1, wk_194, wp_ifeq, wp_ald0, wk_224, wp_ic, wp_iceq, wp_fall, wp_lc, wp_lret, wp_icne, wk_196, wp_ifne, wp_goto, wp_lst2, wr_50_1, wl_51, wp_cald, wp_ist4, wp_ild4, wp_icge, wk_226, wp_lld2, wk_227, wr_50_27, wl_60, wl_64, wp_pald, wp_lmul, wp_ladd, wr_50_21, wp_lsub, wk_276, c_maxj, wp_inc4, x_clr_I, x_clr_J, x_clr_R, x_clr_U, ct_some, ct_none, lc_lt, lc_ge, lc_gt, lc_le, lc_eq, lc_r, xI_inj, xJ_inj, Option.some.injEq, eq_self, bi_r, bi_0, bi_1, bi_n, Classical.not_not, and_true, true_and, ite_true, ite_false, ↓reduceIte, ↓x_andl, z_le, z_nle, z_lt, z_nlt, z_eq, z_neq, if_pos, if_neg, x_andl, false_and, and_false, or_true, true_or, or_false, false_or, not_true, not_false_iff, x_rd_eq, x_rd_ne, x_st_o, Int.cast_ofNat_Int, Int.ofNat_zero, Int.ofNat_one, not_true_eq_false, not_false_eq_true, if_true, if_false, ite_self, and_self, Int.ofNat_eq_natCast, Int.tdiv_eq_ediv_of_nonneg, Int.tmod_eq_emod_of_nonneg, x_bm32, k_isCount, bi_f]
    exact hh1
end OCO

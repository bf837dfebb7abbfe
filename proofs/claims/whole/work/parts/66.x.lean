theorem iN_tap {L : Int} {S0 : Int → Int} {σ σ' : x_S} (h : iN L S0 σ) (e : x_eqo [(3, 0), (4, 0), (50, 0), (54, 0), (55, 0)] σ σ') (em : ∀ k, k = 17 ∨ k = 18 ∨ k = 19 ∨ k = 33 → σ' 50 0 k = σ 50 0 k) (hR : iR σ') : iN L S0 σ' := by
  obtain ⟨hW, hT, hF, hM, hS, _, hI, hX⟩ := h
  have n51 := e 51 0 (by decide)
  have n0 := e 0 0 (by decide)
  exact ⟨iW_eq hW n51 (fun c a b => e c 1 (by simp)), iT_eq hT n51 (fun k _ _ => by rw [n0]) (e 25 0 (by decide)) (e 25 1 (by decide)) (e 25 2 (by decide)) (e 26 2 (by decide)) (e 30 0 (by decide)) (e 31 0 (by decide)), iF_eq hF (fun j k _ _ _ => by rw [e 24 j (by simp)]), iM_eq hM (em 17 (by omega)) (em 18 (by omega)) (em 19 (by omega)) (em 33 (by omega)) (by rw [n0]), iS_eq hS (fun c q => by rcases q with rfl | rfl | rfl | rfl | rfl | rfl <;> exact e _ 0 (by decide)), hR, iI_eq hI (e 52 0 (by decide)) (e 53 0 (by decide)) (fun c j a b q1 q2 => e c j (by simp; omega)), iX_eq hX (fun j => e 100 j (by simp))⟩
theorem bm_by {v : Int} : -128 ≤ v.bmod 256 ∧ v.bmod 256 < 128 := by
  have := bm_256 (v := v)
  omega
theorem h_append {σ : x_S} {n a : Int} (hs : σ 3 0 1 = n) (hn : 0 ≤ n ∧ n + 4 ≤ 1800) : x_Sp 1 26 [xR 3 0, xI a] σ (fun r σ' => r = none ∧ x_eqo [(3, 0), (4, 0)] σ σ' ∧ σ' 3 0 1 = n + 4 ∧ (∀ k, ¬ k = 1 → σ' 3 0 k = σ 3 0 k) ∧ (∀ z, ¬ (n ≤ z ∧ z < n + 4) → σ' 4 0 z = σ 4 0 z) ∧ ∀ q, 0 ≤ q → q < 4 → σ' 4 0 (n + q) = (x_shr a (24 - 8 * q)).bmod 256) := by
  have b0 := bm_by (v := x_shr a 24)
  have b1 := bm_by (v := x_shr a 16)
  have b2 := bm_by (v := x_shr a 8)
  have b3 := bm_by (v := x_shr a 0)
  refine x_gen (fun Q hQ => ?_)
  simp (disch := first | omega | (simp only [x_wtI, x_wtJ, x_wtR, x_wtN]; omega) | assumption | (simp (disch := omega) only [x_st_o, x_rd_ne]; first | assumption | omega) | (refine mir_eq ?_ ?_; assumption; (intro c h1 h2; simp (disch := omega) only [x_st_o])) | (refine mis_eq ?_ ?_; assumption; (intro c h1 h2; simp (disch := omega) only [x_st_o])) | rfl) only [sp_26, bk_26_0, bk_26_1, bk_26_2, wp_ic, wp_ist2, wp_fall, wp_ild2, wp_iflt, wp_ald0, wp_geti kd_3, wp_icge, wr_3_4, wp_ild1, wp_ishr, wp_i2b, ws_4, wp_dupi, wp_dupr, wp_iadd, wp_puti kd_3, wp_inc2, wp_goto, wp_ret, x_clr_I, x_clr_J, x_clr_R, x_clr_U, ct_some, ct_none, lc_lt, lc_ge, lc_gt, lc_le, lc_eq, lc_r, xI_inj, xJ_inj, Option.some.injEq, eq_self, bi_r, bi_0, bi_1, bi_n, Classical.not_not, and_true, true_and, ite_true, ite_false, ↓reduceIte, ↓x_andl, z_le, z_nle, z_lt, z_nlt, z_eq, z_neq, if_pos, if_neg, x_andl, false_and, and_false, or_true, true_or, or_false, false_or, not_true, not_false_iff, x_rd_eq, x_rd_ne, x_st_o, Int.cast_ofNat_Int, Int.ofNat_zero, Int.ofNat_one, not_true_eq_false, not_false_eq_true, if_true, if_false, ite_self, and_self, Int.ofNat_eq_natCast, Int.tdiv_eq_ediv_of_nonneg, Int.tmod_eq_emod_of_nonneg, x_bm32, hs, Int.reduceAdd, Int.reduceNeg]
  refine hQ _ _ ⟨rfl, ?_, ?_, ?_, ?_, ?_⟩
  · repeat (first | exact eqo_refl | refine eqo_st (by simp) ?_)
  · simp (disch := omega) only [x_st_o, x_rd_ne, x_rd_eq, s_fl_o, s_fl_in, s_fl_out, x_cp_o, x_cp_in, x_cp_out]
    omega
  · intro k hk
    simp (disch := omega) only [x_st_o, x_rd_ne, x_rd_eq, s_fl_o, s_fl_in, s_fl_out, x_cp_o, x_cp_in, x_cp_out]
  · intro z hz
    simp (disch := omega) only [x_st_o, x_rd_ne, x_rd_eq, s_fl_o, s_fl_in, s_fl_out, x_cp_o, x_cp_in, x_cp_out]
  · intro q q0 q1
    have : q = 0 ∨ q = 1 ∨ q = 2 ∨ q = 3 := by omega
    rcases this with rfl | rfl | rfl | rfl
    · rw [Int.add_zero]
      simp (disch := omega) only [x_st_o, x_rd_ne, x_rd_eq, s_fl_o, s_fl_in, s_fl_out, x_cp_o, x_cp_in, x_cp_out]
      rfl
    · simp (disch := omega) only [x_st_o, x_rd_ne, x_rd_eq, s_fl_o, s_fl_in, s_fl_out, x_cp_o, x_cp_in, x_cp_out]
      rfl
    · rw [show n + 2 = n + 1 + 1 by omega]
      simp (disch := omega) only [x_st_o, x_rd_ne, x_rd_eq, s_fl_o, s_fl_in, s_fl_out, x_cp_o, x_cp_in, x_cp_out]
      rfl
    · rw [show n + 3 = n + 1 + 1 + 1 by omega]
      simp (disch := omega) only [x_st_o, x_rd_ne, x_rd_eq, s_fl_o, s_fl_in, s_fl_out, x_cp_o, x_cp_in, x_cp_out]
      rfl
section O7
variable {L : Int} {S0 : Int → Int}
theorem o_feed : x_o2 (iN L S0) := by
  intro σ hh a0 a1 a2 a3 a4 h0 h1 h2 h3 h4
  refine ag_I ?_
  have hR := hh.2.2.2.2.2.1
  have r1 := hR.1.1
  have r2 := hR.1.2
  by_cases c : σ 50 0 5 + 20 ≤ 1800
  · simp (disch := first | omega | (simp only [x_wtI, x_wtJ, x_wtR, x_wtN]; omega) | assumption | (simp (disch := omega) only [x_st_o, x_rd_ne]; first | assumption | omega) | (refine mir_eq ?_ ?_; assumption; (intro c h1 h2; simp (disch := omega) only [x_st_o])) | (refine mis_eq ?_ ?_; assumption; (intro c h1 h2; simp (disch := omega) only [x_st_o])) | rfl) only [sp_94, bk_94_0, bk_94_1, wp_ald0, wr_0_0, wk_25, wp_ifne, wp_ic, wp_iret mz_94, wp_ild1, wk_26, wp_ild2, wp_ild3, wp_ild4, wp_ild5, wp_geti kd_3, sp_25, bk_25_0, bk_25_1, bk_25_2, wp_iadd, wp_icgt, wp_goto, wp_fall, wp_zret0 mz_25, wp_zret1 mz_25, wp_zretb mz_25, wp_zret mz_25, x_clr_I, x_clr_J, x_clr_R, x_clr_U, ct_some, ct_none, lc_lt, lc_ge, lc_gt, lc_le, lc_eq, lc_r, xI_inj, xJ_inj, Option.some.injEq, eq_self, bi_r, bi_0, bi_1, bi_n, Classical.not_not, and_true, true_and, ite_true, ite_false, ↓reduceIte, ↓x_andl, z_le, z_nle, z_lt, z_nlt, z_eq, z_neq, if_pos, if_neg, x_andl, false_and, and_false, or_true, true_or, or_false, false_or, not_true, not_false_iff, x_rd_eq, x_rd_ne, x_st_o, Int.cast_ofNat_Int, Int.ofNat_zero, Int.ofNat_one, not_true_eq_false, not_false_eq_true, if_true, if_false, ite_self, and_self, Int.ofNat_eq_natCast, Int.tdiv_eq_ediv_of_nonneg, Int.tmod_eq_emod_of_nonneg, x_bm32, r1]
    refine x_use (d := 997) (h_append (n := σ 50 0 5) r1 (by omega)) ?_
    rintro r s1 ⟨rfl, e1, n1, k1, z1, q1⟩
    simp (disch := first | omega | (simp only [x_wtI, x_wtJ, x_wtR, x_wtN]; omega) | assumption | (simp (disch := omega) only [x_st_o, x_rd_ne]; first | assumption | omega) | (refine mir_eq ?_ ?_; assumption; (intro c h1 h2; simp (disch := omega) only [x_st_o])) | (refine mis_eq ?_ ?_; assumption; (intro c h1 h2; simp (disch := omega) only [x_st_o])) | rfl) only [bk_94_0, bk_94_1, wp_ald0, wr_0_0, wk_25, wp_ifne, wp_ic, wp_iret mz_94, wp_ild1, wk_26, wp_ild2, wp_ild3, wp_ild4, wp_ild5, wp_geti kd_3, x_clr_I, x_clr_J, x_clr_R, x_clr_U, ct_some, ct_none, lc_lt, lc_ge, lc_gt, lc_le, lc_eq, lc_r, xI_inj, xJ_inj, Option.some.injEq, eq_self, bi_r, bi_0, bi_1, bi_n, Classical.not_not, and_true, true_and, ite_true, ite_false, ↓reduceIte, ↓x_andl, z_le, z_nle, z_lt, z_nlt, z_eq, z_neq, if_pos, if_neg, x_andl, false_and, and_false, or_true, true_or, or_false, false_or, not_true, not_false_iff, x_rd_eq, x_rd_ne, x_st_o, Int.cast_ofNat_Int, Int.ofNat_zero, Int.ofNat_one, not_true_eq_false, not_false_eq_true, if_true, if_false, ite_self, and_self, Int.ofNat_eq_natCast, Int.tdiv_eq_ediv_of_nonneg, Int.tmod_eq_emod_of_nonneg, x_bm32]
    refine x_use (d := 997) (h_append (n := σ 50 0 5 + 4) n1 (by omega)) ?_
    rintro r s2 ⟨rfl, e2, n2, k2, z2, q2⟩
    simp (disch := first | omega | (simp only [x_wtI, x_wtJ, x_wtR, x_wtN]; omega) | assumption | (simp (disch := omega) only [x_st_o, x_rd_ne]; first | assumption | omega) | (refine mir_eq ?_ ?_; assumption; (intro c h1 h2; simp (disch := omega) only [x_st_o])) | (refine mis_eq ?_ ?_; assumption; (intro c h1 h2; simp (disch := omega) only [x_st_o])) | rfl) only [bk_94_0, bk_94_1, wp_ald0, wr_0_0, wk_25, wp_ifne, wp_ic, wp_iret mz_94, wp_ild1, wk_26, wp_ild2, wp_ild3, wp_ild4, wp_ild5, wp_geti kd_3, x_clr_I, x_clr_J, x_clr_R, x_clr_U, ct_some, ct_none, lc_lt, lc_ge, lc_gt, lc_le, lc_eq, lc_r, xI_inj, xJ_inj, Option.some.injEq, eq_self, bi_r, bi_0, bi_1, bi_n, Classical.not_not, and_true, true_and, ite_true, ite_false, ↓reduceIte, ↓x_andl, z_le, z_nle, z_lt, z_nlt, z_eq, z_neq, if_pos, if_neg, x_andl, false_and, and_false, or_true, true_or, or_false, false_or, not_true, not_false_iff, x_rd_eq, x_rd_ne, x_st_o, Int.cast_ofNat_Int, Int.ofNat_zero, Int.ofNat_one, not_true_eq_false, not_false_eq_true, if_true, if_false, ite_self, and_self, Int.ofNat_eq_natCast, Int.tdiv_eq_ediv_of_nonneg, Int.tmod_eq_emod_of_nonneg, x_bm32]
    refine x_use (d := 997) (h_append (n := σ 50 0 5 + 8) (by omega) (by omega)) ?_
    rintro r s3 ⟨rfl, e3, n3, k3, z3, q3⟩
    simp (disch := first | omega | (simp only [x_wtI, x_wtJ, x_wtR, x_wtN]; omega) | assumption | (simp (disch := omega) only [x_st_o, x_rd_ne]; first | assumption | omega) | (refine mir_eq ?_ ?_; assumption; (intro c h1 h2; simp (disch := omega) only [x_st_o])) | (refine mis_eq ?_ ?_; assumption; (intro c h1 h2; simp (disch := omega) only [x_st_o])) | rfl) only [bk_94_0, bk_94_1, wp_ald0, wr_0_0, wk_25, wp_ifne, wp_ic, wp_iret mz_94, wp_ild1, wk_26, wp_ild2, wp_ild3, wp_ild4, wp_ild5, wp_geti kd_3, x_clr_I, x_clr_J, x_clr_R, x_clr_U, ct_some, ct_none, lc_lt, lc_ge, lc_gt, lc_le, lc_eq, lc_r, xI_inj, xJ_inj, Option.some.injEq, eq_self, bi_r, bi_0, bi_1, bi_n, Classical.not_not, and_true, true_and, ite_true, ite_false, ↓reduceIte, ↓x_andl, z_le, z_nle, z_lt, z_nlt, z_eq, z_neq, if_pos, if_neg, x_andl, false_and, and_false, or_true, true_or, or_false, false_or, not_true, not_false_iff, x_rd_eq, x_rd_ne, x_st_o, Int.cast_ofNat_Int, Int.ofNat_zero, Int.ofNat_one, not_true_eq_false, not_false_eq_true, if_true, if_false, ite_self, and_self, Int.ofNat_eq_natCast, Int.tdiv_eq_ediv_of_nonneg, Int.tmod_eq_emod_of_nonneg, x_bm32]
    refine x_use (d := 997) (h_append (n := σ 50 0 5 + 12) (by omega) (by omega)) ?_
    rintro r s4 ⟨rfl, e4, n4, k4, z4, q4⟩
    simp (disch := first | omega | (simp only [x_wtI, x_wtJ, x_wtR, x_wtN]; omega) | assumption | (simp (disch := omega) only [x_st_o, x_rd_ne]; first | assumption | omega) | (refine mir_eq ?_ ?_; assumption; (intro c h1 h2; simp (disch := omega) only [x_st_o])) | (refine mis_eq ?_ ?_; assumption; (intro c h1 h2; simp (disch := omega) only [x_st_o])) | rfl) only [bk_94_0, bk_94_1, wp_ald0, wr_0_0, wk_25, wp_ifne, wp_ic, wp_iret mz_94, wp_ild1, wk_26, wp_ild2, wp_ild3, wp_ild4, wp_ild5, wp_geti kd_3, x_clr_I, x_clr_J, x_clr_R, x_clr_U, ct_some, ct_none, lc_lt, lc_ge, lc_gt, lc_le, lc_eq, lc_r, xI_inj, xJ_inj, Option.some.injEq, eq_self, bi_r, bi_0, bi_1, bi_n, Classical.not_not, and_true, true_and, ite_true, ite_false, ↓reduceIte, ↓x_andl, z_le, z_nle, z_lt, z_nlt, z_eq, z_neq, if_pos, if_neg, x_andl, false_and, and_false, or_true, true_or, or_false, false_or, not_true, not_false_iff, x_rd_eq, x_rd_ne, x_st_o, Int.cast_ofNat_Int, Int.ofNat_zero, Int.ofNat_one, not_true_eq_false, not_false_eq_true, if_true, if_false, ite_self, and_self, Int.ofNat_eq_natCast, Int.tdiv_eq_ediv_of_nonneg, Int.tmod_eq_emod_of_nonneg, x_bm32]
    refine x_use (d := 997) (h_append (n := σ 50 0 5 + 16) (by omega) (by omega)) ?_
    rintro r s5 ⟨rfl, e5, n5, k5, z5, q5⟩
    simp (disch := first | omega | (simp only [x_wtI, x_wtJ, x_wtR, x_wtN]; omega) | assumption | (simp (disch := omega) only [x_st_o, x_rd_ne]; first | assumption | omega) | (refine mir_eq ?_ ?_; assumption; (intro c h1 h2; simp (disch := omega) only [x_st_o])) | (refine mis_eq ?_ ?_; assumption; (intro c h1 h2; simp (disch := omega) only [x_st_o])) | rfl) only [bk_94_0, bk_94_1, wp_ald0, wr_0_0, wk_25, wp_ifne, wp_ic, wp_iret mz_94, wp_ild1, wk_26, wp_ild2, wp_ild3, wp_ild4, wp_ild5, wp_geti kd_3, x_clr_I, x_clr_J, x_clr_R, x_clr_U, ct_some, ct_none, lc_lt, lc_ge, lc_gt, lc_le, lc_eq, lc_r, xI_inj, xJ_inj, Option.some.injEq, eq_self, bi_r, bi_0, bi_1, bi_n, Classical.not_not, and_true, true_and, ite_true, ite_false, ↓reduceIte, ↓x_andl, z_le, z_nle, z_lt, z_nlt, z_eq, z_neq, if_pos, if_neg, x_andl, false_and, and_false, or_true, true_or, or_false, false_or, not_true, not_false_iff, x_rd_eq, x_rd_ne, x_st_o, Int.cast_ofNat_Int, Int.ofNat_zero, Int.ofNat_one, not_true_eq_false, not_false_eq_true, if_true, if_false, ite_self, and_self, Int.ofNat_eq_natCast, Int.tdiv_eq_ediv_of_nonneg, Int.tmod_eq_emod_of_nonneg, x_bm32]
    have e : x_eqo [(3, 0), (4, 0)] σ s5 := eqo_trans e1 (eqo_trans e2 (eqo_trans e3 (eqo_trans e4 e5)))
    refine ⟨s5 3 0 1, rfl, ?_, ?_⟩
    · intro j i
      rw [e 100 j (by simp)]
    · have f50 : s5 50 0 = σ 50 0 := e 50 0 (by decide)
      have f54 : s5 54 0 = σ 54 0 := e 54 0 (by decide)
      have m5 : s5 3 0 1 = σ 50 0 5 + 20 := by omega
      rw [m5]
      have old : ∀ z, ¬ (σ 50 0 5 ≤ z ∧ z < σ 50 0 5 + 20) → s5 4 0 z = σ 4 0 z := by
        intro z hz
        rw [z5 z (by omega), z4 z (by omega), z3 z (by omega), z2 z (by omega), z1 z (by omega)]
      have g0 : ∀ q, 0 ≤ q → q < 4 → s5 4 0 (σ 50 0 5 + q) = (x_shr a0 (24 - 8 * q)).bmod 256 := by
        intro q p0 p1
        rw [z5 _ (by omega), z4 _ (by omega), z3 _ (by omega), z2 _ (by omega), q1 q p0 p1]
      have g1 : ∀ q, 0 ≤ q → q < 4 → s5 4 0 (σ 50 0 5 + 4 + q) = (x_shr a1 (24 - 8 * q)).bmod 256 := by
        intro q p0 p1
        rw [z5 _ (by omega), z4 _ (by omega), z3 _ (by omega), q2 q p0 p1]
      have g2 : ∀ q, 0 ≤ q → q < 4 → s5 4 0 (σ 50 0 5 + 8 + q) = (x_shr a2 (24 - 8 * q)).bmod 256 := by
        intro q p0 p1
        rw [z5 _ (by omega), z4 _ (by omega), q3 q p0 p1]
      have g3 : ∀ q, 0 ≤ q → q < 4 → s5 4 0 (σ 50 0 5 + 12 + q) = (x_shr a3 (24 - 8 * q)).bmod 256 := by
        intro q p0 p1
        rw [z5 _ (by omega), q4 q p0 p1]
      have k5' : ∀ k, ¬ k = 1 → s5 3 0 k = σ 3 0 k := by
        intro k hk
        rw [k5 k hk, k4 k hk, k3 k hk, k2 k hk, k1 k hk]
      clear z1 z2 z3 z4 z5 q1 q2 q3 q4 k1 k2 k3 k4 k5 e1 e2 e3 e4 e5 n1 n2 n3 n4
      simp (disch := first | omega | (simp only [x_wtI, x_wtJ, x_wtR, x_wtN]; omega) | assumption | (simp (disch := omega) only [x_st_o, x_rd_ne]; first | assumption | omega) | (refine mir_eq ?_ ?_; assumption; (intro c h1 h2; simp (disch := omega) only [x_st_o])) | (refine mis_eq ?_ ?_; assumption; (intro c h1 h2; simp (disch := omega) only [x_st_o])) | rfl) only [sp_171, bk_171_0, bk_171_1, bk_171_3, wp_ald0, wp_geti kd_50, wp_ic, wp_iadd, wp_icle, wp_iret mz_171, wr_50_6, wp_ild1, ws_55, wp_ild2, wp_ild3, wp_ild4, wp_ild5, wp_ist6, wp_fall, wp_ild6, wp_icge, wr_50_4, wp_idiv, wl_55, wp_cald, wp_irem, wp_imul, wp_isub, wp_ishr, wp_i2b, ws_54, wp_inc6, wp_goto, wp_dupi, wp_dupr, wp_puti kd_50, x_clr_I, x_clr_J, x_clr_R, x_clr_U, ct_some, ct_none, lc_lt, lc_ge, lc_gt, lc_le, lc_eq, lc_r, xI_inj, xJ_inj, Option.some.injEq, eq_self, bi_r, bi_0, bi_1, bi_n, Classical.not_not, and_true, true_and, ite_true, ite_false, ↓reduceIte, ↓x_andl, z_le, z_nle, z_lt, z_nlt, z_eq, z_neq, if_pos, if_neg, x_andl, false_and, and_false, or_true, true_or, or_false, false_or, not_true, not_false_iff, x_rd_eq, x_rd_ne, x_st_o, Int.cast_ofNat_Int, Int.ofNat_zero, Int.ofNat_one, not_true_eq_false, not_false_eq_true, if_true, if_false, ite_self, and_self, Int.ofNat_eq_natCast, Int.tdiv_eq_ediv_of_nonneg, Int.tmod_eq_emod_of_nonneg, x_bm32, f50]
      generalize hm : x_st (x_st (x_st (x_st (x_st s5 55 0 0 a0) 55 0 1 a1) 55 0 2 a2) 55 0 3 a3) 55 0 4 a4 = sm
      have em : x_eqo [(55, 0)] s5 sm := by
        subst hm
        repeat (first | exact eqo_refl | refine eqo_st (by simp) ?_)
      have v0 : sm 55 0 0 = a0 := by subst hm; simp (disch := omega) only [x_st_o, x_rd_ne, x_rd_eq, s_fl_o, s_fl_in, s_fl_out, x_cp_o, x_cp_in, x_cp_out]
      have v1 : sm 55 0 1 = a1 := by subst hm; simp (disch := omega) only [x_st_o, x_rd_ne, x_rd_eq, s_fl_o, s_fl_in, s_fl_out, x_cp_o, x_cp_in, x_cp_out]
      have v2 : sm 55 0 2 = a2 := by subst hm; simp (disch := omega) only [x_st_o, x_rd_ne, x_rd_eq, s_fl_o, s_fl_in, s_fl_out, x_cp_o, x_cp_in, x_cp_out]
      have v3 : sm 55 0 3 = a3 := by subst hm; simp (disch := omega) only [x_st_o, x_rd_ne, x_rd_eq, s_fl_o, s_fl_in, s_fl_out, x_cp_o, x_cp_in, x_cp_out]
      have v4 : sm 55 0 4 = a4 := by subst hm; simp (disch := omega) only [x_st_o, x_rd_ne, x_rd_eq, s_fl_o, s_fl_in, s_fl_out, x_cp_o, x_cp_in, x_cp_out]
      have p50 : sm 50 0 = σ 50 0 := (em 50 0 (by decide)).trans f50
      have p54 : sm 54 0 = σ 54 0 := (em 54 0 (by decide)).trans f54
      refine x_lpJ (α := x_S) (fun i σi => x_eqo [(54, 0)] sm σi ∧ (∀ z, ¬ (σ 50 0 5 ≤ z ∧ z < σ 50 0 5 + i) → σi 54 0 z = σ 54 0 z) ∧ ∀ q, 0 ≤ q → q < i → σi 54 0 (σ 50 0 5 + q) = (x_shr (sm 55 0 (q / 4)) (24 - 8 * (q % 4))).bmod 256) (fun i σi => x_Wp 999 171 (x_blk 171 2) [xR 50 0, xI a0, xI a1, xI a2, xI a3, xI a4, xI i] [] σi _) (lo := 0) (hi := 20) (by omega) (a0 := sm) ⟨eqo_refl, fun z _ => by rw [p54], fun q a b => by omega⟩ ?_ ?_
      · intro i σi i0 i1 ⟨j1, j2, j3⟩
        have o50 : σi 50 0 = σ 50 0 := (j1 50 0 (by decide)).trans p50
        have o55 : σi 55 0 = sm 55 0 := j1 55 0 (by decide)
        have bb := bm_by (v := x_shr (sm 55 0 (i / 4)) (24 - 8 * (i % 4)))
        refine ⟨x_st σi 54 0 (σ 50 0 5 + i) ((x_shr (sm 55 0 (i / 4)) (24 - 8 * (i % 4))).bmod 256), ⟨eqo_st (by decide) j1, ?_, ?_⟩, ?_⟩
        · intro z hz
          rw [x_rd_ne (by omega)]
          exact j2 z (by omega)
        · intro q q0 q1
          by_cases cq : q = i
          · subst cq
            rw [x_rd_eq]
          · rw [x_rd_ne (by omega)]
            exact j3 q q0 (by omega)
        · intro H
          rw [bk_171_2]
          simp (disch := first | omega | (simp only [x_wtI, x_wtJ, x_wtR, x_wtN]; omega) | assumption | (simp (disch := omega) only [x_st_o, x_rd_ne]; first | assumption | omega) | (refine mir_eq ?_ ?_; assumption; (intro c h1 h2; simp (disch := omega) only [x_st_o])) | (refine mis_eq ?_ ?_; assumption; (intro c h1 h2; simp (disch := omega) only [x_st_o])) | rfl) only [bk_171_0, bk_171_1, bk_171_3, wp_ald0, wp_geti kd_50, wp_ic, wp_iadd, wp_icle, wp_iret mz_171, wr_50_6, wp_ild1, ws_55, wp_ild2, wp_ild3, wp_ild4, wp_ild5, wp_ist6, wp_fall, wp_ild6, wp_icge, wr_50_4, wp_idiv, wl_55, wp_cald, wp_irem, wp_imul, wp_isub, wp_ishr, wp_i2b, ws_54, wp_inc6, wp_goto, wp_dupi, wp_dupr, wp_puti kd_50, x_clr_I, x_clr_J, x_clr_R, x_clr_U, ct_some, ct_none, lc_lt, lc_ge, lc_gt, lc_le, lc_eq, lc_r, xI_inj, xJ_inj, Option.some.injEq, eq_self, bi_r, bi_0, bi_1, bi_n, Classical.not_not, and_true, true_and, ite_true, ite_false, ↓reduceIte, ↓x_andl, z_le, z_nle, z_lt, z_nlt, z_eq, z_neq, if_pos, if_neg, x_andl, false_and, and_false, or_true, true_or, or_false, false_or, not_true, not_false_iff, x_rd_eq, x_rd_ne, x_st_o, Int.cast_ofNat_Int, Int.ofNat_zero, Int.ofNat_one, not_true_eq_false, not_false_eq_true, if_true, if_false, ite_self, and_self, Int.ofNat_eq_natCast, Int.tdiv_eq_ediv_of_nonneg, Int.tmod_eq_emod_of_nonneg, x_bm32, o50, o55]
          exact H
      · intro σi ⟨j1, j2, j3⟩
        have o50 : σi 50 0 = σ 50 0 := (j1 50 0 (by decide)).trans p50
        rw [bk_171_2]
        simp (disch := first | omega | (simp only [x_wtI, x_wtJ, x_wtR, x_wtN]; omega) | assumption | (simp (disch := omega) only [x_st_o, x_rd_ne]; first | assumption | omega) | (refine mir_eq ?_ ?_; assumption; (intro c h1 h2; simp (disch := omega) only [x_st_o])) | (refine mis_eq ?_ ?_; assumption; (intro c h1 h2; simp (disch := omega) only [x_st_o])) | rfl) only [bk_171_0, bk_171_1, bk_171_3, wp_ald0, wp_geti kd_50, wp_ic, wp_iadd, wp_icle, wp_iret mz_171, wr_50_6, wp_ild1, ws_55, wp_ild2, wp_ild3, wp_ild4, wp_ild5, wp_ist6, wp_fall, wp_ild6, wp_icge, wr_50_4, wp_idiv, wl_55, wp_cald, wp_irem, wp_imul, wp_isub, wp_ishr, wp_i2b, ws_54, wp_inc6, wp_goto, wp_dupi, wp_dupr, wp_puti kd_50, x_clr_I, x_clr_J, x_clr_R, x_clr_U, ct_some, ct_none, lc_lt, lc_ge, lc_gt, lc_le, lc_eq, lc_r, xI_inj, xJ_inj, Option.some.injEq, eq_self, bi_r, bi_0, bi_1, bi_n, Classical.not_not, and_true, true_and, ite_true, ite_false, ↓reduceIte, ↓x_andl, z_le, z_nle, z_lt, z_nlt, z_eq, z_neq, if_pos, if_neg, x_andl, false_and, and_false, or_true, true_or, or_false, false_or, not_true, not_false_iff, x_rd_eq, x_rd_ne, x_st_o, Int.cast_ofNat_Int, Int.ofNat_zero, Int.ofNat_one, not_true_eq_false, not_false_eq_true, if_true, if_false, ite_self, and_self, Int.ofNat_eq_natCast, Int.tdiv_eq_ediv_of_nonneg, Int.tmod_eq_emod_of_nonneg, x_bm32, o50]
        have es : x_eqo [(3, 0), (4, 0), (50, 0), (54, 0), (55, 0)] σ (x_st σi 50 0 5 (σ 50 0 5 + 20)) := eqo_st (by simp) (eqo_trans (eqo_mono (by simp) e) (eqo_trans (eqo_mono (by simp) em) (eqo_mono (by simp) j1)))
        have o3 : σi 3 0 = s5 3 0 := (j1 3 0 (by decide)).trans (em 3 0 (by decide))
        have o4 : σi 4 0 = s5 4 0 := (j1 4 0 (by decide)).trans (em 4 0 (by decide))
        refine iN_tap hh es ?_ ?_
        · intro k hk
          rw [x_rd_ne (by omega), o50]
        · refine ⟨?_, ?_, ?_⟩
          · rw [x_rd_eq, x_st_o (by omega), o3]
            omega
          · intro i i0 i1
            rw [x_rd_eq] at i1
            rw [x_st_o (by omega), x_st_o (by omega), o4]
            by_cases ci : i < σ 50 0 5
            · rw [old i (by omega), j2 i (by omega)]
              exact hR.2.1 i i0 ci
            · have t := j3 (i - σ 50 0 5) (by omega) (by omega)
              rw [show σ 50 0 5 + (i - σ 50 0 5) = i by omega] at t
              have bb := bm_by (v := x_shr (sm 55 0 ((i - σ 50 0 5) / 4)) (24 - 8 * ((i - σ 50 0 5) % 4)))
              rw [t]
              refine ⟨?_, bb⟩
              have : (i - σ 50 0 5) / 4 = 0 ∨ (i - σ 50 0 5) / 4 = 1 ∨ (i - σ 50 0 5) / 4 = 2 ∨ (i - σ 50 0 5) / 4 = 3 ∨ (i - σ 50 0 5) / 4 = 4 := by omega
              rcases this with h | h | h | h | h
              · rw [h, v0, ← g0 _ (by omega) (by omega)]
                congr 1
                omega
              · rw [h, v1, ← g1 _ (by omega) (by omega)]
                congr 1
                omega
              · rw [h, v2, ← g2 _ (by omega) (by omega)]
                congr 1
                omega
              · rw [h, v3, ← g3 _ (by omega) (by omega)]
                congr 1
                omega
              · rw [h, v4, ← q5 _ (by omega) (by omega)]
                congr 1
                omega
          · rw [x_rd_ne (i' := 12) (by omega), x_rd_ne (i' := 13) (by omega), x_st_o (by omega), o50, o3, k5' 2 (by omega), k5' 3 (by omega)]
            exact hR.2.2
  · simp (disch := first | omega | (simp only [x_wtI, x_wtJ, x_wtR, x_wtN]; omega) | assumption | (simp (disch := omega) only [x_st_o, x_rd_ne]; first | assumption | omega) | (refine mir_eq ?_ ?_; assumption; (intro c h1 h2; simp (disch := omega) only [x_st_o])) | (refine mis_eq ?_ ?_; assumption; (intro c h1 h2; simp (disch := omega) only [x_st_o])) | rfl) only [sp_94, bk_94_0, bk_94_1, wp_ald0, wr_0_0, wk_25, wp_ifne, wp_ic, wp_iret mz_94, wp_ild1, wk_26, wp_ild2, wp_ild3, wp_ild4, wp_ild5, wp_geti kd_3, sp_25, bk_25_0, bk_25_1, bk_25_2, wp_iadd, wp_icgt, wp_goto, wp_fall, wp_zret0 mz_25, wp_zret1 mz_25, wp_zretb mz_25, wp_zret mz_25, x_clr_I, x_clr_J, x_clr_R, x_clr_U, ct_some, ct_none, lc_lt, lc_ge, lc_gt, lc_le, lc_eq, lc_r, xI_inj, xJ_inj, Option.some.injEq, eq_self, bi_r, bi_0, bi_1, bi_n, Classical.not_not, and_true, true_and, ite_true, ite_false, ↓reduceIte, ↓x_andl, z_le, z_nle, z_lt, z_nlt, z_eq, z_neq, if_pos, if_neg, x_andl, false_and, and_false, or_true, true_or, or_false, false_or, not_true, not_false_iff, x_rd_eq, x_rd_ne, x_st_o, Int.cast_ofNat_Int, Int.ofNat_zero, Int.ofNat_one, not_true_eq_false, not_false_eq_true, if_true, if_false, ite_self, and_self, Int.ofNat_eq_natCast, Int.tdiv_eq_ediv_of_nonneg, Int.tmod_eq_emod_of_nonneg, x_bm32, r1]
    refine ⟨-1, rfl, fun _ _ => rfl, ?_⟩
    simp (disch := first | omega | (simp only [x_wtI, x_wtJ, x_wtR, x_wtN]; omega) | assumption | (simp (disch := omega) only [x_st_o, x_rd_ne]; first | assumption | omega) | (refine mir_eq ?_ ?_; assumption; (intro c h1 h2; simp (disch := omega) only [x_st_o])) | (refine mis_eq ?_ ?_; assumption; (intro c h1 h2; simp (disch := omega) only [x_st_o])) | rfl) only [sp_171, bk_171_0, bk_171_1, bk_171_3, wp_ald0, wp_geti kd_50, wp_ic, wp_iadd, wp_icle, wp_iret mz_171, wr_50_6, wp_ild1, ws_55, wp_ild2, wp_ild3, wp_ild4, wp_ild5, wp_ist6, wp_fall, wp_ild6, wp_icge, wr_50_4, wp_idiv, wl_55, wp_cald, wp_irem, wp_imul, wp_isub, wp_ishr, wp_i2b, ws_54, wp_inc6, wp_goto, wp_dupi, wp_dupr, wp_puti kd_50, x_clr_I, x_clr_J, x_clr_R, x_clr_U, ct_some, ct_none, lc_lt, lc_ge, lc_gt, lc_le, lc_eq, lc_r, xI_inj, xJ_inj, Option.some.injEq, eq_self, bi_r, bi_0, bi_1, bi_n, Classical.not_not, and_true, true_and, ite_true, ite_false, ↓reduceIte, ↓x_andl, z_le, z_nle, z_lt, z_nlt, z_eq, z_neq, if_pos, if_neg, x_andl, false_and, and_false, or_true, true_or, or_false, false_or, not_true, not_false_iff, x_rd_eq, x_rd_ne, x_st_o, Int.cast_ofNat_Int, Int.ofNat_zero, Int.ofNat_one, not_true_eq_false, not_false_eq_true, if_true, if_false, ite_self, and_self, Int.ofNat_eq_natCast, Int.tdiv_eq_ediv_of_nonneg, Int.tmod_eq_emod_of_nonneg, x_bm32]
    exact hh
end O7

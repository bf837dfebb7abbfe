/-! the class's tables: what lies behind a fork -/
section CF
variable {d j : Nat} {σ : x_S} {Q : Option x_V → x_S → Prop} {w : Int → Int} {f v : Int}
theorem k_fill27 : x_Sp d 278 [xR 27 j, xJ v] σ Q ↔ Q none (s_fl σ 27 j 0 42 v) := by
  refine x_sp_of ?_
  simp (disch := first | omega | (simp only [x_wtI, x_wtJ, x_wtR, x_wtN]; omega) | assumption | (simp (disch := omega) only [x_st_o, x_rd_ne]; first | assumption | omega) | (apply mir_eq; assumption; (intro c h1 h2; simp (disch := omega) only [x_st_o])) | (apply mis_eq; assumption; (intro c h1 h2; simp (disch := omega) only [x_st_o])) | rfl) only [sp_278, bk_278_0, bk_278_2, wp_ic, wp_ist3, wp_ald0, we_1, we_2, we_4, we_5, we_7, we_8, we_9, we_10, we_11, we_12, we_13, we_14, we_15, we_17, we_18, we_19, we_21, we_22, we_25, we_26, we_27, we_28, we_30, we_31, we_32, we_34, we_35, we_36, we_37, we_38, we_39, we_40, we_41, we_42, we_43, we_45, we_46, we_47, we_48, we_49, we_51, we_52, we_53, we_54, we_55, we_56, we_57, we_58, we_59, we_60, we_61, we_62, we_63, we_64, we_65, we_66, we_67, we_68, we_69, we_70, we_71, we_72, we_73, wp_slen, wp_clen, wp_ist4, wp_fall, wp_ild3, wp_ild4, wp_icge, wp_lld1, ws_2, ws_19, ws_25, ws_26, ws_27, ws_28, ws_30, ws_42, ws_59, ws_60, ws_61, ws_64, ws_65, ws_66, ws_72, ws_73, wp_inc3, wp_goto, wp_ret, x_clr_I, x_clr_J, x_clr_R, x_clr_U, ct_some, ct_none, lc_lt, lc_ge, lc_gt, lc_le, lc_eq, lc_r, xI_inj, xJ_inj, Option.some.injEq, eq_self, bi_r, bi_0, bi_1, bi_n, Classical.not_not, and_true, true_and, ite_true, ite_false, ↓reduceIte, ↓x_andl, z_le, z_nle, z_lt, z_nlt, z_eq, z_neq, if_pos, if_neg, x_andl, false_and, and_false, or_true, true_or, or_false, false_or, not_true, not_false_iff, x_rd_eq, x_rd_ne, x_st_o, Int.cast_ofNat_Int, Int.ofNat_zero, Int.ofNat_one, not_true_eq_false, not_false_eq_true, if_true, if_false, ite_self, and_self, Int.ofNat_eq_natCast, Int.tdiv_eq_ediv_of_nonneg, Int.tmod_eq_emod_of_nonneg, x_bm32]
  have e : x_Wp d 278 (x_blk 278 1) [xR 27 j, xJ v, xU, xI 0, xI 42] [] (s_fl σ 27 j 0 0 v) (fun r2 σ2 => r2 = none ∧ σ2 = s_fl σ 27 j 0 42 v) := by
    refine x_lp (P := fun i => x_Wp d 278 (x_blk 278 1) [xR 27 j, xJ v, xU, xI i, xI 42] [] (s_fl σ 27 j 0 i v) _) 0 42 (by omega) ?_ ?_
    · intro i i0 i1 H
      rw [← s_fl_s i0] at H
      rw [bk_278_1]
      simp (disch := first | omega | (simp only [x_wtI, x_wtJ, x_wtR, x_wtN]; omega) | assumption | (simp (disch := omega) only [x_st_o, x_rd_ne]; first | assumption | omega) | (apply mir_eq; assumption; (intro c h1 h2; simp (disch := omega) only [x_st_o])) | (apply mis_eq; assumption; (intro c h1 h2; simp (disch := omega) only [x_st_o])) | rfl) only [bk_278_0, bk_278_2, wp_ic, wp_ist3, wp_ald0, we_1, we_2, we_4, we_5, we_7, we_8, we_9, we_10, we_11, we_12, we_13, we_14, we_15, we_17, we_18, we_19, we_21, we_22, we_25, we_26, we_27, we_28, we_30, we_31, we_32, we_34, we_35, we_36, we_37, we_38, we_39, we_40, we_41, we_42, we_43, we_45, we_46, we_47, we_48, we_49, we_51, we_52, we_53, we_54, we_55, we_56, we_57, we_58, we_59, we_60, we_61, we_62, we_63, we_64, we_65, we_66, we_67, we_68, we_69, we_70, we_71, we_72, we_73, wp_slen, wp_clen, wp_ist4, wp_fall, wp_ild3, wp_ild4, wp_icge, wp_lld1, ws_2, ws_19, ws_25, ws_26, ws_27, ws_28, ws_30, ws_42, ws_59, ws_60, ws_61, ws_64, ws_65, ws_66, ws_72, ws_73, wp_inc3, wp_goto, wp_ret, x_clr_I, x_clr_J, x_clr_R, x_clr_U, ct_some, ct_none, lc_lt, lc_ge, lc_gt, lc_le, lc_eq, lc_r, xI_inj, xJ_inj, Option.some.injEq, eq_self, bi_r, bi_0, bi_1, bi_n, Classical.not_not, and_true, true_and, ite_true, ite_false, ↓reduceIte, ↓x_andl, z_le, z_nle, z_lt, z_nlt, z_eq, z_neq, if_pos, if_neg, x_andl, false_and, and_false, or_true, true_or, or_false, false_or, not_true, not_false_iff, x_rd_eq, x_rd_ne, x_st_o, Int.cast_ofNat_Int, Int.ofNat_zero, Int.ofNat_one, not_true_eq_false, not_false_eq_true, if_true, if_false, ite_self, and_self, Int.ofNat_eq_natCast, Int.tdiv_eq_ediv_of_nonneg, Int.tmod_eq_emod_of_nonneg, x_bm32]
      exact H
    · rw [bk_278_1]
      simp (disch := first | omega | (simp only [x_wtI, x_wtJ, x_wtR, x_wtN]; omega) | assumption | (simp (disch := omega) only [x_st_o, x_rd_ne]; first | assumption | omega) | (apply mir_eq; assumption; (intro c h1 h2; simp (disch := omega) only [x_st_o])) | (apply mis_eq; assumption; (intro c h1 h2; simp (disch := omega) only [x_st_o])) | rfl) only [bk_278_0, bk_278_2, wp_ic, wp_ist3, wp_ald0, we_1, we_2, we_4, we_5, we_7, we_8, we_9, we_10, we_11, we_12, we_13, we_14, we_15, we_17, we_18, we_19, we_21, we_22, we_25, we_26, we_27, we_28, we_30, we_31, we_32, we_34, we_35, we_36, we_37, we_38, we_39, we_40, we_41, we_42, we_43, we_45, we_46, we_47, we_48, we_49, we_51, we_52, we_53, we_54, we_55, we_56, we_57, we_58, we_59, we_60, we_61, we_62, we_63, we_64, we_65, we_66, we_67, we_68, we_69, we_70, we_71, we_72, we_73, wp_slen, wp_clen, wp_ist4, wp_fall, wp_ild3, wp_ild4, wp_icge, wp_lld1, ws_2, ws_19, ws_25, ws_26, ws_27, ws_28, ws_30, ws_42, ws_59, ws_60, ws_61, ws_64, ws_65, ws_66, ws_72, ws_73, wp_inc3, wp_goto, wp_ret, x_clr_I, x_clr_J, x_clr_R, x_clr_U, ct_some, ct_none, lc_lt, lc_ge, lc_gt, lc_le, lc_eq, lc_r, xI_inj, xJ_inj, Option.some.injEq, eq_self, bi_r, bi_0, bi_1, bi_n, Classical.not_not, and_true, true_and, ite_true, ite_false, ↓reduceIte, ↓x_andl, z_le, z_nle, z_lt, z_nlt, z_eq, z_neq, if_pos, if_neg, x_andl, false_and, and_false, or_true, true_or, or_false, false_or, not_true, not_false_iff, x_rd_eq, x_rd_ne, x_st_o, Int.cast_ofNat_Int, Int.ofNat_zero, Int.ofNat_one, not_true_eq_false, not_false_eq_true, if_true, if_false, ite_self, and_self, Int.ofNat_eq_natCast, Int.tdiv_eq_ediv_of_nonneg, Int.tmod_eq_emod_of_nonneg, x_bm32]
  rw [s_fl_0] at e
  exact e
theorem k_isEndC {E : Int} (hM : mir σ 1 w) (hj : j < 4) (hE : σ 24 j 2 = E) (hw : wf w) (h0 : 0 ≤ f) (h1 : f < w 0) (hE2 : -1000 ≤ E ∧ E ≤ 1000) : x_Sp d 4 [xR 24 j, xI f] σ Q ↔ Q (some (xI (x_bi (p_end w E f)))) σ := by
  have a := wf_h hw
  unfold wf_hdr at a
  have o := wf_f hw h0 h1
  unfold wf_one at o
  refine x_sp_of ?_
  by_cases h2 : w_of w f 7 = 0
  · rw [bi_t (Or.inl h2)]
    simp (disch := first | omega | (simp only [x_wtI, x_wtJ, x_wtR, x_wtN]; omega) | assumption | (simp (disch := omega) only [x_st_o, x_rd_ne]; first | assumption | omega) | (apply mir_eq; assumption; (intro c h1 h2; simp (disch := omega) only [x_st_o])) | (apply mis_eq; assumption; (intro c h1 h2; simp (disch := omega) only [x_st_o])) | rfl) only [sp_4, bk_4_0, bk_4_1, bk_4_2, bk_4_3, wp_ald0, wr_24_0, wr_6_14, wp_ild1, wl_13, wl_14, wp_cald, wp_ifeq, wr_6_13, wp_geti kd_24, wp_iclt, wp_fall, wp_ic, wp_goto, wp_zret0 mz_4, wp_zret1 mz_4, wp_zretb mz_4, wp_zret mz_4, x_clr_I, x_clr_J, x_clr_R, x_clr_U, ct_some, ct_none, lc_lt, lc_ge, lc_gt, lc_le, lc_eq, lc_r, xI_inj, xJ_inj, Option.some.injEq, eq_self, bi_r, bi_0, bi_1, bi_n, Classical.not_not, and_true, true_and, ite_true, ite_false, ↓reduceIte, ↓x_andl, z_le, z_nle, z_lt, z_nlt, z_eq, z_neq, if_pos, if_neg, x_andl, false_and, and_false, or_true, true_or, or_false, false_or, not_true, not_false_iff, x_rd_eq, x_rd_ne, x_st_o, Int.cast_ofNat_Int, Int.ofNat_zero, Int.ofNat_one, not_true_eq_false, not_false_eq_true, if_true, if_false, ite_self, and_self, Int.ofNat_eq_natCast, Int.tdiv_eq_ediv_of_nonneg, Int.tmod_eq_emod_of_nonneg, x_bm32, mi_kids hM, mi_far hM]
  · by_cases h3 : E ≤ w_of w f 6
    · rw [bi_t (Or.inr h3)]
      simp (disch := first | omega | (simp only [x_wtI, x_wtJ, x_wtR, x_wtN]; omega) | assumption | (simp (disch := omega) only [x_st_o, x_rd_ne]; first | assumption | omega) | (apply mir_eq; assumption; (intro c h1 h2; simp (disch := omega) only [x_st_o])) | (apply mis_eq; assumption; (intro c h1 h2; simp (disch := omega) only [x_st_o])) | rfl) only [sp_4, bk_4_0, bk_4_1, bk_4_2, bk_4_3, wp_ald0, wr_24_0, wr_6_14, wp_ild1, wl_13, wl_14, wp_cald, wp_ifeq, wr_6_13, wp_geti kd_24, wp_iclt, wp_fall, wp_ic, wp_goto, wp_zret0 mz_4, wp_zret1 mz_4, wp_zretb mz_4, wp_zret mz_4, x_clr_I, x_clr_J, x_clr_R, x_clr_U, ct_some, ct_none, lc_lt, lc_ge, lc_gt, lc_le, lc_eq, lc_r, xI_inj, xJ_inj, Option.some.injEq, eq_self, bi_r, bi_0, bi_1, bi_n, Classical.not_not, and_true, true_and, ite_true, ite_false, ↓reduceIte, ↓x_andl, z_le, z_nle, z_lt, z_nlt, z_eq, z_neq, if_pos, if_neg, x_andl, false_and, and_false, or_true, true_or, or_false, false_or, not_true, not_false_iff, x_rd_eq, x_rd_ne, x_st_o, Int.cast_ofNat_Int, Int.ofNat_zero, Int.ofNat_one, not_true_eq_false, not_false_eq_true, if_true, if_false, ite_self, and_self, Int.ofNat_eq_natCast, Int.tdiv_eq_ediv_of_nonneg, Int.tmod_eq_emod_of_nonneg, x_bm32, mi_kids hM, mi_far hM, hE]
    · rw [bi_f (fun z => z.elim h2 h3)]
      simp (disch := first | omega | (simp only [x_wtI, x_wtJ, x_wtR, x_wtN]; omega) | assumption | (simp (disch := omega) only [x_st_o, x_rd_ne]; first | assumption | omega) | (apply mir_eq; assumption; (intro c h1 h2; simp (disch := omega) only [x_st_o])) | (apply mis_eq; assumption; (intro c h1 h2; simp (disch := omega) only [x_st_o])) | rfl) only [sp_4, bk_4_0, bk_4_1, bk_4_2, bk_4_3, wp_ald0, wr_24_0, wr_6_14, wp_ild1, wl_13, wl_14, wp_cald, wp_ifeq, wr_6_13, wp_geti kd_24, wp_iclt, wp_fall, wp_ic, wp_goto, wp_zret0 mz_4, wp_zret1 mz_4, wp_zretb mz_4, wp_zret mz_4, x_clr_I, x_clr_J, x_clr_R, x_clr_U, ct_some, ct_none, lc_lt, lc_ge, lc_gt, lc_le, lc_eq, lc_r, xI_inj, xJ_inj, Option.some.injEq, eq_self, bi_r, bi_0, bi_1, bi_n, Classical.not_not, and_true, true_and, ite_true, ite_false, ↓reduceIte, ↓x_andl, z_le, z_nle, z_lt, z_nlt, z_eq, z_neq, if_pos, if_neg, x_andl, false_and, and_false, or_true, true_or, or_false, false_or, not_true, not_false_iff, x_rd_eq, x_rd_ne, x_st_o, Int.cast_ofNat_Int, Int.ofNat_zero, Int.ofNat_one, not_true_eq_false, not_false_eq_true, if_true, if_false, ite_self, and_self, Int.ofNat_eq_natCast, Int.tdiv_eq_ediv_of_nonneg, Int.tmod_eq_emod_of_nonneg, x_bm32, mi_kids hM, mi_far hM, hE]
end CF
def rgt (c : Int) (w T : Int → Int) (f n s v : Int) : Prop := ((∃ k, 0 ≤ k ∧ k < n ∧ T (42 * w_of w f (8 + k) + s) = 9223372036854775807) ∧ v = 9223372036854775807) ∨ ((∀ k, 0 ≤ k → k < n → ¬ T (42 * w_of w f (8 + k) + s) = 9223372036854775807) ∧ v = if c = 0 then r_sum w T f s n.toNat else r_max w T f s n.toNat)
theorem h_gather {σ : x_S} {w T : Int → Int} {j : Nat} {c f : Int} (hM : mir σ 1 w) (hj : j < 4) (hw : wf w) (h0 : 0 ≤ f) (h1 : f < w 0) (hm : σ 24 j 3 = c) (hc : 0 ≤ c ∧ c ≤ 3) (hV : σ 25 j = T) (hT : ∀ i, 0 ≤ i → i < w_of w f 7 → t_bd 9223372036854775807 w T (w_of w f (8 + i))) : x_Sp 2 5 [xR 24 j, xI f] σ (fun r σ' => r = none ∧ x_eqo [(27, j)] σ σ' ∧ ∀ s, 0 ≤ s → s < 42 → rgt c w T f (w_of w f 7) s (σ' 27 j s)) := by
  have a := wf_h hw
  unfold wf_hdr at a
  have o := wf_f hw h0 h1
  unfold wf_one at o
  refine x_gen (fun Q hQ => ?_)
  generalize hI : (if c = 0 then (0 : Int) else (-9223372036854775808)) = I
  have go : x_Sp 2 5 [xR 24 j, xI f] σ Q ↔ x_Wp 2 5 (x_blk 5 3) [xR 24 j, xI f, xI 0, xU, xU, xU, xU, xU, xU] [] (s_fl σ 27 j 0 42 I) Q := by
    subst hI
    by_cases z : c = 0
    · rw [if_pos z]
      simp (disch := first | omega | (simp only [x_wtI, x_wtJ, x_wtR, x_wtN]; omega) | assumption | (simp (disch := omega) only [x_st_o, x_rd_ne]; first | assumption | omega) | (apply mir_eq; assumption; (intro c h1 h2; simp (disch := omega) only [x_st_o])) | (apply mis_eq; assumption; (intro c h1 h2; simp (disch := omega) only [x_st_o])) | rfl) only [sp_5, bk_5_0, bk_5_1, bk_5_2, bk_5_4, bk_5_5, bk_5_6, bk_5_7, bk_5_8, bk_5_9, bk_5_10, wp_ald0, wr_24_6, wp_geti kd_24, wp_ifne, wp_lc, wp_goto, wp_fall, wk_278, wp_ic, wp_ist2, wp_ild2, wr_24_0, wr_6_14, wp_ild1, wl_8, wl_14, wl_15, wp_cald, wp_icge, wr_6_15, wp_imul, wp_iadd, wp_ist3, wr_6_8, wp_ild3, wp_i2l, wp_lst4, wp_ist6, wp_ild6, wr_24_4, wl_25, wl_27, wp_pald, wp_lst7, wp_lld7, wp_lcmp, wp_ifeq, ws_25, ws_27, wp_dup2, wp_lld4, wp_lmul, wp_ladd, wp_ifle, wp_inc6, wp_inc2, wp_ret, x_clr_I, x_clr_J, x_clr_R, x_clr_U, ct_some, ct_none, lc_lt, lc_ge, lc_gt, lc_le, lc_eq, lc_r, xI_inj, xJ_inj, Option.some.injEq, eq_self, bi_r, bi_0, bi_1, bi_n, Classical.not_not, and_true, true_and, ite_true, ite_false, ↓reduceIte, ↓x_andl, z_le, z_nle, z_lt, z_nlt, z_eq, z_neq, if_pos, if_neg, x_andl, false_and, and_false, or_true, true_or, or_false, false_or, not_true, not_false_iff, x_rd_eq, x_rd_ne, x_st_o, Int.cast_ofNat_Int, Int.ofNat_zero, Int.ofNat_one, not_true_eq_false, not_false_eq_true, if_true, if_false, ite_self, and_self, Int.ofNat_eq_natCast, Int.tdiv_eq_ediv_of_nonneg, Int.tmod_eq_emod_of_nonneg, x_bm32, hm, k_fill27]
    · rw [if_neg z]
      simp (disch := first | omega | (simp only [x_wtI, x_wtJ, x_wtR, x_wtN]; omega) | assumption | (simp (disch := omega) only [x_st_o, x_rd_ne]; first | assumption | omega) | (apply mir_eq; assumption; (intro c h1 h2; simp (disch := omega) only [x_st_o])) | (apply mis_eq; assumption; (intro c h1 h2; simp (disch := omega) only [x_st_o])) | rfl) only [sp_5, bk_5_0, bk_5_1, bk_5_2, bk_5_4, bk_5_5, bk_5_6, bk_5_7, bk_5_8, bk_5_9, bk_5_10, wp_ald0, wr_24_6, wp_geti kd_24, wp_ifne, wp_lc, wp_goto, wp_fall, wk_278, wp_ic, wp_ist2, wp_ild2, wr_24_0, wr_6_14, wp_ild1, wl_8, wl_14, wl_15, wp_cald, wp_icge, wr_6_15, wp_imul, wp_iadd, wp_ist3, wr_6_8, wp_ild3, wp_i2l, wp_lst4, wp_ist6, wp_ild6, wr_24_4, wl_25, wl_27, wp_pald, wp_lst7, wp_lld7, wp_lcmp, wp_ifeq, ws_25, ws_27, wp_dup2, wp_lld4, wp_lmul, wp_ladd, wp_ifle, wp_inc6, wp_inc2, wp_ret, x_clr_I, x_clr_J, x_clr_R, x_clr_U, ct_some, ct_none, lc_lt, lc_ge, lc_gt, lc_le, lc_eq, lc_r, xI_inj, xJ_inj, Option.some.injEq, eq_self, bi_r, bi_0, bi_1, bi_n, Classical.not_not, and_true, true_and, ite_true, ite_false, ↓reduceIte, ↓x_andl, z_le, z_nle, z_lt, z_nlt, z_eq, z_neq, if_pos, if_neg, x_andl, false_and, and_false, or_true, true_or, or_false, false_or, not_true, not_false_iff, x_rd_eq, x_rd_ne, x_st_o, Int.cast_ofNat_Int, Int.ofNat_zero, Int.ofNat_one, not_true_eq_false, not_false_eq_true, if_true, if_false, ite_self, and_self, Int.ofNat_eq_natCast, Int.tdiv_eq_ediv_of_nonneg, Int.tmod_eq_emod_of_nonneg, x_bm32, hm, k_fill27]
  rw [go]
  have ini : ∀ s, 0 ≤ s → s < 42 → rgt c w T f 0 s (s_fl σ 27 j 0 42 I 27 j s) := by
    intro s s0 s1
    rw [s_fl_in ⟨s0, s1⟩, ← hI]
    refine Or.inr ⟨fun k p q => by omega, ?_⟩
    by_cases z : c = 0
    · rw [if_pos z, if_pos z]; rfl
    · rw [if_neg z, if_neg z]; rfl
  refine x_lpJ (α := x_S × x_V × x_V × x_V × x_V) (fun i q => x_eqo [(27, j)] σ q.1 ∧ ∀ s, 0 ≤ s → s < 42 → rgt c w T f i s (q.1 27 j s)) (fun i q => x_Wp 2 5 (x_blk 5 3) [xR 24 j, xI f, xI i, q.2.1, q.2.2.1, xU, q.2.2.2.1, q.2.2.2.2, xU] [] q.1 Q) (lo := 0) (hi := w_of w f 7) (by omega) (a0 := (s_fl σ 27 j 0 42 I, xU, xU, xU, xU)) ⟨eqo_fl (by simp) eqo_refl, ini⟩ ?_ ?_
  · intro i ⟨σi, u1, u2, u3, u4⟩ i0 i1 ⟨j1, j2⟩
    simp only at j1 j2 ⊢
    have kk := wf_k hw h0 h1 i0 i1
    have okk := wf_f hw (f := w_of w f (8 + i)) (by omega) (by omega)
    unfold wf_one at okk
    have gp1 := gb_pos (k := w_of w f 6 + 1)
    have rng : ∀ n : Int, 0 ≤ n → n ≤ w_of w f 7 → ∀ s v, 0 ≤ s → s < 42 → rgt c w T f n s v → -9223372036854775808 ≤ v ∧ v ≤ 9223372036854775807 := by
      intro n n0 n1 s v s0 s1 h
      rcases h with ⟨_, rfl⟩ | ⟨hd, rfl⟩
      · omega
      · have m5 := mulb (a := (n.toNat : Int)) (b := 200 * g_b (w_of w f 6 + 1)) (A := 5) (B := 200 * g_b (w_of w f 6 + 1)) (by omega) (by omega)
        have k0 := wf_k hw h0 h1 i0 i1
        have gs := gb_s (k := w_of w f 6) (by omega)
        have gz := gb_pos (k := w_of w f 6)
        have pz := pay_b (m := w_of w f 6)
        by_cases z : c = 0
        · rw [if_pos z]
          have rb := rsum_b hw h0 h1 hT s0 s1 n.toNat (by omega) (fun k p q => hd k p (by omega))
          omega
        · rw [if_neg z]
          rcases rmax_b hw h0 h1 hT s0 s1 n.toNat (by omega) (fun k p q => hd k p (by omega)) with ⟨_, q⟩ | q <;> omega
    have key : ∃ σe : x_S, (x_eqo [(27, j)] σ σe ∧ ∀ s, 0 ≤ s → s < 42 → rgt c w T f (i + 1) s (σe 27 j s)) ∧ ∃ u4' : x_V, (x_Wp 2 5 (x_blk 5 4) [xR 24 j, xI f, xI i, xI (w_of w f (8 + i)), xJ (w_of w (w_of w f (8 + i)) 1), xU, xI 42, u4', xU] [] σe Q → x_Wp 2 5 (x_blk 5 4) [xR 24 j, xI f, xI i, xI (w_of w f (8 + i)), xJ (w_of w (w_of w f (8 + i)) 1), xU, xI 0, u4, xU] [] σi Q) := by
      have ind : ∀ n : Nat, ∀ s : Int, 0 ≤ s → s + n = 42 → ∀ (σs : x_S) (u4 : x_V), (x_eqo [(27, j)] σ σs ∧ (∀ z, 0 ≤ z → z < s → rgt c w T f (i + 1) z (σs 27 j z)) ∧ (∀ z, s ≤ z → z < 42 → rgt c w T f i z (σs 27 j z))) → ∃ (σe : x_S) (u4' : x_V), (x_eqo [(27, j)] σ σe ∧ ∀ z, 0 ≤ z → z < 42 → rgt c w T f (i + 1) z (σe 27 j z)) ∧ (x_Wp 2 5 (x_blk 5 4) [xR 24 j, xI f, xI i, xI (w_of w f (8 + i)), xJ (w_of w (w_of w f (8 + i)) 1), xU, xI 42, u4', xU] [] σe Q → x_Wp 2 5 (x_blk 5 4) [xR 24 j, xI f, xI i, xI (w_of w f (8 + i)), xJ (w_of w (w_of w f (8 + i)) 1), xU, xI s, u4, xU] [] σs Q) := by
        intro n
        induction n with
        | zero =>
          intro s s0 s1 σs u4 ⟨k1, k2, k3⟩
          have e : s = 42 := by omega
          subst e
          exact ⟨σs, u4, ⟨k1, k2⟩, id⟩
        | succ n ih =>
          intro s s0 s1 σs u4 ⟨k1, k2, k3⟩
          have g25 : σs 25 j = T := (k1 25 j (by simp)).trans hV
          have g24 : σs 24 j = σ 24 j := k1 24 j (by simp)
          have now := k3 s (by omega) (by omega)
          have nr := rng i i0 (by omega) s _ s0 (by omega) now
          have tb := hT i i0 i1 s s0 (by omega)
          have gk := gb_pos (k := w_of w (w_of w f (8 + i)) 6)
          have mc : w_of w f (8 + i) * 42 = 42 * w_of w f (8 + i) := Int.mul_comm _ _
          have step : ∀ v, rgt c w T f (i + 1) s v → (x_eqo [(27, j)] σ (x_st σs 27 j s v) ∧ (∀ z, 0 ≤ z → z < s + 1 → rgt c w T f (i + 1) z (x_st σs 27 j s v 27 j z)) ∧ (∀ z, s + 1 ≤ z → z < 42 → rgt c w T f i z (x_st σs 27 j s v 27 j z))) := by
            intro v hv
            refine ⟨eqo_st (by simp) k1, ?_, ?_⟩
            · intro z z0 z1
              by_cases c : z = s
              · subst c; rw [x_rd_eq]; exact hv
              · rw [x_rd_ne (by omega)]; exact k2 z z0 (by omega)
            · intro z z0 z1
              rw [x_rd_ne (by omega)]
              exact k3 z (by omega) z1
          have nd : ¬ T (42 * w_of w f (8 + i) + s) = 9223372036854775807 → (∀ k, 0 ≤ k → k < i → ¬ T (42 * w_of w f (8 + k) + s) = 9223372036854775807) → ∀ k, 0 ≤ k → k < i + 1 → ¬ T (42 * w_of w f (8 + k) + s) = 9223372036854775807 := by
            intro h1 h2 k k0 kk1
            by_cases z : k = i
            · rw [z]; exact h1
            · exact h2 k k0 (by omega)
          rw [bk_5_4]
          by_cases cd : T (42 * w_of w f (8 + i) + s) = 9223372036854775807
          · obtain ⟨σe, u4', q1, q2⟩ := ih (s + 1) (by omega) (by omega) _ (xJ 9223372036854775807) (step 9223372036854775807 (Or.inl ⟨⟨i, i0, by omega, cd⟩, rfl⟩))
            refine ⟨σe, u4', q1, fun H => ?_⟩
            have H2 := q2 H
            simp (disch := first | omega | (simp only [x_wtI, x_wtJ, x_wtR, x_wtN]; omega) | assumption | (simp (disch := omega) only [x_st_o, x_rd_ne]; first | assumption | omega) | (apply mir_eq; assumption; (intro c h1 h2; simp (disch := omega) only [x_st_o])) | (apply mis_eq; assumption; (intro c h1 h2; simp (disch := omega) only [x_st_o])) | rfl) only [bk_5_0, bk_5_1, bk_5_2, bk_5_5, bk_5_6, bk_5_7, bk_5_8, bk_5_9, bk_5_10, wp_ald0, wr_24_6, wp_geti kd_24, wp_ifne, wp_lc, wp_goto, wp_fall, wk_278, wp_ic, wp_ist2, wp_ild2, wr_24_0, wr_6_14, wp_ild1, wl_8, wl_14, wl_15, wp_cald, wp_icge, wr_6_15, wp_imul, wp_iadd, wp_ist3, wr_6_8, wp_ild3, wp_i2l, wp_lst4, wp_ist6, wp_ild6, wr_24_4, wl_25, wl_27, wp_pald, wp_lst7, wp_lld7, wp_lcmp, wp_ifeq, ws_25, ws_27, wp_dup2, wp_lld4, wp_lmul, wp_ladd, wp_ifle, wp_inc6, wp_inc2, wp_ret, x_clr_I, x_clr_J, x_clr_R, x_clr_U, ct_some, ct_none, lc_lt, lc_ge, lc_gt, lc_le, lc_eq, lc_r, xI_inj, xJ_inj, Option.some.injEq, eq_self, bi_r, bi_0, bi_1, bi_n, Classical.not_not, and_true, true_and, ite_true, ite_false, ↓reduceIte, ↓x_andl, z_le, z_nle, z_lt, z_nlt, z_eq, z_neq, if_pos, if_neg, x_andl, false_and, and_false, or_true, true_or, or_false, false_or, not_true, not_false_iff, x_rd_eq, x_rd_ne, x_st_o, Int.cast_ofNat_Int, Int.ofNat_zero, Int.ofNat_one, not_true_eq_false, not_false_eq_true, if_true, if_false, ite_self, and_self, Int.ofNat_eq_natCast, Int.tdiv_eq_ediv_of_nonneg, Int.tmod_eq_emod_of_nonneg, x_bm32, g25, mc, cd]
            exact H2
          · rcases now with ⟨⟨k, k0, kk1, ke⟩, nv⟩ | ⟨nall, nv⟩
            · obtain ⟨σe, u4', q1, q2⟩ := ih (s + 1) (by omega) (by omega) _ (xJ (T (42 * w_of w f (8 + i) + s))) (step 9223372036854775807 (Or.inl ⟨⟨k, k0, by omega, ke⟩, rfl⟩))
              refine ⟨σe, u4', q1, fun H => ?_⟩
              have H2 := q2 H
              simp (disch := first | omega | (simp only [x_wtI, x_wtJ, x_wtR, x_wtN]; omega) | assumption | (simp (disch := omega) only [x_st_o, x_rd_ne]; first | assumption | omega) | (apply mir_eq; assumption; (intro c h1 h2; simp (disch := omega) only [x_st_o])) | (apply mis_eq; assumption; (intro c h1 h2; simp (disch := omega) only [x_st_o])) | rfl) only [bk_5_0, bk_5_1, bk_5_2, bk_5_5, bk_5_6, bk_5_7, bk_5_8, bk_5_9, bk_5_10, wp_ald0, wr_24_6, wp_geti kd_24, wp_ifne, wp_lc, wp_goto, wp_fall, wk_278, wp_ic, wp_ist2, wp_ild2, wr_24_0, wr_6_14, wp_ild1, wl_8, wl_14, wl_15, wp_cald, wp_icge, wr_6_15, wp_imul, wp_iadd, wp_ist3, wr_6_8, wp_ild3, wp_i2l, wp_lst4, wp_ist6, wp_ild6, wr_24_4, wl_25, wl_27, wp_pald, wp_lst7, wp_lld7, wp_lcmp, wp_ifeq, ws_25, ws_27, wp_dup2, wp_lld4, wp_lmul, wp_ladd, wp_ifle, wp_inc6, wp_inc2, wp_ret, x_clr_I, x_clr_J, x_clr_R, x_clr_U, ct_some, ct_none, lc_lt, lc_ge, lc_gt, lc_le, lc_eq, lc_r, xI_inj, xJ_inj, Option.some.injEq, eq_self, bi_r, bi_0, bi_1, bi_n, Classical.not_not, and_true, true_and, ite_true, ite_false, ↓reduceIte, ↓x_andl, z_le, z_nle, z_lt, z_nlt, z_eq, z_neq, if_pos, if_neg, x_andl, false_and, and_false, or_true, true_or, or_false, false_or, not_true, not_false_iff, x_rd_eq, x_rd_ne, x_st_o, Int.cast_ofNat_Int, Int.ofNat_zero, Int.ofNat_one, not_true_eq_false, not_false_eq_true, if_true, if_false, ite_self, and_self, Int.ofNat_eq_natCast, Int.tdiv_eq_ediv_of_nonneg, Int.tmod_eq_emod_of_nonneg, x_bm32, g25, mc, nv]
              exact H2
            · have nne : ¬ σs 27 j s = 9223372036854775807 := by
                rw [nv]
                have m5 := mulb (a := (i.toNat : Int)) (b := 200 * g_b (w_of w f 6 + 1)) (A := 5) (B := 200 * g_b (w_of w f 6 + 1)) (by omega) (by omega)
                have gs := gb_s (k := w_of w f 6) (by omega)
                have gz := gb_pos (k := w_of w f 6)
                have pz := pay_b (m := w_of w f 6)
                by_cases z : c = 0
                · rw [if_pos z]
                  have rb := rsum_b hw h0 h1 hT s0 (by omega) i.toNat (by omega) (fun k p q => nall k p (by omega))
                  omega
                · rw [if_neg z]
                  rcases rmax_b hw h0 h1 hT s0 (by omega) i.toNat (by omega) (fun k p q => nall k p (by omega)) with ⟨_, q⟩ | q <;> omega
              by_cases c0 : c = 0
              · rw [if_pos c0] at nv
                obtain ⟨σe, u4', q1, q2⟩ := ih (s + 1) (by omega) (by omega) _ (xJ (T (42 * w_of w f (8 + i) + s))) (step (r_sum w T f s i.toNat + w_of w (w_of w f (8 + i)) 1 * T (42 * w_of w f (8 + i) + s)) (Or.inr ⟨nd cd nall, by rw [if_pos c0, rsum_s i0]⟩))
                refine ⟨σe, u4', q1, fun H => ?_⟩
                have H2 := q2 H
                rw [nv] at nr nne
                simp (disch := first | omega | (simp only [x_wtI, x_wtJ, x_wtR, x_wtN]; omega) | assumption | (simp (disch := omega) only [x_st_o, x_rd_ne]; first | assumption | omega) | (apply mir_eq; assumption; (intro c h1 h2; simp (disch := omega) only [x_st_o])) | (apply mis_eq; assumption; (intro c h1 h2; simp (disch := omega) only [x_st_o])) | rfl) only [bk_5_0, bk_5_1, bk_5_2, bk_5_5, bk_5_6, bk_5_7, bk_5_8, bk_5_9, bk_5_10, wp_ald0, wr_24_6, wp_geti kd_24, wp_ifne, wp_lc, wp_goto, wp_fall, wk_278, wp_ic, wp_ist2, wp_ild2, wr_24_0, wr_6_14, wp_ild1, wl_8, wl_14, wl_15, wp_cald, wp_icge, wr_6_15, wp_imul, wp_iadd, wp_ist3, wr_6_8, wp_ild3, wp_i2l, wp_lst4, wp_ist6, wp_ild6, wr_24_4, wl_25, wl_27, wp_pald, wp_lst7, wp_lld7, wp_lcmp, wp_ifeq, ws_25, ws_27, wp_dup2, wp_lld4, wp_lmul, wp_ladd, wp_ifle, wp_inc6, wp_inc2, wp_ret, x_clr_I, x_clr_J, x_clr_R, x_clr_U, ct_some, ct_none, lc_lt, lc_ge, lc_gt, lc_le, lc_eq, lc_r, xI_inj, xJ_inj, Option.some.injEq, eq_self, bi_r, bi_0, bi_1, bi_n, Classical.not_not, and_true, true_and, ite_true, ite_false, ↓reduceIte, ↓x_andl, z_le, z_nle, z_lt, z_nlt, z_eq, z_neq, if_pos, if_neg, x_andl, false_and, and_false, or_true, true_or, or_false, false_or, not_true, not_false_iff, x_rd_eq, x_rd_ne, x_st_o, Int.cast_ofNat_Int, Int.ofNat_zero, Int.ofNat_one, not_true_eq_false, not_false_eq_true, if_true, if_false, ite_self, and_self, Int.ofNat_eq_natCast, Int.tdiv_eq_ediv_of_nonneg, Int.tmod_eq_emod_of_nonneg, x_bm32, g25, mc, nv, g24, hm]
                exact H2
              · rw [if_neg c0] at nv
                by_cases cg : r_max w T f s i.toNat < T (42 * w_of w f (8 + i) + s)
                · obtain ⟨σe, u4', q1, q2⟩ := ih (s + 1) (by omega) (by omega) _ (xJ (T (42 * w_of w f (8 + i) + s))) (step (T (42 * w_of w f (8 + i) + s)) (Or.inr ⟨nd cd nall, by rw [if_neg c0, rmax_s i0]; omega⟩))
                  refine ⟨σe, u4', q1, fun H => ?_⟩
                  have H2 := q2 H
                  rw [nv] at nr nne
                  simp (disch := first | omega | (simp only [x_wtI, x_wtJ, x_wtR, x_wtN]; omega) | assumption | (simp (disch := omega) only [x_st_o, x_rd_ne]; first | assumption | omega) | (apply mir_eq; assumption; (intro c h1 h2; simp (disch := omega) only [x_st_o])) | (apply mis_eq; assumption; (intro c h1 h2; simp (disch := omega) only [x_st_o])) | rfl) only [bk_5_0, bk_5_1, bk_5_2, bk_5_5, bk_5_6, bk_5_7, bk_5_8, bk_5_9, bk_5_10, wp_ald0, wr_24_6, wp_geti kd_24, wp_ifne, wp_lc, wp_goto, wp_fall, wk_278, wp_ic, wp_ist2, wp_ild2, wr_24_0, wr_6_14, wp_ild1, wl_8, wl_14, wl_15, wp_cald, wp_icge, wr_6_15, wp_imul, wp_iadd, wp_ist3, wr_6_8, wp_ild3, wp_i2l, wp_lst4, wp_ist6, wp_ild6, wr_24_4, wl_25, wl_27, wp_pald, wp_lst7, wp_lld7, wp_lcmp, wp_ifeq, ws_25, ws_27, wp_dup2, wp_lld4, wp_lmul, wp_ladd, wp_ifle, wp_inc6, wp_inc2, wp_ret, x_clr_I, x_clr_J, x_clr_R, x_clr_U, ct_some, ct_none, lc_lt, lc_ge, lc_gt, lc_le, lc_eq, lc_r, xI_inj, xJ_inj, Option.some.injEq, eq_self, bi_r, bi_0, bi_1, bi_n, Classical.not_not, and_true, true_and, ite_true, ite_false, ↓reduceIte, ↓x_andl, z_le, z_nle, z_lt, z_nlt, z_eq, z_neq, if_pos, if_neg, x_andl, false_and, and_false, or_true, true_or, or_false, false_or, not_true, not_false_iff, x_rd_eq, x_rd_ne, x_st_o, Int.cast_ofNat_Int, Int.ofNat_zero, Int.ofNat_one, not_true_eq_false, not_false_eq_true, if_true, if_false, ite_self, and_self, Int.ofNat_eq_natCast, Int.tdiv_eq_ediv_of_nonneg, Int.tmod_eq_emod_of_nonneg, x_bm32, g25, mc, nv, g24, hm]
                  exact H2
                · obtain ⟨σe, u4', q1, q2⟩ := ih (s + 1) (by omega) (by omega) σs (xJ (T (42 * w_of w f (8 + i) + s))) ⟨k1, fun z z0 z1 => by
                    by_cases c : z = s
                    · subst c
                      refine Or.inr ⟨nd cd nall, ?_⟩
                      rw [nv, if_neg c0, rmax_s i0]
                      omega
                    · exact k2 z z0 (by omega), fun z z0 z1 => k3 z (by omega) z1⟩
                  refine ⟨σe, u4', q1, fun H => ?_⟩
                  have H2 := q2 H
                  rw [nv] at nr nne
                  simp (disch := first | omega | (simp only [x_wtI, x_wtJ, x_wtR, x_wtN]; omega) | assumption | (simp (disch := omega) only [x_st_o, x_rd_ne]; first | assumption | omega) | (apply mir_eq; assumption; (intro c h1 h2; simp (disch := omega) only [x_st_o])) | (apply mis_eq; assumption; (intro c h1 h2; simp (disch := omega) only [x_st_o])) | rfl) only [bk_5_0, bk_5_1, bk_5_2, bk_5_5, bk_5_6, bk_5_7, bk_5_8, bk_5_9, bk_5_10, wp_ald0, wr_24_6, wp_geti kd_24, wp_ifne, wp_lc, wp_goto, wp_fall, wk_278, wp_ic, wp_ist2, wp_ild2, wr_24_0, wr_6_14, wp_ild1, wl_8, wl_14, wl_15, wp_cald, wp_icge, wr_6_15, wp_imul, wp_iadd, wp_ist3, wr_6_8, wp_ild3, wp_i2l, wp_lst4, wp_ist6, wp_ild6, wr_24_4, wl_25, wl_27, wp_pald, wp_lst7, wp_lld7, wp_lcmp, wp_ifeq, ws_25, ws_27, wp_dup2, wp_lld4, wp_lmul, wp_ladd, wp_ifle, wp_inc6, wp_inc2, wp_ret, x_clr_I, x_clr_J, x_clr_R, x_clr_U, ct_some, ct_none, lc_lt, lc_ge, lc_gt, lc_le, lc_eq, lc_r, xI_inj, xJ_inj, Option.some.injEq, eq_self, bi_r, bi_0, bi_1, bi_n, Classical.not_not, and_true, true_and, ite_true, ite_false, ↓reduceIte, ↓x_andl, z_le, z_nle, z_lt, z_nlt, z_eq, z_neq, if_pos, if_neg, x_andl, false_and, and_false, or_true, true_or, or_false, false_or, not_true, not_false_iff, x_rd_eq, x_rd_ne, x_st_o, Int.cast_ofNat_Int, Int.ofNat_zero, Int.ofNat_one, not_true_eq_false, not_false_eq_true, if_true, if_false, ite_self, and_self, Int.ofNat_eq_natCast, Int.tdiv_eq_ediv_of_nonneg, Int.tmod_eq_emod_of_nonneg, x_bm32, g25, mc, nv, g24, hm]
                  exact H2
      obtain ⟨σe, u4', q1, q2⟩ := ind 42 0 (by omega) (by omega) σi u4 ⟨j1, fun z p q => by omega, j2⟩
      exact ⟨σe, q1, u4', q2⟩
    obtain ⟨σe, q1, u4', q2⟩ := key
    refine ⟨(σe, xI (w_of w f (8 + i)), xJ (w_of w (w_of w f (8 + i)) 1), xI 42, u4'), q1, ?_⟩
    intro H
    simp only at H
    have hMi : mir σi 1 w := mir_eq hM (fun c q1 q2 => j1 c 1 (by simp; omega))
    have H2 := q2 (by
      rw [bk_5_4]
      simp (disch := first | omega | (simp only [x_wtI, x_wtJ, x_wtR, x_wtN]; omega) | assumption | (simp (disch := omega) only [x_st_o, x_rd_ne]; first | assumption | omega) | (apply mir_eq; assumption; (intro c h1 h2; simp (disch := omega) only [x_st_o])) | (apply mis_eq; assumption; (intro c h1 h2; simp (disch := omega) only [x_st_o])) | rfl) only [bk_5_0, bk_5_1, bk_5_2, bk_5_5, bk_5_6, bk_5_7, bk_5_8, bk_5_9, bk_5_10, wp_ald0, wr_24_6, wp_geti kd_24, wp_ifne, wp_lc, wp_goto, wp_fall, wk_278, wp_ic, wp_ist2, wp_ild2, wr_24_0, wr_6_14, wp_ild1, wl_8, wl_14, wl_15, wp_cald, wp_icge, wr_6_15, wp_imul, wp_iadd, wp_ist3, wr_6_8, wp_ild3, wp_i2l, wp_lst4, wp_ist6, wp_ild6, wr_24_4, wl_25, wl_27, wp_pald, wp_lst7, wp_lld7, wp_lcmp, wp_ifeq, ws_25, ws_27, wp_dup2, wp_lld4, wp_lmul, wp_ladd, wp_ifle, wp_inc6, wp_inc2, wp_ret, x_clr_I, x_clr_J, x_clr_R, x_clr_U, ct_some, ct_none, lc_lt, lc_ge, lc_gt, lc_le, lc_eq, lc_r, xI_inj, xJ_inj, Option.some.injEq, eq_self, bi_r, bi_0, bi_1, bi_n, Classical.not_not, and_true, true_and, ite_true, ite_false, ↓reduceIte, ↓x_andl, z_le, z_nle, z_lt, z_nlt, z_eq, z_neq, if_pos, if_neg, x_andl, false_and, and_false, or_true, true_or, or_false, false_or, not_true, not_false_iff, x_rd_eq, x_rd_ne, x_st_o, Int.cast_ofNat_Int, Int.ofNat_zero, Int.ofNat_one, not_true_eq_false, not_false_eq_true, if_true, if_false, ite_self, and_self, Int.ofNat_eq_natCast, Int.tdiv_eq_ediv_of_nonneg, Int.tmod_eq_emod_of_nonneg, x_bm32]
      exact H)
    rw [bk_5_3]
    simp (disch := first | omega | (simp only [x_wtI, x_wtJ, x_wtR, x_wtN]; omega) | assumption | (simp (disch := omega) only [x_st_o, x_rd_ne]; first | assumption | omega) | (apply mir_eq; assumption; (intro c h1 h2; simp (disch := omega) only [x_st_o])) | (apply mis_eq; assumption; (intro c h1 h2; simp (disch := omega) only [x_st_o])) | rfl) only [bk_5_0, bk_5_1, bk_5_2, bk_5_5, bk_5_6, bk_5_7, bk_5_8, bk_5_9, bk_5_10, wp_ald0, wr_24_6, wp_geti kd_24, wp_ifne, wp_lc, wp_goto, wp_fall, wk_278, wp_ic, wp_ist2, wp_ild2, wr_24_0, wr_6_14, wp_ild1, wl_8, wl_14, wl_15, wp_cald, wp_icge, wr_6_15, wp_imul, wp_iadd, wp_ist3, wr_6_8, wp_ild3, wp_i2l, wp_lst4, wp_ist6, wp_ild6, wr_24_4, wl_25, wl_27, wp_pald, wp_lst7, wp_lld7, wp_lcmp, wp_ifeq, ws_25, ws_27, wp_dup2, wp_lld4, wp_lmul, wp_ladd, wp_ifle, wp_inc6, wp_inc2, wp_ret, x_clr_I, x_clr_J, x_clr_R, x_clr_U, ct_some, ct_none, lc_lt, lc_ge, lc_gt, lc_le, lc_eq, lc_r, xI_inj, xJ_inj, Option.some.injEq, eq_self, bi_r, bi_0, bi_1, bi_n, Classical.not_not, and_true, true_and, ite_true, ite_false, ↓reduceIte, ↓x_andl, z_le, z_nle, z_lt, z_nlt, z_eq, z_neq, if_pos, if_neg, x_andl, false_and, and_false, or_true, true_or, or_false, false_or, not_true, not_false_iff, x_rd_eq, x_rd_ne, x_st_o, Int.cast_ofNat_Int, Int.ofNat_zero, Int.ofNat_one, not_true_eq_false, not_false_eq_true, if_true, if_false, ite_self, and_self, Int.ofNat_eq_natCast, Int.tdiv_eq_ediv_of_nonneg, Int.tmod_eq_emod_of_nonneg, x_bm32, mi_kids hMi, mi_kid hMi, mi_chance hMi]
    exact H2
  · intro ⟨σi, u1, u2, u3, u4⟩ ⟨j1, j2⟩
    simp only at j1 j2 ⊢
    have hMi : mir σi 1 w := mir_eq hM (fun c q1 q2 => j1 c 1 (by simp; omega))
    rw [bk_5_3]
    simp (disch := first | omega | (simp only [x_wtI, x_wtJ, x_wtR, x_wtN]; omega) | assumption | (simp (disch := omega) only [x_st_o, x_rd_ne]; first | assumption | omega) | (apply mir_eq; assumption; (intro c h1 h2; simp (disch := omega) only [x_st_o])) | (apply mis_eq; assumption; (intro c h1 h2; simp (disch := omega) only [x_st_o])) | rfl) only [bk_5_0, bk_5_1, bk_5_2, bk_5_5, bk_5_6, bk_5_7, bk_5_8, bk_5_9, bk_5_10, wp_ald0, wr_24_6, wp_geti kd_24, wp_ifne, wp_lc, wp_goto, wp_fall, wk_278, wp_ic, wp_ist2, wp_ild2, wr_24_0, wr_6_14, wp_ild1, wl_8, wl_14, wl_15, wp_cald, wp_icge, wr_6_15, wp_imul, wp_iadd, wp_ist3, wr_6_8, wp_ild3, wp_i2l, wp_lst4, wp_ist6, wp_ild6, wr_24_4, wl_25, wl_27, wp_pald, wp_lst7, wp_lld7, wp_lcmp, wp_ifeq, ws_25, ws_27, wp_dup2, wp_lld4, wp_lmul, wp_ladd, wp_ifle, wp_inc6, wp_inc2, wp_ret, x_clr_I, x_clr_J, x_clr_R, x_clr_U, ct_some, ct_none, lc_lt, lc_ge, lc_gt, lc_le, lc_eq, lc_r, xI_inj, xJ_inj, Option.some.injEq, eq_self, bi_r, bi_0, bi_1, bi_n, Classical.not_not, and_true, true_and, ite_true, ite_false, ↓reduceIte, ↓x_andl, z_le, z_nle, z_lt, z_nlt, z_eq, z_neq, if_pos, if_neg, x_andl, false_and, and_false, or_true, true_or, or_false, false_or, not_true, not_false_iff, x_rd_eq, x_rd_ne, x_st_o, Int.cast_ofNat_Int, Int.ofNat_zero, Int.ofNat_one, not_true_eq_false, not_false_eq_true, if_true, if_false, ite_self, and_self, Int.ofNat_eq_natCast, Int.tdiv_eq_ediv_of_nonneg, Int.tmod_eq_emod_of_nonneg, x_bm32, mi_kids hMi]
    exact hQ _ _ ⟨rfl, j1, j2⟩

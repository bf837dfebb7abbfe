theorem k_fill21 {d : Nat} {j : Nat} {v : Int} {σ : x_S} {Q : Option x_V → x_S → Prop} : x_Sp d 277 [xR 21 j, xI v] σ Q ↔ Q none (s_fl σ 21 j 0 40 v) := by
  refine x_sp_of ?_
  simp (disch := first | omega | (simp only [x_wtI, x_wtJ, x_wtR, x_wtN]; omega) | assumption | (simp (disch := omega) only [x_st_o, x_rd_ne]; first | assumption | omega) | (apply mir_eq; assumption; (intro c h1 h2; simp (disch := omega) only [x_st_o])) | (apply mis_eq; assumption; (intro c h1 h2; simp (disch := omega) only [x_st_o])) | rfl) only [sp_277, bk_277_0, bk_277_2, wp_ic, wp_ist2, wp_ald0, we_1, we_2, we_4, we_5, we_7, we_8, we_9, we_10, we_11, we_12, we_13, we_14, we_15, we_17, we_18, we_19, we_21, we_22, we_25, we_26, we_27, we_28, we_30, we_31, we_32, we_34, we_35, we_36, we_37, we_38, we_39, we_40, we_41, we_42, we_43, we_45, we_46, we_47, we_48, we_49, we_51, we_52, we_53, we_54, we_55, we_56, we_57, we_58, we_59, we_60, we_61, we_62, we_63, we_64, we_65, we_66, we_67, we_68, we_69, we_70, we_71, we_72, we_73, wp_slen, wp_clen, wp_ist3, wp_fall, wp_ild2, wp_ild3, wp_icge, wp_ild1, ws_1, ws_5, ws_7, ws_8, ws_9, ws_10, ws_11, ws_12, ws_13, ws_14, ws_15, ws_17, ws_18, ws_21, ws_22, ws_31, ws_32, ws_36, ws_37, ws_38, ws_39, ws_40, ws_41, ws_45, ws_46, ws_47, ws_48, ws_49, ws_51, ws_52, ws_55, ws_56, ws_57, ws_62, ws_63, ws_67, ws_69, ws_70, ws_71, wp_inc2, wp_goto, wp_ret, x_clr_I, x_clr_J, x_clr_R, x_clr_U, ct_some, ct_none, lc_lt, lc_ge, lc_gt, lc_le, lc_eq, lc_r, xI_inj, xJ_inj, Option.some.injEq, eq_self, bi_r, bi_0, bi_1, bi_n, Classical.not_not, and_true, true_and, ite_true, ite_false, ↓reduceIte, ↓x_andl, z_le, z_nle, z_lt, z_nlt, z_eq, z_neq, if_pos, if_neg, x_andl, false_and, and_false, or_true, true_or, or_false, false_or, not_true, not_false_iff, x_rd_eq, x_rd_ne, x_st_o, Int.cast_ofNat_Int, Int.ofNat_zero, Int.ofNat_one, not_true_eq_false, not_false_eq_true, if_true, if_false, ite_self, and_self, Int.ofNat_eq_natCast, Int.tdiv_eq_ediv_of_nonneg, Int.tmod_eq_emod_of_nonneg, x_bm32]
  have e : x_Wp d 277 (x_blk 277 1) [xR 21 j, xI v, xI 0, xI 40] [] (s_fl σ 21 j 0 0 v) (fun r2 σ2 => r2 = none ∧ σ2 = s_fl σ 21 j 0 40 v) := by
    refine x_lpJ (α := Unit) (fun i _ => True) (fun i _ => x_Wp d 277 (x_blk 277 1) [xR 21 j, xI v, xI i, xI 40] [] (s_fl σ 21 j 0 i v) (fun r2 σ2 => r2 = none ∧ σ2 = s_fl σ 21 j 0 40 v)) (lo := 0) (hi := 40) (by omega) (a0 := ()) trivial ?_ ?_
    · intro i _ i0 i1 _
      refine ⟨(), trivial, fun H => ?_⟩
      rw [bk_277_1]
      simp (disch := first | omega | (simp only [x_wtI, x_wtJ, x_wtR, x_wtN]; omega) | assumption | (simp (disch := omega) only [x_st_o, x_rd_ne]; first | assumption | omega) | (apply mir_eq; assumption; (intro c h1 h2; simp (disch := omega) only [x_st_o])) | (apply mis_eq; assumption; (intro c h1 h2; simp (disch := omega) only [x_st_o])) | rfl) only [bk_277_0, bk_277_2, wp_ic, wp_ist2, wp_ald0, we_1, we_2, we_4, we_5, we_7, we_8, we_9, we_10, we_11, we_12, we_13, we_14, we_15, we_17, we_18, we_19, we_21, we_22, we_25, we_26, we_27, we_28, we_30, we_31, we_32, we_34, we_35, we_36, we_37, we_38, we_39, we_40, we_41, we_42, we_43, we_45, we_46, we_47, we_48, we_49, we_51, we_52, we_53, we_54, we_55, we_56, we_57, we_58, we_59, we_60, we_61, we_62, we_63, we_64, we_65, we_66, we_67, we_68, we_69, we_70, we_71, we_72, we_73, wp_slen, wp_clen, wp_ist3, wp_fall, wp_ild2, wp_ild3, wp_icge, wp_ild1, ws_1, ws_5, ws_7, ws_8, ws_9, ws_10, ws_11, ws_12, ws_13, ws_14, ws_15, ws_17, ws_18, ws_21, ws_22, ws_31, ws_32, ws_36, ws_37, ws_38, ws_39, ws_40, ws_41, ws_45, ws_46, ws_47, ws_48, ws_49, ws_51, ws_52, ws_55, ws_56, ws_57, ws_62, ws_63, ws_67, ws_69, ws_70, ws_71, wp_inc2, wp_goto, wp_ret, x_clr_I, x_clr_J, x_clr_R, x_clr_U, ct_some, ct_none, lc_lt, lc_ge, lc_gt, lc_le, lc_eq, lc_r, xI_inj, xJ_inj, Option.some.injEq, eq_self, bi_r, bi_0, bi_1, bi_n, Classical.not_not, and_true, true_and, ite_true, ite_false, ↓reduceIte, ↓x_andl, z_le, z_nle, z_lt, z_nlt, z_eq, z_neq, if_pos, if_neg, x_andl, false_and, and_false, or_true, true_or, or_false, false_or, not_true, not_false_iff, x_rd_eq, x_rd_ne, x_st_o, Int.cast_ofNat_Int, Int.ofNat_zero, Int.ofNat_one, not_true_eq_false, not_false_eq_true, if_true, if_false, ite_self, and_self, Int.ofNat_eq_natCast, Int.tdiv_eq_ediv_of_nonneg, Int.tmod_eq_emod_of_nonneg, x_bm32, s_fl_s]
      exact H
    · intro _ _
      rw [bk_277_1]
      simp (disch := first | omega | (simp only [x_wtI, x_wtJ, x_wtR, x_wtN]; omega) | assumption | (simp (disch := omega) only [x_st_o, x_rd_ne]; first | assumption | omega) | (apply mir_eq; assumption; (intro c h1 h2; simp (disch := omega) only [x_st_o])) | (apply mis_eq; assumption; (intro c h1 h2; simp (disch := omega) only [x_st_o])) | rfl) only [bk_277_0, bk_277_2, wp_ic, wp_ist2, wp_ald0, we_1, we_2, we_4, we_5, we_7, we_8, we_9, we_10, we_11, we_12, we_13, we_14, we_15, we_17, we_18, we_19, we_21, we_22, we_25, we_26, we_27, we_28, we_30, we_31, we_32, we_34, we_35, we_36, we_37, we_38, we_39, we_40, we_41, we_42, we_43, we_45, we_46, we_47, we_48, we_49, we_51, we_52, we_53, we_54, we_55, we_56, we_57, we_58, we_59, we_60, we_61, we_62, we_63, we_64, we_65, we_66, we_67, we_68, we_69, we_70, we_71, we_72, we_73, wp_slen, wp_clen, wp_ist3, wp_fall, wp_ild2, wp_ild3, wp_icge, wp_ild1, ws_1, ws_5, ws_7, ws_8, ws_9, ws_10, ws_11, ws_12, ws_13, ws_14, ws_15, ws_17, ws_18, ws_21, ws_22, ws_31, ws_32, ws_36, ws_37, ws_38, ws_39, ws_40, ws_41, ws_45, ws_46, ws_47, ws_48, ws_49, ws_51, ws_52, ws_55, ws_56, ws_57, ws_62, ws_63, ws_67, ws_69, ws_70, ws_71, wp_inc2, wp_goto, wp_ret, x_clr_I, x_clr_J, x_clr_R, x_clr_U, ct_some, ct_none, lc_lt, lc_ge, lc_gt, lc_le, lc_eq, lc_r, xI_inj, xJ_inj, Option.some.injEq, eq_self, bi_r, bi_0, bi_1, bi_n, Classical.not_not, and_true, true_and, ite_true, ite_false, ↓reduceIte, ↓x_andl, z_le, z_nle, z_lt, z_nlt, z_eq, z_neq, if_pos, if_neg, x_andl, false_and, and_false, or_true, true_or, or_false, false_or, not_true, not_false_iff, x_rd_eq, x_rd_ne, x_st_o, Int.cast_ofNat_Int, Int.ofNat_zero, Int.ofNat_one, not_true_eq_false, not_false_eq_true, if_true, if_false, ite_self, and_self, Int.ofNat_eq_natCast, Int.tdiv_eq_ediv_of_nonneg, Int.tmod_eq_emod_of_nonneg, x_bm32]
  rw [s_fl_0] at e
  exact e
theorem k_fill22 {d : Nat} {j : Nat} {v : Int} {σ : x_S} {Q : Option x_V → x_S → Prop} : x_Sp d 277 [xR 22 j, xI v] σ Q ↔ Q none (s_fl σ 22 j 0 40 v) := by
  refine x_sp_of ?_
  simp (disch := first | omega | (simp only [x_wtI, x_wtJ, x_wtR, x_wtN]; omega) | assumption | (simp (disch := omega) only [x_st_o, x_rd_ne]; first | assumption | omega) | (apply mir_eq; assumption; (intro c h1 h2; simp (disch := omega) only [x_st_o])) | (apply mis_eq; assumption; (intro c h1 h2; simp (disch := omega) only [x_st_o])) | rfl) only [sp_277, bk_277_0, bk_277_2, wp_ic, wp_ist2, wp_ald0, we_1, we_2, we_4, we_5, we_7, we_8, we_9, we_10, we_11, we_12, we_13, we_14, we_15, we_17, we_18, we_19, we_21, we_22, we_25, we_26, we_27, we_28, we_30, we_31, we_32, we_34, we_35, we_36, we_37, we_38, we_39, we_40, we_41, we_42, we_43, we_45, we_46, we_47, we_48, we_49, we_51, we_52, we_53, we_54, we_55, we_56, we_57, we_58, we_59, we_60, we_61, we_62, we_63, we_64, we_65, we_66, we_67, we_68, we_69, we_70, we_71, we_72, we_73, wp_slen, wp_clen, wp_ist3, wp_fall, wp_ild2, wp_ild3, wp_icge, wp_ild1, ws_1, ws_5, ws_7, ws_8, ws_9, ws_10, ws_11, ws_12, ws_13, ws_14, ws_15, ws_17, ws_18, ws_21, ws_22, ws_31, ws_32, ws_36, ws_37, ws_38, ws_39, ws_40, ws_41, ws_45, ws_46, ws_47, ws_48, ws_49, ws_51, ws_52, ws_55, ws_56, ws_57, ws_62, ws_63, ws_67, ws_69, ws_70, ws_71, wp_inc2, wp_goto, wp_ret, x_clr_I, x_clr_J, x_clr_R, x_clr_U, ct_some, ct_none, lc_lt, lc_ge, lc_gt, lc_le, lc_eq, lc_r, xI_inj, xJ_inj, Option.some.injEq, eq_self, bi_r, bi_0, bi_1, bi_n, Classical.not_not, and_true, true_and, ite_true, ite_false, ↓reduceIte, ↓x_andl, z_le, z_nle, z_lt, z_nlt, z_eq, z_neq, if_pos, if_neg, x_andl, false_and, and_false, or_true, true_or, or_false, false_or, not_true, not_false_iff, x_rd_eq, x_rd_ne, x_st_o, Int.cast_ofNat_Int, Int.ofNat_zero, Int.ofNat_one, not_true_eq_false, not_false_eq_true, if_true, if_false, ite_self, and_self, Int.ofNat_eq_natCast, Int.tdiv_eq_ediv_of_nonneg, Int.tmod_eq_emod_of_nonneg, x_bm32]
  have e : x_Wp d 277 (x_blk 277 1) [xR 22 j, xI v, xI 0, xI 40] [] (s_fl σ 22 j 0 0 v) (fun r2 σ2 => r2 = none ∧ σ2 = s_fl σ 22 j 0 40 v) := by
    refine x_lpJ (α := Unit) (fun i _ => True) (fun i _ => x_Wp d 277 (x_blk 277 1) [xR 22 j, xI v, xI i, xI 40] [] (s_fl σ 22 j 0 i v) (fun r2 σ2 => r2 = none ∧ σ2 = s_fl σ 22 j 0 40 v)) (lo := 0) (hi := 40) (by omega) (a0 := ()) trivial ?_ ?_
    · intro i _ i0 i1 _
      refine ⟨(), trivial, fun H => ?_⟩
      rw [bk_277_1]
      simp (disch := first | omega | (simp only [x_wtI, x_wtJ, x_wtR, x_wtN]; omega) | assumption | (simp (disch := omega) only [x_st_o, x_rd_ne]; first | assumption | omega) | (apply mir_eq; assumption; (intro c h1 h2; simp (disch := omega) only [x_st_o])) | (apply mis_eq; assumption; (intro c h1 h2; simp (disch := omega) only [x_st_o])) | rfl) only [bk_277_0, bk_277_2, wp_ic, wp_ist2, wp_ald0, we_1, we_2, we_4, we_5, we_7, we_8, we_9, we_10, we_11, we_12, we_13, we_14, we_15, we_17, we_18, we_19, we_21, we_22, we_25, we_26, we_27, we_28, we_30, we_31, we_32, we_34, we_35, we_36, we_37, we_38, we_39, we_40, we_41, we_42, we_43, we_45, we_46, we_47, we_48, we_49, we_51, we_52, we_53, we_54, we_55, we_56, we_57, we_58, we_59, we_60, we_61, we_62, we_63, we_64, we_65, we_66, we_67, we_68, we_69, we_70, we_71, we_72, we_73, wp_slen, wp_clen, wp_ist3, wp_fall, wp_ild2, wp_ild3, wp_icge, wp_ild1, ws_1, ws_5, ws_7, ws_8, ws_9, ws_10, ws_11, ws_12, ws_13, ws_14, ws_15, ws_17, ws_18, ws_21, ws_22, ws_31, ws_32, ws_36, ws_37, ws_38, ws_39, ws_40, ws_41, ws_45, ws_46, ws_47, ws_48, ws_49, ws_51, ws_52, ws_55, ws_56, ws_57, ws_62, ws_63, ws_67, ws_69, ws_70, ws_71, wp_inc2, wp_goto, wp_ret, x_clr_I, x_clr_J, x_clr_R, x_clr_U, ct_some, ct_none, lc_lt, lc_ge, lc_gt, lc_le, lc_eq, lc_r, xI_inj, xJ_inj, Option.some.injEq, eq_self, bi_r, bi_0, bi_1, bi_n, Classical.not_not, and_true, true_and, ite_true, ite_false, ↓reduceIte, ↓x_andl, z_le, z_nle, z_lt, z_nlt, z_eq, z_neq, if_pos, if_neg, x_andl, false_and, and_false, or_true, true_or, or_false, false_or, not_true, not_false_iff, x_rd_eq, x_rd_ne, x_st_o, Int.cast_ofNat_Int, Int.ofNat_zero, Int.ofNat_one, not_true_eq_false, not_false_eq_true, if_true, if_false, ite_self, and_self, Int.ofNat_eq_natCast, Int.tdiv_eq_ediv_of_nonneg, Int.tmod_eq_emod_of_nonneg, x_bm32, s_fl_s]
      exact H
    · intro _ _
      rw [bk_277_1]
      simp (disch := first | omega | (simp only [x_wtI, x_wtJ, x_wtR, x_wtN]; omega) | assumption | (simp (disch := omega) only [x_st_o, x_rd_ne]; first | assumption | omega) | (apply mir_eq; assumption; (intro c h1 h2; simp (disch := omega) only [x_st_o])) | (apply mis_eq; assumption; (intro c h1 h2; simp (disch := omega) only [x_st_o])) | rfl) only [bk_277_0, bk_277_2, wp_ic, wp_ist2, wp_ald0, we_1, we_2, we_4, we_5, we_7, we_8, we_9, we_10, we_11, we_12, we_13, we_14, we_15, we_17, we_18, we_19, we_21, we_22, we_25, we_26, we_27, we_28, we_30, we_31, we_32, we_34, we_35, we_36, we_37, we_38, we_39, we_40, we_41, we_42, we_43, we_45, we_46, we_47, we_48, we_49, we_51, we_52, we_53, we_54, we_55, we_56, we_57, we_58, we_59, we_60, we_61, we_62, we_63, we_64, we_65, we_66, we_67, we_68, we_69, we_70, we_71, we_72, we_73, wp_slen, wp_clen, wp_ist3, wp_fall, wp_ild2, wp_ild3, wp_icge, wp_ild1, ws_1, ws_5, ws_7, ws_8, ws_9, ws_10, ws_11, ws_12, ws_13, ws_14, ws_15, ws_17, ws_18, ws_21, ws_22, ws_31, ws_32, ws_36, ws_37, ws_38, ws_39, ws_40, ws_41, ws_45, ws_46, ws_47, ws_48, ws_49, ws_51, ws_52, ws_55, ws_56, ws_57, ws_62, ws_63, ws_67, ws_69, ws_70, ws_71, wp_inc2, wp_goto, wp_ret, x_clr_I, x_clr_J, x_clr_R, x_clr_U, ct_some, ct_none, lc_lt, lc_ge, lc_gt, lc_le, lc_eq, lc_r, xI_inj, xJ_inj, Option.some.injEq, eq_self, bi_r, bi_0, bi_1, bi_n, Classical.not_not, and_true, true_and, ite_true, ite_false, ↓reduceIte, ↓x_andl, z_le, z_nle, z_lt, z_nlt, z_eq, z_neq, if_pos, if_neg, x_andl, false_and, and_false, or_true, true_or, or_false, false_or, not_true, not_false_iff, x_rd_eq, x_rd_ne, x_st_o, Int.cast_ofNat_Int, Int.ofNat_zero, Int.ofNat_one, not_true_eq_false, not_false_eq_true, if_true, if_false, ite_self, and_self, Int.ofNat_eq_natCast, Int.tdiv_eq_ediv_of_nonneg, Int.tmod_eq_emod_of_nonneg, x_bm32]
  rw [s_fl_0] at e
  exact e
theorem dfS_n {c j : Nat} (h : ¬ j = 0 ∨ c = 4 ∨ c < 3 ∨ 16 ≤ c) : (c, j) ∉ dfS := by
  unfold dfS
  simp only [List.mem_cons, Prod.mk.injEq, List.not_mem_nil, or_false]
  omega
set_option maxHeartbeats 8000000 in
theorem o_text {L : Int} {S0 : Int → Int} : x_o4 (iN L S0) := by
  intro σ hI
  obtain ⟨hW, hT, hF, hMm, hSs, hR, hII, hX⟩ := id hI
  obtain ⟨⟨r1, r5a, r5b⟩, rb, r23⟩ := id hR
  have hB : rdB σ (σ 54 0) (σ 50 0 5) := ⟨⟨r5a, r5b⟩, r1, fun i i0 i1 => rb i i0 i1⟩
  obtain ⟨r, σ1, ⟨eo, e1, m, x', fr', td', wo', hLR, ⟨f2, f3⟩, hr, hx, hg⟩, ev⟩ := x_ex (h_read (fr := fr0 (σ 56 0)) (td := td0 (σ 58 0)) (wo := σ 57 0) hB fr0_w.1 fr0_w.2 td0_z.1)
  have o1 : ∀ c j, (¬ j = 0 ∨ c = 4 ∨ c < 3 ∨ 16 ≤ c) → σ1 c j = σ c j := fun c j h => eo c j (dfS_n h)
  have mt : ∀ τ : x_S, (∀ c, c = 50 ∨ c = 54 ∨ c = 56 ∨ c = 57 ∨ c = 58 → τ c 0 = σ1 c 0) → x_Sp 10 174 [xR 50 0] τ (fun r τ' => mtP (σ 54 0) (σ 50 0 5) x' fr' wo' r τ τ') := by
    intro τ hτ
    have q : ∀ c, c = 50 ∨ c = 54 ∨ c = 56 ∨ c = 57 ∨ c = 58 → τ c 0 = σ c 0 := fun c hc => by rw [hτ c hc]; exact o1 c 0 (by omega)
    exact h_mtext ⟨r5a, r5b⟩ (by rw [q 50 (by omega)]) (fun i i0 i1 => by rw [q 54 (by omega)]; exact ⟨rfl, (rb i i0 i1).2⟩) (by rw [q 56 (by omega), q 57 (by omega), q 58 (by omega)]; exact hLR) hx
  refine ag_I (x_gen (fun Q hQ => ?_))
  by_cases c : (FN (σ 54 0) (σ 50 0 5) x' fr' wo').1 = 0
  · rw [if_pos c] at hr
    subst hr
    obtain ⟨hM1, x0, hw, h100, p1⟩ := hg c
    obtain ⟨hdW, _⟩ := hx x0
    obtain ⟨ra, σa, ⟨hra, ea, ma⟩, eva⟩ := x_ex (h_treeCopy (σ := σ1) (a := 1) (b := 0) (by omega) (by omega) (by omega))
    subst hra
    have hMa := ma fr' hw hM1
    have oa : ∀ c j, (¬ j = 1 ∨ c < 6 ∨ 16 ≤ c) → σa c j = σ1 c j := fun c j h => ea c j (by simp; omega)
    generalize hSb : s_fl (s_fl σa 21 1 0 40 0) 22 1 0 40 0 = Sb
    have ob : ∀ c j, ¬ (c = 21 ∧ j = 1) → ¬ (c = 22 ∧ j = 1) → Sb c j = σa c j := by
      intro c j h1 h2
      subst hSb
      rw [s_fl_o h2, s_fl_o h1]
    have b21 : ∀ f, 0 ≤ f → f < 40 → Sb 21 1 f = 0 := by
      intro f f0 f1
      subst hSb
      rw [s_fl_o (by omega), s_fl_w]
      exact if_pos ⟨f0, f1⟩
    have b22 : ∀ f, 0 ≤ f → f < 40 → Sb 22 1 f = 0 := by
      intro f f0 f1
      subst hSb
      rw [s_fl_w]
      exact if_pos ⟨f0, f1⟩
    have bst : Sb 6 1 0 = fr' 1 := by rw [ob 6 1 (by omega) (by omega)]; exact mi_start hMa
    have bsz : Sb 6 1 6 = fr' 0 := by rw [ob 6 1 (by omega) (by omega)]; exact mi_size hMa
    generalize hSd : x_st (x_st (x_st (x_st (x_st (x_st (x_st (x_st (x_st Sb 20 1 3 0) 20 1 4 (fr' 1)) 20 1 5 0) 20 1 6 0) 20 1 7 0) 0 0 13 0) 0 0 14 0) 0 0 15 0) 0 0 16 0 = Sd
    have od : ∀ c j, ¬ (c = 20 ∧ j = 1) → ¬ (c = 0 ∧ j = 0) → Sd c j = Sb c j := by
      intro c j h1 h2
      subst hSd
      rw [x_st_o h2, x_st_o h2, x_st_o h2, x_st_o h2, x_st_o h1, x_st_o h1, x_st_o h1, x_st_o h1, x_st_o h1]
    have d3 : Sd 20 1 3 = 0 := by subst hSd; simp (disch := omega) only [x_st_o, x_rd_ne, x_rd_eq, s_fl_o, s_fl_in, s_fl_out, x_cp_o, x_cp_in, x_cp_out]
    have d4 : Sd 20 1 4 = fr' 1 := by subst hSd; simp (disch := omega) only [x_st_o, x_rd_ne, x_rd_eq, s_fl_o, s_fl_in, s_fl_out, x_cp_o, x_cp_in, x_cp_out]
    have d5 : Sd 20 1 5 = 0 := by subst hSd; simp (disch := omega) only [x_st_o, x_rd_ne, x_rd_eq, s_fl_o, s_fl_in, s_fl_out, x_cp_o, x_cp_in, x_cp_out]
    have d6 : Sd 20 1 6 = 0 := by subst hSd; simp (disch := omega) only [x_st_o, x_rd_ne, x_rd_eq, s_fl_o, s_fl_in, s_fl_out, x_cp_o, x_cp_in, x_cp_out]
    have d7 : Sd 20 1 7 = 0 := by subst hSd; simp (disch := omega) only [x_st_o, x_rd_ne, x_rd_eq, s_fl_o, s_fl_in, s_fl_out, x_cp_o, x_cp_in, x_cp_out]
    have d0 : ∀ k, 13 ≤ k → k ≤ 16 → Sd 0 0 k = 0 := by
      intro k k0 k1
      have kk : k = 13 ∨ k = 14 ∨ k = 15 ∨ k = 16 := by omega
      subst hSd
      rcases kk with rfl | rfl | rfl | rfl <;> simp (disch := omega) only [x_st_o, x_rd_ne, x_rd_eq, s_fl_o, s_fl_in, s_fl_out, x_cp_o, x_cp_in, x_cp_out]
    have d17 : Sd 0 0 17 = Sb 0 0 17 := by subst hSd; simp (disch := omega) only [x_st_o, x_rd_ne, x_rd_eq, s_fl_o, s_fl_in, s_fl_out, x_cp_o, x_cp_in, x_cp_out]
    have dsz : Sd 6 1 6 = fr' 0 := by rw [od 6 1 (by omega) (by omega)]; exact bsz
    have mb := (wf_h hw).1
    -- the model
    obtain ⟨r2, σ2, ⟨f5, z5, ⟨g2, g3⟩, hh⟩, ev2⟩ := x_ex (mt Sd (fun c hc => by rw [od c 0 (by omega) (by omega), ob c 0 (by omega) (by omega), oa c 0 (by omega)]))
    obtain ⟨_, hr2, hwd⟩ := hh.resolve_left (fun z => z.1 c)
    subst hr2
    -- all that stays
    have os : ∀ c j, ¬ ((c, j) ∈ [(50, 0), (51, 0), (56, 0), (57, 0), (58, 0)]) → σ2 c j = Sd c j := f5.1
    have all : ∀ c j, (c = 4 ∧ j = 0) ∨ (1 ≤ c ∧ c < 3) ∨ (16 ≤ c ∧ ¬ (c = 20 ∧ j = 1) ∧ ¬ (c = 21 ∧ j = 1) ∧ ¬ (c = 22 ∧ j = 1) ∧ ¬ (c = 50 ∧ j = 0) ∧ ¬ (c = 51 ∧ j = 0) ∧ ¬ (c = 56 ∧ j = 0) ∧ ¬ (c = 57 ∧ j = 0) ∧ ¬ (c = 58 ∧ j = 0)) ∨ (6 ≤ c ∧ c ≤ 15 ∧ 2 ≤ j) → σ2 c j = σ c j := by
      intro c j h
      rw [os c j (by simp; omega), od c j (by omega) (by omega), ob c j (by omega) (by omega), oa c j (by omega), o1 c j (by omega)]
    have v50 : ∀ q, ¬ (q = 5 ∨ q = 7 ∨ q = 8 ∨ q = 9 ∨ q = 10 ∨ q = 11 ∨ q = 12 ∨ q = 13) → σ2 50 0 q = σ 50 0 q := by
      intro q hq
      rw [f5.2 q hq, od 50 0 (by omega) (by omega), ob 50 0 (by omega) (by omega), oa 50 0 (by omega), o1 50 0 (by omega)]
    have v3 : σ2 3 0 = σ1 3 0 := by rw [os 3 0 (by simp), od 3 0 (by omega) (by omega), ob 3 0 (by omega) (by omega), oa 3 0 (by omega)]
    have t : tq fr' (σ2 51 0) := ⟨fun i i0 i1 => by rw [hwd i i0 (by omega), if_neg (by omega)], fun i i0 i1 => by rw [hwd i (by omega) (by omega), if_neg (by omega)]⟩
    have z8 : ∀ i, (7 ≤ i ∧ i < 16) ∨ (536 ≤ i ∧ i < 616) → ¬ i = 9 → σ2 51 0 i = 0 := by
      intro i hi h9
      rw [hwd i (by omega) (by omega), if_neg h9]
      exact hdW.2.1 i hi
    have w9 : σ2 51 0 9 = fr' 1 := by rw [hwd 9 (by omega) (by omega), if_pos rfl]
    have w0 : σ2 51 0 0 = fr' 0 := t.1 0 (by omega) (by omega)
    have hp := (hdW.2.2.resolve_left (fun z => by omega)).2
    have hhd := hdW.1
    unfold dHd at hhd
    have hM2 : mir σ2 1 fr' := mir_eq hMa (fun c q1 q2 => by rw [os c 1 (by simp), od c 1 (by omega) (by omega), ob c 1 (by omega) (by omega)])
    have s20 : σ2 20 1 = Sd 20 1 := os 20 1 (by simp)
    have inv : iN L S0 σ2 := by
      refine ⟨⟨⟨tq_wf t hw, tq_100 t hw h100, ?_, ?_⟩, tq_mir t hw hM2, ⟨?_, ?_, ?_, ?_, ?_⟩, ?_⟩, iT_zero (fun k k0 k1 => by rw [os 0 0 (by simp)]; exact d0 k k0 k1), iF_eq hF (fun j k _ _ _ => by rw [all 24 j (by omega)]), iM_eq hMm (v50 17 (by omega)) (v50 18 (by omega)) (v50 19 (by omega)) (v50 33 (by omega)) ?_, iS_eq hSs (fun c q => all c 0 (by omega)), ⟨⟨?_, ?_, ?_⟩, ?_, ?_, ?_⟩, iI_eq hII (all 52 0 (by omega)) (all 53 0 (by omega)) (fun c j a b q1 q2 => all c j (by omega)), iX_eq hX (fun j => all 100 j (by omega))⟩
      · have o := wf_f hw (f := 0) (by omega) (by omega)
        unfold wf_one at o
        have e6 : w_of (σ2 51 0) 0 6 = 0 := by
          rw [tq_of t (by omega) (by omega) (by omega) (by omega)]
          exact (o.1.2.2 rfl).2
        unfold wn
        rw [z8 8 (by omega) (by omega), w9, z8 10 (by omega) (by omega), z8 11 (by omega) (by omega), z8 12 (by omega) (by omega), e6, w0]
        omega
      · intro f f0 f1
        rw [w0] at f1
        rw [tq_of t f0 (by omega) (by omega) (by omega), z8 (536 + 2 * f) (by omega) (by omega), z8 (536 + 2 * f + 1) (by omega) (by omega)]
        have := hp f f0 f1
        omega
      · rw [s20, d3, z8 8 (by omega) (by omega)]
      · rw [s20, d4, w9]
      · rw [s20, d5, z8 10 (by omega) (by omega)]
      · rw [s20, d6, z8 11 (by omega) (by omega)]
      · rw [s20, d7, z8 12 (by omega) (by omega)]
      · intro f f0 f1
        rw [w0] at f1
        rw [os 21 1 (by simp), os 22 1 (by simp), od 21 1 (by omega) (by omega), od 22 1 (by omega) (by omega), b21 f f0 (by omega), b22 f f0 (by omega), z8 (536 + 2 * f) (by omega) (by omega), z8 (536 + 2 * f + 1) (by omega) (by omega)]
        exact ⟨rfl, rfl⟩
      · rw [os 0 0 (by simp), d17, ob 0 0 (by omega) (by omega), oa 0 0 (by omega), o1 0 0 (by omega)]
      · rw [v3, e1, z5]
      · rw [z5]
        omega
      · rw [z5]
        omega
      · intro i i0 i1
        rw [z5] at i1
        omega
      · rw [v3, f2, g2]
      · rw [v3, f3, g3]
    have F := hQ (some (xI (fr' 0))) Sd ⟨fr' 0, rfl, fun j i => by rw [od 100 j (by omega) (by omega), ob 100 j (by omega) (by omega), oa 100 j (by omega), o1 100 j (by omega)], (ev2 989 _).mpr ⟨rfl, inv⟩⟩
    have kb := fun (d' : Nat) (Q' : Option x_V → x_S → Prop) => k_fill21 (d := d') (j := 1) (v := 0) (σ := σa) (Q := Q')
    have kb2 := fun (d' : Nat) (Q' : Option x_V → x_S → Prop) => k_fill22 (d := d') (j := 1) (v := 0) (σ := s_fl σa 21 1 0 40 0) (Q := Q')
    simp only [hSb] at kb2
    clear inv hh hwd t hQ hg hx hLR mt hM2 all v50 os od ob oa o1
    generalize fr' 0 = v0 at F dsz mb bsz
    generalize fr' 1 = v1 at F bst hSd
    simp (disch := first | omega | (simp only [x_wtI, x_wtJ, x_wtR, x_wtN]; omega) | assumption | (simp (disch := omega) only [x_st_o, x_rd_ne]; first | assumption | omega) | (apply mir_eq; assumption; (intro c h1 h2; simp (disch := omega) only [x_st_o])) | (apply mis_eq; assumption; (intro c h1 h2; simp (disch := omega) only [x_st_o])) | rfl) only [sp_96, bk_96_0, bk_96_1, wp_ald0, wr_0_0, wk_27, wp_ifne, wp_ic, wp_iret mz_96, wr_0_2, wr_20_0, wr_3_0, wk_62, wk_42, wk_97, wp_geti kd_6, x_clr_I, x_clr_J, x_clr_R, x_clr_U, ct_some, ct_none, lc_lt, lc_ge, lc_gt, lc_le, lc_eq, lc_r, xI_inj, xJ_inj, Option.some.injEq, eq_self, bi_r, bi_0, bi_1, bi_n, Classical.not_not, and_true, true_and, ite_true, ite_false, ↓reduceIte, ↓x_andl, z_le, z_nle, z_lt, z_nlt, z_eq, z_neq, if_pos, if_neg, x_andl, false_and, and_false, or_true, true_or, or_false, false_or, not_true, not_false_iff, x_rd_eq, x_rd_ne, x_st_o, Int.cast_ofNat_Int, Int.ofNat_zero, Int.ofNat_one, not_true_eq_false, not_false_eq_true, if_true, if_false, ite_self, and_self, Int.ofNat_eq_natCast, Int.tdiv_eq_ediv_of_nonneg, Int.tmod_eq_emod_of_nonneg, x_bm32]
    refine (ev 989 _).mpr ?_
    simp (disch := first | omega | (simp only [x_wtI, x_wtJ, x_wtR, x_wtN]; omega) | assumption | (simp (disch := omega) only [x_st_o, x_rd_ne]; first | assumption | omega) | (apply mir_eq; assumption; (intro c h1 h2; simp (disch := omega) only [x_st_o])) | (apply mis_eq; assumption; (intro c h1 h2; simp (disch := omega) only [x_st_o])) | rfl) only [bk_96_0, bk_96_1, wp_ald0, wr_0_0, wk_27, wp_ifne, wp_ic, wp_iret mz_96, wr_0_2, wr_20_0, wr_3_0, wk_62, wk_42, wk_97, wp_geti kd_6, x_clr_I, x_clr_J, x_clr_R, x_clr_U, ct_some, ct_none, lc_lt, lc_ge, lc_gt, lc_le, lc_eq, lc_r, xI_inj, xJ_inj, Option.some.injEq, eq_self, bi_r, bi_0, bi_1, bi_n, Classical.not_not, and_true, true_and, ite_true, ite_false, ↓reduceIte, ↓x_andl, z_le, z_nle, z_lt, z_nlt, z_eq, z_neq, if_pos, if_neg, x_andl, false_and, and_false, or_true, true_or, or_false, false_or, not_true, not_false_iff, x_rd_eq, x_rd_ne, x_st_o, Int.cast_ofNat_Int, Int.ofNat_zero, Int.ofNat_one, not_true_eq_false, not_false_eq_true, if_true, if_false, ite_self, and_self, Int.ofNat_eq_natCast, Int.tdiv_eq_ediv_of_nonneg, Int.tmod_eq_emod_of_nonneg, x_bm32]
    refine (eva 996 _).mpr ?_
    simp (disch := first | omega | (simp only [x_wtI, x_wtJ, x_wtR, x_wtN]; omega) | assumption | (simp (disch := omega) only [x_st_o, x_rd_ne]; first | assumption | omega) | (apply mir_eq; assumption; (intro c h1 h2; simp (disch := omega) only [x_st_o])) | (apply mis_eq; assumption; (intro c h1 h2; simp (disch := omega) only [x_st_o])) | rfl) only [bk_96_0, bk_96_1, wp_ald0, wr_0_0, wk_27, wp_ifne, wp_ic, wp_iret mz_96, wr_0_2, wr_20_0, wr_3_0, wk_62, wk_42, wk_97, wp_geti kd_6, bk_42_0, wr_20_1, wk_277, wr_20_2, wk_43, wp_ret, bk_43_0, wp_puti kd_20, bk_97_0, wp_putz kd_0, wk_98, bk_98_0, x_clr_I, x_clr_J, x_clr_R, x_clr_U, ct_some, ct_none, lc_lt, lc_ge, lc_gt, lc_le, lc_eq, lc_r, xI_inj, xJ_inj, Option.some.injEq, eq_self, bi_r, bi_0, bi_1, bi_n, Classical.not_not, and_true, true_and, ite_true, ite_false, ↓reduceIte, ↓x_andl, z_le, z_nle, z_lt, z_nlt, z_eq, z_neq, if_pos, if_neg, x_andl, false_and, and_false, or_true, true_or, or_false, false_or, not_true, not_false_iff, x_rd_eq, x_rd_ne, x_st_o, Int.cast_ofNat_Int, Int.ofNat_zero, Int.ofNat_one, not_true_eq_false, not_false_eq_true, if_true, if_false, ite_self, and_self, Int.ofNat_eq_natCast, Int.tdiv_eq_ediv_of_nonneg, Int.tmod_eq_emod_of_nonneg, x_bm32, sp_42, sp_43, sp_97, sp_98, kb, kb2, bst, hSd, dsz]
    exact F
  · rw [if_neg c] at hr
    subst hr
    obtain ⟨r2, σ2, ⟨f5, z5, ⟨g2, g3⟩, hh⟩, ev2⟩ := x_ex (mt σ1 (fun _ _ => rfl))
    obtain ⟨_, hr2, w51⟩ := hh.resolve_right (fun z => c z.1)
    subst hr2
    have os : ∀ c j, ¬ ((c, j) ∈ [(50, 0), (51, 0), (56, 0), (57, 0), (58, 0)]) → σ2 c j = σ1 c j := f5.1
    have all : ∀ c j, ¬ j = 0 ∨ c = 4 ∨ c < 3 ∨ (16 ≤ c ∧ ¬ (c = 50 ∧ j = 0) ∧ ¬ (c = 51 ∧ j = 0) ∧ ¬ (c = 56 ∧ j = 0) ∧ ¬ (c = 57 ∧ j = 0) ∧ ¬ (c = 58 ∧ j = 0)) → σ2 c j = σ c j := by
      intro c j h
      rw [os c j (by simp; omega), o1 c j (by omega)]
    have v50 : ∀ q, ¬ (q = 5 ∨ q = 7 ∨ q = 8 ∨ q = 9 ∨ q = 10 ∨ q = 11 ∨ q = 12 ∨ q = 13) → σ2 50 0 q = σ 50 0 q := by
      intro q hq
      rw [f5.2 q hq, o1 50 0 (by omega)]
    have v3 : σ2 3 0 = σ1 3 0 := os 3 0 (by simp)
    have w51' : σ2 51 0 = σ 51 0 := by rw [w51, o1 51 0 (by omega)]
    have inv : iN L S0 σ2 := by
      refine ⟨iW_eq hW w51' (fun c _ _ => all c 1 (by omega)), iT_eq hT w51' (fun k _ _ => by rw [all 0 0 (by omega)]) (all 25 0 (by omega)) (all 25 1 (by omega)) (all 25 2 (by omega)) (all 26 2 (by omega)) (all 30 0 (by omega)) (all 31 0 (by omega)), iF_eq hF (fun j k _ _ _ => by rw [all 24 j (by omega)]), iM_eq hMm (v50 17 (by omega)) (v50 18 (by omega)) (v50 19 (by omega)) (v50 33 (by omega)) (by rw [all 0 0 (by omega)]), iS_eq hSs (fun c q => all c 0 (by omega)), ⟨⟨?_, ?_, ?_⟩, ?_, ?_, ?_⟩, iI_eq hII (all 52 0 (by omega)) (all 53 0 (by omega)) (fun c j a b q1 q2 => all c j (by omega)), iX_eq hX (fun j => all 100 j (by omega))⟩
      · rw [v3, e1, z5]
      · rw [z5]
        omega
      · rw [z5]
        omega
      · intro i i0 i1
        rw [z5] at i1
        omega
      · rw [v3, f2, g2]
      · rw [v3, f3, g3]
    have F := hQ (some (xI (-4))) σ1 ⟨-4, rfl, fun j i => by rw [o1 100 j (by omega)], (ev2 989 _).mpr ⟨rfl, inv⟩⟩
    clear inv hh hQ hg hx hLR mt all v50 os o1
    simp (disch := first | omega | (simp only [x_wtI, x_wtJ, x_wtR, x_wtN]; omega) | assumption | (simp (disch := omega) only [x_st_o, x_rd_ne]; first | assumption | omega) | (apply mir_eq; assumption; (intro c h1 h2; simp (disch := omega) only [x_st_o])) | (apply mis_eq; assumption; (intro c h1 h2; simp (disch := omega) only [x_st_o])) | rfl) only [sp_96, bk_96_0, bk_96_1, wp_ald0, wr_0_0, wk_27, wp_ifne, wp_ic, wp_iret mz_96, wr_0_2, wr_20_0, wr_3_0, wk_62, wk_42, wk_97, wp_geti kd_6, x_clr_I, x_clr_J, x_clr_R, x_clr_U, ct_some, ct_none, lc_lt, lc_ge, lc_gt, lc_le, lc_eq, lc_r, xI_inj, xJ_inj, Option.some.injEq, eq_self, bi_r, bi_0, bi_1, bi_n, Classical.not_not, and_true, true_and, ite_true, ite_false, ↓reduceIte, ↓x_andl, z_le, z_nle, z_lt, z_nlt, z_eq, z_neq, if_pos, if_neg, x_andl, false_and, and_false, or_true, true_or, or_false, false_or, not_true, not_false_iff, x_rd_eq, x_rd_ne, x_st_o, Int.cast_ofNat_Int, Int.ofNat_zero, Int.ofNat_one, not_true_eq_false, not_false_eq_true, if_true, if_false, ite_self, and_self, Int.ofNat_eq_natCast, Int.tdiv_eq_ediv_of_nonneg, Int.tmod_eq_emod_of_nonneg, x_bm32]
    refine (ev 989 _).mpr ?_
    simp (disch := first | omega | (simp only [x_wtI, x_wtJ, x_wtR, x_wtN]; omega) | assumption | (simp (disch := omega) only [x_st_o, x_rd_ne]; first | assumption | omega) | (apply mir_eq; assumption; (intro c h1 h2; simp (disch := omega) only [x_st_o])) | (apply mis_eq; assumption; (intro c h1 h2; simp (disch := omega) only [x_st_o])) | rfl) only [bk_96_0, bk_96_1, wp_ald0, wr_0_0, wk_27, wp_ifne, wp_ic, wp_iret mz_96, wr_0_2, wr_20_0, wr_3_0, wk_62, wk_42, wk_97, wp_geti kd_6, x_clr_I, x_clr_J, x_clr_R, x_clr_U, ct_some, ct_none, lc_lt, lc_ge, lc_gt, lc_le, lc_eq, lc_r, xI_inj, xJ_inj, Option.some.injEq, eq_self, bi_r, bi_0, bi_1, bi_n, Classical.not_not, and_true, true_and, ite_true, ite_false, ↓reduceIte, ↓x_andl, z_le, z_nle, z_lt, z_nlt, z_eq, z_neq, if_pos, if_neg, x_andl, false_and, and_false, or_true, true_or, or_false, false_or, not_true, not_false_iff, x_rd_eq, x_rd_ne, x_st_o, Int.cast_ofNat_Int, Int.ofNat_zero, Int.ofNat_one, not_true_eq_false, not_false_eq_true, if_true, if_false, ite_self, and_self, Int.ofNat_eq_natCast, Int.tdiv_eq_ediv_of_nonneg, Int.tmod_eq_emod_of_nonneg, x_bm32]
    exact F

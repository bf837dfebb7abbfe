theorem tq_616 {w w' : Int → Int} (e : ∀ i, 0 ≤ i → i < 616 → w' i = w i) : tq w w' := ⟨fun i a b => e i a (by omega), fun i a b => e i (by omega) (by omega)⟩
theorem ww_616 {w w' : Int → Int} (e : ∀ i, 0 ≤ i → i < 616 → w' i = w i) (h : wW w) : wW w' := by
  obtain ⟨hw, h100, hn, hq⟩ := h
  have t := tq_616 e
  have a := wf_h hw
  unfold wf_hdr at a
  unfold wn at hn
  refine ⟨tq_wf t hw, tq_100 t hw h100, ?_, ?_⟩
  · unfold wn
    rw [e 8 (by omega) (by omega), e 9 (by omega) (by omega), e 10 (by omega) (by omega), e 11 (by omega) (by omega), e 12 (by omega) (by omega), e 0 (by omega) (by omega), tq_of t (by omega) (by omega) (by omega) (by omega)]
    exact hn
  · intro f f0 f1
    rw [e 0 (by omega) (by omega)] at f1
    rw [tq_of t f0 (by omega) (by omega) (by omega), e _ (by omega) (by omega), e _ (by omega) (by omega)]
    exact hq f f0 f1
theorem mis_616 {σ : x_S} {j : Nat} {w w' : Int → Int} (e : ∀ i, 0 ≤ i → i < 616 → w' i = w i) (hw : wf w) (h : mis σ j w) : mis σ j w' := by
  have a := wf_h hw
  unfold wf_hdr at a
  refine ⟨?_, ?_⟩
  · rw [e 8 (by omega) (by omega), e 9 (by omega) (by omega), e 10 (by omega) (by omega), e 11 (by omega) (by omega), e 12 (by omega) (by omega)]
    exact h.1
  · intro f f0 f1
    rw [e 0 (by omega) (by omega)] at f1
    rw [e _ (by omega) (by omega), e _ (by omega) (by omega)]
    exact h.2 f f0 f1
theorem h_treeCopy {σ : x_S} {a b : Nat} (ha : a < 5) (hb : b < 5) (hab : ¬ b = a) : x_Sp 2 62 [xR 6 a, xR 6 b] σ (fun r σ' => r = none ∧ x_eqo [(6, a), (7, a), (8, a), (9, a), (10, a), (11, a), (12, a), (13, a), (14, a), (15, a)] σ σ' ∧ ∀ w, wf w → mir σ b w → mir σ' a w) := by
  simp (disch := first | omega | (simp only [x_wtI, x_wtJ, x_wtR, x_wtN]; omega) | assumption | (simp (disch := omega) only [x_st_o, x_rd_ne]; first | assumption | omega) | (refine mir_eq ?_ ?_; assumption; (intro c h1 h2; simp (disch := omega) only [x_st_o])) | (refine mis_eq ?_ ?_; assumption; (intro c h1 h2; simp (disch := omega) only [x_st_o])) | rfl) only [sp_62, bk_62_0, wp_ald0, wp_ald1, wp_geti kd_6, wp_puti kd_6, wr_6_7, wp_ic, wp_acpy kd_7 kd_7 (Or.inl rfl), wp_acpy kd_8 kd_8 (Or.inl rfl), wp_acpy kd_9 kd_9 (Or.inl rfl), wp_acpy kd_10 kd_10 (Or.inl rfl), wp_acpy kd_11 kd_11 (Or.inl rfl), wp_acpy kd_12 kd_12 (Or.inl rfl), wp_acpy kd_13 kd_13 (Or.inl rfl), wp_acpy kd_14 kd_14 (Or.inl rfl), wp_acpy kd_15 kd_15 (Or.inl rfl), wr_6_8, wr_6_9, wr_6_10, wr_6_11, wr_6_12, wr_6_13, wr_6_14, wr_6_15, wp_ret, x_clr_I, x_clr_J, x_clr_R, x_clr_U, ct_some, ct_none, lc_lt, lc_ge, lc_gt, lc_le, lc_eq, lc_r, xI_inj, xJ_inj, Option.some.injEq, eq_self, bi_r, bi_0, bi_1, bi_n, Classical.not_not, and_true, true_and, ite_true, ite_false, ↓reduceIte, ↓x_andl, z_le, z_nle, z_lt, z_nlt, z_eq, z_neq, if_pos, if_neg, x_andl, false_and, and_false, or_true, true_or, or_false, false_or, not_true, not_false_iff, x_rd_eq, x_rd_ne, x_st_o, Int.cast_ofNat_Int, Int.ofNat_zero, Int.ofNat_one, not_true_eq_false, not_false_eq_true, if_true, if_false, ite_self, and_self, Int.ofNat_eq_natCast, Int.tdiv_eq_ediv_of_nonneg, Int.tmod_eq_emod_of_nonneg, x_bm32]
  refine ⟨?_, ?_⟩
  · repeat (first | exact eqo_refl | refine eqo_cp (by simp) ?_ | refine eqo_st (by simp) ?_)
  · intro w hw hm
    have q := wf_h hw
    unfold wf_hdr at q
    refine ⟨?_, ?_⟩
    · simp (disch := omega) only [x_st_o, x_rd_ne, x_rd_eq, s_fl_o, s_fl_in, s_fl_out, x_cp_o, x_cp_in, x_cp_out]
      exact hm.1
    · intro f f0 f1
      have z := hm.2 f f0 f1
      have o := wf_f hw f0 f1
      unfold wf_one at o
      refine ⟨?_, ?_⟩
      · simp (disch := omega) only [x_st_o, x_rd_ne, x_rd_eq, s_fl_o, s_fl_in, s_fl_out, x_cp_o, x_cp_in, x_cp_out]
        simp only [Int.zero_add, Int.sub_zero]
        exact z.1
      · intro i i0 i1
        simp (disch := omega) only [x_st_o, x_rd_ne, x_rd_eq, s_fl_o, s_fl_in, s_fl_out, x_cp_o, x_cp_in, x_cp_out]
        simp only [Int.zero_add, Int.sub_zero]
        exact z.2 i i0 i1
theorem h_sceneCopy {σ : x_S} {a b : Nat} (ha : 1 ≤ a ∧ a < 5) (hb : 1 ≤ b ∧ b < 5) (hab : ¬ b = a) : x_Sp 3 45 [xR 20 a, xR 20 b] σ (fun r σ' => r = none ∧ x_eqo [(6, a), (7, a), (8, a), (9, a), (10, a), (11, a), (12, a), (13, a), (14, a), (15, a), (20, a), (21, a), (22, a)] σ σ' ∧ σ' 20 a 8 = σ 20 a 8 ∧ ∀ w, wf w → mir σ b w → mis σ b w → mir σ' a w ∧ mis σ' a w) := by
  simp (disch := first | omega | (simp only [x_wtI, x_wtJ, x_wtR, x_wtN]; omega) | assumption | (simp (disch := omega) only [x_st_o, x_rd_ne]; first | assumption | omega) | (refine mir_eq ?_ ?_; assumption; (intro c h1 h2; simp (disch := omega) only [x_st_o])) | (refine mis_eq ?_ ?_; assumption; (intro c h1 h2; simp (disch := omega) only [x_st_o])) | rfl) only [sp_45, bk_45_0, wp_ald0, wr_20_0, wp_ald1, wk_62, wr_20_1, wp_ic, wp_acpy kd_21 kd_21 (Or.inl rfl), wp_acpy kd_22 kd_22 (Or.inl rfl), wr_20_2, wp_geti kd_20, wp_puti kd_20, wp_ret, x_clr_I, x_clr_J, x_clr_R, x_clr_U, ct_some, ct_none, lc_lt, lc_ge, lc_gt, lc_le, lc_eq, lc_r, xI_inj, xJ_inj, Option.some.injEq, eq_self, bi_r, bi_0, bi_1, bi_n, Classical.not_not, and_true, true_and, ite_true, ite_false, ↓reduceIte, ↓x_andl, z_le, z_nle, z_lt, z_nlt, z_eq, z_neq, if_pos, if_neg, x_andl, false_and, and_false, or_true, true_or, or_false, false_or, not_true, not_false_iff, x_rd_eq, x_rd_ne, x_st_o, Int.cast_ofNat_Int, Int.ofNat_zero, Int.ofNat_one, not_true_eq_false, not_false_eq_true, if_true, if_false, ite_self, and_self, Int.ofNat_eq_natCast, Int.tdiv_eq_ediv_of_nonneg, Int.tmod_eq_emod_of_nonneg, x_bm32]
  refine x_use (d := 0) (h_treeCopy (by omega) (by omega) hab) ?_
  rintro r σ1 ⟨rfl, e1, m1⟩
  have g20 : σ1 20 = σ 20 := by funext j; exact e1 20 j (by simp)
  have g21 : σ1 21 = σ 21 := by funext j; exact e1 21 j (by simp)
  have g22 : σ1 22 = σ 22 := by funext j; exact e1 22 j (by simp)
  simp (disch := first | omega | (simp only [x_wtI, x_wtJ, x_wtR, x_wtN]; omega) | assumption | (simp (disch := omega) only [x_st_o, x_rd_ne]; first | assumption | omega) | (refine mir_eq ?_ ?_; assumption; (intro c h1 h2; simp (disch := omega) only [x_st_o])) | (refine mis_eq ?_ ?_; assumption; (intro c h1 h2; simp (disch := omega) only [x_st_o])) | rfl) only [bk_45_0, wp_ald0, wr_20_0, wp_ald1, wk_62, wr_20_1, wp_ic, wp_acpy kd_21 kd_21 (Or.inl rfl), wp_acpy kd_22 kd_22 (Or.inl rfl), wr_20_2, wp_geti kd_20, wp_puti kd_20, wp_ret, x_clr_I, x_clr_J, x_clr_R, x_clr_U, ct_some, ct_none, lc_lt, lc_ge, lc_gt, lc_le, lc_eq, lc_r, xI_inj, xJ_inj, Option.some.injEq, eq_self, bi_r, bi_0, bi_1, bi_n, Classical.not_not, and_true, true_and, ite_true, ite_false, ↓reduceIte, ↓x_andl, z_le, z_nle, z_lt, z_nlt, z_eq, z_neq, if_pos, if_neg, x_andl, false_and, and_false, or_true, true_or, or_false, false_or, not_true, not_false_iff, x_rd_eq, x_rd_ne, x_st_o, Int.cast_ofNat_Int, Int.ofNat_zero, Int.ofNat_one, not_true_eq_false, not_false_eq_true, if_true, if_false, ite_self, and_self, Int.ofNat_eq_natCast, Int.tdiv_eq_ediv_of_nonneg, Int.tmod_eq_emod_of_nonneg, x_bm32]
  refine ⟨?_, ?_, ?_⟩
  · repeat (first | exact eqo_mono (by simp) e1 | refine eqo_cp (by simp) ?_ | refine eqo_st (by simp) ?_)
  · simp (disch := omega) only [x_st_o, x_rd_ne, x_rd_eq, s_fl_o, s_fl_in, s_fl_out, x_cp_o, x_cp_in, x_cp_out]
    rw [g20]
  · intro w hw hm hs
    have q := wf_h hw
    unfold wf_hdr at q
    refine ⟨mir_eq (m1 w hw hm) (fun c q1 q2 => ?_), ?_, ?_⟩
    · simp (disch := omega) only [x_st_o, x_rd_ne, x_rd_eq, s_fl_o, s_fl_in, s_fl_out, x_cp_o, x_cp_in, x_cp_out]
    · simp (disch := omega) only [x_st_o, x_rd_ne, x_rd_eq, s_fl_o, s_fl_in, s_fl_out, x_cp_o, x_cp_in, x_cp_out]
      rw [g20]
      exact hs.1
    · intro f f0 f1
      simp (disch := omega) only [x_st_o, x_rd_ne, x_rd_eq, s_fl_o, s_fl_in, s_fl_out, x_cp_o, x_cp_in, x_cp_out]
      simp only [Int.zero_add, Int.sub_zero]
      rw [g21, g22]
      exact hs.2 f f0 f1
theorem iN_img {L : Int} {S0 : Int → Int} {σ σ' : x_S} {a : Nat} (h : iN L S0 σ) (ha : 2 ≤ a ∧ a ≤ 4) (e : ∀ c j, ¬ (j = a ∧ 6 ≤ c ∧ c ≤ 22) → ¬ (c = 52 ∧ j = 0) → ¬ (c = 53 ∧ j = 0) → σ' c j = σ c j) (hI : iI σ') : iN L S0 σ' := by
  obtain ⟨hW, hT, hF, hM, hS, hR, _, hX⟩ := h
  have n51 := e 51 0 (by omega) (by omega) (by omega)
  have n0 := e 0 0 (by omega) (by omega) (by omega)
  have n3 := e 3 0 (by omega) (by omega) (by omega)
  have n50 := e 50 0 (by omega) (by omega) (by omega)
  exact ⟨iW_eq hW n51 (fun c _ _ => e c 1 (by omega) (by omega) (by omega)), iT_eq hT n51 (fun k _ _ => by rw [n0]) (e 25 0 (by omega) (by omega) (by omega)) (e 25 1 (by omega) (by omega) (by omega)) (e 25 2 (by omega) (by omega) (by omega)) (e 26 2 (by omega) (by omega) (by omega)) (e 30 0 (by omega) (by omega) (by omega)) (e 31 0 (by omega) (by omega) (by omega)), iF_eq hF (fun j k _ _ _ => by rw [e 24 j (by omega) (by omega) (by omega)]), iM_eq hM (by rw [n50]) (by rw [n50]) (by rw [n50]) (by rw [n50]) (by rw [n0]), iS_eq hS (fun c _ => e c 0 (by omega) (by omega) (by omega)), iR_eq hR (e 4 0 (by omega) (by omega) (by omega)) (e 54 0 (by omega) (by omega) (by omega)) (fun k _ _ => by rw [n3]) (by rw [n50]) (by rw [n50]) (by rw [n50]), hI, iX_eq hX (fun j => e 100 j (by omega) (by omega) (by omega))⟩
section O6
variable {L : Int} {S0 : Int → Int}
theorem o_keep : x_o47 (iN L S0) := by
  intro σ hh k hk
  refine ag_I ?_
  obtain ⟨w, h51, hw, h100, hn, hq, hM, hS⟩ := iN_w hh
  by_cases c : 0 ≤ k ∧ k < 3
  · simp (disch := first | omega | (simp only [x_wtI, x_wtJ, x_wtR, x_wtN]; omega) | assumption | (simp (disch := omega) only [x_st_o, x_rd_ne]; first | assumption | omega) | (refine mir_eq ?_ ?_; assumption; (intro c h1 h2; simp (disch := omega) only [x_st_o])) | (refine mis_eq ?_ ?_; assumption; (intro c h1 h2; simp (disch := omega) only [x_st_o])) | rfl) only [sp_161, bk_161_0, bk_161_1, bk_161_2, wp_ild1, wp_iflt, wp_ic, wp_iclt, wp_fall, wp_iret mz_161, wp_ald0, wr_0_3, wp_aald, wr_0_2, wk_45, wp_putz kd_20, x_clr_I, x_clr_J, x_clr_R, x_clr_U, ct_some, ct_none, lc_lt, lc_ge, lc_gt, lc_le, lc_eq, lc_r, xI_inj, xJ_inj, Option.some.injEq, eq_self, bi_r, bi_0, bi_1, bi_n, Classical.not_not, and_true, true_and, ite_true, ite_false, ↓reduceIte, ↓x_andl, z_le, z_nle, z_lt, z_nlt, z_eq, z_neq, if_pos, if_neg, x_andl, false_and, and_false, or_true, true_or, or_false, false_or, not_true, not_false_iff, x_rd_eq, x_rd_ne, x_st_o, Int.cast_ofNat_Int, Int.ofNat_zero, Int.ofNat_one, not_true_eq_false, not_false_eq_true, if_true, if_false, ite_self, and_self, Int.ofNat_eq_natCast, Int.tdiv_eq_ediv_of_nonneg, Int.tmod_eq_emod_of_nonneg, x_bm32]
    refine x_use (d := 995) (h_sceneCopy (a := k.toNat + 2) (b := 1) (by omega) (by omega) (by omega)) ?_
    rintro r σ1 ⟨rfl, e1, e18, m1⟩
    obtain ⟨mm, ms⟩ := m1 w hw hM hS
    simp (disch := first | omega | (simp only [x_wtI, x_wtJ, x_wtR, x_wtN]; omega) | assumption | (simp (disch := omega) only [x_st_o, x_rd_ne]; first | assumption | omega) | (refine mir_eq ?_ ?_; assumption; (intro c h1 h2; simp (disch := omega) only [x_st_o])) | (refine mis_eq ?_ ?_; assumption; (intro c h1 h2; simp (disch := omega) only [x_st_o])) | rfl) only [bk_161_0, bk_161_1, bk_161_2, wp_ild1, wp_iflt, wp_ic, wp_iclt, wp_fall, wp_iret mz_161, wp_ald0, wr_0_3, wp_aald, wr_0_2, wk_45, wp_putz kd_20, x_clr_I, x_clr_J, x_clr_R, x_clr_U, ct_some, ct_none, lc_lt, lc_ge, lc_gt, lc_le, lc_eq, lc_r, xI_inj, xJ_inj, Option.some.injEq, eq_self, bi_r, bi_0, bi_1, bi_n, Classical.not_not, and_true, true_and, ite_true, ite_false, ↓reduceIte, ↓x_andl, z_le, z_nle, z_lt, z_nlt, z_eq, z_neq, if_pos, if_neg, x_andl, false_and, and_false, or_true, true_or, or_false, false_or, not_true, not_false_iff, x_rd_eq, x_rd_ne, x_st_o, Int.cast_ofNat_Int, Int.ofNat_zero, Int.ofNat_one, not_true_eq_false, not_false_eq_true, if_true, if_false, ite_self, and_self, Int.ofNat_eq_natCast, Int.tdiv_eq_ediv_of_nonneg, Int.tmod_eq_emod_of_nonneg, x_bm32]
    refine ⟨0, rfl, ?_, ?_⟩
    · intro j i
      rw [x_st_o (by omega), e1 100 j (by simp)]
    · have f51 : (x_st σ1 20 (k.toNat + 2) 8 1) 51 0 = w := by
        rw [x_st_o (by omega), e1 51 0 (by simp), h51]
      have mm' : mir (x_st σ1 20 (k.toNat + 2) 8 1) (k.toNat + 2) w := mir_eq mm (fun c q1 q2 => by simp (disch := omega) only [x_st_o, x_rd_ne, x_rd_eq, s_fl_o, s_fl_in, s_fl_out, x_cp_o, x_cp_in, x_cp_out])
      have ms' : mis (x_st σ1 20 (k.toNat + 2) 8 1) (k.toNat + 2) w := by
        refine ⟨?_, ?_⟩
        · simp (disch := omega) only [x_st_o, x_rd_ne, x_rd_eq, s_fl_o, s_fl_in, s_fl_out, x_cp_o, x_cp_in, x_cp_out]
          exact ms.1
        · simp (disch := omega) only [x_st_o, x_rd_ne, x_rd_eq, s_fl_o, s_fl_in, s_fl_out, x_cp_o, x_cp_in, x_cp_out]
          exact ms.2
      have e1' : ∀ c j, ¬ (j = k.toNat + 2 ∧ 6 ≤ c ∧ c ≤ 22) → (x_st σ1 20 (k.toNat + 2) 8 1) c j = σ c j := by
        intro c j h
        rw [x_st_o (by omega)]
        exact e1 c j (by simp; omega)
      have k8 : (x_st σ1 20 (k.toNat + 2) 8 1) 20 (k.toNat + 2) 8 = 1 := x_rd_eq
      generalize x_st σ1 20 (k.toNat + 2) 8 1 = σ2 at *
      simp (disch := first | omega | (simp only [x_wtI, x_wtJ, x_wtR, x_wtN]; omega) | assumption | (simp (disch := omega) only [x_st_o, x_rd_ne]; first | assumption | omega) | (refine mir_eq ?_ ?_; assumption; (intro c h1 h2; simp (disch := omega) only [x_st_o])) | (refine mis_eq ?_ ?_; assumption; (intro c h1 h2; simp (disch := omega) only [x_st_o])) | rfl) only [sp_168, bk_168_0, bk_168_1, bk_168_3, wp_ild1, wp_i2l, wp_lc, wk_169, wp_ifne, wp_ic, wp_iret mz_168, wp_ist2, wp_fall, wp_ild2, wp_icge, wp_ald0, wr_50_2, wp_imul, wp_iadd, wr_50_1, wl_51, wl_52, wp_cald, ws_51, ws_52, wp_inc2, wp_goto, wr_50_3, ws_53, x_clr_I, x_clr_J, x_clr_R, x_clr_U, ct_some, ct_none, lc_lt, lc_ge, lc_gt, lc_le, lc_eq, lc_r, xI_inj, xJ_inj, Option.some.injEq, eq_self, bi_r, bi_0, bi_1, bi_n, Classical.not_not, and_true, true_and, ite_true, ite_false, ↓reduceIte, ↓x_andl, z_le, z_nle, z_lt, z_nlt, z_eq, z_neq, if_pos, if_neg, x_andl, false_and, and_false, or_true, true_or, or_false, false_or, not_true, not_false_iff, x_rd_eq, x_rd_ne, x_st_o, Int.cast_ofNat_Int, Int.ofNat_zero, Int.ofNat_one, not_true_eq_false, not_false_eq_true, if_true, if_false, ite_self, and_self, Int.ofNat_eq_natCast, Int.tdiv_eq_ediv_of_nonneg, Int.tmod_eq_emod_of_nonneg, x_bm32, c_in, bi_t, bi_f]
      refine x_lpJ (α := x_S) (fun i σi => x_eqo [(52, 0)] σ2 σi ∧ ∀ z, σi 52 0 z = if 616 * k ≤ z ∧ z < 616 * k + i then w (z - 616 * k) else σ2 52 0 z) (fun i σi => x_Wp 999 168 (x_blk 168 2) [xR 50 0, xI k, xI i] [] σi _) (lo := 0) (hi := 616) (by omega) (a0 := σ2) ⟨eqo_refl, fun z => by rw [if_neg (by omega)]⟩ ?_ ?_
      · intro i σi i0 i1 ⟨j1, j2⟩
        have g51 : σi 51 0 = w := (j1 51 0 (by decide)).trans f51
        refine ⟨x_st σi 52 0 (616 * k + i) (w i), ⟨eqo_st (by decide) j1, ?_⟩, ?_⟩
        · intro z
          by_cases cz : z = 616 * k + i
          · subst cz
            rw [x_rd_eq, if_pos (by omega)]
            congr 1
            omega
          · rw [x_rd_ne (by omega), j2 z]
            by_cases c2 : 616 * k ≤ z ∧ z < 616 * k + i
            · rw [if_pos c2, if_pos (by omega)]
            · rw [if_neg c2, if_neg (by omega)]
        · intro H
          rw [bk_168_2]
          simp (disch := first | omega | (simp only [x_wtI, x_wtJ, x_wtR, x_wtN]; omega) | assumption | (simp (disch := omega) only [x_st_o, x_rd_ne]; first | assumption | omega) | (refine mir_eq ?_ ?_; assumption; (intro c h1 h2; simp (disch := omega) only [x_st_o])) | (refine mis_eq ?_ ?_; assumption; (intro c h1 h2; simp (disch := omega) only [x_st_o])) | rfl) only [bk_168_0, bk_168_1, bk_168_3, wp_ild1, wp_i2l, wp_lc, wk_169, wp_ifne, wp_ic, wp_iret mz_168, wp_ist2, wp_fall, wp_ild2, wp_icge, wp_ald0, wr_50_2, wp_imul, wp_iadd, wr_50_1, wl_51, wl_52, wp_cald, ws_51, ws_52, wp_inc2, wp_goto, wr_50_3, ws_53, x_clr_I, x_clr_J, x_clr_R, x_clr_U, ct_some, ct_none, lc_lt, lc_ge, lc_gt, lc_le, lc_eq, lc_r, xI_inj, xJ_inj, Option.some.injEq, eq_self, bi_r, bi_0, bi_1, bi_n, Classical.not_not, and_true, true_and, ite_true, ite_false, ↓reduceIte, ↓x_andl, z_le, z_nle, z_lt, z_nlt, z_eq, z_neq, if_pos, if_neg, x_andl, false_and, and_false, or_true, true_or, or_false, false_or, not_true, not_false_iff, x_rd_eq, x_rd_ne, x_st_o, Int.cast_ofNat_Int, Int.ofNat_zero, Int.ofNat_one, not_true_eq_false, not_false_eq_true, if_true, if_false, ite_self, and_self, Int.ofNat_eq_natCast, Int.tdiv_eq_ediv_of_nonneg, Int.tmod_eq_emod_of_nonneg, x_bm32, g51]
          exact H
      · intro σi ⟨j1, j2⟩
        rw [bk_168_2]
        simp (disch := first | omega | (simp only [x_wtI, x_wtJ, x_wtR, x_wtN]; omega) | assumption | (simp (disch := omega) only [x_st_o, x_rd_ne]; first | assumption | omega) | (refine mir_eq ?_ ?_; assumption; (intro c h1 h2; simp (disch := omega) only [x_st_o])) | (refine mis_eq ?_ ?_; assumption; (intro c h1 h2; simp (disch := omega) only [x_st_o])) | rfl) only [bk_168_0, bk_168_1, bk_168_3, wp_ild1, wp_i2l, wp_lc, wk_169, wp_ifne, wp_ic, wp_iret mz_168, wp_ist2, wp_fall, wp_ild2, wp_icge, wp_ald0, wr_50_2, wp_imul, wp_iadd, wr_50_1, wl_51, wl_52, wp_cald, ws_51, ws_52, wp_inc2, wp_goto, wr_50_3, ws_53, x_clr_I, x_clr_J, x_clr_R, x_clr_U, ct_some, ct_none, lc_lt, lc_ge, lc_gt, lc_le, lc_eq, lc_r, xI_inj, xJ_inj, Option.some.injEq, eq_self, bi_r, bi_0, bi_1, bi_n, Classical.not_not, and_true, true_and, ite_true, ite_false, ↓reduceIte, ↓x_andl, z_le, z_nle, z_lt, z_nlt, z_eq, z_neq, if_pos, if_neg, x_andl, false_and, and_false, or_true, true_or, or_false, false_or, not_true, not_false_iff, x_rd_eq, x_rd_ne, x_st_o, Int.cast_ofNat_Int, Int.ofNat_zero, Int.ofNat_one, not_true_eq_false, not_false_eq_true, if_true, if_false, ite_self, and_self, Int.ofNat_eq_natCast, Int.tdiv_eq_ediv_of_nonneg, Int.tmod_eq_emod_of_nonneg, x_bm32]
        have e3 : ∀ c j, ¬ (j = k.toNat + 2 ∧ 6 ≤ c ∧ c ≤ 22) → ¬ (c = 52 ∧ j = 0) → ¬ (c = 53 ∧ j = 0) → (x_st σi 53 0 k 1) c j = σ c j := by
          intro c j q1 q2 q3
          rw [x_st_o q3, j1 c j (by simp; omega)]
          exact e1' c j q1
        refine iN_img hh (a := k.toNat + 2) (by omega) e3 ?_
        intro k' hk'
        by_cases ck : (k' : Int) = k
        · have hkk : k' = k.toNat := by omega
          subst hkk
          have im : ∀ i, 0 ≤ i → i < 616 → x_im (x_st σi 53 0 k 1) k.toNat i = w i := by
            intro i i0 i1
            unfold x_im
            rw [x_st_o (by omega), j2, if_pos (by omega)]
            congr 1
            omega
          rw [ck, x_rd_eq, x_st_o (by omega), j1 20 _ (by simp), k8]
          refine ⟨Or.inr rfl, rfl, fun _ => ⟨ww_616 im ⟨hw, h100, hn, hq⟩, tq_mir (tq_616 im) hw (mir_eq mm' (fun c q1 q2 => ?_)), mis_616 im hw (mis_eq ms' (fun c q1 q2 => ?_))⟩⟩
          · rw [x_st_o (by omega), j1 c _ (by simp)]
          · rw [x_st_o (by omega), j1 c _ (by simp)]
        · have old := hh.2.2.2.2.2.2.1 k' hk'
          have im : x_im (x_st σi 53 0 k 1) k' = fun i => if 616 * k ≤ 616 * (k' : Int) + i ∧ 616 * (k' : Int) + i < 616 * k + 616 then w (616 * (k' : Int) + i - 616 * k) else σ 52 0 (616 * (k' : Int) + i) := by
            funext i
            unfold x_im
            rw [x_st_o (by omega), j2, e1' 52 0 (by omega)]
          have im2 : ∀ i, 0 ≤ i → i < 616 → x_im (x_st σi 53 0 k 1) k' i = x_im σ k' i := by
            intro i i0 i1
            rw [im]
            show (if _ then _ else _) = σ 52 0 _
            rw [if_neg (by omega)]
          rw [x_rd_ne (by omega), e3 20 (k' + 2) (by omega) (by omega) (by omega), j1 53 0 (by decide), e1' 53 0 (by omega)]
          refine ⟨old.1, old.2.1, fun z => ?_⟩
          obtain ⟨o1, o2, o3⟩ := old.2.2 z
          exact ⟨ww_616 im2 o1, tq_mir (tq_616 im2) o1.1 (mir_eq o2 (fun c q1 q2 => e3 c _ (by omega) (by omega) (by omega))), mis_616 im2 o1.1 (mis_eq o3 (fun c q1 q2 => e3 c _ (by omega) (by omega) (by omega)))⟩
  · have hx : x_Sp 999 161 [xR 0 0, xI k] σ (fun r σ1 => r = some (xI (-2)) ∧ σ1 = σ) := by
      by_cases c1 : k < 0
      · simp (disch := first | omega | (simp only [x_wtI, x_wtJ, x_wtR, x_wtN]; omega) | assumption | (simp (disch := omega) only [x_st_o, x_rd_ne]; first | assumption | omega) | (refine mir_eq ?_ ?_; assumption; (intro c h1 h2; simp (disch := omega) only [x_st_o])) | (refine mis_eq ?_ ?_; assumption; (intro c h1 h2; simp (disch := omega) only [x_st_o])) | rfl) only [sp_161, bk_161_0, bk_161_1, bk_161_2, wp_ild1, wp_iflt, wp_ic, wp_iclt, wp_fall, wp_iret mz_161, wp_ald0, wr_0_3, wp_aald, wr_0_2, wk_45, wp_putz kd_20, x_clr_I, x_clr_J, x_clr_R, x_clr_U, ct_some, ct_none, lc_lt, lc_ge, lc_gt, lc_le, lc_eq, lc_r, xI_inj, xJ_inj, Option.some.injEq, eq_self, bi_r, bi_0, bi_1, bi_n, Classical.not_not, and_true, true_and, ite_true, ite_false, ↓reduceIte, ↓x_andl, z_le, z_nle, z_lt, z_nlt, z_eq, z_neq, if_pos, if_neg, x_andl, false_and, and_false, or_true, true_or, or_false, false_or, not_true, not_false_iff, x_rd_eq, x_rd_ne, x_st_o, Int.cast_ofNat_Int, Int.ofNat_zero, Int.ofNat_one, not_true_eq_false, not_false_eq_true, if_true, if_false, ite_self, and_self, Int.ofNat_eq_natCast, Int.tdiv_eq_ediv_of_nonneg, Int.tmod_eq_emod_of_nonneg, x_bm32]
      · simp (disch := first | omega | (simp only [x_wtI, x_wtJ, x_wtR, x_wtN]; omega) | assumption | (simp (disch := omega) only [x_st_o, x_rd_ne]; first | assumption | omega) | (refine mir_eq ?_ ?_; assumption; (intro c h1 h2; simp (disch := omega) only [x_st_o])) | (refine mis_eq ?_ ?_; assumption; (intro c h1 h2; simp (disch := omega) only [x_st_o])) | rfl) only [sp_161, bk_161_0, bk_161_1, bk_161_2, wp_ild1, wp_iflt, wp_ic, wp_iclt, wp_fall, wp_iret mz_161, wp_ald0, wr_0_3, wp_aald, wr_0_2, wk_45, wp_putz kd_20, x_clr_I, x_clr_J, x_clr_R, x_clr_U, ct_some, ct_none, lc_lt, lc_ge, lc_gt, lc_le, lc_eq, lc_r, xI_inj, xJ_inj, Option.some.injEq, eq_self, bi_r, bi_0, bi_1, bi_n, Classical.not_not, and_true, true_and, ite_true, ite_false, ↓reduceIte, ↓x_andl, z_le, z_nle, z_lt, z_nlt, z_eq, z_neq, if_pos, if_neg, x_andl, false_and, and_false, or_true, true_or, or_false, false_or, not_true, not_false_iff, x_rd_eq, x_rd_ne, x_st_o, Int.cast_ofNat_Int, Int.ofNat_zero, Int.ofNat_one, not_true_eq_false, not_false_eq_true, if_true, if_false, ite_self, and_self, Int.ofNat_eq_natCast, Int.tdiv_eq_ediv_of_nonneg, Int.tmod_eq_emod_of_nonneg, x_bm32]
    refine x_mono hx ?_
    rintro r σ1 ⟨rfl, rfl⟩
    refine ⟨-2, rfl, fun _ _ => rfl, ?_⟩
    simp (disch := first | omega | (simp only [x_wtI, x_wtJ, x_wtR, x_wtN]; omega) | assumption | (simp (disch := omega) only [x_st_o, x_rd_ne]; first | assumption | omega) | (refine mir_eq ?_ ?_; assumption; (intro c h1 h2; simp (disch := omega) only [x_st_o])) | (refine mis_eq ?_ ?_; assumption; (intro c h1 h2; simp (disch := omega) only [x_st_o])) | rfl) only [sp_168, bk_168_0, bk_168_1, bk_168_3, wp_ild1, wp_i2l, wp_lc, wk_169, wp_ifne, wp_ic, wp_iret mz_168, wp_ist2, wp_fall, wp_ild2, wp_icge, wp_ald0, wr_50_2, wp_imul, wp_iadd, wr_50_1, wl_51, wl_52, wp_cald, ws_51, ws_52, wp_inc2, wp_goto, wr_50_3, ws_53, x_clr_I, x_clr_J, x_clr_R, x_clr_U, ct_some, ct_none, lc_lt, lc_ge, lc_gt, lc_le, lc_eq, lc_r, xI_inj, xJ_inj, Option.some.injEq, eq_self, bi_r, bi_0, bi_1, bi_n, Classical.not_not, and_true, true_and, ite_true, ite_false, ↓reduceIte, ↓x_andl, z_le, z_nle, z_lt, z_nlt, z_eq, z_neq, if_pos, if_neg, x_andl, false_and, and_false, or_true, true_or, or_false, false_or, not_true, not_false_iff, x_rd_eq, x_rd_ne, x_st_o, Int.cast_ofNat_Int, Int.ofNat_zero, Int.ofNat_one, not_true_eq_false, not_false_eq_true, if_true, if_false, ite_self, and_self, Int.ofNat_eq_natCast, Int.tdiv_eq_ediv_of_nonneg, Int.tmod_eq_emod_of_nonneg, x_bm32, c_in, bi_t, bi_f]
    exact hh
theorem o_back : x_o48 (iN L S0) := by
  intro σ hh k hk
  refine ag_I ?_
  have hI := hh.2.2.2.2.2.2.1
  by_cases c : 0 ≤ k ∧ k < 3
  · have old := hI k.toNat (by omega)
    rw [Int.toNat_of_nonneg c.1] at old
    rcases old.1 with z | z
    · have k8 : σ 20 (k.toNat + 2) 8 = 0 := by rw [old.2.1, z]
      simp (disch := first | omega | (simp only [x_wtI, x_wtJ, x_wtR, x_wtN]; omega) | assumption | (simp (disch := omega) only [x_st_o, x_rd_ne]; first | assumption | omega) | (refine mir_eq ?_ ?_; assumption; (intro c h1 h2; simp (disch := omega) only [x_st_o])) | (refine mis_eq ?_ ?_; assumption; (intro c h1 h2; simp (disch := omega) only [x_st_o])) | rfl) only [sp_162, bk_162_0, bk_162_1, bk_162_2, bk_162_3, wp_ild1, wp_iflt, wp_ic, wp_iclt, wp_fall, wp_iret mz_162, wp_ald0, wr_0_3, wp_aald, wp_geti kd_20, wp_ifne, wr_0_2, wk_45, wk_97, x_clr_I, x_clr_J, x_clr_R, x_clr_U, ct_some, ct_none, lc_lt, lc_ge, lc_gt, lc_le, lc_eq, lc_r, xI_inj, xJ_inj, Option.some.injEq, eq_self, bi_r, bi_0, bi_1, bi_n, Classical.not_not, and_true, true_and, ite_true, ite_false, ↓reduceIte, ↓x_andl, z_le, z_nle, z_lt, z_nlt, z_eq, z_neq, if_pos, if_neg, x_andl, false_and, and_false, or_true, true_or, or_false, false_or, not_true, not_false_iff, x_rd_eq, x_rd_ne, x_st_o, Int.cast_ofNat_Int, Int.ofNat_zero, Int.ofNat_one, not_true_eq_false, not_false_eq_true, if_true, if_false, ite_self, and_self, Int.ofNat_eq_natCast, Int.tdiv_eq_ediv_of_nonneg, Int.tmod_eq_emod_of_nonneg, x_bm32, k8]
      refine ⟨-6, rfl, fun _ _ => rfl, ?_⟩
      simp (disch := first | omega | (simp only [x_wtI, x_wtJ, x_wtR, x_wtN]; omega) | assumption | (simp (disch := omega) only [x_st_o, x_rd_ne]; first | assumption | omega) | (refine mir_eq ?_ ?_; assumption; (intro c h1 h2; simp (disch := omega) only [x_st_o])) | (refine mis_eq ?_ ?_; assumption; (intro c h1 h2; simp (disch := omega) only [x_st_o])) | rfl) only [sp_170, bk_170_0, bk_170_1, bk_170_2, bk_170_4, wp_ild1, wp_i2l, wp_lc, wk_169, wp_ifne, wp_ic, wp_iret mz_170, wp_ald0, wr_50_3, wl_53, wp_sbal, wp_ist2, wp_fall, wp_ild2, wp_icge, wr_50_1, wr_50_2, wp_imul, wp_iadd, wl_51, wl_52, wp_cald, ws_51, ws_52, wp_inc2, wp_goto, x_clr_I, x_clr_J, x_clr_R, x_clr_U, ct_some, ct_none, lc_lt, lc_ge, lc_gt, lc_le, lc_eq, lc_r, xI_inj, xJ_inj, Option.some.injEq, eq_self, bi_r, bi_0, bi_1, bi_n, Classical.not_not, and_true, true_and, ite_true, ite_false, ↓reduceIte, ↓x_andl, z_le, z_nle, z_lt, z_nlt, z_eq, z_neq, if_pos, if_neg, x_andl, false_and, and_false, or_true, true_or, or_false, false_or, not_true, not_false_iff, x_rd_eq, x_rd_ne, x_st_o, Int.cast_ofNat_Int, Int.ofNat_zero, Int.ofNat_one, not_true_eq_false, not_false_eq_true, if_true, if_false, ite_self, and_self, Int.ofNat_eq_natCast, Int.tdiv_eq_ediv_of_nonneg, Int.tmod_eq_emod_of_nonneg, x_bm32, c_in, bi_t, bi_f, z]
      exact hh
    · have k8 : σ 20 (k.toNat + 2) 8 = 1 := by rw [old.2.1, z]
      obtain ⟨hW, hM, hS⟩ := old.2.2 z
      simp (disch := first | omega | (simp only [x_wtI, x_wtJ, x_wtR, x_wtN]; omega) | assumption | (simp (disch := omega) only [x_st_o, x_rd_ne]; first | assumption | omega) | (refine mir_eq ?_ ?_; assumption; (intro c h1 h2; simp (disch := omega) only [x_st_o])) | (refine mis_eq ?_ ?_; assumption; (intro c h1 h2; simp (disch := omega) only [x_st_o])) | rfl) only [sp_162, bk_162_0, bk_162_1, bk_162_2, bk_162_3, wp_ild1, wp_iflt, wp_ic, wp_iclt, wp_fall, wp_iret mz_162, wp_ald0, wr_0_3, wp_aald, wp_geti kd_20, wp_ifne, wr_0_2, wk_45, wk_97, x_clr_I, x_clr_J, x_clr_R, x_clr_U, ct_some, ct_none, lc_lt, lc_ge, lc_gt, lc_le, lc_eq, lc_r, xI_inj, xJ_inj, Option.some.injEq, eq_self, bi_r, bi_0, bi_1, bi_n, Classical.not_not, and_true, true_and, ite_true, ite_false, ↓reduceIte, ↓x_andl, z_le, z_nle, z_lt, z_nlt, z_eq, z_neq, if_pos, if_neg, x_andl, false_and, and_false, or_true, true_or, or_false, false_or, not_true, not_false_iff, x_rd_eq, x_rd_ne, x_st_o, Int.cast_ofNat_Int, Int.ofNat_zero, Int.ofNat_one, not_true_eq_false, not_false_eq_true, if_true, if_false, ite_self, and_self, Int.ofNat_eq_natCast, Int.tdiv_eq_ediv_of_nonneg, Int.tmod_eq_emod_of_nonneg, x_bm32, k8]
      refine x_use (d := 995) (h_sceneCopy (a := 1) (b := k.toNat + 2) (by omega) (by omega) (by omega)) ?_
      rintro r σ1 ⟨rfl, e1, e18, m1⟩
      obtain ⟨mm, ms⟩ := m1 _ hW.1 hM hS
      simp (disch := first | omega | (simp only [x_wtI, x_wtJ, x_wtR, x_wtN]; omega) | assumption | (simp (disch := omega) only [x_st_o, x_rd_ne]; first | assumption | omega) | (refine mir_eq ?_ ?_; assumption; (intro c h1 h2; simp (disch := omega) only [x_st_o])) | (refine mis_eq ?_ ?_; assumption; (intro c h1 h2; simp (disch := omega) only [x_st_o])) | rfl) only [bk_162_0, bk_162_1, bk_162_2, bk_162_3, wp_ild1, wp_iflt, wp_ic, wp_iclt, wp_fall, wp_iret mz_162, wp_ald0, wr_0_3, wp_aald, wp_geti kd_20, wp_ifne, wr_0_2, wk_45, wk_97, x_clr_I, x_clr_J, x_clr_R, x_clr_U, ct_some, ct_none, lc_lt, lc_ge, lc_gt, lc_le, lc_eq, lc_r, xI_inj, xJ_inj, Option.some.injEq, eq_self, bi_r, bi_0, bi_1, bi_n, Classical.not_not, and_true, true_and, ite_true, ite_false, ↓reduceIte, ↓x_andl, z_le, z_nle, z_lt, z_nlt, z_eq, z_neq, if_pos, if_neg, x_andl, false_and, and_false, or_true, true_or, or_false, false_or, not_true, not_false_iff, x_rd_eq, x_rd_ne, x_st_o, Int.cast_ofNat_Int, Int.ofNat_zero, Int.ofNat_one, not_true_eq_false, not_false_eq_true, if_true, if_false, ite_self, and_self, Int.ofNat_eq_natCast, Int.tdiv_eq_ediv_of_nonneg, Int.tmod_eq_emod_of_nonneg, x_bm32]
      simp (disch := first | omega | (simp only [x_wtI, x_wtJ, x_wtR, x_wtN]; omega) | assumption | (simp (disch := omega) only [x_st_o, x_rd_ne]; first | assumption | omega) | (refine mir_eq ?_ ?_; assumption; (intro c h1 h2; simp (disch := omega) only [x_st_o])) | (refine mis_eq ?_ ?_; assumption; (intro c h1 h2; simp (disch := omega) only [x_st_o])) | rfl) only [bk_162_0, bk_162_1, bk_162_2, bk_162_3, wp_ild1, wp_iflt, wp_ic, wp_iclt, wp_fall, wp_iret mz_162, wp_ald0, wr_0_3, wp_aald, wp_geti kd_20, wp_ifne, wr_0_2, wk_45, wk_97, bk_97_0, wp_putz kd_0, wk_98, wp_ret, bk_98_0, x_clr_I, x_clr_J, x_clr_R, x_clr_U, ct_some, ct_none, lc_lt, lc_ge, lc_gt, lc_le, lc_eq, lc_r, xI_inj, xJ_inj, Option.some.injEq, eq_self, bi_r, bi_0, bi_1, bi_n, Classical.not_not, and_true, true_and, ite_true, ite_false, ↓reduceIte, ↓x_andl, z_le, z_nle, z_lt, z_nlt, z_eq, z_neq, if_pos, if_neg, x_andl, false_and, and_false, or_true, true_or, or_false, false_or, not_true, not_false_iff, x_rd_eq, x_rd_ne, x_st_o, Int.cast_ofNat_Int, Int.ofNat_zero, Int.ofNat_one, not_true_eq_false, not_false_eq_true, if_true, if_false, ite_self, and_self, Int.ofNat_eq_natCast, Int.tdiv_eq_ediv_of_nonneg, Int.tmod_eq_emod_of_nonneg, x_bm32, sp_97, sp_98]
      refine ⟨0, rfl, ?_, ?_⟩
      · intro j i
        simp (disch := omega) only [x_st_o, x_rd_ne, x_rd_eq, s_fl_o, s_fl_in, s_fl_out, x_cp_o, x_cp_in, x_cp_out]
        rw [e1 100 j (by simp)]
      · have f0 : ∀ k', 13 ≤ k' → k' ≤ 16 → (x_st (x_st (x_st (x_st σ1 0 0 13 0) 0 0 14 0) 0 0 15 0) 0 0 16 0) 0 0 k' = 0 := by
          intro k' q1 q2
          have : k' = 13 ∨ k' = 14 ∨ k' = 15 ∨ k' = 16 := by omega
          rcases this with rfl | rfl | rfl | rfl <;> simp (disch := omega) only [x_st_o, x_rd_ne, x_rd_eq, s_fl_o, s_fl_in, s_fl_out, x_cp_o, x_cp_in, x_cp_out]
        have f17 : (x_st (x_st (x_st (x_st σ1 0 0 13 0) 0 0 14 0) 0 0 15 0) 0 0 16 0) 0 0 17 = σ 0 0 17 := by
          simp (disch := omega) only [x_st_o, x_rd_ne, x_rd_eq, s_fl_o, s_fl_in, s_fl_out, x_cp_o, x_cp_in, x_cp_out]
          rw [e1 0 0 (by decide)]
        have e1' : ∀ c j, ¬ (j = 1 ∧ 6 ≤ c ∧ c ≤ 22) → ¬ c = 0 → (x_st (x_st (x_st (x_st σ1 0 0 13 0) 0 0 14 0) 0 0 15 0) 0 0 16 0) c j = σ c j := by
          intro c j h h2
          simp (disch := omega) only [x_st_o, x_rd_ne, x_rd_eq, s_fl_o, s_fl_in, s_fl_out, x_cp_o, x_cp_in, x_cp_out]
          exact e1 c j (by simp; omega)
        have mm' : mir (x_st (x_st (x_st (x_st σ1 0 0 13 0) 0 0 14 0) 0 0 15 0) 0 0 16 0) 1 (x_im σ k.toNat) := mir_eq mm (fun c q1 q2 => by simp (disch := omega) only [x_st_o, x_rd_ne, x_rd_eq, s_fl_o, s_fl_in, s_fl_out, x_cp_o, x_cp_in, x_cp_out])
        have ms' : mis (x_st (x_st (x_st (x_st σ1 0 0 13 0) 0 0 14 0) 0 0 15 0) 0 0 16 0) 1 (x_im σ k.toNat) := mis_eq ms (fun c q1 q2 => by simp (disch := omega) only [x_st_o, x_rd_ne, x_rd_eq, s_fl_o, s_fl_in, s_fl_out, x_cp_o, x_cp_in, x_cp_out])
        generalize x_st (x_st (x_st (x_st σ1 0 0 13 0) 0 0 14 0) 0 0 15 0) 0 0 16 0 = σ2 at *
        have g53 : σ2 53 0 k = 1 := by rw [e1' 53 0 (by omega) (by omega), z]
        simp (disch := first | omega | (simp only [x_wtI, x_wtJ, x_wtR, x_wtN]; omega) | assumption | (simp (disch := omega) only [x_st_o, x_rd_ne]; first | assumption | omega) | (refine mir_eq ?_ ?_; assumption; (intro c h1 h2; simp (disch := omega) only [x_st_o])) | (refine mis_eq ?_ ?_; assumption; (intro c h1 h2; simp (disch := omega) only [x_st_o])) | rfl) only [sp_170, bk_170_0, bk_170_1, bk_170_2, bk_170_4, wp_ild1, wp_i2l, wp_lc, wk_169, wp_ifne, wp_ic, wp_iret mz_170, wp_ald0, wr_50_3, wl_53, wp_sbal, wp_ist2, wp_fall, wp_ild2, wp_icge, wr_50_1, wr_50_2, wp_imul, wp_iadd, wl_51, wl_52, wp_cald, ws_51, ws_52, wp_inc2, wp_goto, x_clr_I, x_clr_J, x_clr_R, x_clr_U, ct_some, ct_none, lc_lt, lc_ge, lc_gt, lc_le, lc_eq, lc_r, xI_inj, xJ_inj, Option.some.injEq, eq_self, bi_r, bi_0, bi_1, bi_n, Classical.not_not, and_true, true_and, ite_true, ite_false, ↓reduceIte, ↓x_andl, z_le, z_nle, z_lt, z_nlt, z_eq, z_neq, if_pos, if_neg, x_andl, false_and, and_false, or_true, true_or, or_false, false_or, not_true, not_false_iff, x_rd_eq, x_rd_ne, x_st_o, Int.cast_ofNat_Int, Int.ofNat_zero, Int.ofNat_one, not_true_eq_false, not_false_eq_true, if_true, if_false, ite_self, and_self, Int.ofNat_eq_natCast, Int.tdiv_eq_ediv_of_nonneg, Int.tmod_eq_emod_of_nonneg, x_bm32, c_in, bi_t, bi_f, g53]
        refine x_lpJ (α := x_S) (fun i σi => x_eqo [(51, 0)] σ2 σi ∧ ∀ z, 0 ≤ z → z < i → σi 51 0 z = x_im σ k.toNat z) (fun i σi => x_Wp 999 170 (x_blk 170 3) [xR 50 0, xI k, xI i] [] σi _) (lo := 0) (hi := 616) (by omega) (a0 := σ2) ⟨eqo_refl, fun z a b => by omega⟩ ?_ ?_
        · intro i σi i0 i1 ⟨j1, j2⟩
          have g52 : σi 52 0 = σ 52 0 := (j1 52 0 (by decide)).trans (e1' 52 0 (by omega) (by omega))
          refine ⟨x_st σi 51 0 i (σ 52 0 (616 * k + i)), ⟨eqo_st (by decide) j1, ?_⟩, ?_⟩
          · intro z z0 z1
            by_cases cz : z = i
            · subst cz
              rw [x_rd_eq]
              unfold x_im
              rw [Int.toNat_of_nonneg c.1]
            · rw [x_rd_ne (by omega)]
              exact j2 z z0 (by omega)
          · intro H
            rw [bk_170_3]
            simp (disch := first | omega | (simp only [x_wtI, x_wtJ, x_wtR, x_wtN]; omega) | assumption | (simp (disch := omega) only [x_st_o, x_rd_ne]; first | assumption | omega) | (refine mir_eq ?_ ?_; assumption; (intro c h1 h2; simp (disch := omega) only [x_st_o])) | (refine mis_eq ?_ ?_; assumption; (intro c h1 h2; simp (disch := omega) only [x_st_o])) | rfl) only [bk_170_0, bk_170_1, bk_170_2, bk_170_4, wp_ild1, wp_i2l, wp_lc, wk_169, wp_ifne, wp_ic, wp_iret mz_170, wp_ald0, wr_50_3, wl_53, wp_sbal, wp_ist2, wp_fall, wp_ild2, wp_icge, wr_50_1, wr_50_2, wp_imul, wp_iadd, wl_51, wl_52, wp_cald, ws_51, ws_52, wp_inc2, wp_goto, x_clr_I, x_clr_J, x_clr_R, x_clr_U, ct_some, ct_none, lc_lt, lc_ge, lc_gt, lc_le, lc_eq, lc_r, xI_inj, xJ_inj, Option.some.injEq, eq_self, bi_r, bi_0, bi_1, bi_n, Classical.not_not, and_true, true_and, ite_true, ite_false, ↓reduceIte, ↓x_andl, z_le, z_nle, z_lt, z_nlt, z_eq, z_neq, if_pos, if_neg, x_andl, false_and, and_false, or_true, true_or, or_false, false_or, not_true, not_false_iff, x_rd_eq, x_rd_ne, x_st_o, Int.cast_ofNat_Int, Int.ofNat_zero, Int.ofNat_one, not_true_eq_false, not_false_eq_true, if_true, if_false, ite_self, and_self, Int.ofNat_eq_natCast, Int.tdiv_eq_ediv_of_nonneg, Int.tmod_eq_emod_of_nonneg, x_bm32, g52]
            exact H
        · intro σi ⟨j1, j2⟩
          rw [bk_170_3]
          simp (disch := first | omega | (simp only [x_wtI, x_wtJ, x_wtR, x_wtN]; omega) | assumption | (simp (disch := omega) only [x_st_o, x_rd_ne]; first | assumption | omega) | (refine mir_eq ?_ ?_; assumption; (intro c h1 h2; simp (disch := omega) only [x_st_o])) | (refine mis_eq ?_ ?_; assumption; (intro c h1 h2; simp (disch := omega) only [x_st_o])) | rfl) only [bk_170_0, bk_170_1, bk_170_2, bk_170_4, wp_ild1, wp_i2l, wp_lc, wk_169, wp_ifne, wp_ic, wp_iret mz_170, wp_ald0, wr_50_3, wl_53, wp_sbal, wp_ist2, wp_fall, wp_ild2, wp_icge, wr_50_1, wr_50_2, wp_imul, wp_iadd, wl_51, wl_52, wp_cald, ws_51, ws_52, wp_inc2, wp_goto, x_clr_I, x_clr_J, x_clr_R, x_clr_U, ct_some, ct_none, lc_lt, lc_ge, lc_gt, lc_le, lc_eq, lc_r, xI_inj, xJ_inj, Option.some.injEq, eq_self, bi_r, bi_0, bi_1, bi_n, Classical.not_not, and_true, true_and, ite_true, ite_false, ↓reduceIte, ↓x_andl, z_le, z_nle, z_lt, z_nlt, z_eq, z_neq, if_pos, if_neg, x_andl, false_and, and_false, or_true, true_or, or_false, false_or, not_true, not_false_iff, x_rd_eq, x_rd_ne, x_st_o, Int.cast_ofNat_Int, Int.ofNat_zero, Int.ofNat_one, not_true_eq_false, not_false_eq_true, if_true, if_false, ite_self, and_self, Int.ofNat_eq_natCast, Int.tdiv_eq_ediv_of_nonneg, Int.tmod_eq_emod_of_nonneg, x_bm32]
          have e3 : ∀ c j, ¬ (j = 1 ∧ 6 ≤ c ∧ c ≤ 22) → ¬ c = 0 → ¬ (c = 51 ∧ j = 0) → σi c j = σ c j := by
            intro c j q1 q2 q3
            rw [j1 c j (by simp; omega)]
            exact e1' c j q1 q2
          obtain ⟨_, _, hF, hMm, hSs, hR, _, hX⟩ := hh
          have n50 := e3 50 0 (by omega) (by omega) (by omega)
          refine ⟨⟨ww_616 j2 hW, ?_, ?_⟩, iT_zero ?_, iF_eq hF (fun j k _ _ _ => by rw [e3 24 j (by omega) (by omega) (by omega)]), iM_eq hMm (by rw [n50]) (by rw [n50]) (by rw [n50]) (by rw [n50]) ?_, iS_eq hSs (fun c _ => e3 c 0 (by omega) (by omega) (by omega)), iR_eq hR (e3 4 0 (by omega) (by omega) (by omega)) (e3 54 0 (by omega) (by omega) (by omega)) (fun k _ _ => by rw [e3 3 0 (by omega) (by omega) (by omega)]) (by rw [n50]) (by rw [n50]) (by rw [n50]), iI_eq hI (e3 52 0 (by omega) (by omega) (by omega)) (e3 53 0 (by omega) (by omega) (by omega)) (fun c j _ _ _ _ => e3 c j (by omega) (by omega) (by omega)), iX_eq hX (fun j => e3 100 j (by omega) (by omega) (by omega))⟩
          · exact tq_mir (tq_616 j2) hW.1 (mir_eq mm' (fun c q1 q2 => j1 c 1 (by simp)))
          · exact mis_616 j2 hW.1 (mis_eq ms' (fun c q1 q2 => j1 c 1 (by simp)))
          · intro k' q1 q2
            rw [j1 0 0 (by decide)]
            exact f0 k' q1 q2
          · rw [j1 0 0 (by decide)]
            exact f17
  · have hx : x_Sp 999 162 [xR 0 0, xI k] σ (fun r σ1 => r = some (xI (-2)) ∧ σ1 = σ) := by
      by_cases c1 : k < 0
      · simp (disch := first | omega | (simp only [x_wtI, x_wtJ, x_wtR, x_wtN]; omega) | assumption | (simp (disch := omega) only [x_st_o, x_rd_ne]; first | assumption | omega) | (refine mir_eq ?_ ?_; assumption; (intro c h1 h2; simp (disch := omega) only [x_st_o])) | (refine mis_eq ?_ ?_; assumption; (intro c h1 h2; simp (disch := omega) only [x_st_o])) | rfl) only [sp_162, bk_162_0, bk_162_1, bk_162_2, bk_162_3, wp_ild1, wp_iflt, wp_ic, wp_iclt, wp_fall, wp_iret mz_162, wp_ald0, wr_0_3, wp_aald, wp_geti kd_20, wp_ifne, wr_0_2, wk_45, wk_97, x_clr_I, x_clr_J, x_clr_R, x_clr_U, ct_some, ct_none, lc_lt, lc_ge, lc_gt, lc_le, lc_eq, lc_r, xI_inj, xJ_inj, Option.some.injEq, eq_self, bi_r, bi_0, bi_1, bi_n, Classical.not_not, and_true, true_and, ite_true, ite_false, ↓reduceIte, ↓x_andl, z_le, z_nle, z_lt, z_nlt, z_eq, z_neq, if_pos, if_neg, x_andl, false_and, and_false, or_true, true_or, or_false, false_or, not_true, not_false_iff, x_rd_eq, x_rd_ne, x_st_o, Int.cast_ofNat_Int, Int.ofNat_zero, Int.ofNat_one, not_true_eq_false, not_false_eq_true, if_true, if_false, ite_self, and_self, Int.ofNat_eq_natCast, Int.tdiv_eq_ediv_of_nonneg, Int.tmod_eq_emod_of_nonneg, x_bm32]
      · simp (disch := first | omega | (simp only [x_wtI, x_wtJ, x_wtR, x_wtN]; omega) | assumption | (simp (disch := omega) only [x_st_o, x_rd_ne]; first | assumption | omega) | (refine mir_eq ?_ ?_; assumption; (intro c h1 h2; simp (disch := omega) only [x_st_o])) | (refine mis_eq ?_ ?_; assumption; (intro c h1 h2; simp (disch := omega) only [x_st_o])) | rfl) only [sp_162, bk_162_0, bk_162_1, bk_162_2, bk_162_3, wp_ild1, wp_iflt, wp_ic, wp_iclt, wp_fall, wp_iret mz_162, wp_ald0, wr_0_3, wp_aald, wp_geti kd_20, wp_ifne, wr_0_2, wk_45, wk_97, x_clr_I, x_clr_J, x_clr_R, x_clr_U, ct_some, ct_none, lc_lt, lc_ge, lc_gt, lc_le, lc_eq, lc_r, xI_inj, xJ_inj, Option.some.injEq, eq_self, bi_r, bi_0, bi_1, bi_n, Classical.not_not, and_true, true_and, ite_true, ite_false, ↓reduceIte, ↓x_andl, z_le, z_nle, z_lt, z_nlt, z_eq, z_neq, if_pos, if_neg, x_andl, false_and, and_false, or_true, true_or, or_false, false_or, not_true, not_false_iff, x_rd_eq, x_rd_ne, x_st_o, Int.cast_ofNat_Int, Int.ofNat_zero, Int.ofNat_one, not_true_eq_false, not_false_eq_true, if_true, if_false, ite_self, and_self, Int.ofNat_eq_natCast, Int.tdiv_eq_ediv_of_nonneg, Int.tmod_eq_emod_of_nonneg, x_bm32]
    refine x_mono hx ?_
    rintro r σ1 ⟨rfl, rfl⟩
    refine ⟨-2, rfl, fun _ _ => rfl, ?_⟩
    simp (disch := first | omega | (simp only [x_wtI, x_wtJ, x_wtR, x_wtN]; omega) | assumption | (simp (disch := omega) only [x_st_o, x_rd_ne]; first | assumption | omega) | (refine mir_eq ?_ ?_; assumption; (intro c h1 h2; simp (disch := omega) only [x_st_o])) | (refine mis_eq ?_ ?_; assumption; (intro c h1 h2; simp (disch := omega) only [x_st_o])) | rfl) only [sp_170, bk_170_0, bk_170_1, bk_170_2, bk_170_4, wp_ild1, wp_i2l, wp_lc, wk_169, wp_ifne, wp_ic, wp_iret mz_170, wp_ald0, wr_50_3, wl_53, wp_sbal, wp_ist2, wp_fall, wp_ild2, wp_icge, wr_50_1, wr_50_2, wp_imul, wp_iadd, wl_51, wl_52, wp_cald, ws_51, ws_52, wp_inc2, wp_goto, x_clr_I, x_clr_J, x_clr_R, x_clr_U, ct_some, ct_none, lc_lt, lc_ge, lc_gt, lc_le, lc_eq, lc_r, xI_inj, xJ_inj, Option.some.injEq, eq_self, bi_r, bi_0, bi_1, bi_n, Classical.not_not, and_true, true_and, ite_true, ite_false, ↓reduceIte, ↓x_andl, z_le, z_nle, z_lt, z_nlt, z_eq, z_neq, if_pos, if_neg, x_andl, false_and, and_false, or_true, true_or, or_false, false_or, not_true, not_false_iff, x_rd_eq, x_rd_ne, x_st_o, Int.cast_ofNat_Int, Int.ofNat_zero, Int.ofNat_one, not_true_eq_false, not_false_eq_true, if_true, if_false, ite_self, and_self, Int.ofNat_eq_natCast, Int.tdiv_eq_ediv_of_nonneg, Int.tmod_eq_emod_of_nonneg, x_bm32, c_in, bi_t, bi_f]
    exact hh
end O6

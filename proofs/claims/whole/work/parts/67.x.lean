theorem tq_plaw {w w' : Int → Int} {f : Int} (e : tq w w') (h0 : 0 ≤ f) (h1 : f < 40) (st wd x b : Int) : p_law w' f st wd x b ↔ p_law w f st wd x b := by
  unfold p_law
  rw [tq_room e, tq_of e h0 h1 (by omega) (by omega), tq_of e h0 h1 (by omega) (by omega)]
theorem tq_mayb {w w' : Int → Int} {f x b : Int} (e : tq w w') (h0 : 0 ≤ f) (h1 : f < 40) : ∀ n, p_mayb w' f x b n = p_mayb w f x b n := by
  intro n
  induction n with
  | zero => rfl
  | succ n ih =>
    show (p_mayb w' f x b n || decide _) = (p_mayb w f x b n || decide _)
    rw [ih, decide_eq_decide.mpr (tq_plaw e h0 h1 _ _ _ _)]
theorem iT_tq {σ σ' : x_S} (h : iT σ) (hw : wf (σ 51 0)) (hn : 0 ≤ σ 51 0 8) (t : tq (σ 51 0) (σ' 51 0)) (e8 : σ' 51 0 8 = σ 51 0 8) (e9 : σ' 51 0 9 = σ 51 0 9) (e10 : σ' 51 0 10 = σ 51 0 10) (e0 : ∀ k, 13 ≤ k → k ≤ 16 → σ' 0 0 k = σ 0 0 k) (e1 : σ' 25 0 = σ 25 0) (e2 : σ' 25 1 = σ 25 1) (e3 : σ' 25 2 = σ 25 2) (e4 : σ' 26 2 = σ 26 2) (e5 : σ' 30 0 = σ 30 0) (e6 : σ' 31 0 = σ 31 0) : iT σ' := by
  have z := t.1 0 (by omega) (by omega)
  unfold iT
  rw [e0 13 (by omega) (by omega), e0 14 (by omega) (by omega), e0 15 (by omega) (by omega), e0 16 (by omega) (by omega), e1, e2, e3, e4, e5, e6, z, e8]
  refine ⟨⟨h.1.1, fun q f f0 f1 => tq_row t hw f0 f1 (h.1.2 q f f0 f1)⟩, ⟨h.2.1.1, fun q f f0 f1 => tq_row t hw f0 f1 (h.2.1.2 q f f0 f1)⟩, ⟨h.2.2.1.1, fun q => tq_wayC t e8 e9 e10 hw hn (h.2.2.1.2 q)⟩, h.2.2.2.1, fun q => ?_⟩
  obtain ⟨Y, y1, y2⟩ := h.2.2.2.2 q
  exact ⟨Y, tq_wayC t e8 e9 e10 hw hn y1, fun f f0 f1 f2 => tq_row t hw f0 f1 (y2 f f0 f1 ((tq_fr t hw hn f0 f1).mp f2))⟩
section KP
variable {d : Nat} {σ : x_S} {Q : Option x_V → x_S → Prop} {w : Int → Int} {f x b : Int}
abbrev a_acc (w : Int → Int) (f x b : Int) : Prop := (0 ≤ f ∧ f < w 0) ∧ (-20 ≤ x ∧ x ≤ 20) ∧ (0 ≤ b ∧ b ≤ 1) ∧ p_mayb w f x b 42 = true
theorem k_adopt1 (hM : mir σ 1 w) (hw : wf w) (h : a_acc w f x b) : x_Sp (d + 3) 118 [xR 0 0, xI f, xJ x, xJ b] σ Q ↔ Q (some (xI 1)) (x_st (x_st σ 21 1 f x) 22 1 f b) := by
  have a := wf_h hw
  unfold wf_hdr at a
  obtain ⟨c1, c2, c3, c4⟩ := h
  refine x_sp_of ?_
  simp (disch := first | omega | (simp only [x_wtI, x_wtJ, x_wtR, x_wtN]; omega) | assumption | (simp (disch := omega) only [x_st_o, x_rd_ne]; first | assumption | omega) | (refine mir_eq ?_ ?_; assumption; (intro c h1 h2; simp (disch := omega) only [x_st_o])) | (refine mis_eq ?_ ?_; assumption; (intro c h1 h2; simp (disch := omega) only [x_st_o])) | rfl) only [sp_118, bk_118_0, bk_118_1, bk_118_2, bk_118_3, wp_ald0, wr_0_2, wr_20_0, wp_ild1, wk_60, wp_ifeq, wp_lld2, wp_lc, wp_lcmp, wp_iflt, wp_ifgt, wp_lld4, wp_ifle, wp_fall, wp_ic, wp_zret0 mz_118, wp_zret1 mz_118, wp_zretb mz_118, wp_zret mz_118, wp_l2i, wk_71, wp_ifne, wr_20_1, ws_21, ws_22, wr_20_2, x_clr_I, x_clr_J, x_clr_R, x_clr_U, ct_some, ct_none, lc_lt, lc_ge, lc_gt, lc_le, lc_eq, lc_r, xI_inj, xJ_inj, Option.some.injEq, eq_self, bi_r, bi_0, bi_1, bi_n, Classical.not_not, and_true, true_and, ite_true, ite_false, ↓reduceIte, ↓x_andl, z_le, z_nle, z_lt, z_nlt, z_eq, z_neq, if_pos, if_neg, x_andl, false_and, and_false, or_true, true_or, or_false, false_or, not_true, not_false_iff, x_rd_eq, x_rd_ne, x_st_o, Int.cast_ofNat_Int, Int.ofNat_zero, Int.ofNat_one, not_true_eq_false, not_false_eq_true, if_true, if_false, ite_self, and_self, Int.ofNat_eq_natCast, Int.tdiv_eq_ediv_of_nonneg, Int.tmod_eq_emod_of_nonneg, x_bm32, k_has, bi_t, bi_f, k_isEverLawful]
theorem k_adopt0 (hM : mir σ 1 w) (hw : wf w) (hf : -2147483648 ≤ f ∧ f ≤ 2147483647) (hx : -9223372036854775808 ≤ x ∧ x ≤ 9223372036854775807) (hb : -9223372036854775808 ≤ b ∧ b ≤ 9223372036854775807) (h : ¬ a_acc w f x b) : x_Sp (d + 3) 118 [xR 0 0, xI f, xJ x, xJ b] σ Q ↔ Q (some (xI 0)) σ := by
  have a := wf_h hw
  unfold wf_hdr at a
  refine x_sp_of ?_
  by_cases c1 : 0 ≤ f ∧ f < w 0
  · by_cases c2 : x < -20
    · simp (disch := first | omega | (simp only [x_wtI, x_wtJ, x_wtR, x_wtN]; omega) | assumption | (simp (disch := omega) only [x_st_o, x_rd_ne]; first | assumption | omega) | (refine mir_eq ?_ ?_; assumption; (intro c h1 h2; simp (disch := omega) only [x_st_o])) | (refine mis_eq ?_ ?_; assumption; (intro c h1 h2; simp (disch := omega) only [x_st_o])) | rfl) only [sp_118, bk_118_0, bk_118_1, bk_118_2, bk_118_3, wp_ald0, wr_0_2, wr_20_0, wp_ild1, wk_60, wp_ifeq, wp_lld2, wp_lc, wp_lcmp, wp_iflt, wp_ifgt, wp_lld4, wp_ifle, wp_fall, wp_ic, wp_zret0 mz_118, wp_zret1 mz_118, wp_zretb mz_118, wp_zret mz_118, wp_l2i, wk_71, wp_ifne, wr_20_1, ws_21, ws_22, wr_20_2, x_clr_I, x_clr_J, x_clr_R, x_clr_U, ct_some, ct_none, lc_lt, lc_ge, lc_gt, lc_le, lc_eq, lc_r, xI_inj, xJ_inj, Option.some.injEq, eq_self, bi_r, bi_0, bi_1, bi_n, Classical.not_not, and_true, true_and, ite_true, ite_false, ↓reduceIte, ↓x_andl, z_le, z_nle, z_lt, z_nlt, z_eq, z_neq, if_pos, if_neg, x_andl, false_and, and_false, or_true, true_or, or_false, false_or, not_true, not_false_iff, x_rd_eq, x_rd_ne, x_st_o, Int.cast_ofNat_Int, Int.ofNat_zero, Int.ofNat_one, not_true_eq_false, not_false_eq_true, if_true, if_false, ite_self, and_self, Int.ofNat_eq_natCast, Int.tdiv_eq_ediv_of_nonneg, Int.tmod_eq_emod_of_nonneg, x_bm32, k_has, bi_t, bi_f]
    · by_cases c3 : 20 < x
      · simp (disch := first | omega | (simp only [x_wtI, x_wtJ, x_wtR, x_wtN]; omega) | assumption | (simp (disch := omega) only [x_st_o, x_rd_ne]; first | assumption | omega) | (refine mir_eq ?_ ?_; assumption; (intro c h1 h2; simp (disch := omega) only [x_st_o])) | (refine mis_eq ?_ ?_; assumption; (intro c h1 h2; simp (disch := omega) only [x_st_o])) | rfl) only [sp_118, bk_118_0, bk_118_1, bk_118_2, bk_118_3, wp_ald0, wr_0_2, wr_20_0, wp_ild1, wk_60, wp_ifeq, wp_lld2, wp_lc, wp_lcmp, wp_iflt, wp_ifgt, wp_lld4, wp_ifle, wp_fall, wp_ic, wp_zret0 mz_118, wp_zret1 mz_118, wp_zretb mz_118, wp_zret mz_118, wp_l2i, wk_71, wp_ifne, wr_20_1, ws_21, ws_22, wr_20_2, x_clr_I, x_clr_J, x_clr_R, x_clr_U, ct_some, ct_none, lc_lt, lc_ge, lc_gt, lc_le, lc_eq, lc_r, xI_inj, xJ_inj, Option.some.injEq, eq_self, bi_r, bi_0, bi_1, bi_n, Classical.not_not, and_true, true_and, ite_true, ite_false, ↓reduceIte, ↓x_andl, z_le, z_nle, z_lt, z_nlt, z_eq, z_neq, if_pos, if_neg, x_andl, false_and, and_false, or_true, true_or, or_false, false_or, not_true, not_false_iff, x_rd_eq, x_rd_ne, x_st_o, Int.cast_ofNat_Int, Int.ofNat_zero, Int.ofNat_one, not_true_eq_false, not_false_eq_true, if_true, if_false, ite_self, and_self, Int.ofNat_eq_natCast, Int.tdiv_eq_ediv_of_nonneg, Int.tmod_eq_emod_of_nonneg, x_bm32, k_has, bi_t, bi_f]
      · by_cases c4 : b < 0
        · simp (disch := first | omega | (simp only [x_wtI, x_wtJ, x_wtR, x_wtN]; omega) | assumption | (simp (disch := omega) only [x_st_o, x_rd_ne]; first | assumption | omega) | (refine mir_eq ?_ ?_; assumption; (intro c h1 h2; simp (disch := omega) only [x_st_o])) | (refine mis_eq ?_ ?_; assumption; (intro c h1 h2; simp (disch := omega) only [x_st_o])) | rfl) only [sp_118, bk_118_0, bk_118_1, bk_118_2, bk_118_3, wp_ald0, wr_0_2, wr_20_0, wp_ild1, wk_60, wp_ifeq, wp_lld2, wp_lc, wp_lcmp, wp_iflt, wp_ifgt, wp_lld4, wp_ifle, wp_fall, wp_ic, wp_zret0 mz_118, wp_zret1 mz_118, wp_zretb mz_118, wp_zret mz_118, wp_l2i, wk_71, wp_ifne, wr_20_1, ws_21, ws_22, wr_20_2, x_clr_I, x_clr_J, x_clr_R, x_clr_U, ct_some, ct_none, lc_lt, lc_ge, lc_gt, lc_le, lc_eq, lc_r, xI_inj, xJ_inj, Option.some.injEq, eq_self, bi_r, bi_0, bi_1, bi_n, Classical.not_not, and_true, true_and, ite_true, ite_false, ↓reduceIte, ↓x_andl, z_le, z_nle, z_lt, z_nlt, z_eq, z_neq, if_pos, if_neg, x_andl, false_and, and_false, or_true, true_or, or_false, false_or, not_true, not_false_iff, x_rd_eq, x_rd_ne, x_st_o, Int.cast_ofNat_Int, Int.ofNat_zero, Int.ofNat_one, not_true_eq_false, not_false_eq_true, if_true, if_false, ite_self, and_self, Int.ofNat_eq_natCast, Int.tdiv_eq_ediv_of_nonneg, Int.tmod_eq_emod_of_nonneg, x_bm32, k_has, bi_t, bi_f]
        · by_cases c5 : 1 < b
          · simp (disch := first | omega | (simp only [x_wtI, x_wtJ, x_wtR, x_wtN]; omega) | assumption | (simp (disch := omega) only [x_st_o, x_rd_ne]; first | assumption | omega) | (refine mir_eq ?_ ?_; assumption; (intro c h1 h2; simp (disch := omega) only [x_st_o])) | (refine mis_eq ?_ ?_; assumption; (intro c h1 h2; simp (disch := omega) only [x_st_o])) | rfl) only [sp_118, bk_118_0, bk_118_1, bk_118_2, bk_118_3, wp_ald0, wr_0_2, wr_20_0, wp_ild1, wk_60, wp_ifeq, wp_lld2, wp_lc, wp_lcmp, wp_iflt, wp_ifgt, wp_lld4, wp_ifle, wp_fall, wp_ic, wp_zret0 mz_118, wp_zret1 mz_118, wp_zretb mz_118, wp_zret mz_118, wp_l2i, wk_71, wp_ifne, wr_20_1, ws_21, ws_22, wr_20_2, x_clr_I, x_clr_J, x_clr_R, x_clr_U, ct_some, ct_none, lc_lt, lc_ge, lc_gt, lc_le, lc_eq, lc_r, xI_inj, xJ_inj, Option.some.injEq, eq_self, bi_r, bi_0, bi_1, bi_n, Classical.not_not, and_true, true_and, ite_true, ite_false, ↓reduceIte, ↓x_andl, z_le, z_nle, z_lt, z_nlt, z_eq, z_neq, if_pos, if_neg, x_andl, false_and, and_false, or_true, true_or, or_false, false_or, not_true, not_false_iff, x_rd_eq, x_rd_ne, x_st_o, Int.cast_ofNat_Int, Int.ofNat_zero, Int.ofNat_one, not_true_eq_false, not_false_eq_true, if_true, if_false, ite_self, and_self, Int.ofNat_eq_natCast, Int.tdiv_eq_ediv_of_nonneg, Int.tmod_eq_emod_of_nonneg, x_bm32, k_has, bi_t, bi_f]
          · have c6 : ¬ p_mayb w f x b 42 = true := fun z => h ⟨c1, by omega, by omega, z⟩
            simp (disch := first | omega | (simp only [x_wtI, x_wtJ, x_wtR, x_wtN]; omega) | assumption | (simp (disch := omega) only [x_st_o, x_rd_ne]; first | assumption | omega) | (refine mir_eq ?_ ?_; assumption; (intro c h1 h2; simp (disch := omega) only [x_st_o])) | (refine mis_eq ?_ ?_; assumption; (intro c h1 h2; simp (disch := omega) only [x_st_o])) | rfl) only [sp_118, bk_118_0, bk_118_1, bk_118_2, bk_118_3, wp_ald0, wr_0_2, wr_20_0, wp_ild1, wk_60, wp_ifeq, wp_lld2, wp_lc, wp_lcmp, wp_iflt, wp_ifgt, wp_lld4, wp_ifle, wp_fall, wp_ic, wp_zret0 mz_118, wp_zret1 mz_118, wp_zretb mz_118, wp_zret mz_118, wp_l2i, wk_71, wp_ifne, wr_20_1, ws_21, ws_22, wr_20_2, x_clr_I, x_clr_J, x_clr_R, x_clr_U, ct_some, ct_none, lc_lt, lc_ge, lc_gt, lc_le, lc_eq, lc_r, xI_inj, xJ_inj, Option.some.injEq, eq_self, bi_r, bi_0, bi_1, bi_n, Classical.not_not, and_true, true_and, ite_true, ite_false, ↓reduceIte, ↓x_andl, z_le, z_nle, z_lt, z_nlt, z_eq, z_neq, if_pos, if_neg, x_andl, false_and, and_false, or_true, true_or, or_false, false_or, not_true, not_false_iff, x_rd_eq, x_rd_ne, x_st_o, Int.cast_ofNat_Int, Int.ofNat_zero, Int.ofNat_one, not_true_eq_false, not_false_eq_true, if_true, if_false, ite_self, and_self, Int.ofNat_eq_natCast, Int.tdiv_eq_ediv_of_nonneg, Int.tmod_eq_emod_of_nonneg, x_bm32, k_has, bi_t, bi_f, k_isEverLawful]
  · simp (disch := first | omega | (simp only [x_wtI, x_wtJ, x_wtR, x_wtN]; omega) | assumption | (simp (disch := omega) only [x_st_o, x_rd_ne]; first | assumption | omega) | (refine mir_eq ?_ ?_; assumption; (intro c h1 h2; simp (disch := omega) only [x_st_o])) | (refine mis_eq ?_ ?_; assumption; (intro c h1 h2; simp (disch := omega) only [x_st_o])) | rfl) only [sp_118, bk_118_0, bk_118_1, bk_118_2, bk_118_3, wp_ald0, wr_0_2, wr_20_0, wp_ild1, wk_60, wp_ifeq, wp_lld2, wp_lc, wp_lcmp, wp_iflt, wp_ifgt, wp_lld4, wp_ifle, wp_fall, wp_ic, wp_zret0 mz_118, wp_zret1 mz_118, wp_zretb mz_118, wp_zret mz_118, wp_l2i, wk_71, wp_ifne, wr_20_1, ws_21, ws_22, wr_20_2, x_clr_I, x_clr_J, x_clr_R, x_clr_U, ct_some, ct_none, lc_lt, lc_ge, lc_gt, lc_le, lc_eq, lc_r, xI_inj, xJ_inj, Option.some.injEq, eq_self, bi_r, bi_0, bi_1, bi_n, Classical.not_not, and_true, true_and, ite_true, ite_false, ↓reduceIte, ↓x_andl, z_le, z_nle, z_lt, z_nlt, z_eq, z_neq, if_pos, if_neg, x_andl, false_and, and_false, or_true, true_or, or_false, false_or, not_true, not_false_iff, x_rd_eq, x_rd_ne, x_st_o, Int.cast_ofNat_Int, Int.ofNat_zero, Int.ofNat_one, not_true_eq_false, not_false_eq_true, if_true, if_false, ite_self, and_self, Int.ofNat_eq_natCast, Int.tdiv_eq_ediv_of_nonneg, Int.tmod_eq_emod_of_nonneg, x_bm32, k_has, bi_t, bi_f]
theorem beh_no {s : Int} (hb : 0 ≤ b ∧ b ≤ 1) : p_beh w f s x b = -1 ↔ ¬ p_law w f (s % 21) (s / 21) x b := by
  unfold p_beh
  have o := p_or_01 (a := s / 21) (b := b)
  by_cases h : p_law w f (s % 21) (s / 21) x b
  · rw [if_pos ⟨hb, h⟩]
    have := h.2.2.2.1
    constructor
    · intro z; omega
    · intro z; exact absurd h z
  · rw [if_neg (fun z => h z.2)]
    exact ⟨fun _ => h, fun _ => rfl⟩
theorem beh_b {s : Int} (hw : wf w) (hs : 0 ≤ s ∧ s < 42) : -1 ≤ p_beh w f s x b ∧ p_beh w f s x b < 42 := by
  unfold p_beh
  have o := p_or_01 (a := s / 21) (b := b)
  have r := room_b hw (l := p_or (s / 21) b)
  by_cases h : (0 ≤ b ∧ b ≤ 1) ∧ p_law w f (s % 21) (s / 21) x b
  · rw [if_pos h]
    have h1 := h.2.2.2.2.1
    have h2 := h.2.2.2.2.2
    omega
  · rw [if_neg h]
    omega
theorem k_mayBe (h51 : σ 51 0 = w) (hw : wf w) (h0 : 0 ≤ f) (h1 : f < w 0) (hx : -2147483648 ≤ x ∧ x ≤ 2147483647) (hb : -2147483648 ≤ b ∧ b ≤ 2147483647) : x_Sp (d + 2) 216 [xR 50 0, xI f, xI x, xI b] σ Q ↔ Q (some (xI (x_bi ((-20 ≤ x ∧ x ≤ 20) ∧ (0 ≤ b ∧ b ≤ 1) ∧ p_mayb w f x b 42 = true)))) σ := by
  refine x_sp_of ?_
  by_cases c1 : -20 ≤ x ∧ x ≤ 20
  · by_cases c2 : 0 ≤ b ∧ b ≤ 1
    · generalize hg : x_bi ((-20 ≤ x ∧ x ≤ 20) ∧ (0 ≤ b ∧ b ≤ 1) ∧ p_mayb w f x b 42 = true) = g
      simp (disch := first | omega | (simp only [x_wtI, x_wtJ, x_wtR, x_wtN]; omega) | assumption | (simp (disch := omega) only [x_st_o, x_rd_ne]; first | assumption | omega) | (refine mir_eq ?_ ?_; assumption; (intro c h1 h2; simp (disch := omega) only [x_st_o])) | (refine mis_eq ?_ ?_; assumption; (intro c h1 h2; simp (disch := omega) only [x_st_o])) | rfl) only [sp_216, bk_216_0, bk_216_1, bk_216_2, bk_216_4, bk_216_5, wp_ild2, wp_i2l, wp_lc, wk_169, wp_ifeq, wp_ild3, wp_ifne, wp_fall, wp_ic, wp_zret0 mz_216, wp_zret1 mz_216, wp_zretb mz_216, wp_zret mz_216, wp_ist4, wp_ild4, wp_icge, wp_ald0, wp_ild1, wk_201, wp_iceq, wp_inc4, wp_goto, x_clr_I, x_clr_J, x_clr_R, x_clr_U, ct_some, ct_none, lc_lt, lc_ge, lc_gt, lc_le, lc_eq, lc_r, xI_inj, xJ_inj, Option.some.injEq, eq_self, bi_r, bi_0, bi_1, bi_n, Classical.not_not, and_true, true_and, ite_true, ite_false, ↓reduceIte, ↓x_andl, z_le, z_nle, z_lt, z_nlt, z_eq, z_neq, if_pos, if_neg, x_andl, false_and, and_false, or_true, true_or, or_false, false_or, not_true, not_false_iff, x_rd_eq, x_rd_ne, x_st_o, Int.cast_ofNat_Int, Int.ofNat_zero, Int.ofNat_one, not_true_eq_false, not_false_eq_true, if_true, if_false, ite_self, and_self, Int.ofNat_eq_natCast, Int.tdiv_eq_ediv_of_nonneg, Int.tmod_eq_emod_of_nonneg, x_bm32, c_in, bi_t, bi_f]
      refine x_lpX (fun (i : Int) (_ : Unit) => p_mayb w f x b i.toNat = false) (fun (i : Int) (_ : Unit) => x_Wp (d + 2) 216 (x_blk 216 3) [xR 50 0, xI f, xI x, xI b, xI i] [] σ _) (lo := 0) (hi := 42) (by omega) (a0 := ()) rfl ?_ ?_
      · intro i _ i0 i1 hJ
        rw [bk_216_3]
        have e : (i.toNat : Int) = i := Int.toNat_of_nonneg i0
        have bb := beh_b (f := f) (x := x) (b := b) hw (s := i) ⟨i0, i1⟩
        by_cases c : p_law w f (i % 21) (i / 21) x b
        · refine Or.inl ?_
          have t : p_mayb w f x b 42 = true := mayb_hit (n := i.toNat) (by rw [e]; exact c) (by omega)
          have ne : ¬ p_beh w f i x b = -1 := fun z => (beh_no c2).mp z c
          simp (disch := first | omega | (simp only [x_wtI, x_wtJ, x_wtR, x_wtN]; omega) | assumption | (simp (disch := omega) only [x_st_o, x_rd_ne]; first | assumption | omega) | (refine mir_eq ?_ ?_; assumption; (intro c h1 h2; simp (disch := omega) only [x_st_o])) | (refine mis_eq ?_ ?_; assumption; (intro c h1 h2; simp (disch := omega) only [x_st_o])) | rfl) only [bk_216_0, bk_216_1, bk_216_2, bk_216_4, bk_216_5, wp_ild2, wp_i2l, wp_lc, wk_169, wp_ifeq, wp_ild3, wp_ifne, wp_fall, wp_ic, wp_zret0 mz_216, wp_zret1 mz_216, wp_zretb mz_216, wp_zret mz_216, wp_ist4, wp_ild4, wp_icge, wp_ald0, wp_ild1, wk_201, wp_iceq, wp_inc4, wp_goto, x_clr_I, x_clr_J, x_clr_R, x_clr_U, ct_some, ct_none, lc_lt, lc_ge, lc_gt, lc_le, lc_eq, lc_r, xI_inj, xJ_inj, Option.some.injEq, eq_self, bi_r, bi_0, bi_1, bi_n, Classical.not_not, and_true, true_and, ite_true, ite_false, ↓reduceIte, ↓x_andl, z_le, z_nle, z_lt, z_nlt, z_eq, z_neq, if_pos, if_neg, x_andl, false_and, and_false, or_true, true_or, or_false, false_or, not_true, not_false_iff, x_rd_eq, x_rd_ne, x_st_o, Int.cast_ofNat_Int, Int.ofNat_zero, Int.ofNat_one, not_true_eq_false, not_false_eq_true, if_true, if_false, ite_self, and_self, Int.ofNat_eq_natCast, Int.tdiv_eq_ediv_of_nonneg, Int.tmod_eq_emod_of_nonneg, x_bm32, k_behind]
          exact (bi_t ⟨c1, c2, t⟩).symm.trans hg
        · refine Or.inr ⟨(), ?_, ?_⟩
          · rw [show (i + 1).toNat = i.toNat + 1 by omega]
            exact mayb_no hJ (by rw [e]; exact c)
          · intro H
            have ne : p_beh w f i x b = -1 := (beh_no c2).mpr c
            simp (disch := first | omega | (simp only [x_wtI, x_wtJ, x_wtR, x_wtN]; omega) | assumption | (simp (disch := omega) only [x_st_o, x_rd_ne]; first | assumption | omega) | (refine mir_eq ?_ ?_; assumption; (intro c h1 h2; simp (disch := omega) only [x_st_o])) | (refine mis_eq ?_ ?_; assumption; (intro c h1 h2; simp (disch := omega) only [x_st_o])) | rfl) only [bk_216_0, bk_216_1, bk_216_2, bk_216_4, bk_216_5, wp_ild2, wp_i2l, wp_lc, wk_169, wp_ifeq, wp_ild3, wp_ifne, wp_fall, wp_ic, wp_zret0 mz_216, wp_zret1 mz_216, wp_zretb mz_216, wp_zret mz_216, wp_ist4, wp_ild4, wp_icge, wp_ald0, wp_ild1, wk_201, wp_iceq, wp_inc4, wp_goto, x_clr_I, x_clr_J, x_clr_R, x_clr_U, ct_some, ct_none, lc_lt, lc_ge, lc_gt, lc_le, lc_eq, lc_r, xI_inj, xJ_inj, Option.some.injEq, eq_self, bi_r, bi_0, bi_1, bi_n, Classical.not_not, and_true, true_and, ite_true, ite_false, ↓reduceIte, ↓x_andl, z_le, z_nle, z_lt, z_nlt, z_eq, z_neq, if_pos, if_neg, x_andl, false_and, and_false, or_true, true_or, or_false, false_or, not_true, not_false_iff, x_rd_eq, x_rd_ne, x_st_o, Int.cast_ofNat_Int, Int.ofNat_zero, Int.ofNat_one, not_true_eq_false, not_false_eq_true, if_true, if_false, ite_self, and_self, Int.ofNat_eq_natCast, Int.tdiv_eq_ediv_of_nonneg, Int.tmod_eq_emod_of_nonneg, x_bm32, k_behind, ne]
            exact H
      · intro _ hJ
        rw [bk_216_3]
        have hf2 : ¬ p_mayb w f x b 42 = true := by rw [show (42 : Nat) = (42 : Int).toNat from rfl, hJ]; exact Bool.false_ne_true
        simp (disch := first | omega | (simp only [x_wtI, x_wtJ, x_wtR, x_wtN]; omega) | assumption | (simp (disch := omega) only [x_st_o, x_rd_ne]; first | assumption | omega) | (refine mir_eq ?_ ?_; assumption; (intro c h1 h2; simp (disch := omega) only [x_st_o])) | (refine mis_eq ?_ ?_; assumption; (intro c h1 h2; simp (disch := omega) only [x_st_o])) | rfl) only [bk_216_0, bk_216_1, bk_216_2, bk_216_4, bk_216_5, wp_ild2, wp_i2l, wp_lc, wk_169, wp_ifeq, wp_ild3, wp_ifne, wp_fall, wp_ic, wp_zret0 mz_216, wp_zret1 mz_216, wp_zretb mz_216, wp_zret mz_216, wp_ist4, wp_ild4, wp_icge, wp_ald0, wp_ild1, wk_201, wp_iceq, wp_inc4, wp_goto, x_clr_I, x_clr_J, x_clr_R, x_clr_U, ct_some, ct_none, lc_lt, lc_ge, lc_gt, lc_le, lc_eq, lc_r, xI_inj, xJ_inj, Option.some.injEq, eq_self, bi_r, bi_0, bi_1, bi_n, Classical.not_not, and_true, true_and, ite_true, ite_false, ↓reduceIte, ↓x_andl, z_le, z_nle, z_lt, z_nlt, z_eq, z_neq, if_pos, if_neg, x_andl, false_and, and_false, or_true, true_or, or_false, false_or, not_true, not_false_iff, x_rd_eq, x_rd_ne, x_st_o, Int.cast_ofNat_Int, Int.ofNat_zero, Int.ofNat_one, not_true_eq_false, not_false_eq_true, if_true, if_false, ite_self, and_self, Int.ofNat_eq_natCast, Int.tdiv_eq_ediv_of_nonneg, Int.tmod_eq_emod_of_nonneg, x_bm32]
        exact (bi_f (fun z => hf2 z.2.2)).symm.trans hg
    · rw [bi_f (fun z => c2 z.2.1)]
      simp (disch := first | omega | (simp only [x_wtI, x_wtJ, x_wtR, x_wtN]; omega) | assumption | (simp (disch := omega) only [x_st_o, x_rd_ne]; first | assumption | omega) | (refine mir_eq ?_ ?_; assumption; (intro c h1 h2; simp (disch := omega) only [x_st_o])) | (refine mis_eq ?_ ?_; assumption; (intro c h1 h2; simp (disch := omega) only [x_st_o])) | rfl) only [sp_216, bk_216_0, bk_216_1, bk_216_2, bk_216_4, bk_216_5, wp_ild2, wp_i2l, wp_lc, wk_169, wp_ifeq, wp_ild3, wp_ifne, wp_fall, wp_ic, wp_zret0 mz_216, wp_zret1 mz_216, wp_zretb mz_216, wp_zret mz_216, wp_ist4, wp_ild4, wp_icge, wp_ald0, wp_ild1, wk_201, wp_iceq, wp_inc4, wp_goto, x_clr_I, x_clr_J, x_clr_R, x_clr_U, ct_some, ct_none, lc_lt, lc_ge, lc_gt, lc_le, lc_eq, lc_r, xI_inj, xJ_inj, Option.some.injEq, eq_self, bi_r, bi_0, bi_1, bi_n, Classical.not_not, and_true, true_and, ite_true, ite_false, ↓reduceIte, ↓x_andl, z_le, z_nle, z_lt, z_nlt, z_eq, z_neq, if_pos, if_neg, x_andl, false_and, and_false, or_true, true_or, or_false, false_or, not_true, not_false_iff, x_rd_eq, x_rd_ne, x_st_o, Int.cast_ofNat_Int, Int.ofNat_zero, Int.ofNat_one, not_true_eq_false, not_false_eq_true, if_true, if_false, ite_self, and_self, Int.ofNat_eq_natCast, Int.tdiv_eq_ediv_of_nonneg, Int.tmod_eq_emod_of_nonneg, x_bm32, c_in, bi_t, bi_f]
  · rw [bi_f (fun z => c1 z.1)]
    simp (disch := first | omega | (simp only [x_wtI, x_wtJ, x_wtR, x_wtN]; omega) | assumption | (simp (disch := omega) only [x_st_o, x_rd_ne]; first | assumption | omega) | (refine mir_eq ?_ ?_; assumption; (intro c h1 h2; simp (disch := omega) only [x_st_o])) | (refine mis_eq ?_ ?_; assumption; (intro c h1 h2; simp (disch := omega) only [x_st_o])) | rfl) only [sp_216, bk_216_0, bk_216_1, bk_216_2, bk_216_4, bk_216_5, wp_ild2, wp_i2l, wp_lc, wk_169, wp_ifeq, wp_ild3, wp_ifne, wp_fall, wp_ic, wp_zret0 mz_216, wp_zret1 mz_216, wp_zretb mz_216, wp_zret mz_216, wp_ist4, wp_ild4, wp_icge, wp_ald0, wp_ild1, wk_201, wp_iceq, wp_inc4, wp_goto, x_clr_I, x_clr_J, x_clr_R, x_clr_U, ct_some, ct_none, lc_lt, lc_ge, lc_gt, lc_le, lc_eq, lc_r, xI_inj, xJ_inj, Option.some.injEq, eq_self, bi_r, bi_0, bi_1, bi_n, Classical.not_not, and_true, true_and, ite_true, ite_false, ↓reduceIte, ↓x_andl, z_le, z_nle, z_lt, z_nlt, z_eq, z_neq, if_pos, if_neg, x_andl, false_and, and_false, or_true, true_or, or_false, false_or, not_true, not_false_iff, x_rd_eq, x_rd_ne, x_st_o, Int.cast_ofNat_Int, Int.ofNat_zero, Int.ofNat_one, not_true_eq_false, not_false_eq_true, if_true, if_false, ite_self, and_self, Int.ofNat_eq_natCast, Int.tdiv_eq_ediv_of_nonneg, Int.tmod_eq_emod_of_nonneg, x_bm32, c_in, bi_t, bi_f]
theorem k_planM1 (h51 : σ 51 0 = w) (hw : wf w) (h : a_acc w f x b) : x_Sp (d + 3) 215 [xR 50 0, xI f, xI x, xI b] σ Q ↔ Q (some (xI 1)) (x_st (x_st σ 51 0 (536 + 2 * f) x) 51 0 (536 + 2 * f + 1) b) := by
  have a := wf_h hw
  unfold wf_hdr at a
  obtain ⟨c1, c2, c3, c4⟩ := h
  have m : (-20 ≤ x ∧ x ≤ 20) ∧ (0 ≤ b ∧ b ≤ 1) ∧ p_mayb w f x b 42 = true := ⟨c2, c3, c4⟩
  refine x_sp_of ?_
  simp (disch := first | omega | (simp only [x_wtI, x_wtJ, x_wtR, x_wtN]; omega) | assumption | (simp (disch := omega) only [x_st_o, x_rd_ne]; first | assumption | omega) | (refine mir_eq ?_ ?_; assumption; (intro c h1 h2; simp (disch := omega) only [x_st_o])) | (refine mis_eq ?_ ?_; assumption; (intro c h1 h2; simp (disch := omega) only [x_st_o])) | rfl) only [sp_215, bk_215_0, bk_215_1, bk_215_2, wp_ald0, wp_ild1, wk_191, wp_ifeq, wp_ild2, wp_ild3, wk_216, wp_ifne, wp_fall, wp_ic, wp_zret0 mz_215, wp_zret1 mz_215, wp_zretb mz_215, wp_zret mz_215, wr_50_1, wp_imul, wp_iadd, ws_51, x_clr_I, x_clr_J, x_clr_R, x_clr_U, ct_some, ct_none, lc_lt, lc_ge, lc_gt, lc_le, lc_eq, lc_r, xI_inj, xJ_inj, Option.some.injEq, eq_self, bi_r, bi_0, bi_1, bi_n, Classical.not_not, and_true, true_and, ite_true, ite_false, ↓reduceIte, ↓x_andl, z_le, z_nle, z_lt, z_nlt, z_eq, z_neq, if_pos, if_neg, x_andl, false_and, and_false, or_true, true_or, or_false, false_or, not_true, not_false_iff, x_rd_eq, x_rd_ne, x_st_o, Int.cast_ofNat_Int, Int.ofNat_zero, Int.ofNat_one, not_true_eq_false, not_false_eq_true, if_true, if_false, ite_self, and_self, Int.ofNat_eq_natCast, Int.tdiv_eq_ediv_of_nonneg, Int.tmod_eq_emod_of_nonneg, x_bm32, k_isFork, bi_t, bi_f, k_mayBe]
theorem k_planM0 (h51 : σ 51 0 = w) (hw : wf w) (hf : -2147483648 ≤ f ∧ f ≤ 2147483647) (hx : -2147483648 ≤ x ∧ x ≤ 2147483647) (hb : -2147483648 ≤ b ∧ b ≤ 2147483647) (h : ¬ a_acc w f x b) : x_Sp (d + 3) 215 [xR 50 0, xI f, xI x, xI b] σ Q ↔ Q (some (xI 0)) σ := by
  have a := wf_h hw
  unfold wf_hdr at a
  refine x_sp_of ?_
  by_cases c1 : 0 ≤ f ∧ f < w 0
  · have m : ¬ ((-20 ≤ x ∧ x ≤ 20) ∧ (0 ≤ b ∧ b ≤ 1) ∧ p_mayb w f x b 42 = true) := fun z => h ⟨c1, z.1, z.2.1, z.2.2⟩
    simp (disch := first | omega | (simp only [x_wtI, x_wtJ, x_wtR, x_wtN]; omega) | assumption | (simp (disch := omega) only [x_st_o, x_rd_ne]; first | assumption | omega) | (refine mir_eq ?_ ?_; assumption; (intro c h1 h2; simp (disch := omega) only [x_st_o])) | (refine mis_eq ?_ ?_; assumption; (intro c h1 h2; simp (disch := omega) only [x_st_o])) | rfl) only [sp_215, bk_215_0, bk_215_1, bk_215_2, wp_ald0, wp_ild1, wk_191, wp_ifeq, wp_ild2, wp_ild3, wk_216, wp_ifne, wp_fall, wp_ic, wp_zret0 mz_215, wp_zret1 mz_215, wp_zretb mz_215, wp_zret mz_215, wr_50_1, wp_imul, wp_iadd, ws_51, x_clr_I, x_clr_J, x_clr_R, x_clr_U, ct_some, ct_none, lc_lt, lc_ge, lc_gt, lc_le, lc_eq, lc_r, xI_inj, xJ_inj, Option.some.injEq, eq_self, bi_r, bi_0, bi_1, bi_n, Classical.not_not, and_true, true_and, ite_true, ite_false, ↓reduceIte, ↓x_andl, z_le, z_nle, z_lt, z_nlt, z_eq, z_neq, if_pos, if_neg, x_andl, false_and, and_false, or_true, true_or, or_false, false_or, not_true, not_false_iff, x_rd_eq, x_rd_ne, x_st_o, Int.cast_ofNat_Int, Int.ofNat_zero, Int.ofNat_one, not_true_eq_false, not_false_eq_true, if_true, if_false, ite_self, and_self, Int.ofNat_eq_natCast, Int.tdiv_eq_ediv_of_nonneg, Int.tmod_eq_emod_of_nonneg, x_bm32, k_isFork, bi_t, bi_f, k_mayBe]
  · simp (disch := first | omega | (simp only [x_wtI, x_wtJ, x_wtR, x_wtN]; omega) | assumption | (simp (disch := omega) only [x_st_o, x_rd_ne]; first | assumption | omega) | (refine mir_eq ?_ ?_; assumption; (intro c h1 h2; simp (disch := omega) only [x_st_o])) | (refine mis_eq ?_ ?_; assumption; (intro c h1 h2; simp (disch := omega) only [x_st_o])) | rfl) only [sp_215, bk_215_0, bk_215_1, bk_215_2, wp_ald0, wp_ild1, wk_191, wp_ifeq, wp_ild2, wp_ild3, wk_216, wp_ifne, wp_fall, wp_ic, wp_zret0 mz_215, wp_zret1 mz_215, wp_zretb mz_215, wp_zret mz_215, wr_50_1, wp_imul, wp_iadd, ws_51, x_clr_I, x_clr_J, x_clr_R, x_clr_U, ct_some, ct_none, lc_lt, lc_ge, lc_gt, lc_le, lc_eq, lc_r, xI_inj, xJ_inj, Option.some.injEq, eq_self, bi_r, bi_0, bi_1, bi_n, Classical.not_not, and_true, true_and, ite_true, ite_false, ↓reduceIte, ↓x_andl, z_le, z_nle, z_lt, z_nlt, z_eq, z_neq, if_pos, if_neg, x_andl, false_and, and_false, or_true, true_or, or_false, false_or, not_true, not_false_iff, x_rd_eq, x_rd_ne, x_st_o, Int.cast_ofNat_Int, Int.ofNat_zero, Int.ofNat_one, not_true_eq_false, not_false_eq_true, if_true, if_false, ite_self, and_self, Int.ofNat_eq_natCast, Int.tdiv_eq_ediv_of_nonneg, Int.tmod_eq_emod_of_nonneg, x_bm32, k_isFork, bi_t, bi_f]
end KP
/-! plans are changed, on both sides alike -/
theorem iN_plan {L : Int} {S0 : Int → Int} {σ σ' : x_S} (h : iN L S0 σ) (e : x_eqo [(21, 1), (22, 1), (51, 0)] σ σ') (ew : ∀ i, i < 536 → σ' 51 0 i = σ 51 0 i) (ep : ∀ f, 0 ≤ f → f < σ 51 0 0 → σ' 21 1 f = σ' 51 0 (536 + 2 * f) ∧ σ' 22 1 f = σ' 51 0 (536 + 2 * f + 1) ∧ (-20 ≤ σ' 51 0 (536 + 2 * f) ∧ σ' 51 0 (536 + 2 * f) ≤ 20) ∧ (0 ≤ σ' 51 0 (536 + 2 * f + 1) ∧ σ' 51 0 (536 + 2 * f + 1) ≤ 1)) : iN L S0 σ' := by
  obtain ⟨hW, hT, hF, hM, hS, hR, hI, hX⟩ := h
  have n0 := e 0 0 (by decide)
  have n50 := e 50 0 (by decide)
  have n3 := e 3 0 (by decide)
  have t : tq (σ 51 0) (σ' 51 0) := ⟨fun i _ b => ew i (by omega), fun i _ b => ew i b⟩
  obtain ⟨⟨hw, h100, hn, hq⟩, hmi, hms⟩ := hW
  have a := wf_h hw
  unfold wf_hdr at a
  have z0 := ew 0 (by omega)
  unfold wn at hn
  refine ⟨⟨⟨tq_wf t hw, tq_100 t hw h100, ?_, ?_⟩, tq_mir t hw (mir_eq hmi (fun c q1 q2 => e c 1 (by simp; omega))), ?_, ?_⟩, iT_tq hT hw hn.1.1 t (ew 8 (by omega)) (ew 9 (by omega)) (ew 10 (by omega)) (fun k _ _ => by rw [n0]) (e 25 0 (by decide)) (e 25 1 (by decide)) (e 25 2 (by decide)) (e 26 2 (by decide)) (e 30 0 (by decide)) (e 31 0 (by decide)), iF_eq hF (fun j k _ _ _ => by rw [e 24 j (by simp)]), iM_eq hM (by rw [n50]) (by rw [n50]) (by rw [n50]) (by rw [n50]) (by rw [n0]), iS_eq hS (fun c q => by rcases q with rfl | rfl | rfl | rfl | rfl | rfl <;> exact e _ 0 (by decide)), iR_eq hR (e 4 0 (by decide)) (e 54 0 (by decide)) (fun k _ _ => by rw [n3]) (by rw [n50]) (by rw [n50]) (by rw [n50]), iI_eq hI (e 52 0 (by decide)) (e 53 0 (by decide)) (fun c j a b q1 q2 => e c j (by simp; omega)), iX_eq hX (fun j => e 100 j (by simp))⟩
  · unfold wn
    rw [ew 8 (by omega), ew 9 (by omega), ew 10 (by omega), ew 11 (by omega), ew 12 (by omega), z0, tq_of t (by omega) (by omega) (by omega) (by omega)]
    exact hn
  · intro f f0 f1
    rw [z0] at f1
    rw [tq_of t f0 (by omega) (by omega) (by omega)]
    exact ⟨(hq f f0 f1).1, (ep f f0 f1).2.2.1, (ep f f0 f1).2.2.2⟩
  · rw [ew 8 (by omega), ew 9 (by omega), ew 10 (by omega), ew 11 (by omega), ew 12 (by omega), e 20 1 (by decide)]
    exact hms.1
  · intro f f0 f1
    rw [z0] at f1
    exact ⟨(ep f f0 f1).1, (ep f f0 f1).2.1⟩
section O8
variable {L : Int} {S0 : Int → Int}
theorem o_plan : x_o13 (iN L S0) := by
  intro σ hh f x b hf hx hb
  refine ag_I ?_
  obtain ⟨w, h51, hw, h100, hn, hq, hM, hS⟩ := iN_w hh
  by_cases c : a_acc w f x b
  · simp (disch := first | omega | (simp only [x_wtI, x_wtJ, x_wtR, x_wtN]; omega) | assumption | (simp (disch := omega) only [x_st_o, x_rd_ne]; first | assumption | omega) | (refine mir_eq ?_ ?_; assumption; (intro c h1 h2; simp (disch := omega) only [x_st_o])) | (refine mis_eq ?_ ?_; assumption; (intro c h1 h2; simp (disch := omega) only [x_st_o])) | rfl) only [sp_117, bk_117_0, wp_ald0, wp_ild1, wp_ild2, wp_i2l, wp_ild3, wk_118, wp_zret0 mz_117, wp_zret1 mz_117, wp_zretb mz_117, wp_zret mz_117, x_clr_I, x_clr_J, x_clr_R, x_clr_U, ct_some, ct_none, lc_lt, lc_ge, lc_gt, lc_le, lc_eq, lc_r, xI_inj, xJ_inj, Option.some.injEq, eq_self, bi_r, bi_0, bi_1, bi_n, Classical.not_not, and_true, true_and, ite_true, ite_false, ↓reduceIte, ↓x_andl, z_le, z_nle, z_lt, z_nlt, z_eq, z_neq, if_pos, if_neg, x_andl, false_and, and_false, or_true, true_or, or_false, false_or, not_true, not_false_iff, x_rd_eq, x_rd_ne, x_st_o, Int.cast_ofNat_Int, Int.ofNat_zero, Int.ofNat_one, not_true_eq_false, not_false_eq_true, if_true, if_false, ite_self, and_self, Int.ofNat_eq_natCast, Int.tdiv_eq_ediv_of_nonneg, Int.tmod_eq_emod_of_nonneg, x_bm32, k_adopt1]
    refine ⟨1, rfl, fun _ _ => rfl, ?_⟩
    have f51 : (x_st (x_st σ 21 1 f x) 22 1 f b) 51 0 = w := by simp (disch := omega) only [x_st_o, x_rd_ne, x_rd_eq, s_fl_o, s_fl_in, s_fl_out, x_cp_o, x_cp_in, x_cp_out]; exact h51
    have hc := c.2
    have c1 := c.1
    have a := wf_h hw
    unfold wf_hdr at a
    have g := k_planM1 (d := 996) (σ := x_st (x_st σ 21 1 f x) 22 1 f b) (Q := fun r2 σ2 => r2 = some (xI 1) ∧ iN L S0 σ2) f51 hw c
    refine g.mpr ⟨rfl, ?_⟩
    refine iN_plan hh ?_ ?_ ?_
    · exact eqo_st (by decide) (eqo_st (by decide) (eqo_st (by decide) (eqo_st (by decide) eqo_refl)))
    · intro i hi
      simp (disch := omega) only [x_st_o, x_rd_ne, x_rd_eq, s_fl_o, s_fl_in, s_fl_out, x_cp_o, x_cp_in, x_cp_out]
    · intro g g0 g1
      rw [h51] at g1
      by_cases cg : g = f
      · subst cg
        simp (disch := omega) only [x_st_o, x_rd_ne, x_rd_eq, s_fl_o, s_fl_in, s_fl_out, x_cp_o, x_cp_in, x_cp_out]
        exact ⟨trivial, trivial, hc.1, hc.2.1⟩
      · simp (disch := omega) only [x_st_o, x_rd_ne, x_rd_eq, s_fl_o, s_fl_in, s_fl_out, x_cp_o, x_cp_in, x_cp_out]
        rw [h51]
        exact ⟨(hS.2 g g0 g1).1, (hS.2 g g0 g1).2, (hq g g0 g1).2.1, (hq g g0 g1).2.2⟩
  · simp (disch := first | omega | (simp only [x_wtI, x_wtJ, x_wtR, x_wtN]; omega) | assumption | (simp (disch := omega) only [x_st_o, x_rd_ne]; first | assumption | omega) | (refine mir_eq ?_ ?_; assumption; (intro c h1 h2; simp (disch := omega) only [x_st_o])) | (refine mis_eq ?_ ?_; assumption; (intro c h1 h2; simp (disch := omega) only [x_st_o])) | rfl) only [sp_117, bk_117_0, wp_ald0, wp_ild1, wp_ild2, wp_i2l, wp_ild3, wk_118, wp_zret0 mz_117, wp_zret1 mz_117, wp_zretb mz_117, wp_zret mz_117, x_clr_I, x_clr_J, x_clr_R, x_clr_U, ct_some, ct_none, lc_lt, lc_ge, lc_gt, lc_le, lc_eq, lc_r, xI_inj, xJ_inj, Option.some.injEq, eq_self, bi_r, bi_0, bi_1, bi_n, Classical.not_not, and_true, true_and, ite_true, ite_false, ↓reduceIte, ↓x_andl, z_le, z_nle, z_lt, z_nlt, z_eq, z_neq, if_pos, if_neg, x_andl, false_and, and_false, or_true, true_or, or_false, false_or, not_true, not_false_iff, x_rd_eq, x_rd_ne, x_st_o, Int.cast_ofNat_Int, Int.ofNat_zero, Int.ofNat_one, not_true_eq_false, not_false_eq_true, if_true, if_false, ite_self, and_self, Int.ofNat_eq_natCast, Int.tdiv_eq_ediv_of_nonneg, Int.tmod_eq_emod_of_nonneg, x_bm32, k_adopt0]
    refine ⟨0, rfl, fun _ _ => rfl, ?_⟩
    have g := k_planM0 (d := 996) (σ := σ) (Q := fun r2 σ2 => r2 = some (xI 0) ∧ iN L S0 σ2) h51 hw hf hx hb c
    exact g.mpr ⟨rfl, hh⟩
def a_cnt (w N : Int → Int) (s : Int) : Nat → Int
  | 0 => 0
  | n + 1 => a_cnt w N s n + (if a_acc w n (N (60 * s + 2 * n)) (N (60 * s + 2 * n + 1)) then 1 else 0)
theorem acnt_s {w N : Int → Int} {s i : Int} (i0 : 0 ≤ i) : a_cnt w N s (i + 1).toNat = a_cnt w N s i.toNat + (if a_acc w i (N (60 * s + 2 * i)) (N (60 * s + 2 * i + 1)) then 1 else 0) := by
  rw [show (i + 1).toNat = i.toNat + 1 by omega]
  show a_cnt w N s i.toNat + (if a_acc w (i.toNat : Int) (N (60 * s + 2 * (i.toNat : Int))) (N (60 * s + 2 * (i.toNat : Int) + 1)) then 1 else 0) = _
  rw [Int.toNat_of_nonneg i0]
theorem h_plansC {σ : x_S} {w : Int → Int} {s m : Int} (hM : mir σ 1 w) (hw : wf w) (hs : 0 ≤ s ∧ s ≤ 3) (hm : 0 ≤ m ∧ m ≤ 60) (h18 : σ 18 0 s = m) (hr : ∀ i, 0 ≤ i → i < 240 → -9223372036854775808 ≤ σ 19 0 i ∧ σ 19 0 i ≤ 9223372036854775807) :
    x_Wp 999 119 (x_blk 119 3) [xR 0 0, xI s, xI 0, xI 0] [] σ (fun r σ' => r = some (xI (a_cnt w (σ 19 0) s (m / 2).toNat)) ∧ x_eqo [(21, 1), (22, 1)] σ σ' ∧ (∀ z, σ' 21 1 z = if (0 ≤ z ∧ z < m / 2) ∧ a_acc w z (σ 19 0 (60 * s + 2 * z)) (σ 19 0 (60 * s + 2 * z + 1)) then σ 19 0 (60 * s + 2 * z) else σ 21 1 z) ∧ (∀ z, σ' 22 1 z = if (0 ≤ z ∧ z < m / 2) ∧ a_acc w z (σ 19 0 (60 * s + 2 * z)) (σ 19 0 (60 * s + 2 * z + 1)) then σ 19 0 (60 * s + 2 * z + 1) else σ 22 1 z)) := by
  have a := wf_h hw
  unfold wf_hdr at a
  refine w_gen (fun Q hQ => ?_)
  refine x_lpJ (α := Int × x_S) (fun i q => q.1 = a_cnt w (σ 19 0) s i.toNat ∧ x_eqo [(21, 1), (22, 1)] σ q.2 ∧ (∀ z, q.2 21 1 z = if (0 ≤ z ∧ z < i) ∧ a_acc w z (σ 19 0 (60 * s + 2 * z)) (σ 19 0 (60 * s + 2 * z + 1)) then σ 19 0 (60 * s + 2 * z) else σ 21 1 z) ∧ (∀ z, q.2 22 1 z = if (0 ≤ z ∧ z < i) ∧ a_acc w z (σ 19 0 (60 * s + 2 * z)) (σ 19 0 (60 * s + 2 * z + 1)) then σ 19 0 (60 * s + 2 * z + 1) else σ 22 1 z)) (fun i q => x_Wp 999 119 (x_blk 119 3) [xR 0 0, xI s, xI q.1, xI i] [] q.2 _) (lo := 0) (hi := m / 2) (by omega) (a0 := (0, σ)) ⟨rfl, eqo_refl, fun z => by rw [if_neg (by omega)], fun z => by rw [if_neg (by omega)]⟩ ?_ ?_
  · intro i ⟨n, σi⟩ i0 i1 ⟨j1, j2, j3, j4⟩
    simp only at j1 j2 j3 j4 ⊢
    subst j1
    have g18 : σi 18 0 = σ 18 0 := j2 18 0 (by decide)
    have g19 : σi 19 0 = σ 19 0 := j2 19 0 (by decide)
    have mc : s * 60 + 2 * i = 60 * s + 2 * i := by omega
    have mc1 : s * 60 + (2 * i + 1) = 60 * s + 2 * i + 1 := by omega
    have hMi : mir σi 1 w := mir_eq hM (fun c q1 q2 => j2 c 1 (by simp; omega))
    have r1 := hr (60 * s + 2 * i) (by omega) (by omega)
    have r2 := hr (60 * s + 2 * i + 1) (by omega) (by omega)
    by_cases c : a_acc w i (σ 19 0 (60 * s + 2 * i)) (σ 19 0 (60 * s + 2 * i + 1))
    · refine ⟨(a_cnt w (σ 19 0) s i.toNat + 1, x_st (x_st σi 21 1 i (σ 19 0 (60 * s + 2 * i))) 22 1 i (σ 19 0 (60 * s + 2 * i + 1))), ⟨?_, ?_, ?_, ?_⟩, ?_⟩
      · rw [acnt_s i0, if_pos c]
      · exact eqo_st (by decide) (eqo_st (by decide) j2)
      · intro z
        by_cases cz : z = i
        · subst cz
          simp (disch := omega) only [x_st_o, x_rd_ne, x_rd_eq, s_fl_o, s_fl_in, s_fl_out, x_cp_o, x_cp_in, x_cp_out]
          rw [if_pos ⟨by omega, c⟩]
        · simp (disch := omega) only [x_st_o, x_rd_ne, x_rd_eq, s_fl_o, s_fl_in, s_fl_out, x_cp_o, x_cp_in, x_cp_out]
          rw [j3 z]
          by_cases c2 : (0 ≤ z ∧ z < i) ∧ a_acc w z (σ 19 0 (60 * s + 2 * z)) (σ 19 0 (60 * s + 2 * z + 1))
          · rw [if_pos c2, if_pos ⟨by omega, c2.2⟩]
          · rw [if_neg c2, if_neg (fun q => c2 ⟨by omega, q.2⟩)]
      · intro z
        by_cases cz : z = i
        · subst cz
          simp (disch := omega) only [x_st_o, x_rd_ne, x_rd_eq, s_fl_o, s_fl_in, s_fl_out, x_cp_o, x_cp_in, x_cp_out]
          rw [if_pos ⟨by omega, c⟩]
        · simp (disch := omega) only [x_st_o, x_rd_ne, x_rd_eq, s_fl_o, s_fl_in, s_fl_out, x_cp_o, x_cp_in, x_cp_out]
          rw [j4 z]
          by_cases c2 : (0 ≤ z ∧ z < i) ∧ a_acc w z (σ 19 0 (60 * s + 2 * z)) (σ 19 0 (60 * s + 2 * z + 1))
          · rw [if_pos c2, if_pos ⟨by omega, c2.2⟩]
          · rw [if_neg c2, if_neg (fun q => c2 ⟨by omega, q.2⟩)]
      · intro H
        rw [bk_119_3]
        simp (disch := first | omega | (simp only [x_wtI, x_wtJ, x_wtR, x_wtN]; omega) | assumption | (simp (disch := omega) only [x_st_o, x_rd_ne]; first | assumption | omega) | (refine mir_eq ?_ ?_; assumption; (intro c h1 h2; simp (disch := omega) only [x_st_o])) | (refine mis_eq ?_ ?_; assumption; (intro c h1 h2; simp (disch := omega) only [x_st_o])) | rfl) only [bk_119_0, bk_119_1, bk_119_2, bk_119_4, bk_119_5, wp_ald0, wr_0_1, wp_ild1, wk_49, wp_ifne, wp_ic, wp_iret mz_119, wk_48, wp_ist2, wp_ist3, wp_fall, wp_ild3, wr_16_1, wl_18, wp_cald, wp_idiv, wp_icge, wp_imul, wk_50, wp_iadd, wk_118, wp_ifeq, wp_inc2, wp_inc3, wp_goto, wp_ild2, bk_50_0, wr_16_2, wl_19, wp_pald, wp_lret, x_clr_I, x_clr_J, x_clr_R, x_clr_U, ct_some, ct_none, lc_lt, lc_ge, lc_gt, lc_le, lc_eq, lc_r, xI_inj, xJ_inj, Option.some.injEq, eq_self, bi_r, bi_0, bi_1, bi_n, Classical.not_not, and_true, true_and, ite_true, ite_false, ↓reduceIte, ↓x_andl, z_le, z_nle, z_lt, z_nlt, z_eq, z_neq, if_pos, if_neg, x_andl, false_and, and_false, or_true, true_or, or_false, false_or, not_true, not_false_iff, x_rd_eq, x_rd_ne, x_st_o, Int.cast_ofNat_Int, Int.ofNat_zero, Int.ofNat_one, not_true_eq_false, not_false_eq_true, if_true, if_false, ite_self, and_self, Int.ofNat_eq_natCast, Int.tdiv_eq_ediv_of_nonneg, Int.tmod_eq_emod_of_nonneg, x_bm32, sp_50, g18, g19, h18, mc, mc1, k_adopt1]
        exact H
    · refine ⟨(a_cnt w (σ 19 0) s i.toNat, σi), ⟨?_, j2, ?_, ?_⟩, ?_⟩
      · rw [acnt_s i0, if_neg c, Int.add_zero]
      · intro z
        refine (j3 z).trans ?_
        by_cases c2 : (0 ≤ z ∧ z < i) ∧ a_acc w z (σ 19 0 (60 * s + 2 * z)) (σ 19 0 (60 * s + 2 * z + 1))
        · rw [if_pos c2, if_pos ⟨by omega, c2.2⟩]
        · rw [if_neg c2, if_neg (fun q => c2 ⟨⟨q.1.1, by have : ¬ z = i := fun y => c (y ▸ q.2); omega⟩, q.2⟩)]
      · intro z
        refine (j4 z).trans ?_
        by_cases c2 : (0 ≤ z ∧ z < i) ∧ a_acc w z (σ 19 0 (60 * s + 2 * z)) (σ 19 0 (60 * s + 2 * z + 1))
        · rw [if_pos c2, if_pos ⟨by omega, c2.2⟩]
        · rw [if_neg c2, if_neg (fun q => c2 ⟨⟨q.1.1, by have : ¬ z = i := fun y => c (y ▸ q.2); omega⟩, q.2⟩)]
      · intro H
        rw [bk_119_3]
        simp (disch := first | omega | (simp only [x_wtI, x_wtJ, x_wtR, x_wtN]; omega) | assumption | (simp (disch := omega) only [x_st_o, x_rd_ne]; first | assumption | omega) | (refine mir_eq ?_ ?_; assumption; (intro c h1 h2; simp (disch := omega) only [x_st_o])) | (refine mis_eq ?_ ?_; assumption; (intro c h1 h2; simp (disch := omega) only [x_st_o])) | rfl) only [bk_119_0, bk_119_1, bk_119_2, bk_119_4, bk_119_5, wp_ald0, wr_0_1, wp_ild1, wk_49, wp_ifne, wp_ic, wp_iret mz_119, wk_48, wp_ist2, wp_ist3, wp_fall, wp_ild3, wr_16_1, wl_18, wp_cald, wp_idiv, wp_icge, wp_imul, wk_50, wp_iadd, wk_118, wp_ifeq, wp_inc2, wp_inc3, wp_goto, wp_ild2, bk_50_0, wr_16_2, wl_19, wp_pald, wp_lret, x_clr_I, x_clr_J, x_clr_R, x_clr_U, ct_some, ct_none, lc_lt, lc_ge, lc_gt, lc_le, lc_eq, lc_r, xI_inj, xJ_inj, Option.some.injEq, eq_self, bi_r, bi_0, bi_1, bi_n, Classical.not_not, and_true, true_and, ite_true, ite_false, ↓reduceIte, ↓x_andl, z_le, z_nle, z_lt, z_nlt, z_eq, z_neq, if_pos, if_neg, x_andl, false_and, and_false, or_true, true_or, or_false, false_or, not_true, not_false_iff, x_rd_eq, x_rd_ne, x_st_o, Int.cast_ofNat_Int, Int.ofNat_zero, Int.ofNat_one, not_true_eq_false, not_false_eq_true, if_true, if_false, ite_self, and_self, Int.ofNat_eq_natCast, Int.tdiv_eq_ediv_of_nonneg, Int.tmod_eq_emod_of_nonneg, x_bm32, sp_50, g18, g19, h18, mc, mc1, k_adopt0]
        exact H
  · intro ⟨n, σi⟩ ⟨j1, j2, j3, j4⟩
    simp only at j1 j2 j3 j4 ⊢
    have g18 : σi 18 0 = σ 18 0 := j2 18 0 (by decide)
    rw [bk_119_3]
    subst j1
    simp (disch := first | omega | (simp only [x_wtI, x_wtJ, x_wtR, x_wtN]; omega) | assumption | (simp (disch := omega) only [x_st_o, x_rd_ne]; first | assumption | omega) | (refine mir_eq ?_ ?_; assumption; (intro c h1 h2; simp (disch := omega) only [x_st_o])) | (refine mis_eq ?_ ?_; assumption; (intro c h1 h2; simp (disch := omega) only [x_st_o])) | rfl) only [bk_119_0, bk_119_1, bk_119_2, bk_119_4, bk_119_5, wp_ald0, wr_0_1, wp_ild1, wk_49, wp_ifne, wp_ic, wp_iret mz_119, wk_48, wp_ist2, wp_ist3, wp_fall, wp_ild3, wr_16_1, wl_18, wp_cald, wp_idiv, wp_icge, wp_imul, wk_50, wp_iadd, wk_118, wp_ifeq, wp_inc2, wp_inc3, wp_goto, wp_ild2, x_clr_I, x_clr_J, x_clr_R, x_clr_U, ct_some, ct_none, lc_lt, lc_ge, lc_gt, lc_le, lc_eq, lc_r, xI_inj, xJ_inj, Option.some.injEq, eq_self, bi_r, bi_0, bi_1, bi_n, Classical.not_not, and_true, true_and, ite_true, ite_false, ↓reduceIte, ↓x_andl, z_le, z_nle, z_lt, z_nlt, z_eq, z_neq, if_pos, if_neg, x_andl, false_and, and_false, or_true, true_or, or_false, false_or, not_true, not_false_iff, x_rd_eq, x_rd_ne, x_st_o, Int.cast_ofNat_Int, Int.ofNat_zero, Int.ofNat_one, not_true_eq_false, not_false_eq_true, if_true, if_false, ite_self, and_self, Int.ofNat_eq_natCast, Int.tdiv_eq_ediv_of_nonneg, Int.tmod_eq_emod_of_nonneg, x_bm32, g18, h18]
    exact hQ _ _ ⟨rfl, j2, j3, j4⟩
end O8

theorem of_st {σ : x_S} {i v f k : Int} (h : ¬ 16 + 13 * f + k = i) : w_of (x_st σ 51 0 i v 51 0) f k = w_of (σ 51 0) f k := x_rd_ne (fun z => h z.2.2)
section O11
variable {L : Int} {S0 : Int → Int}
theorem o_go : x_o41 (iN L S0) := by
  intro σ hh i hi
  refine ag_I ?_
  obtain ⟨w, h51, hw, h100, hn, hq, hM, hS⟩ := iN_w hh
  have hE := hh.2.2.2.1.1
  have a := wf_h hw
  unfold wf_hdr at a
  have hn' := hn
  unfold wn at hn'
  have hn8 := hn.1
  have o := wf_f hw hn8.1 hn8.2
  unfold wf_one at o
  by_cases c1 : 0 ≤ i ∧ i < w_of w (w 8) 7
  · have eg : p_kid w (w 8) i = w_of w (w 8) (8 + i) := if_pos ⟨hn8, c1⟩
    have kk := wf_k hw hn8.1 hn8.2 c1.1 c1.2
    simp (disch := first | omega | (simp only [x_wtI, x_wtJ, x_wtR, x_wtN]; omega) | assumption | (simp (disch := omega) only [x_st_o, x_rd_ne]; first | assumption | omega) | (apply mir_eq; assumption; (intro c h1 h2; simp (disch := omega) only [x_st_o])) | (apply mis_eq; assumption; (intro c h1 h2; simp (disch := omega) only [x_st_o])) | rfl) only [sp_156, bk_156_0, bk_156_1, bk_156_2, wp_ald0, wr_0_2, wr_20_0, wp_geti kd_20, wp_ild1, wk_61, wp_ist2, wp_ild2, wp_ic, wp_icne, wp_iret mz_156, wr_0_9, wk_79, wk_81, wr_33_2, wl_35, wp_sbal, wp_ifne, wr_33_5, wl_38, wl_39, wl_40, wp_cald, wr_33_6, wr_33_7, wk_44, wk_98, x_clr_I, x_clr_J, x_clr_R, x_clr_U, ct_some, ct_none, lc_lt, lc_ge, lc_gt, lc_le, lc_eq, lc_r, xI_inj, xJ_inj, Option.some.injEq, eq_self, bi_r, bi_0, bi_1, bi_n, Classical.not_not, and_true, true_and, ite_true, ite_false, ↓reduceIte, ↓x_andl, z_le, z_nle, z_lt, z_nlt, z_eq, z_neq, if_pos, if_neg, x_andl, false_and, and_false, or_true, true_or, or_false, false_or, not_true, not_false_iff, x_rd_eq, x_rd_ne, x_st_o, Int.cast_ofNat_Int, Int.ofNat_zero, Int.ofNat_one, not_true_eq_false, not_false_eq_true, if_true, if_false, ite_self, and_self, Int.ofNat_eq_natCast, Int.tdiv_eq_ediv_of_nonneg, Int.tmod_eq_emod_of_nonneg, x_bm32, k_kidAt, ms_fork hS, eg]
    refine x_use (d := 997) (h_enter (f := w 8) hM hS hw hn hn8.1 hn8.2 (fun z => by omega)) ?_
    rintro r σa ⟨rfl, a1, a2, a3, a4, a5, a6⟩
    rw [if_pos rfl] at a4
    have hMa : mir σa 1 w := mir_eq hM (fun c q1 q2 => a1 c 1 (by simp))
    have hSa : mis σa 1 w := mis_eq hS (fun c q1 q2 => a1 c 1 (by simp))
    have z34 : σa 34 0 (w 8) = 1 := by
      rcases a3 with z | z
      · have e : cC σa (w 8) = -1 := if_neg (by omega)
        omega
      · exact z
    have q5 := a5 z34
    rw [if_pos rfl, if_pos rfl] at q5
    simp (disch := first | omega | (simp only [x_wtI, x_wtJ, x_wtR, x_wtN]; omega) | assumption | (simp (disch := omega) only [x_st_o, x_rd_ne]; first | assumption | omega) | (apply mir_eq; assumption; (intro c h1 h2; simp (disch := omega) only [x_st_o])) | (apply mis_eq; assumption; (intro c h1 h2; simp (disch := omega) only [x_st_o])) | rfl) only [bk_156_0, bk_156_1, bk_156_2, wp_ald0, wr_0_2, wr_20_0, wp_geti kd_20, wp_ild1, wk_61, wp_ist2, wp_ild2, wp_ic, wp_icne, wp_iret mz_156, wr_0_9, wk_79, wk_81, wr_33_2, wl_35, wp_sbal, wp_ifne, wr_33_5, wl_38, wl_39, wl_40, wp_cald, wr_33_6, wr_33_7, wk_44, wk_98, x_clr_I, x_clr_J, x_clr_R, x_clr_U, ct_some, ct_none, lc_lt, lc_ge, lc_gt, lc_le, lc_eq, lc_r, xI_inj, xJ_inj, Option.some.injEq, eq_self, bi_r, bi_0, bi_1, bi_n, Classical.not_not, and_true, true_and, ite_true, ite_false, ↓reduceIte, ↓x_andl, z_le, z_nle, z_lt, z_nlt, z_eq, z_neq, if_pos, if_neg, x_andl, false_and, and_false, or_true, true_or, or_false, false_or, not_true, not_false_iff, x_rd_eq, x_rd_ne, x_st_o, Int.cast_ofNat_Int, Int.ofNat_zero, Int.ofNat_one, not_true_eq_false, not_false_eq_true, if_true, if_false, ite_self, and_self, Int.ofNat_eq_natCast, Int.tdiv_eq_ediv_of_nonneg, Int.tmod_eq_emod_of_nonneg, x_bm32, ms_fork hSa]
    refine x_use (d := 996) (h_leave (f := w 8) hMa hSa hw hq hn8.1 hn8.2 a3 (fun _ => ⟨q5.1, q5.2.1, by omega, by omega⟩)) ?_
    rintro r σb ⟨rfl, b1, b2, b3, b4, b5, b6⟩
    have hSb : mis σb 1 w := mis_eq hSa (fun c q1 q2 => b1 c 1 (by simp))
    have eb : x_eqo [(0, 0), (20, 1), (33, 0), (34, 0), (35, 0), (36, 0), (37, 0), (38, 0), (39, 0), (40, 0), (41, 0), (51, 0)] σ σb := eqo_trans (eqo_mono (by simp) a1) (eqo_mono (by simp) b1)
    rw [a4, if_neg (by omega)] at b4
    have bb := beh_b (f := w 8) (x := w (536 + 2 * w 8)) (b := w (536 + 2 * w 8 + 1)) hw (s := 21 * w 10 + w 9) (by omega)
    have g51 : σb 51 0 = w := ((b1 51 0 (by decide)).trans (a1 51 0 (by decide))).trans h51
    have g50 : σb 50 0 = σ 50 0 := (b1 50 0 (by decide)).trans (a1 50 0 (by decide))
    have g0 : σb 0 0 = σ 0 0 := (b1 0 0 (by decide)).trans (a1 0 0 (by decide))
    have gE : σb 50 0 17 = 5 := by rw [g50]; exact hE
    have q8 := hq _ hn8.1 hn8.2
    rcases b3 with z | z
    · have eV : p_beh w (w 8) (21 * w 10 + w 9) (w (536 + 2 * w 8)) (w (536 + 2 * w 8 + 1)) = -1 := by
        rw [← b4]
        exact if_neg (by omega)
      simp (disch := first | omega | (simp only [x_wtI, x_wtJ, x_wtR, x_wtN]; omega) | assumption | (simp (disch := omega) only [x_st_o, x_rd_ne]; first | assumption | omega) | (apply mir_eq; assumption; (intro c h1 h2; simp (disch := omega) only [x_st_o])) | (apply mis_eq; assumption; (intro c h1 h2; simp (disch := omega) only [x_st_o])) | rfl) only [bk_156_0, bk_156_1, bk_156_2, wp_ald0, wr_0_2, wr_20_0, wp_geti kd_20, wp_ild1, wk_61, wp_ist2, wp_ild2, wp_ic, wp_icne, wp_iret mz_156, wr_0_9, wk_79, wk_81, wr_33_2, wl_35, wp_sbal, wp_ifne, wr_33_5, wl_38, wl_39, wl_40, wp_cald, wr_33_6, wr_33_7, wk_44, wk_98, x_clr_I, x_clr_J, x_clr_R, x_clr_U, ct_some, ct_none, lc_lt, lc_ge, lc_gt, lc_le, lc_eq, lc_r, xI_inj, xJ_inj, Option.some.injEq, eq_self, bi_r, bi_0, bi_1, bi_n, Classical.not_not, and_true, true_and, ite_true, ite_false, ↓reduceIte, ↓x_andl, z_le, z_nle, z_lt, z_nlt, z_eq, z_neq, if_pos, if_neg, x_andl, false_and, and_false, or_true, true_or, or_false, false_or, not_true, not_false_iff, x_rd_eq, x_rd_ne, x_st_o, Int.cast_ofNat_Int, Int.ofNat_zero, Int.ofNat_one, not_true_eq_false, not_false_eq_true, if_true, if_false, ite_self, and_self, Int.ofNat_eq_natCast, Int.tdiv_eq_ediv_of_nonneg, Int.tmod_eq_emod_of_nonneg, x_bm32, ms_fork hSb, z]
      refine ⟨-5, rfl, fun j i => ?_, ?_⟩
      · rw [b1 100 j (by simp), a1 100 j (by simp)]
      · have km : (0 ≤ w 8 ∧ w 8 < w 0) ∧ 0 ≤ i ∧ i < w_of w (w 8) 7 := ⟨hn8, c1⟩
        simp (disch := first | omega | (simp only [x_wtI, x_wtJ, x_wtR, x_wtN]; omega) | assumption | (simp (disch := omega) only [x_st_o, x_rd_ne, g51]; first | assumption | omega) | (apply mir_eq; assumption; (intro c h1 h2; simp (disch := omega) only [x_st_o])) | (apply mis_eq; assumption; (intro c h1 h2; simp (disch := omega) only [x_st_o])) | rfl) only [sp_262, bk_262_0, bk_262_1, bk_262_2, wp_ald0, wr_50_1, wp_ic, wl_51, wp_cald, wp_ist2, wp_ild2, wp_ild1, wk_257, wp_ifne, wp_iret mz_262, wk_197, wk_220, wk_221, wk_201, wp_ist3, wp_ild3, wp_icne, wp_dup2, wk_202, wp_iadd, ws_51, wp_irem, wp_idiv, wk_192, x_clr_I, x_clr_J, x_clr_R, x_clr_U, ct_some, ct_none, lc_lt, lc_ge, lc_gt, lc_le, lc_eq, lc_r, xI_inj, xJ_inj, Option.some.injEq, eq_self, bi_r, bi_0, bi_1, bi_n, Classical.not_not, and_true, true_and, ite_true, ite_false, ↓reduceIte, ↓x_andl, z_le, z_nle, z_lt, z_nlt, z_eq, z_neq, if_pos, if_neg, x_andl, false_and, and_false, or_true, true_or, or_false, false_or, not_true, not_false_iff, x_rd_eq, x_rd_ne, x_st_o, Int.cast_ofNat_Int, Int.ofNat_zero, Int.ofNat_one, not_true_eq_false, not_false_eq_true, if_true, if_false, ite_self, and_self, Int.ofNat_eq_natCast, Int.tdiv_eq_ediv_of_nonneg, Int.tmod_eq_emod_of_nonneg, x_bm32, g51, k_isKid, bi_t, k_stateNow, k_planX, k_planB, k_behind, eV]
        exact iN_e hh (eqo_trans (eqo_mono (T := [(33, 0), (34, 0), (35, 0), (36, 0), (37, 0), (38, 0), (39, 0), (40, 0), (41, 0)]) (by simp) a1) (eqo_mono (by simp) b1)) (by decide)
    · obtain ⟨r1, r2, r3, r4⟩ := b5 z
      have eV : cV σb (w 8) = 21 * σb 39 0 (w 8) + σb 38 0 (w 8) := if_pos z
      have e38 : σb 38 0 (w 8) = p_beh w (w 8) (21 * w 10 + w 9) (w (536 + 2 * w 8)) (w (536 + 2 * w 8 + 1)) % 21 := by omega
      have e39 : σb 39 0 (w 8) = p_beh w (w 8) (21 * w 10 + w 9) (w (536 + 2 * w 8)) (w (536 + 2 * w 8 + 1)) / 21 := by omega
      have e40 : σb 40 0 (w 8) = p_cost w 5 (w 8) (w (536 + 2 * w 8)) (w (536 + 2 * w 8 + 1)) (p_beh w (w 8) (21 * w 10 + w 9) (w (536 + 2 * w 8)) (w (536 + 2 * w 8 + 1)) % 21) := by
        rw [r3, q5.2.2.1, b4]
        omega
      have cc := cost_b hw (E := 5) (x := w (536 + 2 * w 8)) (b := w (536 + 2 * w 8 + 1)) (t := p_beh w (w 8) (21 * w 10 + w 9) (w (536 + 2 * w 8)) (w (536 + 2 * w 8 + 1)) % 21) hn8.1 hn8.2 q8.2.1 q8.2.2 (by omega)
      have ne : ¬ p_beh w (w 8) (21 * w 10 + w 9) (w (536 + 2 * w 8)) (w (536 + 2 * w 8 + 1)) = -1 := by omega
      generalize hB : p_beh w (w 8) (21 * w 10 + w 9) (w (536 + 2 * w 8)) (w (536 + 2 * w 8 + 1)) = B at *
      generalize hC : p_cost w 5 (w 8) (w (536 + 2 * w 8)) (w (536 + 2 * w 8 + 1)) (B % 21) = C at *
      simp (disch := first | omega | (simp only [x_wtI, x_wtJ, x_wtR, x_wtN]; omega) | assumption | (simp (disch := omega) only [x_st_o, x_rd_ne]; first | assumption | omega) | (apply mir_eq; assumption; (intro c h1 h2; simp (disch := omega) only [x_st_o])) | (apply mis_eq; assumption; (intro c h1 h2; simp (disch := omega) only [x_st_o])) | rfl) only [bk_156_0, bk_156_1, bk_156_2, wp_ald0, wr_0_2, wr_20_0, wp_geti kd_20, wp_ild1, wk_61, wp_ist2, wp_ild2, wp_ic, wp_icne, wp_iret mz_156, wr_0_9, wk_79, wk_81, wr_33_2, wl_35, wp_sbal, wp_ifne, wr_33_5, wl_38, wl_39, wl_40, wp_cald, wr_33_6, wr_33_7, wk_44, wk_98, x_clr_I, x_clr_J, x_clr_R, x_clr_U, ct_some, ct_none, lc_lt, lc_ge, lc_gt, lc_le, lc_eq, lc_r, xI_inj, xJ_inj, Option.some.injEq, eq_self, bi_r, bi_0, bi_1, bi_n, Classical.not_not, and_true, true_and, ite_true, ite_false, ↓reduceIte, ↓x_andl, z_le, z_nle, z_lt, z_nlt, z_eq, z_neq, if_pos, if_neg, x_andl, false_and, and_false, or_true, true_or, or_false, false_or, not_true, not_false_iff, x_rd_eq, x_rd_ne, x_st_o, Int.cast_ofNat_Int, Int.ofNat_zero, Int.ofNat_one, not_true_eq_false, not_false_eq_true, if_true, if_false, ite_self, and_self, Int.ofNat_eq_natCast, Int.tdiv_eq_ediv_of_nonneg, Int.tmod_eq_emod_of_nonneg, x_bm32, ms_fork hSb, z]
      simp (disch := first | omega | (simp only [x_wtI, x_wtJ, x_wtR, x_wtN]; omega) | assumption | (simp (disch := omega) only [x_st_o, x_rd_ne]; first | assumption | omega) | (apply mir_eq; assumption; (intro c h1 h2; simp (disch := omega) only [x_st_o])) | (apply mis_eq; assumption; (intro c h1 h2; simp (disch := omega) only [x_st_o])) | rfl) only [bk_156_0, bk_156_1, bk_156_2, wp_ald0, wr_0_2, wr_20_0, wp_geti kd_20, wp_ild1, wk_61, wp_ist2, wp_ild2, wp_ic, wp_icne, wp_iret mz_156, wr_0_9, wk_79, wk_81, wr_33_2, wl_35, wp_sbal, wp_ifne, wr_33_5, wl_38, wl_39, wl_40, wp_cald, wr_33_6, wr_33_7, wk_44, wk_98, bk_44_0, wp_puti kd_20, wp_ild3, wp_dupi, wp_dupr, wp_ild4, wp_iadd, wp_ret, bk_98_0, wp_putz kd_0, x_clr_I, x_clr_J, x_clr_R, x_clr_U, ct_some, ct_none, lc_lt, lc_ge, lc_gt, lc_le, lc_eq, lc_r, xI_inj, xJ_inj, Option.some.injEq, eq_self, bi_r, bi_0, bi_1, bi_n, Classical.not_not, and_true, true_and, ite_true, ite_false, ↓reduceIte, ↓x_andl, z_le, z_nle, z_lt, z_nlt, z_eq, z_neq, if_pos, if_neg, x_andl, false_and, and_false, or_true, true_or, or_false, false_or, not_true, not_false_iff, x_rd_eq, x_rd_ne, x_st_o, Int.cast_ofNat_Int, Int.ofNat_zero, Int.ofNat_one, not_true_eq_false, not_false_eq_true, if_true, if_false, ite_self, and_self, Int.ofNat_eq_natCast, Int.tdiv_eq_ediv_of_nonneg, Int.tmod_eq_emod_of_nonneg, x_bm32, sp_44, sp_98, ms_spent hSb, ms_years hSb, e38, e39, e40]
      refine ⟨w_of w (w 8) (8 + i), rfl, fun j i => ?_, ?_⟩
      · simp (disch := omega) only [x_st_o, x_rd_ne, x_rd_eq, s_fl_o, s_fl_in, s_fl_out, x_cp_o, x_cp_in, x_cp_out]
        rw [b1 100 j (by simp), a1 100 j (by simp)]
      · have km : (0 ≤ w 8 ∧ w 8 < w 0) ∧ 0 ≤ i ∧ i < w_of w (w 8) 7 := ⟨hn8, c1⟩
        simp (disch := first | omega | (simp only [x_wtI, x_wtJ, x_wtR, x_wtN]; omega) | assumption | (simp (disch := omega) only [x_st_o, x_rd_ne, g51]; first | assumption | omega) | (apply mir_eq; assumption; (intro c h1 h2; simp (disch := omega) only [x_st_o])) | (apply mis_eq; assumption; (intro c h1 h2; simp (disch := omega) only [x_st_o])) | rfl) only [sp_262, bk_262_0, bk_262_1, bk_262_2, wp_ald0, wr_50_1, wp_ic, wl_51, wp_cald, wp_ist2, wp_ild2, wp_ild1, wk_257, wp_ifne, wp_iret mz_262, wk_197, wk_220, wk_221, wk_201, wp_ist3, wp_ild3, wp_icne, wp_dup2, wk_202, wp_iadd, ws_51, wp_irem, wp_idiv, wk_192, x_clr_I, x_clr_J, x_clr_R, x_clr_U, ct_some, ct_none, lc_lt, lc_ge, lc_gt, lc_le, lc_eq, lc_r, xI_inj, xJ_inj, Option.some.injEq, eq_self, bi_r, bi_0, bi_1, bi_n, Classical.not_not, and_true, true_and, ite_true, ite_false, ↓reduceIte, ↓x_andl, z_le, z_nle, z_lt, z_nlt, z_eq, z_neq, if_pos, if_neg, x_andl, false_and, and_false, or_true, true_or, or_false, false_or, not_true, not_false_iff, x_rd_eq, x_rd_ne, x_st_o, Int.cast_ofNat_Int, Int.ofNat_zero, Int.ofNat_one, not_true_eq_false, not_false_eq_true, if_true, if_false, ite_self, and_self, Int.ofNat_eq_natCast, Int.tdiv_eq_ediv_of_nonneg, Int.tmod_eq_emod_of_nonneg, x_bm32, g51, k_isKid, bi_t, k_stateNow, k_planX, k_planB, k_behind, hB, k_costOf, hC, k_of, of_st]
        · refine iN_now hh ?_ ?_ ?_ ?_ ?_ ?_
          · repeat (first | exact eb | refine eqo_st (by simp) ?_)
          · rw [h51, ← g51]
            exact ⟨fun i p q => by simp (disch := omega) only [x_st_o, x_rd_ne, x_rd_eq, s_fl_o, s_fl_in, s_fl_out, x_cp_o, x_cp_in, x_cp_out], fun i p q => by simp (disch := omega) only [x_st_o, x_rd_ne, x_rd_eq, s_fl_o, s_fl_in, s_fl_out, x_cp_o, x_cp_in, x_cp_out]⟩
          · intro i hi
            simp (disch := omega) only [x_st_o, x_rd_ne, x_rd_eq, s_fl_o, s_fl_in, s_fl_out, x_cp_o, x_cp_in, x_cp_out]
            rw [g51, h51]
          · have t : tq w (x_st (x_st (x_st (x_st (x_st (x_st (x_st (x_st (x_st (x_st (x_st (x_st σb 20 1 3 (w_of w (w 8) (8 + i))) 20 1 4 (B % 21)) 20 1 5 (B / 21)) 20 1 6 (w 11 + C)) 20 1 7 (w 12 + 1)) 0 0 15 0) 0 0 16 0) 51 0 11 (w 11 + C)) 51 0 12 (w 12 + 1)) 51 0 9 (B % 21)) 51 0 10 (B / 21)) 51 0 8 (w_of w (w 8) (8 + i)) 51 0) := by
              rw [← g51]
              exact ⟨fun i p q => by simp (disch := omega) only [x_st_o, x_rd_ne, x_rd_eq, s_fl_o, s_fl_in, s_fl_out, x_cp_o, x_cp_in, x_cp_out], fun i p q => by simp (disch := omega) only [x_st_o, x_rd_ne, x_rd_eq, s_fl_o, s_fl_in, s_fl_out, x_cp_o, x_cp_in, x_cp_out]⟩
            unfold wn
            rw [t.1 0 (by omega) (by omega)]
            simp (disch := omega) only [x_st_o, x_rd_ne, x_rd_eq, s_fl_o, s_fl_in, s_fl_out, x_cp_o, x_cp_in, x_cp_out]
            rw [tq_of t (by omega) (by omega) (by omega) (by omega)]
            omega
          · simp (disch := omega) only [x_st_o, x_rd_ne, x_rd_eq, s_fl_o, s_fl_in, s_fl_out, x_cp_o, x_cp_in, x_cp_out]
            exact ⟨trivial, trivial, trivial, trivial, trivial⟩
          · simp (disch := omega) only [x_st_o, x_rd_ne, x_rd_eq, s_fl_o, s_fl_in, s_fl_out, x_cp_o, x_cp_in, x_cp_out]
            rw [g0]
            exact ⟨rfl, rfl, trivial, trivial, rfl⟩
  · have eg : p_kid w (w 8) i = -1 := if_neg (fun z => c1 z.2)
    simp (disch := first | omega | (simp only [x_wtI, x_wtJ, x_wtR, x_wtN]; omega) | assumption | (simp (disch := omega) only [x_st_o, x_rd_ne]; first | assumption | omega) | (apply mir_eq; assumption; (intro c h1 h2; simp (disch := omega) only [x_st_o])) | (apply mis_eq; assumption; (intro c h1 h2; simp (disch := omega) only [x_st_o])) | rfl) only [sp_156, bk_156_0, bk_156_1, bk_156_2, wp_ald0, wr_0_2, wr_20_0, wp_geti kd_20, wp_ild1, wk_61, wp_ist2, wp_ild2, wp_ic, wp_icne, wp_iret mz_156, wr_0_9, wk_79, wk_81, wr_33_2, wl_35, wp_sbal, wp_ifne, wr_33_5, wl_38, wl_39, wl_40, wp_cald, wr_33_6, wr_33_7, wk_44, wk_98, x_clr_I, x_clr_J, x_clr_R, x_clr_U, ct_some, ct_none, lc_lt, lc_ge, lc_gt, lc_le, lc_eq, lc_r, xI_inj, xJ_inj, Option.some.injEq, eq_self, bi_r, bi_0, bi_1, bi_n, Classical.not_not, and_true, true_and, ite_true, ite_false, ↓reduceIte, ↓x_andl, z_le, z_nle, z_lt, z_nlt, z_eq, z_neq, if_pos, if_neg, x_andl, false_and, and_false, or_true, true_or, or_false, false_or, not_true, not_false_iff, x_rd_eq, x_rd_ne, x_st_o, Int.cast_ofNat_Int, Int.ofNat_zero, Int.ofNat_one, not_true_eq_false, not_false_eq_true, if_true, if_false, ite_self, and_self, Int.ofNat_eq_natCast, Int.tdiv_eq_ediv_of_nonneg, Int.tmod_eq_emod_of_nonneg, x_bm32, k_kidAt, ms_fork hS, eg]
    refine ⟨-2, rfl, fun _ _ => rfl, ?_⟩
    have km : ¬ ((0 ≤ w 8 ∧ w 8 < w 0) ∧ 0 ≤ i ∧ i < w_of w (w 8) 7) := fun z => c1 z.2
    simp (disch := first | omega | (simp only [x_wtI, x_wtJ, x_wtR, x_wtN]; omega) | assumption | (simp (disch := omega) only [x_st_o, x_rd_ne, h51]; first | assumption | omega) | (apply mir_eq; assumption; (intro c h1 h2; simp (disch := omega) only [x_st_o])) | (apply mis_eq; assumption; (intro c h1 h2; simp (disch := omega) only [x_st_o])) | rfl) only [sp_262, bk_262_0, bk_262_1, bk_262_2, wp_ald0, wr_50_1, wp_ic, wl_51, wp_cald, wp_ist2, wp_ild2, wp_ild1, wk_257, wp_ifne, wp_iret mz_262, wk_197, wk_220, wk_221, wk_201, wp_ist3, wp_ild3, wp_icne, wp_dup2, wk_202, wp_iadd, ws_51, wp_irem, wp_idiv, wk_192, x_clr_I, x_clr_J, x_clr_R, x_clr_U, ct_some, ct_none, lc_lt, lc_ge, lc_gt, lc_le, lc_eq, lc_r, xI_inj, xJ_inj, Option.some.injEq, eq_self, bi_r, bi_0, bi_1, bi_n, Classical.not_not, and_true, true_and, ite_true, ite_false, ↓reduceIte, ↓x_andl, z_le, z_nle, z_lt, z_nlt, z_eq, z_neq, if_pos, if_neg, x_andl, false_and, and_false, or_true, true_or, or_false, false_or, not_true, not_false_iff, x_rd_eq, x_rd_ne, x_st_o, Int.cast_ofNat_Int, Int.ofNat_zero, Int.ofNat_one, not_true_eq_false, not_false_eq_true, if_true, if_false, ite_self, and_self, Int.ofNat_eq_natCast, Int.tdiv_eq_ediv_of_nonneg, Int.tmod_eq_emod_of_nonneg, x_bm32, h51, k_isKid, bi_f]
    exact hh
end O11

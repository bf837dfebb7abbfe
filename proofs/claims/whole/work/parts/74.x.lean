/-! the walk of the model -/
theorem h_goes {σ : x_S} {w : Int → Int} (h51 : σ 51 0 = w) (hE : σ 50 0 17 = 5) (hw : wf w) (hn : wn w) (hq : wq w) : x_Sp 4 222 [xR 50 0] σ (fun r σ' => r = none ∧ x_eqo [(62, 0), (63, 0), (64, 0)] σ σ' ∧ wk w (w 0) (σ' 62 0) (σ' 63 0) (σ' 64 0)) := by
  have a := wf_h hw
  unfold wf_hdr at a
  have hn8 := hn.1
  have hn' := hn
  unfold wn at hn'
  refine x_gen (fun Q hQ => ?_)
  simp (disch := first | omega | (simp only [x_wtI, x_wtJ, x_wtR, x_wtN]; omega) | assumption | (simp (disch := omega) only [x_st_o, x_rd_ne]; first | assumption | omega) | (apply mir_eq; assumption; (intro c h1 h2; simp (disch := omega) only [x_st_o])) | (apply mis_eq; assumption; (intro c h1 h2; simp (disch := omega) only [x_st_o])) | rfl) only [sp_222, bk_222_0, bk_222_2, bk_222_3, bk_222_4, bk_222_5, bk_222_6, bk_222_7, bk_222_8, bk_222_9, wp_ic, wp_ist1, wp_fall, wp_ild1, wp_ald0, wr_50_1, wl_51, wl_62, wl_63, wp_cald, wp_icge, wr_50_25, ws_51, ws_62, ws_63, wr_50_26, wr_50_27, wp_lc, ws_64, wk_199, wp_ifne, wp_goto, wk_192, wp_ist2, wp_icne, wk_197, wp_ild2, wk_220, wk_221, wk_201, wp_iceq, wl_64, wp_pald, wk_202, wp_i2l, wp_ladd, wp_inc1, wp_ret, x_clr_I, x_clr_J, x_clr_R, x_clr_U, ct_some, ct_none, lc_lt, lc_ge, lc_gt, lc_le, lc_eq, lc_r, xI_inj, xJ_inj, Option.some.injEq, eq_self, bi_r, bi_0, bi_1, bi_n, Classical.not_not, and_true, true_and, ite_true, ite_false, ↓reduceIte, ↓x_andl, z_le, z_nle, z_lt, z_nlt, z_eq, z_neq, if_pos, if_neg, x_andl, false_and, and_false, or_true, true_or, or_false, false_or, not_true, not_false_iff, x_rd_eq, x_rd_ne, x_st_o, Int.cast_ofNat_Int, Int.ofNat_zero, Int.ofNat_one, not_true_eq_false, not_false_eq_true, if_true, if_false, ite_self, and_self, Int.ofNat_eq_natCast, Int.tdiv_eq_ediv_of_nonneg, Int.tmod_eq_emod_of_nonneg, x_bm32]
  refine x_lpJ (α := x_S × x_V) (fun i q => x_eqo [(62, 0), (63, 0), (64, 0)] σ q.1 ∧ wk w i (q.1 62 0) (q.1 63 0) (q.1 64 0)) (fun i q => x_Wp 4 222 (x_blk 222 1) [xR 50 0, xI i, q.2] [] q.1 Q) (lo := 0) (hi := w 0) (by omega) (a0 := (σ, xU)) ⟨eqo_refl, fun f p q => by omega⟩ ?_ ?_
  · intro i ⟨σi, u⟩ i0 i1 ⟨j1, j2⟩
    simp only at j1 j2 ⊢
    have g51 : σi 51 0 = w := (j1 51 0 (by decide)).trans h51
    have gE : σi 50 0 17 = 5 := by rw [j1 50 0 (by decide)]; exact hE
    have wb := wk_b hw hn hq (by omega) j2
    have o := wf_f hw i0 i1
    unfold wf_one at o
    have q := hq i i0 i1
    have sn : ∀ (C V S : Int) (v' : x_V) (σ' : x_S), σ' 62 0 = w_up (σi 62 0) i C → σ' 63 0 = w_up (σi 63 0) i V → σ' 64 0 = w_up (σi 64 0) i S → x_eqo [(62, 0), (63, 0), (64, 0)] σi σ' → C = (if i = w 8 then 21 * w 10 + w 9 else if p_fr w (w 8) i then σi 63 0 (w_of w i 0) else -1) → V = (if C = -1 then -1 else p_beh w i C (w (536 + 2 * i)) (w (536 + 2 * i + 1))) → (¬ V = -1 → S = (if i = w 8 then 0 else σi 64 0 (w_of w i 0)) + p_cost w 5 i (w (536 + 2 * i)) (w (536 + 2 * i + 1)) (V % 21)) → (x_Wp 4 222 (x_blk 222 1) [xR 50 0, xI (i + 1), v'] [] σ' Q → x_Wp 4 222 (x_blk 222 1) [xR 50 0, xI i, u] [] σi Q) → ∃ a' : x_S × x_V, (x_eqo [(62, 0), (63, 0), (64, 0)] σ a'.1 ∧ wk w (i + 1) (a'.1 62 0) (a'.1 63 0) (a'.1 64 0)) ∧ (x_Wp 4 222 (x_blk 222 1) [xR 50 0, xI (i + 1), a'.2] [] a'.1 Q → x_Wp 4 222 (x_blk 222 1) [xR 50 0, xI i, u] [] σi Q) := by
      intro C V S v' σ' e1 e2 e3 e4 h1 h2 h3 H
      refine ⟨(σ', v'), ⟨eqo_trans j1 e4, ?_⟩, H⟩
      simp only
      rw [e1, e2, e3]
      refine wk_snoc hw hn8.1 i0 i1 j2 (fun f f0 f1 => ⟨up_ne (by omega), up_ne (by omega), up_ne (by omega)⟩) ?_ ?_ ?_
      · rw [up_eq]; exact h1
      · rw [up_eq, up_eq]; exact h2
      · rw [up_eq, up_eq]; exact h3
    have wup2 : ∀ (m : Int → Int) (v v' : Int), w_up (w_up m i v) i v' = w_up m i v' := by
      intro m v v'
      funext z
      unfold w_up
      by_cases c : z = i
      · rw [if_pos c, if_pos c]
      · rw [if_neg c, if_neg c, if_neg c]
    by_cases g : p_fr w (w 8) i
    · by_cases c8 : i = w 8
      · -- now
        have bb := beh_b (f := i) (x := w (536 + 2 * i)) (b := w (536 + 2 * i + 1)) hw (s := 21 * w 10 + w 9) (by omega)
        by_cases cb : p_beh w i (21 * w 10 + w 9) (w (536 + 2 * i)) (w (536 + 2 * i + 1)) = -1
        · refine sn (21 * w 10 + w 9) (-1) 0 (xI (w_of w i 0)) (x_st (x_st (x_st (x_st (x_st σi 62 0 i (-1)) 63 0 i (-1)) 64 0 i 0) 62 0 i (21 * w 10 + w 9)) 63 0 i (-1)) ?_ ?_ ?_ ?_ ?_ ?_ ?_ ?_
          · simp (disch := omega) only [x_st_o, x_st_w, wup2]
          · simp (disch := omega) only [x_st_o, x_st_w, wup2]
          · simp (disch := omega) only [x_st_o, x_st_w, wup2]
          · repeat (first | exact eqo_refl | refine eqo_st (by simp) ?_)
          · rw [if_pos c8]
          · rw [if_neg (by omega), cb]
          · intro z
            exact absurd rfl z
          · intro H
            rw [bk_222_1]
            simp (disch := first | omega | (simp only [x_wtI, x_wtJ, x_wtR, x_wtN]; omega) | assumption | (simp (disch := omega) only [x_st_o, x_rd_ne, g51]; first | assumption | omega) | (apply mir_eq; assumption; (intro c h1 h2; simp (disch := omega) only [x_st_o])) | (apply mis_eq; assumption; (intro c h1 h2; simp (disch := omega) only [x_st_o])) | rfl) only [bk_222_0, bk_222_2, bk_222_3, bk_222_4, bk_222_5, bk_222_6, bk_222_7, bk_222_8, bk_222_9, wp_ic, wp_ist1, wp_fall, wp_ild1, wp_ald0, wr_50_1, wl_51, wl_62, wl_63, wp_cald, wp_icge, wr_50_25, ws_51, ws_62, ws_63, wr_50_26, wr_50_27, wp_lc, ws_64, wk_199, wp_ifne, wp_goto, wk_192, wp_ist2, wp_icne, wk_197, wp_ild2, wk_220, wk_221, wk_201, wp_iceq, wl_64, wp_pald, wk_202, wp_i2l, wp_ladd, wp_inc1, wp_ret, x_clr_I, x_clr_J, x_clr_R, x_clr_U, ct_some, ct_none, lc_lt, lc_ge, lc_gt, lc_le, lc_eq, lc_r, xI_inj, xJ_inj, Option.some.injEq, eq_self, bi_r, bi_0, bi_1, bi_n, Classical.not_not, and_true, true_and, ite_true, ite_false, ↓reduceIte, ↓x_andl, z_le, z_nle, z_lt, z_nlt, z_eq, z_neq, if_pos, if_neg, x_andl, false_and, and_false, or_true, true_or, or_false, false_or, not_true, not_false_iff, x_rd_eq, x_rd_ne, x_st_o, Int.cast_ofNat_Int, Int.ofNat_zero, Int.ofNat_one, not_true_eq_false, not_false_eq_true, if_true, if_false, ite_self, and_self, Int.ofNat_eq_natCast, Int.tdiv_eq_ediv_of_nonneg, Int.tmod_eq_emod_of_nonneg, x_bm32, g51, k_isFromNow, bi_t, k_of, k_stateNow, k_planX, k_planB, k_behind, cb]
            exact H
        · have cc := cost_b hw (E := 5) (x := w (536 + 2 * i)) (b := w (536 + 2 * i + 1)) (t := p_beh w i (21 * w 10 + w 9) (w (536 + 2 * i)) (w (536 + 2 * i + 1)) % 21) i0 i1 q.2.1 q.2.2 (by omega)
          refine sn (21 * w 10 + w 9) (p_beh w i (21 * w 10 + w 9) (w (536 + 2 * i)) (w (536 + 2 * i + 1))) (0 + p_cost w 5 i (w (536 + 2 * i)) (w (536 + 2 * i + 1)) (p_beh w i (21 * w 10 + w 9) (w (536 + 2 * i)) (w (536 + 2 * i + 1)) % 21)) (xI (w_of w i 0)) (x_st (x_st (x_st (x_st (x_st (x_st σi 62 0 i (-1)) 63 0 i (-1)) 64 0 i 0) 62 0 i (21 * w 10 + w 9)) 63 0 i (p_beh w i (21 * w 10 + w 9) (w (536 + 2 * i)) (w (536 + 2 * i + 1)))) 64 0 i (0 + p_cost w 5 i (w (536 + 2 * i)) (w (536 + 2 * i + 1)) (p_beh w i (21 * w 10 + w 9) (w (536 + 2 * i)) (w (536 + 2 * i + 1)) % 21))) ?_ ?_ ?_ ?_ ?_ ?_ ?_ ?_
          · simp (disch := omega) only [x_st_o, x_st_w, wup2]
          · simp (disch := omega) only [x_st_o, x_st_w, wup2]
          · simp (disch := omega) only [x_st_o, x_st_w, wup2]
          · repeat (first | exact eqo_refl | refine eqo_st (by simp) ?_)
          · rw [if_pos c8]
          · rw [if_neg (by omega)]
          · intro _
            rw [if_pos c8]
          · intro H
            rw [bk_222_1]
            simp (disch := first | omega | (simp only [x_wtI, x_wtJ, x_wtR, x_wtN]; omega) | assumption | (simp (disch := omega) only [x_st_o, x_rd_ne, g51]; first | assumption | omega) | (apply mir_eq; assumption; (intro c h1 h2; simp (disch := omega) only [x_st_o])) | (apply mis_eq; assumption; (intro c h1 h2; simp (disch := omega) only [x_st_o])) | rfl) only [bk_222_0, bk_222_2, bk_222_3, bk_222_4, bk_222_5, bk_222_6, bk_222_7, bk_222_8, bk_222_9, wp_ic, wp_ist1, wp_fall, wp_ild1, wp_ald0, wr_50_1, wl_51, wl_62, wl_63, wp_cald, wp_icge, wr_50_25, ws_51, ws_62, ws_63, wr_50_26, wr_50_27, wp_lc, ws_64, wk_199, wp_ifne, wp_goto, wk_192, wp_ist2, wp_icne, wk_197, wp_ild2, wk_220, wk_221, wk_201, wp_iceq, wl_64, wp_pald, wk_202, wp_i2l, wp_ladd, wp_inc1, wp_ret, x_clr_I, x_clr_J, x_clr_R, x_clr_U, ct_some, ct_none, lc_lt, lc_ge, lc_gt, lc_le, lc_eq, lc_r, xI_inj, xJ_inj, Option.some.injEq, eq_self, bi_r, bi_0, bi_1, bi_n, Classical.not_not, and_true, true_and, ite_true, ite_false, ↓reduceIte, ↓x_andl, z_le, z_nle, z_lt, z_nlt, z_eq, z_neq, if_pos, if_neg, x_andl, false_and, and_false, or_true, true_or, or_false, false_or, not_true, not_false_iff, x_rd_eq, x_rd_ne, x_st_o, Int.cast_ofNat_Int, Int.ofNat_zero, Int.ofNat_one, not_true_eq_false, not_false_eq_true, if_true, if_false, ite_self, and_self, Int.ofNat_eq_natCast, Int.tdiv_eq_ediv_of_nonneg, Int.tmod_eq_emod_of_nonneg, x_bm32, g51, k_isFromNow, bi_t, k_of, k_stateNow, k_planX, k_planB, k_behind, k_costOf]
            exact H
      · have u := fr_par hw hn8.1 g c8 i1
        have wp := wb _ u.2.1 u.2.2.1
        generalize hCp : σi 63 0 (w_of w i 0) = Cp at *
        by_cases cp : Cp = -1
        · refine sn (-1) (-1) 0 (xI (w_of w i 0)) (x_st (x_st (x_st (x_st σi 62 0 i (-1)) 63 0 i (-1)) 64 0 i 0) 62 0 i (-1)) ?_ ?_ ?_ ?_ ?_ ?_ ?_ ?_
          · simp (disch := omega) only [x_st_o, x_st_w, wup2]
          · simp (disch := omega) only [x_st_o, x_st_w, wup2]
          · simp (disch := omega) only [x_st_o, x_st_w, wup2]
          · repeat (first | exact eqo_refl | refine eqo_st (by simp) ?_)
          · rw [if_neg c8, if_pos g, cp]
          · rw [if_pos rfl]
          · intro z
            exact absurd rfl z
          · intro H
            rw [bk_222_1]
            simp (disch := first | omega | (simp only [x_wtI, x_wtJ, x_wtR, x_wtN]; omega) | assumption | (simp (disch := omega) only [x_st_o, x_rd_ne, g51]; first | assumption | omega) | (apply mir_eq; assumption; (intro c h1 h2; simp (disch := omega) only [x_st_o])) | (apply mis_eq; assumption; (intro c h1 h2; simp (disch := omega) only [x_st_o])) | rfl) only [bk_222_0, bk_222_2, bk_222_3, bk_222_4, bk_222_5, bk_222_6, bk_222_7, bk_222_8, bk_222_9, wp_ic, wp_ist1, wp_fall, wp_ild1, wp_ald0, wr_50_1, wl_51, wl_62, wl_63, wp_cald, wp_icge, wr_50_25, ws_51, ws_62, ws_63, wr_50_26, wr_50_27, wp_lc, ws_64, wk_199, wp_ifne, wp_goto, wk_192, wp_ist2, wp_icne, wk_197, wp_ild2, wk_220, wk_221, wk_201, wp_iceq, wl_64, wp_pald, wk_202, wp_i2l, wp_ladd, wp_inc1, wp_ret, x_clr_I, x_clr_J, x_clr_R, x_clr_U, ct_some, ct_none, lc_lt, lc_ge, lc_gt, lc_le, lc_eq, lc_r, xI_inj, xJ_inj, Option.some.injEq, eq_self, bi_r, bi_0, bi_1, bi_n, Classical.not_not, and_true, true_and, ite_true, ite_false, ↓reduceIte, ↓x_andl, z_le, z_nle, z_lt, z_nlt, z_eq, z_neq, if_pos, if_neg, x_andl, false_and, and_false, or_true, true_or, or_false, false_or, not_true, not_false_iff, x_rd_eq, x_rd_ne, x_st_o, Int.cast_ofNat_Int, Int.ofNat_zero, Int.ofNat_one, not_true_eq_false, not_false_eq_true, if_true, if_false, ite_self, and_self, Int.ofNat_eq_natCast, Int.tdiv_eq_ediv_of_nonneg, Int.tmod_eq_emod_of_nonneg, x_bm32, g51, k_isFromNow, bi_t, k_of, hCp, cp]
            exact H
        · have bb := beh_b (f := i) (x := w (536 + 2 * i)) (b := w (536 + 2 * i + 1)) hw (s := Cp) (by omega)
          by_cases cb : p_beh w i Cp (w (536 + 2 * i)) (w (536 + 2 * i + 1)) = -1
          · refine sn Cp (-1) 0 (xI (w_of w i 0)) (x_st (x_st (x_st (x_st (x_st σi 62 0 i (-1)) 63 0 i (-1)) 64 0 i 0) 62 0 i Cp) 63 0 i (-1)) ?_ ?_ ?_ ?_ ?_ ?_ ?_ ?_
            · simp (disch := omega) only [x_st_o, x_st_w, wup2]
            · simp (disch := omega) only [x_st_o, x_st_w, wup2]
            · simp (disch := omega) only [x_st_o, x_st_w, wup2]
            · repeat (first | exact eqo_refl | refine eqo_st (by simp) ?_)
            · rw [if_neg c8, if_pos g]
            · rw [if_neg cp, cb]
            · intro z
              exact absurd rfl z
            · intro H
              rw [bk_222_1]
              simp (disch := first | omega | (simp only [x_wtI, x_wtJ, x_wtR, x_wtN]; omega) | assumption | (simp (disch := omega) only [x_st_o, x_rd_ne, g51]; first | assumption | omega) | (apply mir_eq; assumption; (intro c h1 h2; simp (disch := omega) only [x_st_o])) | (apply mis_eq; assumption; (intro c h1 h2; simp (disch := omega) only [x_st_o])) | rfl) only [bk_222_0, bk_222_2, bk_222_3, bk_222_4, bk_222_5, bk_222_6, bk_222_7, bk_222_8, bk_222_9, wp_ic, wp_ist1, wp_fall, wp_ild1, wp_ald0, wr_50_1, wl_51, wl_62, wl_63, wp_cald, wp_icge, wr_50_25, ws_51, ws_62, ws_63, wr_50_26, wr_50_27, wp_lc, ws_64, wk_199, wp_ifne, wp_goto, wk_192, wp_ist2, wp_icne, wk_197, wp_ild2, wk_220, wk_221, wk_201, wp_iceq, wl_64, wp_pald, wk_202, wp_i2l, wp_ladd, wp_inc1, wp_ret, x_clr_I, x_clr_J, x_clr_R, x_clr_U, ct_some, ct_none, lc_lt, lc_ge, lc_gt, lc_le, lc_eq, lc_r, xI_inj, xJ_inj, Option.some.injEq, eq_self, bi_r, bi_0, bi_1, bi_n, Classical.not_not, and_true, true_and, ite_true, ite_false, ↓reduceIte, ↓x_andl, z_le, z_nle, z_lt, z_nlt, z_eq, z_neq, if_pos, if_neg, x_andl, false_and, and_false, or_true, true_or, or_false, false_or, not_true, not_false_iff, x_rd_eq, x_rd_ne, x_st_o, Int.cast_ofNat_Int, Int.ofNat_zero, Int.ofNat_one, not_true_eq_false, not_false_eq_true, if_true, if_false, ite_self, and_self, Int.ofNat_eq_natCast, Int.tdiv_eq_ediv_of_nonneg, Int.tmod_eq_emod_of_nonneg, x_bm32, g51, k_isFromNow, bi_t, k_of, hCp, k_planX, k_planB, k_behind, cb]
              exact H
          · have cc := cost_b hw (E := 5) (x := w (536 + 2 * i)) (b := w (536 + 2 * i + 1)) (t := p_beh w i Cp (w (536 + 2 * i)) (w (536 + 2 * i + 1)) % 21) i0 i1 q.2.1 q.2.2 (by omega)
            refine sn Cp (p_beh w i Cp (w (536 + 2 * i)) (w (536 + 2 * i + 1))) (σi 64 0 (w_of w i 0) + p_cost w 5 i (w (536 + 2 * i)) (w (536 + 2 * i + 1)) (p_beh w i Cp (w (536 + 2 * i)) (w (536 + 2 * i + 1)) % 21)) (xI (w_of w i 0)) (x_st (x_st (x_st (x_st (x_st (x_st σi 62 0 i (-1)) 63 0 i (-1)) 64 0 i 0) 62 0 i Cp) 63 0 i (p_beh w i Cp (w (536 + 2 * i)) (w (536 + 2 * i + 1)))) 64 0 i (σi 64 0 (w_of w i 0) + p_cost w 5 i (w (536 + 2 * i)) (w (536 + 2 * i + 1)) (p_beh w i Cp (w (536 + 2 * i)) (w (536 + 2 * i + 1)) % 21))) ?_ ?_ ?_ ?_ ?_ ?_ ?_ ?_
            · simp (disch := omega) only [x_st_o, x_st_w, wup2]
            · simp (disch := omega) only [x_st_o, x_st_w, wup2]
            · simp (disch := omega) only [x_st_o, x_st_w, wup2]
            · repeat (first | exact eqo_refl | refine eqo_st (by simp) ?_)
            · rw [if_neg c8, if_pos g]
            · rw [if_neg cp]
            · intro _
              rw [if_neg c8]
            · intro H
              rw [bk_222_1]
              simp (disch := first | omega | (simp only [x_wtI, x_wtJ, x_wtR, x_wtN]; omega) | assumption | (simp (disch := omega) only [x_st_o, x_rd_ne, g51]; first | assumption | omega) | (apply mir_eq; assumption; (intro c h1 h2; simp (disch := omega) only [x_st_o])) | (apply mis_eq; assumption; (intro c h1 h2; simp (disch := omega) only [x_st_o])) | rfl) only [bk_222_0, bk_222_2, bk_222_3, bk_222_4, bk_222_5, bk_222_6, bk_222_7, bk_222_8, bk_222_9, wp_ic, wp_ist1, wp_fall, wp_ild1, wp_ald0, wr_50_1, wl_51, wl_62, wl_63, wp_cald, wp_icge, wr_50_25, ws_51, ws_62, ws_63, wr_50_26, wr_50_27, wp_lc, ws_64, wk_199, wp_ifne, wp_goto, wk_192, wp_ist2, wp_icne, wk_197, wp_ild2, wk_220, wk_221, wk_201, wp_iceq, wl_64, wp_pald, wk_202, wp_i2l, wp_ladd, wp_inc1, wp_ret, x_clr_I, x_clr_J, x_clr_R, x_clr_U, ct_some, ct_none, lc_lt, lc_ge, lc_gt, lc_le, lc_eq, lc_r, xI_inj, xJ_inj, Option.some.injEq, eq_self, bi_r, bi_0, bi_1, bi_n, Classical.not_not, and_true, true_and, ite_true, ite_false, ↓reduceIte, ↓x_andl, z_le, z_nle, z_lt, z_nlt, z_eq, z_neq, if_pos, if_neg, x_andl, false_and, and_false, or_true, true_or, or_false, false_or, not_true, not_false_iff, x_rd_eq, x_rd_ne, x_st_o, Int.cast_ofNat_Int, Int.ofNat_zero, Int.ofNat_one, not_true_eq_false, not_false_eq_true, if_true, if_false, ite_self, and_self, Int.ofNat_eq_natCast, Int.tdiv_eq_ediv_of_nonneg, Int.tmod_eq_emod_of_nonneg, x_bm32, g51, k_isFromNow, bi_t, k_of, hCp, k_planX, k_planB, k_behind, k_costOf]
              exact H
    · have c8 : ¬ i = w 8 := fun z => g (by rw [z]; exact fr_self)
      refine sn (-1) (-1) 0 u (x_st (x_st (x_st σi 62 0 i (-1)) 63 0 i (-1)) 64 0 i 0) ?_ ?_ ?_ ?_ ?_ ?_ ?_ ?_
      · simp (disch := omega) only [x_st_o, x_st_w, wup2]
      · simp (disch := omega) only [x_st_o, x_st_w, wup2]
      · simp (disch := omega) only [x_st_o, x_st_w, wup2]
      · repeat (first | exact eqo_refl | refine eqo_st (by simp) ?_)
      · rw [if_neg c8, if_neg g]
      · rw [if_pos rfl]
      · intro z
        exact absurd rfl z
      · intro H
        rw [bk_222_1]
        simp (disch := first | omega | (simp only [x_wtI, x_wtJ, x_wtR, x_wtN]; omega) | assumption | (simp (disch := omega) only [x_st_o, x_rd_ne, g51]; first | assumption | omega) | (apply mir_eq; assumption; (intro c h1 h2; simp (disch := omega) only [x_st_o])) | (apply mis_eq; assumption; (intro c h1 h2; simp (disch := omega) only [x_st_o])) | rfl) only [bk_222_0, bk_222_2, bk_222_3, bk_222_4, bk_222_5, bk_222_6, bk_222_7, bk_222_8, bk_222_9, wp_ic, wp_ist1, wp_fall, wp_ild1, wp_ald0, wr_50_1, wl_51, wl_62, wl_63, wp_cald, wp_icge, wr_50_25, ws_51, ws_62, ws_63, wr_50_26, wr_50_27, wp_lc, ws_64, wk_199, wp_ifne, wp_goto, wk_192, wp_ist2, wp_icne, wk_197, wp_ild2, wk_220, wk_221, wk_201, wp_iceq, wl_64, wp_pald, wk_202, wp_i2l, wp_ladd, wp_inc1, wp_ret, x_clr_I, x_clr_J, x_clr_R, x_clr_U, ct_some, ct_none, lc_lt, lc_ge, lc_gt, lc_le, lc_eq, lc_r, xI_inj, xJ_inj, Option.some.injEq, eq_self, bi_r, bi_0, bi_1, bi_n, Classical.not_not, and_true, true_and, ite_true, ite_false, ↓reduceIte, ↓x_andl, z_le, z_nle, z_lt, z_nlt, z_eq, z_neq, if_pos, if_neg, x_andl, false_and, and_false, or_true, true_or, or_false, false_or, not_true, not_false_iff, x_rd_eq, x_rd_ne, x_st_o, Int.cast_ofNat_Int, Int.ofNat_zero, Int.ofNat_one, not_true_eq_false, not_false_eq_true, if_true, if_false, ite_self, and_self, Int.ofNat_eq_natCast, Int.tdiv_eq_ediv_of_nonneg, Int.tmod_eq_emod_of_nonneg, x_bm32, g51, k_isFromNow, bi_f]
        exact H
  · intro ⟨σi, u⟩ ⟨j1, j2⟩
    simp only at j1 j2 ⊢
    have g51 : σi 51 0 = w := (j1 51 0 (by decide)).trans h51
    rw [bk_222_1]
    simp (disch := first | omega | (simp only [x_wtI, x_wtJ, x_wtR, x_wtN]; omega) | assumption | (simp (disch := omega) only [x_st_o, x_rd_ne]; first | assumption | omega) | (apply mir_eq; assumption; (intro c h1 h2; simp (disch := omega) only [x_st_o])) | (apply mis_eq; assumption; (intro c h1 h2; simp (disch := omega) only [x_st_o])) | rfl) only [bk_222_0, bk_222_2, bk_222_3, bk_222_4, bk_222_5, bk_222_6, bk_222_7, bk_222_8, bk_222_9, wp_ic, wp_ist1, wp_fall, wp_ild1, wp_ald0, wr_50_1, wl_51, wl_62, wl_63, wp_cald, wp_icge, wr_50_25, ws_51, ws_62, ws_63, wr_50_26, wr_50_27, wp_lc, ws_64, wk_199, wp_ifne, wp_goto, wk_192, wp_ist2, wp_icne, wk_197, wp_ild2, wk_220, wk_221, wk_201, wp_iceq, wl_64, wp_pald, wk_202, wp_i2l, wp_ladd, wp_inc1, wp_ret, x_clr_I, x_clr_J, x_clr_R, x_clr_U, ct_some, ct_none, lc_lt, lc_ge, lc_gt, lc_le, lc_eq, lc_r, xI_inj, xJ_inj, Option.some.injEq, eq_self, bi_r, bi_0, bi_1, bi_n, Classical.not_not, and_true, true_and, ite_true, ite_false, ↓reduceIte, ↓x_andl, z_le, z_nle, z_lt, z_nlt, z_eq, z_neq, if_pos, if_neg, x_andl, false_and, and_false, or_true, true_or, or_false, false_or, not_true, not_false_iff, x_rd_eq, x_rd_ne, x_st_o, Int.cast_ofNat_Int, Int.ofNat_zero, Int.ofNat_one, not_true_eq_false, not_false_eq_true, if_true, if_false, ite_self, and_self, Int.ofNat_eq_natCast, Int.tdiv_eq_ediv_of_nonneg, Int.tmod_eq_emod_of_nonneg, x_bm32, g51]
    exact hQ _ _ ⟨rfl, j1, j2⟩

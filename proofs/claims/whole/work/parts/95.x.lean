theorem h_traceFork {σ : x_S} {w Y : Int → Int} {f : Int} (hM : mir σ 1 w) (hw : wf w) (h0 : 0 ≤ f) (h1 : f < w 0) (hY0 : σ 31 0 = Y) (hY : ybd w Y f) : x_Sp 3 89 [xR 29 0, xI f] σ (fun r σ' => r = none ∧ x_eqo [(30, 0), (31, 0), (32, 0)] σ σ' ∧ (∀ i, (∀ k, 0 ≤ k → k < w_of w f 7 → ¬ (42 * w_of w f (8 + k) ≤ i ∧ i < 42 * w_of w f (8 + k) + 42)) → σ' 31 0 i = σ 31 0 i) ∧ (∀ k, 0 ≤ k → k < w_of w f 7 → ∀ t, 0 ≤ t → t < 42 → x_ml 2147483647 (y_set 2147483647 w Y f t) (σ' 31 0 (42 * w_of w f (8 + k) + t))) ∧ (∀ e, ¬ e = f → σ' 30 0 e = σ 30 0 e) ∧ (w_of w f 7 = 0 → ∃ z, x_ml 2147483647 (y_end 2147483647 w Y f) z ∧ σ' 30 0 f = if z = 2147483647 then 0 else z)) := by
  have a := wf_h hw
  unfold wf_hdr at a
  have o := wf_f hw h0 h1
  unfold wf_one at o
  refine x_gen (fun Q hQ => ?_)
  simp (disch := first | omega | (simp only [x_wtI, x_wtJ, x_wtR, x_wtN]; omega) | assumption | (simp (disch := omega) only [x_st_o, x_rd_ne]; first | assumption | omega) | (apply mir_eq; assumption; (intro c h1 h2; simp (disch := omega) only [x_st_o])) | (apply mis_eq; assumption; (intro c h1 h2; simp (disch := omega) only [x_st_o])) | rfl) only [sp_89, bk_89_0, bk_89_2, bk_89_3, bk_89_4, bk_89_6, bk_89_7, wp_ald0, wr_29_3, wp_ic, wk_277, wp_ild1, wp_imul, wp_ist2, wp_ist3, wp_fall, wp_ild3, wp_icge, wr_29_2, wp_ild2, wp_iadd, wl_14, wl_15, wl_31, wl_32, wp_cald, wp_ist4, wp_ild4, wp_iceq, wr_29_0, wk_68, wk_90, wp_geti kd_6, wk_273, c_mini, wp_inc3, wp_goto, wr_6_14, wr_6_15, wp_acpy kd_32 kd_31 (Or.inl rfl), wp_ifne, wr_29_1, wk_91, wp_i2l, ws_30, wp_ret, x_clr_I, x_clr_J, x_clr_R, x_clr_U, ct_some, ct_none, lc_lt, lc_ge, lc_gt, lc_le, lc_eq, lc_r, xI_inj, xJ_inj, Option.some.injEq, eq_self, bi_r, bi_0, bi_1, bi_n, Classical.not_not, and_true, true_and, ite_true, ite_false, ↓reduceIte, ↓x_andl, z_le, z_nle, z_lt, z_nlt, z_eq, z_neq, if_pos, if_neg, x_andl, false_and, and_false, or_true, true_or, or_false, false_or, not_true, not_false_iff, x_rd_eq, x_rd_ne, x_st_o, Int.cast_ofNat_Int, Int.ofNat_zero, Int.ofNat_one, not_true_eq_false, not_false_eq_true, if_true, if_false, ite_self, and_self, Int.ofNat_eq_natCast, Int.tdiv_eq_ediv_of_nonneg, Int.tmod_eq_emod_of_nonneg, x_bm32, k_fill32]
  generalize hσ0 : s_fl σ 32 0 0 42 2147483647 = σ0
  have e0 : x_eqo [(32, 0)] σ σ0 := by
    subst hσ0
    exact eqo_fl (by simp) eqo_refl
  have f0 : ∀ s, 0 ≤ s → s < 42 → σ0 32 0 s = 2147483647 := by
    subst hσ0
    intro s s0 s1
    rw [s_fl_in ⟨s0, s1⟩]
  refine x_lpJ (α := x_S × x_V) (fun i q => x_eqo [(32, 0)] σ q.1 ∧ ∀ s, 0 ≤ s → s < 42 → x_ml 2147483647 (sqv w Y f i s) (q.1 32 0 s)) (fun i q => x_Wp 3 89 (x_blk 89 1) [xR 29 0, xI f, xI (f * 42), xI i, q.2] [] q.1 Q) (lo := 0) (hi := 21) (by omega) (a0 := (σ0, xU)) ⟨e0, fun s s0 s1 => by
    show x_ml _ _ (σ0 32 0 s)
    rw [f0 s s0 s1]
    exact ml_nil (fun u ⟨st, p, _⟩ => by omega)⟩ ?_ ?_
  · intro i ⟨σi, u⟩ i0 i1 ⟨j1, j2⟩
    simp only at j1 j2 ⊢
    have hMi : mir σi 1 w := mir_eq hM (fun c q1 q2 => j1 c 1 (by simp))
    have gY : σi 31 0 = Y := by rw [j1 31 0 (by simp)]; exact hY0
    have y0 := hY i (by omega) (by omega)
    have y1 := hY (21 + i) (by omega) (by omega)
    have r0 := room_b hw (l := 0)
    have r1 := room_b hw (l := 1)
    have vb : ∀ (σs : x_S) (n : Int), n ≤ 21 → (∀ s, 0 ≤ s → s < 42 → x_ml 2147483647 (sqv w Y f n s) (σs 32 0 s)) → ∀ s, 0 ≤ s → s < 42 → -2147483648 ≤ σs 32 0 s ∧ σs 32 0 s ≤ 2147483647 := by
      intro σs n hn m s s0 s1
      rcases m s s0 s1 with ⟨z, _⟩ | ⟨z, _⟩
      · omega
      · have := sqv_b hw h0 h1 hY hn s0 s1 z
        omega
    have vbi := vb σi i (by omega) j2
    have ga : σi 31 0 (f * 42 + i) = Y (42 * f + i) := by rw [gY, show f * 42 + i = 42 * f + i by omega]
    have gb : σi 31 0 (f * 42 + 21 + i) = Y (42 * f + (21 + i)) := by rw [gY, show f * 42 + 21 + i = 42 * f + (21 + i) by omega]
    have p0 : pdv w Y f i 0 = Y (42 * f + i) := if_pos rfl
    have p1 : pdv w Y f i 1 = min (if Y (42 * f + i) = 2147483647 then 2147483647 else Y (42 * f + i) + w 4) (Y (42 * f + (21 + i))) := if_neg (by omega)
    -- a step in which both rows are dealt with
    have up : ∀ (v : Int → Int), (∀ s, 0 ≤ s → s < 21 → (¬ Y (42 * f + i) = 2147483647 ∧ s ≤ min (p_room w 0) (i + w_of w f 3 - w_of w f 5) → v s = min (σi 32 0 s) (Y (42 * f + i) + p_cost w 5 f (s + w_of w f 5 - i) 0 s)) ∧ (¬ (¬ Y (42 * f + i) = 2147483647 ∧ s ≤ min (p_room w 0) (i + w_of w f 3 - w_of w f 5)) → v s = σi 32 0 s)) → (∀ s, 21 ≤ s → s < 42 → (¬ pdv w Y f i 1 = 2147483647 ∧ s - 21 ≤ min (p_room w 1) (i + w_of w f 3 - w_of w f 5) → v s = min (σi 32 0 s) (pdv w Y f i 1 + p_cost w 5 f (s - 21 + w_of w f 5 - i) 0 (s - 21))) ∧ (¬ (¬ pdv w Y f i 1 = 2147483647 ∧ s - 21 ≤ min (p_room w 1) (i + w_of w f 3 - w_of w f 5)) → v s = σi 32 0 s)) → ∀ s, 0 ≤ s → s < 42 → x_ml 2147483647 (sqv w Y f (i + 1) s) (v s) := by
      intro v hA hB s s0 s1
      by_cases c : s < 21
      · have z := hA s s0 c
        refine sqv_s hw h0 h1 hY i0 i1 s0 s1 (j2 s s0 s1) ?_ ?_
        · rw [show s / 21 = 0 by omega, show s % 21 = s by omega, p0]
          exact z.1
        · rw [show s / 21 = 0 by omega, show s % 21 = s by omega, p0]
          exact z.2
      · have z := hB s (by omega) s1
        refine sqv_s hw h0 h1 hY i0 i1 s0 s1 (j2 s s0 s1) ?_ ?_
        · rw [show s / 21 = 1 by omega, show s % 21 = s - 21 by omega]
          exact z.1
        · rw [show s / 21 = 1 by omega, show s % 21 = s - 21 by omega]
          exact z.2
    by_cases c0 : Y (42 * f + i) = 2147483647
    · rw [if_pos c0] at p1
      by_cases c1 : Y (42 * f + (21 + i)) = 2147483647
      · refine ⟨(σi, xI 2147483647), ⟨j1, up (σi 32 0) (fun s _ _ => ⟨fun z => absurd c0 z.1, fun _ => rfl⟩) (fun s _ _ => ⟨fun z => absurd (by rw [p1]; omega) z.1, fun _ => rfl⟩)⟩, fun H => ?_⟩
        rw [c0] at ga
        rw [c1] at gb
        rw [bk_89_1]
        simp (disch := first | omega | (simp only [x_wtI, x_wtJ, x_wtR, x_wtN]; omega) | assumption | (simp (disch := omega) only [x_st_o, x_rd_ne]; first | assumption | omega) | (apply mir_eq; assumption; (intro c h1 h2; simp (disch := omega) only [x_st_o])) | (apply mis_eq; assumption; (intro c h1 h2; simp (disch := omega) only [x_st_o])) | rfl) only [bk_89_0, bk_89_2, bk_89_3, bk_89_4, bk_89_6, bk_89_7, wp_ald0, wr_29_3, wp_ic, wk_277, wp_ild1, wp_imul, wp_ist2, wp_ist3, wp_fall, wp_ild3, wp_icge, wr_29_2, wp_ild2, wp_iadd, wl_14, wl_15, wl_31, wl_32, wp_cald, wp_ist4, wp_ild4, wp_iceq, wr_29_0, wk_68, wk_90, wp_geti kd_6, wk_273, c_mini, wp_inc3, wp_goto, wr_6_14, wr_6_15, wp_acpy kd_32 kd_31 (Or.inl rfl), wp_ifne, wr_29_1, wk_91, wp_i2l, ws_30, wp_ret, x_clr_I, x_clr_J, x_clr_R, x_clr_U, ct_some, ct_none, lc_lt, lc_ge, lc_gt, lc_le, lc_eq, lc_r, xI_inj, xJ_inj, Option.some.injEq, eq_self, bi_r, bi_0, bi_1, bi_n, Classical.not_not, and_true, true_and, ite_true, ite_false, ↓reduceIte, ↓x_andl, z_le, z_nle, z_lt, z_nlt, z_eq, z_neq, if_pos, if_neg, x_andl, false_and, and_false, or_true, true_or, or_false, false_or, not_true, not_false_iff, x_rd_eq, x_rd_ne, x_st_o, Int.cast_ofNat_Int, Int.ofNat_zero, Int.ofNat_one, not_true_eq_false, not_false_eq_true, if_true, if_false, ite_self, and_self, Int.ofNat_eq_natCast, Int.tdiv_eq_ediv_of_nonneg, Int.tmod_eq_emod_of_nonneg, x_bm32, ga, gb]
        exact H
      · have ep : pdv w Y f i 1 = Y (42 * f + (21 + i)) := by rw [p1]; omega
        obtain ⟨r, σ', ⟨hr, e, m⟩, x⟩ := x_ex (h_wspread (st := i) (l := 1) (pd := Y (42 * f + (21 + i))) (full := min (p_room w 1) (i + w_of w f 3 - w_of w f 5)) hMi hw h0 h1 (by omega) (by omega) (by omega) (by omega) vbi)
        subst hr
        refine ⟨(σ', xI (Y (42 * f + (21 + i)))), ⟨eqo_trans j1 e, up (σ' 32 0) (fun s p q => ⟨fun z => absurd c0 z.1, fun _ => ?_⟩) (fun s p q => ⟨fun z => ?_, fun z => ?_⟩)⟩, fun H => ?_⟩
        · rw [m s p (by omega), if_neg (by omega)]
        · rw [m s (by omega) q, if_pos (by omega), ep]
          rfl
        · rw [m s (by omega) q, if_neg (by omega)]
        · rw [c0] at ga
          rw [bk_89_1]
          simp (disch := first | omega | (simp only [x_wtI, x_wtJ, x_wtR, x_wtN]; omega) | assumption | (simp (disch := omega) only [x_st_o, x_rd_ne]; first | assumption | omega) | (apply mir_eq; assumption; (intro c h1 h2; simp (disch := omega) only [x_st_o])) | (apply mis_eq; assumption; (intro c h1 h2; simp (disch := omega) only [x_st_o])) | rfl) only [bk_89_0, bk_89_2, bk_89_3, bk_89_4, bk_89_6, bk_89_7, wp_ald0, wr_29_3, wp_ic, wk_277, wp_ild1, wp_imul, wp_ist2, wp_ist3, wp_fall, wp_ild3, wp_icge, wr_29_2, wp_ild2, wp_iadd, wl_14, wl_15, wl_31, wl_32, wp_cald, wp_ist4, wp_ild4, wp_iceq, wr_29_0, wk_68, wk_90, wp_geti kd_6, wk_273, c_mini, wp_inc3, wp_goto, wr_6_14, wr_6_15, wp_acpy kd_32 kd_31 (Or.inl rfl), wp_ifne, wr_29_1, wk_91, wp_i2l, ws_30, wp_ret, x_clr_I, x_clr_J, x_clr_R, x_clr_U, ct_some, ct_none, lc_lt, lc_ge, lc_gt, lc_le, lc_eq, lc_r, xI_inj, xJ_inj, Option.some.injEq, eq_self, bi_r, bi_0, bi_1, bi_n, Classical.not_not, and_true, true_and, ite_true, ite_false, ↓reduceIte, ↓x_andl, z_le, z_nle, z_lt, z_nlt, z_eq, z_neq, if_pos, if_neg, x_andl, false_and, and_false, or_true, true_or, or_false, false_or, not_true, not_false_iff, x_rd_eq, x_rd_ne, x_st_o, Int.cast_ofNat_Int, Int.ofNat_zero, Int.ofNat_one, not_true_eq_false, not_false_eq_true, if_true, if_false, ite_self, and_self, Int.ofNat_eq_natCast, Int.tdiv_eq_ediv_of_nonneg, Int.tmod_eq_emod_of_nonneg, x_bm32, ga, gb, k_fullest hMi hw]
          rw [show min 2147483647 (Y (42 * f + (21 + i))) = Y (42 * f + (21 + i)) by omega]
          refine (x 1 _).mpr ?_
          simp (disch := first | omega | (simp only [x_wtI, x_wtJ, x_wtR, x_wtN]; omega) | assumption | (simp (disch := omega) only [x_st_o, x_rd_ne]; first | assumption | omega) | (apply mir_eq; assumption; (intro c h1 h2; simp (disch := omega) only [x_st_o])) | (apply mis_eq; assumption; (intro c h1 h2; simp (disch := omega) only [x_st_o])) | rfl) only [bk_89_0, bk_89_2, bk_89_3, bk_89_4, bk_89_6, bk_89_7, wp_ald0, wr_29_3, wp_ic, wk_277, wp_ild1, wp_imul, wp_ist2, wp_ist3, wp_fall, wp_ild3, wp_icge, wr_29_2, wp_ild2, wp_iadd, wl_14, wl_15, wl_31, wl_32, wp_cald, wp_ist4, wp_ild4, wp_iceq, wr_29_0, wk_68, wk_90, wp_geti kd_6, wk_273, c_mini, wp_inc3, wp_goto, wr_6_14, wr_6_15, wp_acpy kd_32 kd_31 (Or.inl rfl), wp_ifne, wr_29_1, wk_91, wp_i2l, ws_30, wp_ret, x_clr_I, x_clr_J, x_clr_R, x_clr_U, ct_some, ct_none, lc_lt, lc_ge, lc_gt, lc_le, lc_eq, lc_r, xI_inj, xJ_inj, Option.some.injEq, eq_self, bi_r, bi_0, bi_1, bi_n, Classical.not_not, and_true, true_and, ite_true, ite_false, ↓reduceIte, ↓x_andl, z_le, z_nle, z_lt, z_nlt, z_eq, z_neq, if_pos, if_neg, x_andl, false_and, and_false, or_true, true_or, or_false, false_or, not_true, not_false_iff, x_rd_eq, x_rd_ne, x_st_o, Int.cast_ofNat_Int, Int.ofNat_zero, Int.ofNat_one, not_true_eq_false, not_false_eq_true, if_true, if_false, ite_self, and_self, Int.ofNat_eq_natCast, Int.tdiv_eq_ediv_of_nonneg, Int.tmod_eq_emod_of_nonneg, x_bm32]
          exact H
    · rw [if_neg c0] at p1
      obtain ⟨r, σ', ⟨hr, e, m⟩, x⟩ := x_ex (h_wspread (st := i) (l := 0) (pd := Y (42 * f + i)) (full := min (p_room w 0) (i + w_of w f 3 - w_of w f 5)) hMi hw h0 h1 (by omega) (by omega) (by omega) (by omega) vbi)
      subst hr
      have hM' : mir σ' 1 w := mir_eq hMi (fun c q1 q2 => e c 1 (by simp))
      have vb' : ∀ s, 0 ≤ s → s < 42 → -2147483648 ≤ σ' 32 0 s ∧ σ' 32 0 s ≤ 2147483647 := by
        intro s s0 s1
        have z := vbi s s0 s1
        rw [m s s0 s1]
        split
        · rename_i hc
          have cb := cost_b hw (E := 5) (x := s - 21 * 0 + w_of w f 5 - i) (b := 0) (t := s - 21 * 0) h0 h1 (by omega) (by omega) (by omega)
          omega
        · exact z
      have gb' : σ' 31 0 (f * 42 + 21 + i) = Y (42 * f + (21 + i)) := by rw [e 31 0 (by simp)]; exact gb
      obtain ⟨r, σ2, ⟨hr, e2, m2⟩, x2⟩ := x_ex (h_wspread (st := i) (l := 1) (pd := min (Y (42 * f + i) + w 4) (Y (42 * f + (21 + i)))) (full := min (p_room w 1) (i + w_of w f 3 - w_of w f 5)) hM' hw h0 h1 (by omega) (by omega) (by omega) (by omega) vb')
      subst hr
      refine ⟨(σ2, xI (min (Y (42 * f + i) + w 4) (Y (42 * f + (21 + i))))), ⟨eqo_trans j1 (eqo_trans e e2), up (σ2 32 0) (fun s p q => ⟨fun z => ?_, fun z => ?_⟩) (fun s p q => ⟨fun z => ?_, fun z => ?_⟩)⟩, fun H => ?_⟩
      · rw [m2 s p (by omega), if_neg (by omega), m s p (by omega), if_pos (by omega), show s - 21 * 0 = s by omega]
      · rw [m2 s p (by omega), if_neg (by omega), m s p (by omega), if_neg (by omega)]
      · rw [m2 s (by omega) q, if_pos (by omega), m s (by omega) q, if_neg (by omega), p1]
        rfl
      · rw [m2 s (by omega) q, if_neg (by omega), m s (by omega) q, if_neg (by omega)]
      · rw [bk_89_1]
        simp (disch := first | omega | (simp only [x_wtI, x_wtJ, x_wtR, x_wtN]; omega) | assumption | (simp (disch := omega) only [x_st_o, x_rd_ne]; first | assumption | omega) | (apply mir_eq; assumption; (intro c h1 h2; simp (disch := omega) only [x_st_o])) | (apply mis_eq; assumption; (intro c h1 h2; simp (disch := omega) only [x_st_o])) | rfl) only [bk_89_0, bk_89_2, bk_89_3, bk_89_4, bk_89_6, bk_89_7, wp_ald0, wr_29_3, wp_ic, wk_277, wp_ild1, wp_imul, wp_ist2, wp_ist3, wp_fall, wp_ild3, wp_icge, wr_29_2, wp_ild2, wp_iadd, wl_14, wl_15, wl_31, wl_32, wp_cald, wp_ist4, wp_ild4, wp_iceq, wr_29_0, wk_68, wk_90, wp_geti kd_6, wk_273, c_mini, wp_inc3, wp_goto, wr_6_14, wr_6_15, wp_acpy kd_32 kd_31 (Or.inl rfl), wp_ifne, wr_29_1, wk_91, wp_i2l, ws_30, wp_ret, x_clr_I, x_clr_J, x_clr_R, x_clr_U, ct_some, ct_none, lc_lt, lc_ge, lc_gt, lc_le, lc_eq, lc_r, xI_inj, xJ_inj, Option.some.injEq, eq_self, bi_r, bi_0, bi_1, bi_n, Classical.not_not, and_true, true_and, ite_true, ite_false, ↓reduceIte, ↓x_andl, z_le, z_nle, z_lt, z_nlt, z_eq, z_neq, if_pos, if_neg, x_andl, false_and, and_false, or_true, true_or, or_false, false_or, not_true, not_false_iff, x_rd_eq, x_rd_ne, x_st_o, Int.cast_ofNat_Int, Int.ofNat_zero, Int.ofNat_one, not_true_eq_false, not_false_eq_true, if_true, if_false, ite_self, and_self, Int.ofNat_eq_natCast, Int.tdiv_eq_ediv_of_nonneg, Int.tmod_eq_emod_of_nonneg, x_bm32, ga, k_fullest hMi hw]
        refine (x 1 _).mpr ?_
        simp (disch := first | omega | (simp only [x_wtI, x_wtJ, x_wtR, x_wtN]; omega) | assumption | (simp (disch := omega) only [x_st_o, x_rd_ne]; first | assumption | omega) | (apply mir_eq; assumption; (intro c h1 h2; simp (disch := omega) only [x_st_o])) | (apply mis_eq; assumption; (intro c h1 h2; simp (disch := omega) only [x_st_o])) | rfl) only [bk_89_0, bk_89_2, bk_89_3, bk_89_4, bk_89_6, bk_89_7, wp_ald0, wr_29_3, wp_ic, wk_277, wp_ild1, wp_imul, wp_ist2, wp_ist3, wp_fall, wp_ild3, wp_icge, wr_29_2, wp_ild2, wp_iadd, wl_14, wl_15, wl_31, wl_32, wp_cald, wp_ist4, wp_ild4, wp_iceq, wr_29_0, wk_68, wk_90, wp_geti kd_6, wk_273, c_mini, wp_inc3, wp_goto, wr_6_14, wr_6_15, wp_acpy kd_32 kd_31 (Or.inl rfl), wp_ifne, wr_29_1, wk_91, wp_i2l, ws_30, wp_ret, x_clr_I, x_clr_J, x_clr_R, x_clr_U, ct_some, ct_none, lc_lt, lc_ge, lc_gt, lc_le, lc_eq, lc_r, xI_inj, xJ_inj, Option.some.injEq, eq_self, bi_r, bi_0, bi_1, bi_n, Classical.not_not, and_true, true_and, ite_true, ite_false, ↓reduceIte, ↓x_andl, z_le, z_nle, z_lt, z_nlt, z_eq, z_neq, if_pos, if_neg, x_andl, false_and, and_false, or_true, true_or, or_false, false_or, not_true, not_false_iff, x_rd_eq, x_rd_ne, x_st_o, Int.cast_ofNat_Int, Int.ofNat_zero, Int.ofNat_one, not_true_eq_false, not_false_eq_true, if_true, if_false, ite_self, and_self, Int.ofNat_eq_natCast, Int.tdiv_eq_ediv_of_nonneg, Int.tmod_eq_emod_of_nonneg, x_bm32, gb', mi_wing hM', k_fullest hM' hw]
        refine (x2 1 _).mpr ?_
        simp (disch := first | omega | (simp only [x_wtI, x_wtJ, x_wtR, x_wtN]; omega) | assumption | (simp (disch := omega) only [x_st_o, x_rd_ne]; first | assumption | omega) | (apply mir_eq; assumption; (intro c h1 h2; simp (disch := omega) only [x_st_o])) | (apply mis_eq; assumption; (intro c h1 h2; simp (disch := omega) only [x_st_o])) | rfl) only [bk_89_0, bk_89_2, bk_89_3, bk_89_4, bk_89_6, bk_89_7, wp_ald0, wr_29_3, wp_ic, wk_277, wp_ild1, wp_imul, wp_ist2, wp_ist3, wp_fall, wp_ild3, wp_icge, wr_29_2, wp_ild2, wp_iadd, wl_14, wl_15, wl_31, wl_32, wp_cald, wp_ist4, wp_ild4, wp_iceq, wr_29_0, wk_68, wk_90, wp_geti kd_6, wk_273, c_mini, wp_inc3, wp_goto, wr_6_14, wr_6_15, wp_acpy kd_32 kd_31 (Or.inl rfl), wp_ifne, wr_29_1, wk_91, wp_i2l, ws_30, wp_ret, x_clr_I, x_clr_J, x_clr_R, x_clr_U, ct_some, ct_none, lc_lt, lc_ge, lc_gt, lc_le, lc_eq, lc_r, xI_inj, xJ_inj, Option.some.injEq, eq_self, bi_r, bi_0, bi_1, bi_n, Classical.not_not, and_true, true_and, ite_true, ite_false, ↓reduceIte, ↓x_andl, z_le, z_nle, z_lt, z_nlt, z_eq, z_neq, if_pos, if_neg, x_andl, false_and, and_false, or_true, true_or, or_false, false_or, not_true, not_false_iff, x_rd_eq, x_rd_ne, x_st_o, Int.cast_ofNat_Int, Int.ofNat_zero, Int.ofNat_one, not_true_eq_false, not_false_eq_true, if_true, if_false, ite_self, and_self, Int.ofNat_eq_natCast, Int.tdiv_eq_ediv_of_nonneg, Int.tmod_eq_emod_of_nonneg, x_bm32]
        exact H
  · intro ⟨σi, u⟩ ⟨j1, j2⟩
    simp only at j1 j2 ⊢
    have hMi : mir σi 1 w := mir_eq hM (fun c q1 q2 => j1 c 1 (by simp))
    have ly : ∀ s, 0 ≤ s → s < 42 → x_ml 2147483647 (y_set 2147483647 w Y f s) (σi 32 0 s) := fun s s0 s1 => sqv_y hw h0 h1 hY s0 s1 (j2 s s0 s1)
    rw [bk_89_1]
    simp (disch := first | omega | (simp only [x_wtI, x_wtJ, x_wtR, x_wtN]; omega) | assumption | (simp (disch := omega) only [x_st_o, x_rd_ne]; first | assumption | omega) | (apply mir_eq; assumption; (intro c h1 h2; simp (disch := omega) only [x_st_o])) | (apply mis_eq; assumption; (intro c h1 h2; simp (disch := omega) only [x_st_o])) | rfl) only [bk_89_0, bk_89_2, bk_89_3, bk_89_4, bk_89_6, bk_89_7, wp_ald0, wr_29_3, wp_ic, wk_277, wp_ild1, wp_imul, wp_ist2, wp_ist3, wp_fall, wp_ild3, wp_icge, wr_29_2, wp_ild2, wp_iadd, wl_14, wl_15, wl_31, wl_32, wp_cald, wp_ist4, wp_ild4, wp_iceq, wr_29_0, wk_68, wk_90, wp_geti kd_6, wk_273, c_mini, wp_inc3, wp_goto, wr_6_14, wr_6_15, wp_acpy kd_32 kd_31 (Or.inl rfl), wp_ifne, wr_29_1, wk_91, wp_i2l, ws_30, wp_ret, x_clr_I, x_clr_J, x_clr_R, x_clr_U, ct_some, ct_none, lc_lt, lc_ge, lc_gt, lc_le, lc_eq, lc_r, xI_inj, xJ_inj, Option.some.injEq, eq_self, bi_r, bi_0, bi_1, bi_n, Classical.not_not, and_true, true_and, ite_true, ite_false, ↓reduceIte, ↓x_andl, z_le, z_nle, z_lt, z_nlt, z_eq, z_neq, if_pos, if_neg, x_andl, false_and, and_false, or_true, true_or, or_false, false_or, not_true, not_false_iff, x_rd_eq, x_rd_ne, x_st_o, Int.cast_ofNat_Int, Int.ofNat_zero, Int.ofNat_one, not_true_eq_false, not_false_eq_true, if_true, if_false, ite_self, and_self, Int.ofNat_eq_natCast, Int.tdiv_eq_ediv_of_nonneg, Int.tmod_eq_emod_of_nonneg, x_bm32]
    refine x_lpJ (α := x_S) (fun i σs => x_eqo [(31, 0)] σi σs ∧ (∀ q, (∀ k, 0 ≤ k → k < i → ¬ (42 * w_of w f (8 + k) ≤ q ∧ q < 42 * w_of w f (8 + k) + 42)) → σs 31 0 q = σi 31 0 q) ∧ (∀ k, 0 ≤ k → k < i → ∀ t, 0 ≤ t → t < 42 → σs 31 0 (42 * w_of w f (8 + k) + t) = σi 32 0 t)) (fun i σs => x_Wp 3 89 (x_blk 89 5) [xR 29 0, xI f, xI (f * 42), xI i, u] [] σs Q) (lo := 0) (hi := w_of w f 7) (by omega) (a0 := σi) ⟨eqo_refl, fun _ _ => rfl, fun k p q => by omega⟩ ?_ ?_
    · intro i σs i0 i1 ⟨k1, k2, k3⟩
      have hMs : mir σs 1 w := mir_eq hMi (fun c q1 q2 => k1 c 1 (by simp))
      have kk := wf_k hw h0 h1 i0 i1
      refine ⟨x_cp σs 32 0 0 31 0 (w_of w f (8 + i) * 42) 42, ⟨eqo_cp (by simp) k1, ?_, ?_⟩, fun H => ?_⟩
      · intro q hq
        have := hq i i0 (by omega)
        rw [x_cp_out (by omega)]
        exact k2 q (fun k p z => hq k p (by omega))
      · intro k p z t t0 t1
        by_cases c : w_of w f (8 + k) = w_of w f (8 + i)
        · rw [c, x_cp_in (by omega), show (0 : Int) + (42 * w_of w f (8 + i) + t - w_of w f (8 + i) * 42) = t by omega, k1 32 0 (by simp)]
        · have : ¬ k = i := fun y => c (by rw [y])
          rw [x_cp_out (by omega)]
          exact k3 k p (by omega) t t0 t1
      · rw [bk_89_5]
        simp (disch := first | omega | (simp only [x_wtI, x_wtJ, x_wtR, x_wtN]; omega) | assumption | (simp (disch := omega) only [x_st_o, x_rd_ne]; first | assumption | omega) | (apply mir_eq; assumption; (intro c h1 h2; simp (disch := omega) only [x_st_o])) | (apply mis_eq; assumption; (intro c h1 h2; simp (disch := omega) only [x_st_o])) | rfl) only [bk_89_0, bk_89_2, bk_89_3, bk_89_4, bk_89_6, bk_89_7, wp_ald0, wr_29_3, wp_ic, wk_277, wp_ild1, wp_imul, wp_ist2, wp_ist3, wp_fall, wp_ild3, wp_icge, wr_29_2, wp_ild2, wp_iadd, wl_14, wl_15, wl_31, wl_32, wp_cald, wp_ist4, wp_ild4, wp_iceq, wr_29_0, wk_68, wk_90, wp_geti kd_6, wk_273, c_mini, wp_inc3, wp_goto, wr_6_14, wr_6_15, wp_acpy kd_32 kd_31 (Or.inl rfl), wp_ifne, wr_29_1, wk_91, wp_i2l, ws_30, wp_ret, x_clr_I, x_clr_J, x_clr_R, x_clr_U, ct_some, ct_none, lc_lt, lc_ge, lc_gt, lc_le, lc_eq, lc_r, xI_inj, xJ_inj, Option.some.injEq, eq_self, bi_r, bi_0, bi_1, bi_n, Classical.not_not, and_true, true_and, ite_true, ite_false, ↓reduceIte, ↓x_andl, z_le, z_nle, z_lt, z_nlt, z_eq, z_neq, if_pos, if_neg, x_andl, false_and, and_false, or_true, true_or, or_false, false_or, not_true, not_false_iff, x_rd_eq, x_rd_ne, x_st_o, Int.cast_ofNat_Int, Int.ofNat_zero, Int.ofNat_one, not_true_eq_false, not_false_eq_true, if_true, if_false, ite_self, and_self, Int.ofNat_eq_natCast, Int.tdiv_eq_ediv_of_nonneg, Int.tmod_eq_emod_of_nonneg, x_bm32, mi_kids hMs, mi_kid hMs]
        exact H
    · intro σs ⟨k1, k2, k3⟩
      have hMs : mir σs 1 w := mir_eq hMi (fun c q1 q2 => k1 c 1 (by simp))
      have es : x_eqo [(30, 0), (31, 0), (32, 0)] σ σs := eqo_trans (eqo_mono (by simp) j1) (eqo_mono (by simp) k1)
      have e31 : σi 31 0 = σ 31 0 := j1 31 0 (by simp)
      have e30 : σs 30 0 = σ 30 0 := (k1 30 0 (by simp)).trans (j1 30 0 (by simp))
      rw [bk_89_5]
      by_cases ck : w_of w f 7 = 0
      · simp (disch := first | omega | (simp only [x_wtI, x_wtJ, x_wtR, x_wtN]; omega) | assumption | (simp (disch := omega) only [x_st_o, x_rd_ne]; first | assumption | omega) | (apply mir_eq; assumption; (intro c h1 h2; simp (disch := omega) only [x_st_o])) | (apply mis_eq; assumption; (intro c h1 h2; simp (disch := omega) only [x_st_o])) | rfl) only [bk_89_0, bk_89_2, bk_89_3, bk_89_4, bk_89_6, bk_89_7, wp_ald0, wr_29_3, wp_ic, wk_277, wp_ild1, wp_imul, wp_ist2, wp_ist3, wp_fall, wp_ild3, wp_icge, wr_29_2, wp_ild2, wp_iadd, wl_14, wl_15, wl_31, wl_32, wp_cald, wp_ist4, wp_ild4, wp_iceq, wr_29_0, wk_68, wk_90, wp_geti kd_6, wk_273, c_mini, wp_inc3, wp_goto, wr_6_14, wr_6_15, wp_acpy kd_32 kd_31 (Or.inl rfl), wp_ifne, wr_29_1, wk_91, wp_i2l, ws_30, wp_ret, x_clr_I, x_clr_J, x_clr_R, x_clr_U, ct_some, ct_none, lc_lt, lc_ge, lc_gt, lc_le, lc_eq, lc_r, xI_inj, xJ_inj, Option.some.injEq, eq_self, bi_r, bi_0, bi_1, bi_n, Classical.not_not, and_true, true_and, ite_true, ite_false, ↓reduceIte, ↓x_andl, z_le, z_nle, z_lt, z_nlt, z_eq, z_neq, if_pos, if_neg, x_andl, false_and, and_false, or_true, true_or, or_false, false_or, not_true, not_false_iff, x_rd_eq, x_rd_ne, x_st_o, Int.cast_ofNat_Int, Int.ofNat_zero, Int.ofNat_one, not_true_eq_false, not_false_eq_true, if_true, if_false, ite_self, and_self, Int.ofNat_eq_natCast, Int.tdiv_eq_ediv_of_nonneg, Int.tmod_eq_emod_of_nonneg, x_bm32, mi_kids hMs]
        have e32 : σs 32 0 = σi 32 0 := k1 32 0 (by simp)
        refine x_use (d := 1) (h_ltl (σ := σs) (S := fun t u => y_set 2147483647 w Y f t u) (by rw [e32]; exact ly) (fun s u s0 s1 z => by have := yset_b hw h0 h1 hY z; omega)) ?_
        rintro r σ2 ⟨rfl, z, mz, bz, rfl⟩
        have rz : -2147483648 ≤ (if z = 2147483647 then 0 else z) ∧ (if z = 2147483647 then 0 else z) ≤ 2147483647 := by split <;> omega
        generalize hz2 : (if z = 2147483647 then 0 else z) = z2 at rz ⊢
        simp (disch := first | omega | (simp only [x_wtI, x_wtJ, x_wtR, x_wtN]; omega) | assumption | (simp (disch := omega) only [x_st_o, x_rd_ne]; first | assumption | omega) | (apply mir_eq; assumption; (intro c h1 h2; simp (disch := omega) only [x_st_o])) | (apply mis_eq; assumption; (intro c h1 h2; simp (disch := omega) only [x_st_o])) | rfl) only [bk_89_0, bk_89_2, bk_89_3, bk_89_4, bk_89_6, bk_89_7, wp_ald0, wr_29_3, wp_ic, wk_277, wp_ild1, wp_imul, wp_ist2, wp_ist3, wp_fall, wp_ild3, wp_icge, wr_29_2, wp_ild2, wp_iadd, wl_14, wl_15, wl_31, wl_32, wp_cald, wp_ist4, wp_ild4, wp_iceq, wr_29_0, wk_68, wk_90, wp_geti kd_6, wk_273, c_mini, wp_inc3, wp_goto, wr_6_14, wr_6_15, wp_acpy kd_32 kd_31 (Or.inl rfl), wp_ifne, wr_29_1, wk_91, wp_i2l, ws_30, wp_ret, x_clr_I, x_clr_J, x_clr_R, x_clr_U, ct_some, ct_none, lc_lt, lc_ge, lc_gt, lc_le, lc_eq, lc_r, xI_inj, xJ_inj, Option.some.injEq, eq_self, bi_r, bi_0, bi_1, bi_n, Classical.not_not, and_true, true_and, ite_true, ite_false, ↓reduceIte, ↓x_andl, z_le, z_nle, z_lt, z_nlt, z_eq, z_neq, if_pos, if_neg, x_andl, false_and, and_false, or_true, true_or, or_false, false_or, not_true, not_false_iff, x_rd_eq, x_rd_ne, x_st_o, Int.cast_ofNat_Int, Int.ofNat_zero, Int.ofNat_one, not_true_eq_false, not_false_eq_true, if_true, if_false, ite_self, and_self, Int.ofNat_eq_natCast, Int.tdiv_eq_ediv_of_nonneg, Int.tmod_eq_emod_of_nonneg, x_bm32]
        refine hQ _ _ ⟨rfl, eqo_st (by simp) es, ?_, ?_, ?_, ?_⟩
        · intro q hq
          simp (disch := omega) only [x_st_o, x_rd_ne, x_rd_eq, s_fl_o, s_fl_in, s_fl_out, x_cp_o, x_cp_in, x_cp_out]
          rw [k2 q hq, e31]
        · intro k p q
          omega
        · intro e he
          simp (disch := omega) only [x_st_o, x_rd_ne, x_rd_eq, s_fl_o, s_fl_in, s_fl_out, x_cp_o, x_cp_in, x_cp_out]
          rw [e30]
        · intro _
          refine ⟨z, mz, ?_⟩
          simp (disch := omega) only [x_st_o, x_rd_ne, x_rd_eq, s_fl_o, s_fl_in, s_fl_out, x_cp_o, x_cp_in, x_cp_out]
          exact hz2.symm
      · simp (disch := first | omega | (simp only [x_wtI, x_wtJ, x_wtR, x_wtN]; omega) | assumption | (simp (disch := omega) only [x_st_o, x_rd_ne]; first | assumption | omega) | (apply mir_eq; assumption; (intro c h1 h2; simp (disch := omega) only [x_st_o])) | (apply mis_eq; assumption; (intro c h1 h2; simp (disch := omega) only [x_st_o])) | rfl) only [bk_89_0, bk_89_2, bk_89_3, bk_89_4, bk_89_6, bk_89_7, wp_ald0, wr_29_3, wp_ic, wk_277, wp_ild1, wp_imul, wp_ist2, wp_ist3, wp_fall, wp_ild3, wp_icge, wr_29_2, wp_ild2, wp_iadd, wl_14, wl_15, wl_31, wl_32, wp_cald, wp_ist4, wp_ild4, wp_iceq, wr_29_0, wk_68, wk_90, wp_geti kd_6, wk_273, c_mini, wp_inc3, wp_goto, wr_6_14, wr_6_15, wp_acpy kd_32 kd_31 (Or.inl rfl), wp_ifne, wr_29_1, wk_91, wp_i2l, ws_30, wp_ret, x_clr_I, x_clr_J, x_clr_R, x_clr_U, ct_some, ct_none, lc_lt, lc_ge, lc_gt, lc_le, lc_eq, lc_r, xI_inj, xJ_inj, Option.some.injEq, eq_self, bi_r, bi_0, bi_1, bi_n, Classical.not_not, and_true, true_and, ite_true, ite_false, ↓reduceIte, ↓x_andl, z_le, z_nle, z_lt, z_nlt, z_eq, z_neq, if_pos, if_neg, x_andl, false_and, and_false, or_true, true_or, or_false, false_or, not_true, not_false_iff, x_rd_eq, x_rd_ne, x_st_o, Int.cast_ofNat_Int, Int.ofNat_zero, Int.ofNat_one, not_true_eq_false, not_false_eq_true, if_true, if_false, ite_self, and_self, Int.ofNat_eq_natCast, Int.tdiv_eq_ediv_of_nonneg, Int.tmod_eq_emod_of_nonneg, x_bm32, mi_kids hMs]
        refine hQ _ _ ⟨rfl, es, ?_, ?_, ?_, ?_⟩
        · intro q hq
          rw [k2 q hq, e31]
        · intro k p q t t0 t1
          rw [k3 k p q t t0 t1]
          exact ly t t0 t1
        · intro e he
          rw [e30]
        · intro z
          exact absurd z ck

/-! all ways of the model -/
def swf (w Y : Int → Int) (f s t u : Int) : Prop := ∃ st wd, (0 ≤ st ∧ st ≤ 20) ∧ (0 ≤ wd ∧ wd ≤ 1) ∧ 21 * wd + st < s ∧ ¬ Y (42 * f + (21 * wd + st)) = (-9223372036854775808) ∧ ∃ b x, fdz w f st wd (Y (42 * f + (21 * wd + st))) t b x u
def fdJ (w Y : Int → Int) (f : Int) (σ0 : x_S) (s : Int) (σ : x_S) : Prop :=
  x_eqo [(60, 0), (61, 0)] σ0 σ ∧ (∀ i, (∀ k, 0 ≤ k → k < w_of w f 7 → ¬ (42 * w_of w f (8 + k) ≤ i ∧ i < 42 * w_of w f (8 + k) + 42)) → σ 61 0 i = σ0 61 0 i) ∧
  (∀ k, 0 ≤ k → k < w_of w f 7 → ∀ t, 0 ≤ t → t < 42 → x_ml (-9223372036854775808) (swf w Y f s t) (σ 61 0 (42 * w_of w f (8 + k) + t))) ∧
  (∀ e, ¬ (e = f ∧ w_of w f 7 = 0) → σ 60 0 e = σ0 60 0 e) ∧
  (w_of w f 7 = 0 → x_ml (-9223372036854775808) (fun u => ∃ t, (0 ≤ t ∧ t < 42) ∧ swf w Y f s t u) (σ 60 0 f))
def mwy (w Y L : Int → Int) : Prop := g_way (-9223372036854775808) w Y ∧ (∀ e, w 8 ≤ e → e < w 0 → p_fr w (w 8) e → w_of w e 7 = 0 → x_ml (-9223372036854775808) (y_end (-9223372036854775808) w Y e) (L e)) ∧ ∀ e, 0 ≤ e → e < w 0 → ¬ (p_fr w (w 8) e ∧ w_of w e 7 = 0) → L e = (-9223372036854775808)
theorem swf_y {w Y : Int → Int} {f t u : Int} : swf w Y f 42 t u ↔ y_set (-9223372036854775808) w Y f t u := by
  unfold swf y_set fdz
  constructor
  · rintro ⟨st, wd, p1, p2, _, p3, b, x, ⟨l, e⟩, eu⟩
    refine ⟨st, wd, b, st + x - w_of w f 5, p1, p2, p3, l, e, ?_⟩
    rw [show st + x - w_of w f 5 + w_of w f 5 - st = x by omega]
    exact eu
  · rintro ⟨st, wd, b, z, p1, p2, p3, l, e, eu⟩
    refine ⟨st, wd, p1, p2, by omega, p3, b, z + w_of w f 5 - st, ?_⟩
    rw [show st + (z + w_of w f 5 - st) - w_of w f 5 = z by omega]
    exact ⟨⟨l, e⟩, eu⟩
theorem swf_s {w Y : Int → Int} {f st wd t u : Int} (hs : 0 ≤ st ∧ st ≤ 20) (hd : 0 ≤ wd ∧ wd ≤ 1) (hy : ¬ Y (42 * f + (21 * wd + st)) = (-9223372036854775808)) : swf w Y f (21 * wd + st + 1) t u ↔ (swf w Y f (21 * wd + st) t u ∨ ∃ b x, fdz w f st wd (Y (42 * f + (21 * wd + st))) t b x u) := by
  unfold swf
  constructor
  · rintro ⟨st', wd', p1, p2, p3, p4, p5⟩
    by_cases c : 21 * wd' + st' = 21 * wd + st
    · have e1 : wd' = wd := by omega
      have e2 : st' = st := by omega
      subst e1
      subst e2
      exact Or.inr p5
    · exact Or.inl ⟨st', wd', p1, p2, by omega, p4, p5⟩
  · rintro (⟨st', wd', p1, p2, p3, p4, p5⟩ | p5)
    · exact ⟨st', wd', p1, p2, by omega, p4, p5⟩
    · exact ⟨st, wd, hs, hd, by omega, hy, p5⟩
theorem swf_n {w Y : Int → Int} {f s t u : Int} (hs : 0 ≤ s ∧ s < 42) (hy : Y (42 * f + s) = (-9223372036854775808)) : swf w Y f (s + 1) t u ↔ swf w Y f s t u := by
  unfold swf
  constructor
  · rintro ⟨st', wd', p1, p2, p3, p4, p5⟩
    by_cases c : 21 * wd' + st' = s
    · rw [c] at p4
      exact absurd hy p4
    · exact ⟨st', wd', p1, p2, by omega, p4, p5⟩
  · rintro ⟨st', wd', p1, p2, p3, p4, p5⟩
    exact ⟨st', wd', p1, p2, by omega, p4, p5⟩
set_option maxHeartbeats 4000000 in
theorem h_findLeast {σ : x_S} {w : Int → Int} (h51 : σ 51 0 = w) (hE : σ 50 0 17 = 5) (hw : wf w) (hn : wn w) : x_Sp 4 196 [xR 50 0] σ (fun r σ' => r = none ∧ x_eqo [(60, 0), (61, 0)] σ σ' ∧ mwy w (σ' 61 0) (σ' 60 0)) := by
  have a := wf_h hw
  unfold wf_hdr at a
  obtain ⟨n8, n9, n10, _⟩ := id hn
  refine x_gen (fun Q hQ => ?_)
  simp (disch := first | omega | (simp only [x_wtI, x_wtJ, x_wtR, x_wtN]; omega) | assumption | (simp (disch := omega) only [x_st_o, x_rd_ne]; first | assumption | omega) | (apply mir_eq; assumption; (intro c h1 h2; simp (disch := omega) only [x_st_o])) | (apply mis_eq; assumption; (intro c h1 h2; simp (disch := omega) only [x_st_o])) | rfl) only [sp_196, bk_196_0, bk_196_2, bk_196_4, bk_196_6, bk_196_7, bk_196_8, bk_196_9, bk_196_10, wp_ic, wp_ist1, wp_fall, wp_ild1, wp_icge, wp_ald0, wr_50_22, wp_lc, ws_60, ws_61, wp_inc1, wp_goto, wr_50_21, wr_50_1, wl_51, wp_cald, wp_imul, wk_197, wp_iadd, wk_199, wp_ifne, wp_ist2, wp_ild2, wl_60, wl_61, wp_pald, wp_lcmp, wp_ifeq, wk_200, wp_inc2, wp_ret, x_clr_I, x_clr_J, x_clr_R, x_clr_U, ct_some, ct_none, lc_lt, lc_ge, lc_gt, lc_le, lc_eq, lc_r, xI_inj, xJ_inj, Option.some.injEq, eq_self, bi_r, bi_0, bi_1, bi_n, Classical.not_not, and_true, true_and, ite_true, ite_false, ↓reduceIte, ↓x_andl, z_le, z_nle, z_lt, z_nlt, z_eq, z_neq, if_pos, if_neg, x_andl, false_and, and_false, or_true, true_or, or_false, false_or, not_true, not_false_iff, x_rd_eq, x_rd_ne, x_st_o, Int.cast_ofNat_Int, Int.ofNat_zero, Int.ofNat_one, not_true_eq_false, not_false_eq_true, if_true, if_false, ite_self, and_self, Int.ofNat_eq_natCast, Int.tdiv_eq_ediv_of_nonneg, Int.tmod_eq_emod_of_nonneg, x_bm32]
  refine x_lpK (α := x_S) (fun i σi => x_eqo [(60, 0), (61, 0)] σ σi ∧ ∀ k, 0 ≤ k → k < i → σi 61 0 k = (-9223372036854775808)) (fun i σi => x_Wp 4 196 (x_blk 196 1) [xR 50 0, xI i, xU] [] σi Q) (lo := 0) (hi := 1680) (by omega) (a0 := σ) ⟨eqo_refl, fun k p q => by omega⟩ ?_ ?_
  · intro i σi i0 i1 ⟨j1, j2⟩ K
    have K2 := K (x_st σi 61 0 i (-9223372036854775808)) ⟨eqo_st (by simp) j1, fun k p q => by
      by_cases c : k = i
      · subst c
        rw [x_rd_eq]
      · rw [x_rd_ne (by omega)]
        exact j2 k p (by omega)⟩
    rw [bk_196_1]
    simp (disch := first | omega | (simp only [x_wtI, x_wtJ, x_wtR, x_wtN]; omega) | assumption | (simp (disch := omega) only [x_st_o, x_rd_ne]; first | assumption | omega) | (apply mir_eq; assumption; (intro c h1 h2; simp (disch := omega) only [x_st_o])) | (apply mis_eq; assumption; (intro c h1 h2; simp (disch := omega) only [x_st_o])) | rfl) only [bk_196_0, bk_196_2, bk_196_4, bk_196_6, bk_196_7, bk_196_8, bk_196_9, bk_196_10, wp_ic, wp_ist1, wp_fall, wp_ild1, wp_icge, wp_ald0, wr_50_22, wp_lc, ws_60, ws_61, wp_inc1, wp_goto, wr_50_21, wr_50_1, wl_51, wp_cald, wp_imul, wk_197, wp_iadd, wk_199, wp_ifne, wp_ist2, wp_ild2, wl_60, wl_61, wp_pald, wp_lcmp, wp_ifeq, wk_200, wp_inc2, wp_ret, x_clr_I, x_clr_J, x_clr_R, x_clr_U, ct_some, ct_none, lc_lt, lc_ge, lc_gt, lc_le, lc_eq, lc_r, xI_inj, xJ_inj, Option.some.injEq, eq_self, bi_r, bi_0, bi_1, bi_n, Classical.not_not, and_true, true_and, ite_true, ite_false, ↓reduceIte, ↓x_andl, z_le, z_nle, z_lt, z_nlt, z_eq, z_neq, if_pos, if_neg, x_andl, false_and, and_false, or_true, true_or, or_false, false_or, not_true, not_false_iff, x_rd_eq, x_rd_ne, x_st_o, Int.cast_ofNat_Int, Int.ofNat_zero, Int.ofNat_one, not_true_eq_false, not_false_eq_true, if_true, if_false, ite_self, and_self, Int.ofNat_eq_natCast, Int.tdiv_eq_ediv_of_nonneg, Int.tmod_eq_emod_of_nonneg, x_bm32]
    exact K2
  · intro σ1 ⟨e1, w1⟩
    rw [bk_196_1]
    simp (disch := first | omega | (simp only [x_wtI, x_wtJ, x_wtR, x_wtN]; omega) | assumption | (simp (disch := omega) only [x_st_o, x_rd_ne]; first | assumption | omega) | (apply mir_eq; assumption; (intro c h1 h2; simp (disch := omega) only [x_st_o])) | (apply mis_eq; assumption; (intro c h1 h2; simp (disch := omega) only [x_st_o])) | rfl) only [bk_196_0, bk_196_2, bk_196_4, bk_196_6, bk_196_7, bk_196_8, bk_196_9, bk_196_10, wp_ic, wp_ist1, wp_fall, wp_ild1, wp_icge, wp_ald0, wr_50_22, wp_lc, ws_60, ws_61, wp_inc1, wp_goto, wr_50_21, wr_50_1, wl_51, wp_cald, wp_imul, wk_197, wp_iadd, wk_199, wp_ifne, wp_ist2, wp_ild2, wl_60, wl_61, wp_pald, wp_lcmp, wp_ifeq, wk_200, wp_inc2, wp_ret, x_clr_I, x_clr_J, x_clr_R, x_clr_U, ct_some, ct_none, lc_lt, lc_ge, lc_gt, lc_le, lc_eq, lc_r, xI_inj, xJ_inj, Option.some.injEq, eq_self, bi_r, bi_0, bi_1, bi_n, Classical.not_not, and_true, true_and, ite_true, ite_false, ↓reduceIte, ↓x_andl, z_le, z_nle, z_lt, z_nlt, z_eq, z_neq, if_pos, if_neg, x_andl, false_and, and_false, or_true, true_or, or_false, false_or, not_true, not_false_iff, x_rd_eq, x_rd_ne, x_st_o, Int.cast_ofNat_Int, Int.ofNat_zero, Int.ofNat_one, not_true_eq_false, not_false_eq_true, if_true, if_false, ite_self, and_self, Int.ofNat_eq_natCast, Int.tdiv_eq_ediv_of_nonneg, Int.tmod_eq_emod_of_nonneg, x_bm32]
    refine x_lpK (α := x_S) (fun i σi => x_eqo [(60, 0)] σ1 σi ∧ ∀ k, 0 ≤ k → k < i → σi 60 0 k = (-9223372036854775808)) (fun i σi => x_Wp 4 196 (x_blk 196 3) [xR 50 0, xI i, xU] [] σi Q) (lo := 0) (hi := 40) (by omega) (a0 := σ1) ⟨eqo_refl, fun k p q => by omega⟩ ?_ ?_
    · intro i σi i0 i1 ⟨j1, j2⟩ K
      have K2 := K (x_st σi 60 0 i (-9223372036854775808)) ⟨eqo_st (by simp) j1, fun k p q => by
        by_cases c : k = i
        · subst c
          rw [x_rd_eq]
        · rw [x_rd_ne (by omega)]
          exact j2 k p (by omega)⟩
      rw [bk_196_3]
      simp (disch := first | omega | (simp only [x_wtI, x_wtJ, x_wtR, x_wtN]; omega) | assumption | (simp (disch := omega) only [x_st_o, x_rd_ne]; first | assumption | omega) | (apply mir_eq; assumption; (intro c h1 h2; simp (disch := omega) only [x_st_o])) | (apply mis_eq; assumption; (intro c h1 h2; simp (disch := omega) only [x_st_o])) | rfl) only [bk_196_0, bk_196_2, bk_196_4, bk_196_6, bk_196_7, bk_196_8, bk_196_9, bk_196_10, wp_ic, wp_ist1, wp_fall, wp_ild1, wp_icge, wp_ald0, wr_50_22, wp_lc, ws_60, ws_61, wp_inc1, wp_goto, wr_50_21, wr_50_1, wl_51, wp_cald, wp_imul, wk_197, wp_iadd, wk_199, wp_ifne, wp_ist2, wp_ild2, wl_60, wl_61, wp_pald, wp_lcmp, wp_ifeq, wk_200, wp_inc2, wp_ret, x_clr_I, x_clr_J, x_clr_R, x_clr_U, ct_some, ct_none, lc_lt, lc_ge, lc_gt, lc_le, lc_eq, lc_r, xI_inj, xJ_inj, Option.some.injEq, eq_self, bi_r, bi_0, bi_1, bi_n, Classical.not_not, and_true, true_and, ite_true, ite_false, ↓reduceIte, ↓x_andl, z_le, z_nle, z_lt, z_nlt, z_eq, z_neq, if_pos, if_neg, x_andl, false_and, and_false, or_true, true_or, or_false, false_or, not_true, not_false_iff, x_rd_eq, x_rd_ne, x_st_o, Int.cast_ofNat_Int, Int.ofNat_zero, Int.ofNat_one, not_true_eq_false, not_false_eq_true, if_true, if_false, ite_self, and_self, Int.ofNat_eq_natCast, Int.tdiv_eq_ediv_of_nonneg, Int.tmod_eq_emod_of_nonneg, x_bm32]
      exact K2
    · intro σ2 ⟨e2, l2⟩
      have g51 : σ2 51 0 = w := by rw [e2 51 0 (by simp), e1 51 0 (by simp)]; exact h51
      have w2 : ∀ k, 0 ≤ k → k < 1680 → σ2 61 0 k = (-9223372036854775808) := by
        intro k p q
        rw [e2 61 0 (by simp)]
        exact w1 k p q
      have hx0 : 0 ≤ 42 * w 8 + (21 * w 10 + w 9) ∧ 42 * w 8 + (21 * w 10 + w 9) < 1680 := by omega
      rw [bk_196_3]
      simp (disch := first | omega | (simp only [x_wtI, x_wtJ, x_wtR, x_wtN]; omega) | assumption | (simp (disch := omega) only [x_st_o, x_rd_ne]; first | assumption | omega) | (apply mir_eq; assumption; (intro c h1 h2; simp (disch := omega) only [x_st_o])) | (apply mis_eq; assumption; (intro c h1 h2; simp (disch := omega) only [x_st_o])) | rfl) only [bk_196_0, bk_196_2, bk_196_4, bk_196_6, bk_196_7, bk_196_8, bk_196_9, bk_196_10, wp_ic, wp_ist1, wp_fall, wp_ild1, wp_icge, wp_ald0, wr_50_22, wp_lc, ws_60, ws_61, wp_inc1, wp_goto, wr_50_21, wr_50_1, wl_51, wp_cald, wp_imul, wk_197, wp_iadd, wk_199, wp_ifne, wp_ist2, wp_ild2, wl_60, wl_61, wp_pald, wp_lcmp, wp_ifeq, wk_200, wp_inc2, wp_ret, x_clr_I, x_clr_J, x_clr_R, x_clr_U, ct_some, ct_none, lc_lt, lc_ge, lc_gt, lc_le, lc_eq, lc_r, xI_inj, xJ_inj, Option.some.injEq, eq_self, bi_r, bi_0, bi_1, bi_n, Classical.not_not, and_true, true_and, ite_true, ite_false, ↓reduceIte, ↓x_andl, z_le, z_nle, z_lt, z_nlt, z_eq, z_neq, if_pos, if_neg, x_andl, false_and, and_false, or_true, true_or, or_false, false_or, not_true, not_false_iff, x_rd_eq, x_rd_ne, x_st_o, Int.cast_ofNat_Int, Int.ofNat_zero, Int.ofNat_one, not_true_eq_false, not_false_eq_true, if_true, if_false, ite_self, and_self, Int.ofNat_eq_natCast, Int.tdiv_eq_ediv_of_nonneg, Int.tmod_eq_emod_of_nonneg, x_bm32, g51, k_stateNow]
      generalize hσ3 : x_st σ2 61 0 (42 * w 8 + (21 * w 10 + w 9)) 0 = σ3
      have e3 : x_eqo [(60, 0), (61, 0)] σ σ3 := by
        subst hσ3
        exact eqo_st (by simp) (eqo_trans e1 (eqo_mono (by simp) e2))
      have g3 : gwn (-9223372036854775808) w (σ3 61 0) (w 8) := by
        subst hσ3
        refine ⟨fun s s0 s1 => ?_, fun k k0 k1 fr u => ?_⟩
        · by_cases c : s = 21 * w 10 + w 9
          · rw [if_pos c, c, x_rd_eq]
          · rw [if_neg c, x_rd_ne (by omega)]
            exact w2 _ (by omega) (by omega)
        · have p := fr_par hw n8.1 fr (by omega) k1
          omega
      have u3 : ∀ k, w 8 < k → k < w 0 → ∀ t, 0 ≤ t → t < 42 → σ3 61 0 (42 * k + t) = (-9223372036854775808) := by
        subst hσ3
        intro k k0 k1 t t0 t1
        rw [x_rd_ne (by omega)]
        exact w2 _ (by omega) (by omega)
      have l3 : ∀ e, 0 ≤ e → e < w 0 → σ3 60 0 e = (-9223372036854775808) := by
        subst hσ3
        intro e p q
        rw [x_st_o (by omega)]
        exact l2 e p (by omega)
      refine x_lpK (α := x_S × x_V) (fun i q => x_eqo [(60, 0), (61, 0)] σ q.1 ∧ gwn (-9223372036854775808) w (q.1 61 0) i ∧ (∀ k, w 8 < k → k < w 0 → p_fr w (w 8) k → i ≤ w_of w k 0 → ∀ t, 0 ≤ t → t < 42 → q.1 61 0 (42 * k + t) = (-9223372036854775808)) ∧ (∀ e, w 8 ≤ e → e < i → p_fr w (w 8) e → w_of w e 7 = 0 → x_ml (-9223372036854775808) (y_end (-9223372036854775808) w (q.1 61 0) e) (q.1 60 0 e)) ∧ ∀ e, 0 ≤ e → e < w 0 → ¬ (e < i ∧ p_fr w (w 8) e ∧ w_of w e 7 = 0) → q.1 60 0 e = (-9223372036854775808)) (fun i q => x_Wp 4 196 (x_blk 196 5) [xR 50 0, xI i, q.2] [] q.1 Q) (lo := w 8) (hi := w 0) (by omega) (a0 := (σ3, xU)) ⟨e3, g3, fun k k0 k1 _ _ => u3 k k0 k1, fun e p q => by omega, fun e p q _ => l3 e p q⟩ ?_ ?_
      · intro i ⟨σi, u⟩ i0 i1 ⟨j1, j2, j3, j4, j5⟩ K
        simp only at j1 j2 j3 j4 j5 ⊢
        have gi : σi 51 0 = w := by rw [j1 51 0 (by simp)]; exact h51
        have gE : σi 50 0 17 = 5 := by rw [j1 50 0 (by simp)]; exact hE
        by_cases fr : p_fr w (w 8) i
        · have hb : ybg (-9223372036854775808) w (σi 61 0) i := gwn_b hw hn j2 i i0 i1 fr (by
            by_cases c : i = w 8
            · exact Or.inl c
            · exact Or.inr (fr_par hw n8.1 fr c i1).2.2.1)
          have o := wf_f hw (f := i) (by omega) i1
          unfold wf_one at o
          have wb : ∀ s t u, swf w (σi 61 0) i s t u → -150000 ≤ u ∧ u ≤ 150000 := by
            rintro s t u ⟨st, wd, p1, p2, p3, p4, b, x, p5⟩
            have z := fdz_b hw (by omega) i1 p1 p5
            have y := (hb (21 * wd + st) (by omega) (by omega)).resolve_left p4
            omega
          have st0 : fdJ w (σi 61 0) i σi 0 σi := by
            refine ⟨eqo_refl, fun _ _ => rfl, fun k k0 k1 t t0 t1 => ?_, fun _ _ => rfl, fun kz => ?_⟩
            · have kk := wf_k hw (by omega) i1 k0 k1
              rw [j3 _ (by omega) kk.2.1 (fr_kid hw n8.1 fr (by omega) i1 k0 k1) (by omega) t t0 t1]
              exact ml_nil (fun u ⟨st, wd, p1, p2, p3, _⟩ => by omega)
            · rw [j5 i (by omega) i1 (fun z => by omega)]
              exact ml_nil (fun u ⟨t, _, st, wd, p1, p2, p3, _⟩ => by omega)
          rw [bk_196_5]
          simp (disch := first | omega | (simp only [x_wtI, x_wtJ, x_wtR, x_wtN]; omega) | assumption | (simp (disch := omega) only [x_st_o, x_rd_ne]; first | assumption | omega) | (apply mir_eq; assumption; (intro c h1 h2; simp (disch := omega) only [x_st_o])) | (apply mis_eq; assumption; (intro c h1 h2; simp (disch := omega) only [x_st_o])) | rfl) only [bk_196_0, bk_196_2, bk_196_4, bk_196_6, bk_196_8, bk_196_9, bk_196_10, wp_ic, wp_ist1, wp_fall, wp_ild1, wp_icge, wp_ald0, wr_50_22, wp_lc, ws_60, ws_61, wp_inc1, wp_goto, wr_50_21, wr_50_1, wl_51, wp_cald, wp_imul, wk_197, wp_iadd, wk_199, wp_ifne, wp_ist2, wp_ild2, wl_60, wl_61, wp_pald, wp_lcmp, wp_ifeq, wk_200, wp_inc2, wp_ret, x_clr_I, x_clr_J, x_clr_R, x_clr_U, ct_some, ct_none, lc_lt, lc_ge, lc_gt, lc_le, lc_eq, lc_r, xI_inj, xJ_inj, Option.some.injEq, eq_self, bi_r, bi_0, bi_1, bi_n, Classical.not_not, and_true, true_and, ite_true, ite_false, ↓reduceIte, ↓x_andl, z_le, z_nle, z_lt, z_nlt, z_eq, z_neq, if_pos, if_neg, x_andl, false_and, and_false, or_true, true_or, or_false, false_or, not_true, not_false_iff, x_rd_eq, x_rd_ne, x_st_o, Int.cast_ofNat_Int, Int.ofNat_zero, Int.ofNat_one, not_true_eq_false, not_false_eq_true, if_true, if_false, ite_self, and_self, Int.ofNat_eq_natCast, Int.tdiv_eq_ediv_of_nonneg, Int.tmod_eq_emod_of_nonneg, x_bm32, gi, k_isFromNow, bi_t]
          refine x_lpK (α := x_S) (fun s σs => fdJ w (σi 61 0) i σi s σs) (fun s σs => x_Wp 4 196 (x_blk 196 7) [xR 50 0, xI i, xI s] [] σs Q) (lo := 0) (hi := 42) (by omega) (a0 := σi) st0 ?_ ?_
          · intro s σs s0 s1 hJ K2
            obtain ⟨b1, b2, b3, b4, b5⟩ := id hJ
            have rowi : σs 61 0 (42 * i + s) = σi 61 0 (42 * i + s) := b2 _ (fun k k0 k1 => by
              have kk := wf_k hw (f := i) (i := k) (by omega) i1 k0 k1
              omega)
            have hbs := hb s s0 s1
            by_cases cy : σi 61 0 (42 * i + s) = (-9223372036854775808)
            · have K3 := K2 σs ⟨b1, b2, fun k k0 k1 t t0 t1 => ml_cg (b3 k k0 k1 t t0 t1) (fun u => (swf_n ⟨s0, s1⟩ cy).symm), b4, fun kz => ml_cg (b5 kz) (fun u => by
                constructor
                · rintro ⟨t, p, q⟩
                  exact ⟨t, p, (swf_n ⟨s0, s1⟩ cy).mpr q⟩
                · rintro ⟨t, p, q⟩
                  exact ⟨t, p, (swf_n ⟨s0, s1⟩ cy).mp q⟩)⟩
              rw [cy] at rowi
              rw [bk_196_7]
              simp (disch := first | omega | (simp only [x_wtI, x_wtJ, x_wtR, x_wtN]; omega) | assumption | (simp (disch := omega) only [x_st_o, x_rd_ne]; first | assumption | omega) | (apply mir_eq; assumption; (intro c h1 h2; simp (disch := omega) only [x_st_o])) | (apply mis_eq; assumption; (intro c h1 h2; simp (disch := omega) only [x_st_o])) | rfl) only [bk_196_0, bk_196_2, bk_196_4, bk_196_6, bk_196_8, bk_196_9, bk_196_10, wp_ic, wp_ist1, wp_fall, wp_ild1, wp_icge, wp_ald0, wr_50_22, wp_lc, ws_60, ws_61, wp_inc1, wp_goto, wr_50_21, wr_50_1, wl_51, wp_cald, wp_imul, wk_197, wp_iadd, wk_199, wp_ifne, wp_ist2, wp_ild2, wl_60, wl_61, wp_pald, wp_lcmp, wp_ifeq, wk_200, wp_inc2, wp_ret, x_clr_I, x_clr_J, x_clr_R, x_clr_U, ct_some, ct_none, lc_lt, lc_ge, lc_gt, lc_le, lc_eq, lc_r, xI_inj, xJ_inj, Option.some.injEq, eq_self, bi_r, bi_0, bi_1, bi_n, Classical.not_not, and_true, true_and, ite_true, ite_false, ↓reduceIte, ↓x_andl, z_le, z_nle, z_lt, z_nlt, z_eq, z_neq, if_pos, if_neg, x_andl, false_and, and_false, or_true, true_or, or_false, false_or, not_true, not_false_iff, x_rd_eq, x_rd_ne, x_st_o, Int.cast_ofNat_Int, Int.ofNat_zero, Int.ofNat_one, not_true_eq_false, not_false_eq_true, if_true, if_false, ite_self, and_self, Int.ofNat_eq_natCast, Int.tdiv_eq_ediv_of_nonneg, Int.tmod_eq_emod_of_nonneg, x_bm32, rowi]
              exact K3
            · have es : s = 21 * (s / 21) + s % 21 := by omega
              have yb := hbs.resolve_left cy
              obtain ⟨st, hst⟩ : ∃ st, st = s % 21 := ⟨_, rfl⟩
              obtain ⟨wd, hwd⟩ : ∃ wd, wd = s / 21 := ⟨_, rfl⟩
              rw [← hst, ← hwd] at es
              have hs2 : 0 ≤ st ∧ st ≤ 20 := by omega
              have hd2 : 0 ≤ wd ∧ wd ≤ 1 := by omega
              clear hst hwd
              subst es
              have gs : σs 51 0 = w := by rw [b1 51 0 (by simp)]; exact gi
              have gEs : σs 50 0 17 = 5 := by rw [b1 50 0 (by simp)]; exact gE
              have zlo : ∀ t x u, x < -20 → ¬ fdz w i st wd (σi 61 0 (42 * i + (21 * wd + st))) t 0 x u := fun t x u p z => by have := fdz_b hw (by omega) i1 hs2 z; omega
              have zb0 : ∀ t b x u, b < 0 → ¬ fdz w i st wd (σi 61 0 (42 * i + (21 * wd + st))) t b x u := fun t b x u p z => by have := fdz_b hw (by omega) i1 hs2 z; omega
              have zb2 : ∀ t b x u, 2 ≤ b → ¬ fdz w i st wd (σi 61 0 (42 * i + (21 * wd + st))) t b x u := fun t b x u p z => by have := fdz_b hw (by omega) i1 hs2 z; omega
              have hI : fdI w i st wd (σi 61 0 (42 * i + (21 * wd + st))) (swf w (σi 61 0) i (21 * wd + st)) σs 0 (-20) σs := by
                refine ⟨eqo_refl, fun _ _ => rfl, fun k k0 k1 t t0 t1 => ml_cg (b3 k k0 k1 t t0 t1) (fun u => ?_), fun _ _ => rfl, fun kz => ml_cg (b5 kz) (fun u => ?_)⟩
                · have nv := vis_0 (Z := fdz w i st wd (σi 61 0 (42 * i + (21 * wd + st))) t) (lo := -20) (fun b x u => zb0 t b x u) (fun x u => zlo t x u) u
                  exact ⟨Or.inl, fun z => z.resolve_right nv⟩
                · have nv := vis_0 (Z := fun b x u => ∃ t, (0 ≤ t ∧ t < 42) ∧ fdz w i st wd (σi 61 0 (42 * i + (21 * wd + st))) t b x u) (lo := -20) (fun b x u p ⟨t, _, q⟩ => zb0 t b x u p q) (fun x u p ⟨t, _, q⟩ => zlo t x u p q) u
                  exact ⟨Or.inl, fun z => z.resolve_right nv⟩
              obtain ⟨r, σ', ⟨hr, c1, c2, c3, c4, c5⟩, xx⟩ := x_ex (h_finds gs gEs hw (by omega) i1 hs2 hd2 rowi (by omega) (fun t u z => wb _ t u z) hI)
              subst hr
              have K3 := K2 σ' ⟨eqo_trans b1 c1, fun q hq => by rw [c2 q hq, b2 q hq], fun k k0 k1 t t0 t1 => ml_cg (c3 k k0 k1 t t0 t1) (fun u => by
                rw [vis_2 (fun b x u => zb2 t b x u) u]
                exact (swf_s hs2 hd2 cy).symm), fun e he => by rw [c4 e he, b4 e he], fun kz => ml_cg (c5 kz) (fun u => by
                rw [vis_2 (fun b x u p ⟨t, _, q⟩ => zb2 t b x u p q) u]
                constructor
                · rintro (⟨t, p, q⟩ | ⟨b, x, t, p, q⟩)
                  · exact ⟨t, p, (swf_s hs2 hd2 cy).mpr (Or.inl q)⟩
                  · exact ⟨t, p, (swf_s hs2 hd2 cy).mpr (Or.inr ⟨b, x, q⟩)⟩
                · rintro ⟨t, p, q⟩
                  rcases (swf_s hs2 hd2 cy).mp q with z | ⟨b, x, z⟩
                  · exact Or.inl ⟨t, p, z⟩
                  · exact Or.inr ⟨b, x, t, p, z⟩)⟩
              rw [bk_196_7]
              simp (disch := first | omega | (simp only [x_wtI, x_wtJ, x_wtR, x_wtN]; omega) | assumption | (simp (disch := omega) only [x_st_o, x_rd_ne]; first | assumption | omega) | (apply mir_eq; assumption; (intro c h1 h2; simp (disch := omega) only [x_st_o])) | (apply mis_eq; assumption; (intro c h1 h2; simp (disch := omega) only [x_st_o])) | rfl) only [bk_196_0, bk_196_2, bk_196_4, bk_196_6, bk_196_8, bk_196_9, bk_196_10, wp_ic, wp_ist1, wp_fall, wp_ild1, wp_icge, wp_ald0, wr_50_22, wp_lc, ws_60, ws_61, wp_inc1, wp_goto, wr_50_21, wr_50_1, wl_51, wp_cald, wp_imul, wk_197, wp_iadd, wk_199, wp_ifne, wp_ist2, wp_ild2, wl_60, wl_61, wp_pald, wp_lcmp, wp_ifeq, wk_200, wp_inc2, wp_ret, x_clr_I, x_clr_J, x_clr_R, x_clr_U, ct_some, ct_none, lc_lt, lc_ge, lc_gt, lc_le, lc_eq, lc_r, xI_inj, xJ_inj, Option.some.injEq, eq_self, bi_r, bi_0, bi_1, bi_n, Classical.not_not, and_true, true_and, ite_true, ite_false, ↓reduceIte, ↓x_andl, z_le, z_nle, z_lt, z_nlt, z_eq, z_neq, if_pos, if_neg, x_andl, false_and, and_false, or_true, true_or, or_false, false_or, not_true, not_false_iff, x_rd_eq, x_rd_ne, x_st_o, Int.cast_ofNat_Int, Int.ofNat_zero, Int.ofNat_one, not_true_eq_false, not_false_eq_true, if_true, if_false, ite_self, and_self, Int.ofNat_eq_natCast, Int.tdiv_eq_ediv_of_nonneg, Int.tmod_eq_emod_of_nonneg, x_bm32, rowi]
              refine (xx 0 _).mpr ?_
              simp (disch := first | omega | (simp only [x_wtI, x_wtJ, x_wtR, x_wtN]; omega) | assumption | (simp (disch := omega) only [x_st_o, x_rd_ne]; first | assumption | omega) | (apply mir_eq; assumption; (intro c h1 h2; simp (disch := omega) only [x_st_o])) | (apply mis_eq; assumption; (intro c h1 h2; simp (disch := omega) only [x_st_o])) | rfl) only [bk_196_0, bk_196_2, bk_196_4, bk_196_6, bk_196_8, bk_196_9, bk_196_10, wp_ic, wp_ist1, wp_fall, wp_ild1, wp_icge, wp_ald0, wr_50_22, wp_lc, ws_60, ws_61, wp_inc1, wp_goto, wr_50_21, wr_50_1, wl_51, wp_cald, wp_imul, wk_197, wp_iadd, wk_199, wp_ifne, wp_ist2, wp_ild2, wl_60, wl_61, wp_pald, wp_lcmp, wp_ifeq, wk_200, wp_inc2, wp_ret, x_clr_I, x_clr_J, x_clr_R, x_clr_U, ct_some, ct_none, lc_lt, lc_ge, lc_gt, lc_le, lc_eq, lc_r, xI_inj, xJ_inj, Option.some.injEq, eq_self, bi_r, bi_0, bi_1, bi_n, Classical.not_not, and_true, true_and, ite_true, ite_false, ↓reduceIte, ↓x_andl, z_le, z_nle, z_lt, z_nlt, z_eq, z_neq, if_pos, if_neg, x_andl, false_and, and_false, or_true, true_or, or_false, false_or, not_true, not_false_iff, x_rd_eq, x_rd_ne, x_st_o, Int.cast_ofNat_Int, Int.ofNat_zero, Int.ofNat_one, not_true_eq_false, not_false_eq_true, if_true, if_false, ite_self, and_self, Int.ofNat_eq_natCast, Int.tdiv_eq_ediv_of_nonneg, Int.tmod_eq_emod_of_nonneg, x_bm32]
              exact K3
          · intro σs ⟨b1, b2, b3, b4, b5⟩
            obtain ⟨g1, low⟩ := gwn_s hw hn j2 i0 i1 b2 (fun k k0 k1 t t0 t1 => ml_cg (b3 k k0 k1 t t0 t1) (fun u => swf_y))
            have K3 := K (σs, xI 42) ⟨eqo_trans j1 b1, g1, fun k k0 k1 fk uk t t0 t1 => by
              show σs 61 0 (42 * k + t) = _
              rw [b2 _ (fun q q0 q1 => by
                have kk := wf_k hw (f := i) (i := q) (by omega) i1 q0 q1
                have : ¬ w_of w i (8 + q) = k := fun y => by rw [y] at kk; omega
                omega)]
              exact j3 k k0 k1 fk (by omega) t t0 t1, fun e p q fe ke => by
              show x_ml _ (y_end _ w (σs 61 0) e) (σs 60 0 e)
              by_cases c : e = i
              · subst c
                refine ml_cg (b5 ke) (fun u => ?_)
                rw [ye_cg (low e (by omega) (by omega)) u]
                constructor
                · rintro ⟨t, p, q⟩
                  exact ⟨t, p, swf_y.mp q⟩
                · rintro ⟨t, p, q⟩
                  exact ⟨t, p, swf_y.mpr q⟩
              · rw [b4 e (fun z => c z.1)]
                exact ml_cg (j4 e p (by omega) fe ke) (fun u => (ye_cg (low e (by omega) (by omega)) u).symm), fun e p q he => by
              show σs 60 0 e = _
              by_cases c : e = i
              · subst c
                rw [b4 e (fun z => he ⟨by omega, fr, z.2⟩)]
                exact j5 e p q (fun z => by omega)
              · rw [b4 e (fun z => c z.1)]
                exact j5 e p q (fun z => he ⟨by omega, z.2⟩)⟩
            rw [bk_196_7]
            simp (disch := first | omega | (simp only [x_wtI, x_wtJ, x_wtR, x_wtN]; omega) | assumption | (simp (disch := omega) only [x_st_o, x_rd_ne]; first | assumption | omega) | (apply mir_eq; assumption; (intro c h1 h2; simp (disch := omega) only [x_st_o])) | (apply mis_eq; assumption; (intro c h1 h2; simp (disch := omega) only [x_st_o])) | rfl) only [bk_196_0, bk_196_2, bk_196_4, bk_196_6, bk_196_8, bk_196_9, bk_196_10, wp_ic, wp_ist1, wp_fall, wp_ild1, wp_icge, wp_ald0, wr_50_22, wp_lc, ws_60, ws_61, wp_inc1, wp_goto, wr_50_21, wr_50_1, wl_51, wp_cald, wp_imul, wk_197, wp_iadd, wk_199, wp_ifne, wp_ist2, wp_ild2, wl_60, wl_61, wp_pald, wp_lcmp, wp_ifeq, wk_200, wp_inc2, wp_ret, x_clr_I, x_clr_J, x_clr_R, x_clr_U, ct_some, ct_none, lc_lt, lc_ge, lc_gt, lc_le, lc_eq, lc_r, xI_inj, xJ_inj, Option.some.injEq, eq_self, bi_r, bi_0, bi_1, bi_n, Classical.not_not, and_true, true_and, ite_true, ite_false, ↓reduceIte, ↓x_andl, z_le, z_nle, z_lt, z_nlt, z_eq, z_neq, if_pos, if_neg, x_andl, false_and, and_false, or_true, true_or, or_false, false_or, not_true, not_false_iff, x_rd_eq, x_rd_ne, x_st_o, Int.cast_ofNat_Int, Int.ofNat_zero, Int.ofNat_one, not_true_eq_false, not_false_eq_true, if_true, if_false, ite_self, and_self, Int.ofNat_eq_natCast, Int.tdiv_eq_ediv_of_nonneg, Int.tmod_eq_emod_of_nonneg, x_bm32]
            exact K3
        · have K3 := K (σi, u) ⟨j1, gwn_skip hw hn j2 fr, fun k k0 k1 fk uk => j3 k k0 k1 fk (by omega), fun e p q fe ke => by
            by_cases c : e = i
            · subst c
              exact absurd fe fr
            · exact j4 e p (by omega) fe ke, fun e p q he => j5 e p q (fun z => he ⟨by omega, z.2⟩)⟩
          rw [bk_196_5]
          simp (disch := first | omega | (simp only [x_wtI, x_wtJ, x_wtR, x_wtN]; omega) | assumption | (simp (disch := omega) only [x_st_o, x_rd_ne]; first | assumption | omega) | (apply mir_eq; assumption; (intro c h1 h2; simp (disch := omega) only [x_st_o])) | (apply mis_eq; assumption; (intro c h1 h2; simp (disch := omega) only [x_st_o])) | rfl) only [bk_196_0, bk_196_2, bk_196_4, bk_196_6, bk_196_8, bk_196_9, bk_196_10, wp_ic, wp_ist1, wp_fall, wp_ild1, wp_icge, wp_ald0, wr_50_22, wp_lc, ws_60, ws_61, wp_inc1, wp_goto, wr_50_21, wr_50_1, wl_51, wp_cald, wp_imul, wk_197, wp_iadd, wk_199, wp_ifne, wp_ist2, wp_ild2, wl_60, wl_61, wp_pald, wp_lcmp, wp_ifeq, wk_200, wp_inc2, wp_ret, x_clr_I, x_clr_J, x_clr_R, x_clr_U, ct_some, ct_none, lc_lt, lc_ge, lc_gt, lc_le, lc_eq, lc_r, xI_inj, xJ_inj, Option.some.injEq, eq_self, bi_r, bi_0, bi_1, bi_n, Classical.not_not, and_true, true_and, ite_true, ite_false, ↓reduceIte, ↓x_andl, z_le, z_nle, z_lt, z_nlt, z_eq, z_neq, if_pos, if_neg, x_andl, false_and, and_false, or_true, true_or, or_false, false_or, not_true, not_false_iff, x_rd_eq, x_rd_ne, x_st_o, Int.cast_ofNat_Int, Int.ofNat_zero, Int.ofNat_one, not_true_eq_false, not_false_eq_true, if_true, if_false, ite_self, and_self, Int.ofNat_eq_natCast, Int.tdiv_eq_ediv_of_nonneg, Int.tmod_eq_emod_of_nonneg, x_bm32, gi, k_isFromNow, bi_f]
          exact K3
      · intro ⟨σi, u⟩ ⟨j1, j2, j3, j4, j5⟩
        simp only at j1 j2 j3 j4 j5 ⊢
        have gi : σi 51 0 = w := by rw [j1 51 0 (by simp)]; exact h51
        rw [bk_196_5]
        simp (disch := first | omega | (simp only [x_wtI, x_wtJ, x_wtR, x_wtN]; omega) | assumption | (simp (disch := omega) only [x_st_o, x_rd_ne]; first | assumption | omega) | (apply mir_eq; assumption; (intro c h1 h2; simp (disch := omega) only [x_st_o])) | (apply mis_eq; assumption; (intro c h1 h2; simp (disch := omega) only [x_st_o])) | rfl) only [bk_196_0, bk_196_2, bk_196_4, bk_196_6, bk_196_8, bk_196_9, bk_196_10, wp_ic, wp_ist1, wp_fall, wp_ild1, wp_icge, wp_ald0, wr_50_22, wp_lc, ws_60, ws_61, wp_inc1, wp_goto, wr_50_21, wr_50_1, wl_51, wp_cald, wp_imul, wk_197, wp_iadd, wk_199, wp_ifne, wp_ist2, wp_ild2, wl_60, wl_61, wp_pald, wp_lcmp, wp_ifeq, wk_200, wp_inc2, wp_ret, x_clr_I, x_clr_J, x_clr_R, x_clr_U, ct_some, ct_none, lc_lt, lc_ge, lc_gt, lc_le, lc_eq, lc_r, xI_inj, xJ_inj, Option.some.injEq, eq_self, bi_r, bi_0, bi_1, bi_n, Classical.not_not, and_true, true_and, ite_true, ite_false, ↓reduceIte, ↓x_andl, z_le, z_nle, z_lt, z_nlt, z_eq, z_neq, if_pos, if_neg, x_andl, false_and, and_false, or_true, true_or, or_false, false_or, not_true, not_false_iff, x_rd_eq, x_rd_ne, x_st_o, Int.cast_ofNat_Int, Int.ofNat_zero, Int.ofNat_one, not_true_eq_false, not_false_eq_true, if_true, if_false, ite_self, and_self, Int.ofNat_eq_natCast, Int.tdiv_eq_ediv_of_nonneg, Int.tmod_eq_emod_of_nonneg, x_bm32, gi]
        refine hQ _ _ ⟨rfl, j1, ⟨j2.1, fun k k0 k1 fr => j2.2 k k0 k1 fr (by
          have p := fr_par hw n8.1 fr (by omega) k1
          omega)⟩, j4, fun e p q he => j5 e p q (fun z => he z.2)⟩

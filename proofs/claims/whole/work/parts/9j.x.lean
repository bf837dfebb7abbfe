theorem h_worthN {σ : x_S} {w T L : Int → Int} {c E Wd f st wd x b : Int} (h51 : σ 51 0 = w) (hE : σ 50 0 17 = E) (hWd : σ 50 0 18 = Wd) (hT0 : σ 59 0 = T) (hL0 : σ 60 0 = L) (hw : wf w) (h0 : 0 ≤ f) (h1 : f < w 0) (hE2 : 0 ≤ E ∧ E ≤ 100) (hW2 : 0 ≤ Wd ∧ Wd ≤ 100) (hc : 0 ≤ c ∧ c ≤ 3) (hs : 0 ≤ st ∧ st ≤ 20) (hd : 0 ≤ wd ∧ wd ≤ 1) (hb : 0 ≤ b ∧ b ≤ 1) (hx : -20 ≤ x ∧ x ≤ 20)
    (hT : ∀ i, 0 ≤ i → i < w_of w f 7 → t_bd (-9223372036854775808) w T (w_of w f (8 + i))) (hL : ∀ b t, s_law w Wd f st wd b t → c = 2 → p_end w E f → -170000 ≤ L f ∧ L f ≤ 170000) : x_Sp 5 207 [xR 50 0, xI c, xI f, xI (21 * wd + st), xI x, xI b] σ (fun r σ' => σ' = σ ∧ ∃ v, r = some (xJ v) ∧ wor c E Wd w L T f st wd b (st + x - w_of w f 5) v) := by
  have a := wf_h hw
  unfold wf_hdr at a
  have o := wf_f hw h0 h1
  unfold wf_one at o
  by_cases l : s_law w Wd f st wd b (st + x - w_of w f 5)
  · exact h_worth h51 hE hWd hT0 hL0 hw h0 h1 hE2 hW2 hc hs hd hb hx hT (hL _ _ l)
  · have iff := sl_iff (Wd := Wd) (x := x) hw h0 h1 hs hd hb
    refine x_gen (fun Q hQ => ?_)
    by_cases cl : p_law w f st wd x b
    · have b1 : b = 1 ∧ Wd < w_of w f 6 := by
        by_cases q : b = 1
        · by_cases q2 : w_of w f 6 ≤ Wd
          · exact absurd (iff.mpr ⟨cl, fun _ => q2⟩) l
          · exact ⟨q, by omega⟩
        · exact absurd (iff.mpr ⟨cl, fun z => absurd z q⟩) l
      have po := p_or_01 (a := wd) (b := b)
      have rb := room_b hw (l := p_or wd b)
      have eb : p_beh w f (21 * wd + st) x b = 21 * p_or wd b + (st + x - w_of w f 5) := by
        unfold p_beh
        rw [show (21 * wd + st) % 21 = st by omega, show (21 * wd + st) / 21 = wd by omega, if_pos ⟨by omega, cl⟩]
      have nb : ¬ 21 * p_or wd b + (st + x - w_of w f 5) = -1 := by
        have := cl.2.2.2.1
        omega
      have tb : 0 ≤ 21 * p_or wd b + (st + x - w_of w f 5) ∧ 21 * p_or wd b + (st + x - w_of w f 5) < 42 := by
        have := cl.2.2.2
        omega
      generalize 21 * p_or wd b + (st + x - w_of w f 5) = t1 at eb nb tb
      simp (disch := first | omega | (simp only [x_wtI, x_wtJ, x_wtR, x_wtN]; omega) | assumption | (simp (disch := omega) only [x_st_o, x_rd_ne]; first | assumption | omega) | (apply mir_eq; assumption; (intro c h1 h2; simp (disch := omega) only [x_st_o])) | (apply mis_eq; assumption; (intro c h1 h2; simp (disch := omega) only [x_st_o])) | rfl) only [sp_207, bk_207_0, bk_207_1, bk_207_2, bk_207_3, bk_207_4, bk_207_5, bk_207_6, bk_207_7, bk_207_8, bk_207_9, bk_207_10, bk_207_11, bk_207_12, bk_207_13, bk_207_14, bk_207_15, bk_207_16, bk_207_17, wp_ald0, wp_ild2, wp_ild3, wp_ild4, wp_ild5, wk_201, wp_ist6, wp_ild6, wp_ic, wp_iceq, wp_icne, wk_192, wp_geti kd_50, wp_icle, wp_fall, wp_lc, wp_lret, wk_202, wp_i2l, wp_lst7, wk_203, wp_ifeq, wp_ild1, wp_ifne, wp_lld7, wk_206, wp_lmul, wp_goto, wr_50_21, wl_59, wl_60, wp_pald, wp_lsub, wk_276, c_maxj, wp_lst9, wp_ist11, wp_ild11, wp_icge, wp_iadd, wp_ist12, wr_50_20, wp_ild12, wp_imul, wp_lst13, wp_lld13, wp_lcmp, wp_lld9, wp_ladd, wp_inc11, x_clr_I, x_clr_J, x_clr_R, x_clr_U, ct_some, ct_none, lc_lt, lc_ge, lc_gt, lc_le, lc_eq, lc_r, xI_inj, xJ_inj, Option.some.injEq, eq_self, bi_r, bi_0, bi_1, bi_n, Classical.not_not, and_true, true_and, ite_true, ite_false, ↓reduceIte, ↓x_andl, z_le, z_nle, z_lt, z_nlt, z_eq, z_neq, if_pos, if_neg, x_andl, false_and, and_false, or_true, true_or, or_false, false_or, not_true, not_false_iff, x_rd_eq, x_rd_ne, x_st_o, Int.cast_ofNat_Int, Int.ofNat_zero, Int.ofNat_one, not_true_eq_false, not_false_eq_true, if_true, if_false, ite_self, and_self, Int.ofNat_eq_natCast, Int.tdiv_eq_ediv_of_nonneg, Int.tmod_eq_emod_of_nonneg, x_bm32, k_behind, eb, k_of, hWd]
      exact hQ _ _ ⟨rfl, (-9223372036854775808), rfl, Or.inl ⟨rfl, fun z => l z.1⟩⟩
    · have eb : p_beh w f (21 * wd + st) x b = -1 := by
        unfold p_beh
        rw [show (21 * wd + st) % 21 = st by omega, show (21 * wd + st) / 21 = wd by omega, if_neg (fun z => cl z.2)]
      simp (disch := first | omega | (simp only [x_wtI, x_wtJ, x_wtR, x_wtN]; omega) | assumption | (simp (disch := omega) only [x_st_o, x_rd_ne]; first | assumption | omega) | (apply mir_eq; assumption; (intro c h1 h2; simp (disch := omega) only [x_st_o])) | (apply mis_eq; assumption; (intro c h1 h2; simp (disch := omega) only [x_st_o])) | rfl) only [sp_207, bk_207_0, bk_207_1, bk_207_2, bk_207_3, bk_207_4, bk_207_5, bk_207_6, bk_207_7, bk_207_8, bk_207_9, bk_207_10, bk_207_11, bk_207_12, bk_207_13, bk_207_14, bk_207_15, bk_207_16, bk_207_17, wp_ald0, wp_ild2, wp_ild3, wp_ild4, wp_ild5, wk_201, wp_ist6, wp_ild6, wp_ic, wp_iceq, wp_icne, wk_192, wp_geti kd_50, wp_icle, wp_fall, wp_lc, wp_lret, wk_202, wp_i2l, wp_lst7, wk_203, wp_ifeq, wp_ild1, wp_ifne, wp_lld7, wk_206, wp_lmul, wp_goto, wr_50_21, wl_59, wl_60, wp_pald, wp_lsub, wk_276, c_maxj, wp_lst9, wp_ist11, wp_ild11, wp_icge, wp_iadd, wp_ist12, wr_50_20, wp_ild12, wp_imul, wp_lst13, wp_lld13, wp_lcmp, wp_lld9, wp_ladd, wp_inc11, x_clr_I, x_clr_J, x_clr_R, x_clr_U, ct_some, ct_none, lc_lt, lc_ge, lc_gt, lc_le, lc_eq, lc_r, xI_inj, xJ_inj, Option.some.injEq, eq_self, bi_r, bi_0, bi_1, bi_n, Classical.not_not, and_true, true_and, ite_true, ite_false, ↓reduceIte, ↓x_andl, z_le, z_nle, z_lt, z_nlt, z_eq, z_neq, if_pos, if_neg, x_andl, false_and, and_false, or_true, true_or, or_false, false_or, not_true, not_false_iff, x_rd_eq, x_rd_ne, x_st_o, Int.cast_ofNat_Int, Int.ofNat_zero, Int.ofNat_one, not_true_eq_false, not_false_eq_true, if_true, if_false, ite_self, and_self, Int.ofNat_eq_natCast, Int.tdiv_eq_ediv_of_nonneg, Int.tmod_eq_emod_of_nonneg, x_bm32, k_behind, eb]
      exact hQ _ _ ⟨rfl, (-9223372036854775808), rfl, Or.inl ⟨rfl, fun z => l z.1⟩⟩
theorem h_nth {L : Int} {S0 : Int → Int} {σ : x_S} {w V : Int → Int} {c i : Int} (hh : iN L S0 σ) (h51 : σ 51 0 = w) (hc : 0 ≤ c ∧ c ≤ 2) (hi : -2147483648 ≤ i ∧ i ≤ 2147483647)
    (hV : ∀ (T L' Ym : Int → Int), gT c 5 4 (-1) w L' T (w 8) → (c = 2 → mwy w Ym L') → ∀ b t, 0 ≤ b → b ≤ 1 → 0 ≤ t → t ≤ 20 → (V (21 * b + t) = 9223372036854775807 ↔ ∀ u, ¬ zst (-9223372036854775808) c 5 4 w L' T (w 8) (w 9) (w 10) b t u)) :
    x_Sp 8 211 [xR 50 0, xI c, xI i] σ (fun r σ' => r = some (xI (ocn V 42)) ∧ x_eqo [(50, 0), (59, 0), (60, 0), (61, 0)] σ σ' ∧ iN L S0 σ' ∧ gT c 5 4 (-1) w (σ' 60 0) (σ' 59 0) (w 8) ∧ (c = 2 → mwy w (σ' 61 0) (σ' 60 0)) ∧ (0 ≤ i → i < ocn V 42 → ∃ p, (0 ≤ p ∧ p < 42) ∧ ¬ V p = 9223372036854775807 ∧ ocn V p.toNat = i ∧ σ' 50 0 23 = p % 21 + w_of w (w 8) 5 - w 9 ∧ σ' 50 0 24 = p / 21)) := by
  obtain ⟨w', h51', hw, h100, hn, hq, hM, hS⟩ := iN_w hh
  have ew : w' = w := h51'.symm.trans h51
  subst ew
  have a := wf_h hw
  unfold wf_hdr at a
  obtain ⟨n8, n9, n10, _⟩ := id hn
  have o := wf_f hw (f := w' 8) (by omega) (by omega)
  unfold wf_one at o
  refine x_gen (fun Q hQ => ?_)
  simp (disch := first | omega | (simp only [x_wtI, x_wtJ, x_wtR, x_wtN]; omega) | assumption | (simp (disch := omega) only [x_st_o, x_rd_ne]; first | assumption | omega) | (apply mir_eq; assumption; (intro c h1 h2; simp (disch := omega) only [x_st_o])) | (apply mis_eq; assumption; (intro c h1 h2; simp (disch := omega) only [x_st_o])) | rfl) only [sp_211, bk_211_0, bk_211_2, bk_211_3, bk_211_4, bk_211_5, bk_211_6, bk_211_7, wp_ald0, wp_ild1, wk_195, wp_pop2, wp_ic, wp_ist3, wp_ist4, wp_fall, wp_ild4, wp_icge, wp_ist5, wp_ild5, wr_50_1, wl_51, wp_cald, wk_192, wp_icgt, wk_197, wk_207, wp_lc, wp_lcmp, wp_ifne, wp_goto, wp_ild3, wp_ild2, wp_icne, wp_puti kd_50, wp_inc3, wp_inc5, wp_inc4, wp_iret mz_211, x_clr_I, x_clr_J, x_clr_R, x_clr_U, ct_some, ct_none, lc_lt, lc_ge, lc_gt, lc_le, lc_eq, lc_r, xI_inj, xJ_inj, Option.some.injEq, eq_self, bi_r, bi_0, bi_1, bi_n, Classical.not_not, and_true, true_and, ite_true, ite_false, ↓reduceIte, ↓x_andl, z_le, z_nle, z_lt, z_nlt, z_eq, z_neq, if_pos, if_neg, x_andl, false_and, and_false, or_true, true_or, or_false, false_or, not_true, not_false_iff, x_rd_eq, x_rd_ne, x_st_o, Int.cast_ofNat_Int, Int.ofNat_zero, Int.ofNat_one, not_true_eq_false, not_false_eq_true, if_true, if_false, ite_self, and_self, Int.ofNat_eq_natCast, Int.tdiv_eq_ediv_of_nonneg, Int.tmod_eq_emod_of_nonneg, x_bm32]
  refine x_use (d := 0) (h_solveI hh (by omega)) ?_
  rintro r σ1 ⟨rfl, e1, hh1, g1, m1⟩
  rw [h51] at g1 m1
  have m := hh1.2.2.2.1
  have g51 : σ1 51 0 = w' := (e1 51 0 (by simp)).trans h51
  have vz := hV _ _ _ g1 m1
  have hLb : ∀ b t, s_law w' 4 (w' 8) (w' 9) (w' 10) b t → c = 2 → p_end w' 5 (w' 8) → -170000 ≤ σ1 60 0 (w' 8) ∧ σ1 60 0 (w' 8) ≤ 170000 := by
    intro b t l c2 pe
    have := (ym_end hw hn (m1 c2) (Int.le_refl _) n8.2 fr_self n9 n10 (rc_now hn (m1 c2)) l (pe.elim id (fun z => by omega))).2.1
    omega
  have hTk : ∀ q, 0 ≤ q → q < w_of w' (w' 8) 7 → t_bd (-9223372036854775808) w' (σ1 59 0) (w_of w' (w' 8) (8 + q)) := by
    intro q q0 q1
    have kk := wf_k hw (f := w' 8) (i := q) n8.1 n8.2 q0 q1
    exact (g1 _ (by omega) (by omega)).1
  have vL : ∀ b t, 0 ≤ b → b ≤ 1 → 0 ≤ t → t ≤ 20 → ¬ s_law w' 4 (w' 8) (w' 9) (w' 10) b t → V (21 * b + t) = 9223372036854775807 := fun b t p q p2 q2 l => (vz b t p q p2 q2).mpr (fun u z => l z.1.1)
  simp (disch := first | omega | (simp only [x_wtI, x_wtJ, x_wtR, x_wtN]; omega) | assumption | (simp (disch := omega) only [x_st_o, x_rd_ne]; first | assumption | omega) | (apply mir_eq; assumption; (intro c h1 h2; simp (disch := omega) only [x_st_o])) | (apply mis_eq; assumption; (intro c h1 h2; simp (disch := omega) only [x_st_o])) | rfl) only [bk_211_0, bk_211_2, bk_211_3, bk_211_4, bk_211_5, bk_211_6, bk_211_7, wp_ald0, wp_ild1, wk_195, wp_pop2, wp_ic, wp_ist3, wp_ist4, wp_fall, wp_ild4, wp_icge, wp_ist5, wp_ild5, wr_50_1, wl_51, wp_cald, wk_192, wp_icgt, wk_197, wk_207, wp_lc, wp_lcmp, wp_ifne, wp_goto, wp_ild3, wp_ild2, wp_icne, wp_puti kd_50, wp_inc3, wp_inc5, wp_inc4, wp_iret mz_211, x_clr_I, x_clr_J, x_clr_R, x_clr_U, ct_some, ct_none, lc_lt, lc_ge, lc_gt, lc_le, lc_eq, lc_r, xI_inj, xJ_inj, Option.some.injEq, eq_self, bi_r, bi_0, bi_1, bi_n, Classical.not_not, and_true, true_and, ite_true, ite_false, ↓reduceIte, ↓x_andl, z_le, z_nle, z_lt, z_nlt, z_eq, z_neq, if_pos, if_neg, x_andl, false_and, and_false, or_true, true_or, or_false, false_or, not_true, not_false_iff, x_rd_eq, x_rd_ne, x_st_o, Int.cast_ofNat_Int, Int.ofNat_zero, Int.ofNat_one, not_true_eq_false, not_false_eq_true, if_true, if_false, ite_self, and_self, Int.ofNat_eq_natCast, Int.tdiv_eq_ediv_of_nonneg, Int.tmod_eq_emod_of_nonneg, x_bm32]
  refine x_lpK (α := x_S × x_V) (fun b q => fkeep σ1 q.1 ∧ (0 ≤ i → i < ocn V (21 * b).toNat → ∃ p, (0 ≤ p ∧ p < 42) ∧ ¬ V p = 9223372036854775807 ∧ ocn V p.toNat = i ∧ q.1 50 0 23 = p % 21 + w_of w' (w' 8) 5 - w' 9 ∧ q.1 50 0 24 = p / 21)) (fun b q => x_Wp 8 211 (x_blk 211 1) [xR 50 0, xI c, xI i, xI (ocn V (21 * b).toNat), xI b, q.2] [] q.1 Q) (lo := 0) (hi := 2) (by omega) (a0 := (σ1, xU)) ⟨⟨eqo_refl, fun _ _ => rfl⟩, fun p q => by
      exfalso
      have : ocn V (21 * 0 : Int).toNat = 0 := rfl
      omega⟩ ?_ ?_
  · intro b ⟨σb, u⟩ b0 b1 ⟨j1, j2⟩ K
    simp only at j1 j2 ⊢
    rw [bk_211_1]
    simp (disch := first | omega | (simp only [x_wtI, x_wtJ, x_wtR, x_wtN]; omega) | assumption | (simp (disch := omega) only [x_st_o, x_rd_ne]; first | assumption | omega) | (apply mir_eq; assumption; (intro c h1 h2; simp (disch := omega) only [x_st_o])) | (apply mis_eq; assumption; (intro c h1 h2; simp (disch := omega) only [x_st_o])) | rfl) only [bk_211_0, bk_211_3, bk_211_4, bk_211_5, bk_211_6, bk_211_7, wp_ald0, wp_ild1, wk_195, wp_pop2, wp_ic, wp_ist3, wp_ist4, wp_fall, wp_ild4, wp_icge, wp_ist5, wp_ild5, wr_50_1, wl_51, wp_cald, wk_192, wp_icgt, wk_197, wk_207, wp_lc, wp_lcmp, wp_ifne, wp_goto, wp_ild3, wp_ild2, wp_icne, wp_puti kd_50, wp_inc3, wp_inc5, wp_inc4, wp_iret mz_211, x_clr_I, x_clr_J, x_clr_R, x_clr_U, ct_some, ct_none, lc_lt, lc_ge, lc_gt, lc_le, lc_eq, lc_r, xI_inj, xJ_inj, Option.some.injEq, eq_self, bi_r, bi_0, bi_1, bi_n, Classical.not_not, and_true, true_and, ite_true, ite_false, ↓reduceIte, ↓x_andl, z_le, z_nle, z_lt, z_nlt, z_eq, z_neq, if_pos, if_neg, x_andl, false_and, and_false, or_true, true_or, or_false, false_or, not_true, not_false_iff, x_rd_eq, x_rd_ne, x_st_o, Int.cast_ofNat_Int, Int.ofNat_zero, Int.ofNat_one, not_true_eq_false, not_false_eq_true, if_true, if_false, ite_self, and_self, Int.ofNat_eq_natCast, Int.tdiv_eq_ediv_of_nonneg, Int.tmod_eq_emod_of_nonneg, x_bm32]
    have es : (21 * b).toNat = (21 * b + min 21 (max 0 (w' 9 + -20 - w_of w' (w' 8) 5))).toNat := by omega
    rw [es] at j2 ⊢
    refine x_lpK (α := x_S) (fun x σx => fkeep σ1 σx ∧ (0 ≤ i → i < ocn V (21 * b + min 21 (max 0 (w' 9 + x - w_of w' (w' 8) 5))).toNat → ∃ p, (0 ≤ p ∧ p < 42) ∧ ¬ V p = 9223372036854775807 ∧ ocn V p.toNat = i ∧ σx 50 0 23 = p % 21 + w_of w' (w' 8) 5 - w' 9 ∧ σx 50 0 24 = p / 21)) (fun x σx => x_Wp 8 211 (x_blk 211 2) [xR 50 0, xI c, xI i, xI (ocn V (21 * b + min 21 (max 0 (w' 9 + x - w_of w' (w' 8) 5))).toNat), xI b, xI x] [] σx Q) (lo := -20) (hi := w_of w' (w' 8) 3 + 1) (by omega) (a0 := σb) ⟨j1, j2⟩ ?_ ?_
    · intro x σx x0 x1 ⟨n1, n2⟩ K2
      have gk : ∀ k, ¬ (k = 23 ∨ k = 24) → σx 50 0 k = σ1 50 0 k := n1.2
      have gx : ∀ c j, ¬ (c, j) = (50, 0) → σx c j = σ1 c j := fun c j z => n1.1 c j (by simpa using z)
      have gx51 : σx 51 0 = w' := by rw [gx 51 0 (by decide)]; exact g51
      obtain ⟨r, σ', ⟨hσ', v1, hr, hv1⟩, ev⟩ := x_ex (h_worthN (σ := σx) (w := w') (E := 5) (Wd := 4) (f := w' 8) (st := w' 9) (wd := w' 10) (x := x) (b := b) (c := c) gx51 (by rw [gk 17 (by omega)]; exact m.1) (by rw [gk 18 (by omega)]; exact m.2.1) (gx 59 0 (by decide)) (gx 60 0 (by decide)) hw n8.1 n8.2 (by omega) (by omega) (by omega) n9 n10 (by omega) (by omega) hTk hLb)
      subst hσ'
      subst hr
      have gp := gb_pos (k := w_of w' (w' 8) 6)
      have v1b : v1 = (-9223372036854775808) ∨ (-600000000000000000 ≤ v1 ∧ v1 ≤ 600000000000000000) := by
        rcases wor_z hv1 with ⟨z, _⟩ | ⟨_, z⟩
        · exact Or.inl z
        · exact Or.inr (by omega)
      have cb := ocn_b (V := V) (21 * b + min 21 (max 0 (w' 9 + x - w_of w' (w' 8) 5))).toNat
      by_cases cv : v1 = (-9223372036854775808)
      · have nz : ∀ u, ¬ zst (-9223372036854775808) c 5 4 w' (σ1 60 0) (σ1 59 0) (w' 8) (w' 9) (w' 10) b (w' 9 + x - w_of w' (w' 8) 5) u := by
          rcases wor_z hv1 with ⟨_, z⟩ | ⟨_, z⟩
          · exact z
          · omega
        have en : ocn V (21 * b + min 21 (max 0 (w' 9 + (x + 1) - w_of w' (w' 8) 5))).toNat = ocn V (21 * b + min 21 (max 0 (w' 9 + x - w_of w' (w' 8) 5))).toNat := by
          by_cases ct : 0 ≤ w' 9 + x - w_of w' (w' 8) 5 ∧ w' 9 + x - w_of w' (w' 8) 5 ≤ 20
          · have vd := (vz b (w' 9 + x - w_of w' (w' 8) 5) (by omega) (by omega) ct.1 ct.2).mpr nz
            have s := ocn_s (V := V) (i := 21 * b + (w' 9 + x - w_of w' (w' 8) 5)) (by omega)
            rw [if_pos vd] at s
            rw [show 21 * b + min 21 (max 0 (w' 9 + (x + 1) - w_of w' (w' 8) 5)) = 21 * b + (w' 9 + x - w_of w' (w' 8) 5) + 1 by omega, show 21 * b + min 21 (max 0 (w' 9 + x - w_of w' (w' 8) 5)) = 21 * b + (w' 9 + x - w_of w' (w' 8) 5) by omega, s]
            omega
          · rw [show 21 * b + min 21 (max 0 (w' 9 + (x + 1) - w_of w' (w' 8) 5)) = 21 * b + min 21 (max 0 (w' 9 + x - w_of w' (w' 8) 5)) by omega]
        have K3 := K2 σ' ⟨n1, by rw [en]; exact n2⟩
        rw [en] at K3
        generalize ocn V (21 * b + min 21 (max 0 (w' 9 + x - w_of w' (w' 8) 5))).toNat = n at K3 cb
        rw [bk_211_2]
        simp (disch := first | omega | (simp only [x_wtI, x_wtJ, x_wtR, x_wtN]; omega) | assumption | (simp (disch := omega) only [x_st_o, x_rd_ne]; first | assumption | omega) | (apply mir_eq; assumption; (intro c h1 h2; simp (disch := omega) only [x_st_o])) | (apply mis_eq; assumption; (intro c h1 h2; simp (disch := omega) only [x_st_o])) | rfl) only [bk_211_0, bk_211_3, bk_211_4, bk_211_5, bk_211_6, bk_211_7, wp_ald0, wp_ild1, wk_195, wp_pop2, wp_ic, wp_ist3, wp_ist4, wp_fall, wp_ild4, wp_icge, wp_ist5, wp_ild5, wr_50_1, wl_51, wp_cald, wk_192, wp_icgt, wk_197, wk_207, wp_lc, wp_lcmp, wp_ifne, wp_goto, wp_ild3, wp_ild2, wp_icne, wp_puti kd_50, wp_inc3, wp_inc5, wp_inc4, wp_iret mz_211, x_clr_I, x_clr_J, x_clr_R, x_clr_U, ct_some, ct_none, lc_lt, lc_ge, lc_gt, lc_le, lc_eq, lc_r, xI_inj, xJ_inj, Option.some.injEq, eq_self, bi_r, bi_0, bi_1, bi_n, Classical.not_not, and_true, true_and, ite_true, ite_false, ↓reduceIte, ↓x_andl, z_le, z_nle, z_lt, z_nlt, z_eq, z_neq, if_pos, if_neg, x_andl, false_and, and_false, or_true, true_or, or_false, false_or, not_true, not_false_iff, x_rd_eq, x_rd_ne, x_st_o, Int.cast_ofNat_Int, Int.ofNat_zero, Int.ofNat_one, not_true_eq_false, not_false_eq_true, if_true, if_false, ite_self, and_self, Int.ofNat_eq_natCast, Int.tdiv_eq_ediv_of_nonneg, Int.tmod_eq_emod_of_nonneg, x_bm32, gx51, k_of, k_stateNow, ev, cv]
        exact K3
      · have zz : zst (-9223372036854775808) c 5 4 w' (σ1 60 0) (σ1 59 0) (w' 8) (w' 9) (w' 10) b (w' 9 + x - w_of w' (w' 8) 5) v1 := by
          rcases wor_z hv1 with ⟨z, _⟩ | ⟨z, _⟩
          · exact absurd z cv
          · exact z
        have sb := sl_b hw n8.1 n8.2 n9 zz.1.1
        have vd : ¬ V (21 * b + (w' 9 + x - w_of w' (w' 8) 5)) = 9223372036854775807 := fun z => (vz b _ (by omega) (by omega) sb.2.1.1 sb.2.1.2).mp z _ zz
        have s := ocn_s (V := V) (i := 21 * b + (w' 9 + x - w_of w' (w' 8) 5)) (by omega)
        rw [if_neg vd] at s
        have e1' : 21 * b + min 21 (max 0 (w' 9 + (x + 1) - w_of w' (w' 8) 5)) = 21 * b + (w' 9 + x - w_of w' (w' 8) 5) + 1 := by omega
        have e2' : 21 * b + min 21 (max 0 (w' 9 + x - w_of w' (w' 8) 5)) = 21 * b + (w' 9 + x - w_of w' (w' 8) 5) := by omega
        rw [e2'] at n2 cb ⊢
        by_cases ci : ocn V (21 * b + (w' 9 + x - w_of w' (w' 8) 5)).toNat = i
        · have K3 := K2 (x_st (x_st σ' 50 0 23 x) 50 0 24 b) ⟨⟨eqo_st (by simp) (eqo_st (by simp) n1.1), fun k hk => by rw [x_rd_ne (by omega), x_rd_ne (by omega)]; exact n1.2 k hk⟩, fun p q => by
            refine ⟨21 * b + (w' 9 + x - w_of w' (w' 8) 5), by omega, vd, ci, ?_, ?_⟩
            · rw [x_rd_ne (by omega), x_rd_eq]
              omega
            · rw [x_rd_eq]
              omega⟩
          rw [e1', s] at K3
          generalize ocn V (21 * b + (w' 9 + x - w_of w' (w' 8) 5)).toNat = n at K3 cb ci
          rw [bk_211_2]
          simp (disch := first | omega | (simp only [x_wtI, x_wtJ, x_wtR, x_wtN]; omega) | assumption | (simp (disch := omega) only [x_st_o, x_rd_ne]; first | assumption | omega) | (apply mir_eq; assumption; (intro c h1 h2; simp (disch := omega) only [x_st_o])) | (apply mis_eq; assumption; (intro c h1 h2; simp (disch := omega) only [x_st_o])) | rfl) only [bk_211_0, bk_211_3, bk_211_4, bk_211_5, bk_211_6, bk_211_7, wp_ald0, wp_ild1, wk_195, wp_pop2, wp_ic, wp_ist3, wp_ist4, wp_fall, wp_ild4, wp_icge, wp_ist5, wp_ild5, wr_50_1, wl_51, wp_cald, wk_192, wp_icgt, wk_197, wk_207, wp_lc, wp_lcmp, wp_ifne, wp_goto, wp_ild3, wp_ild2, wp_icne, wp_puti kd_50, wp_inc3, wp_inc5, wp_inc4, wp_iret mz_211, x_clr_I, x_clr_J, x_clr_R, x_clr_U, ct_some, ct_none, lc_lt, lc_ge, lc_gt, lc_le, lc_eq, lc_r, xI_inj, xJ_inj, Option.some.injEq, eq_self, bi_r, bi_0, bi_1, bi_n, Classical.not_not, and_true, true_and, ite_true, ite_false, ↓reduceIte, ↓x_andl, z_le, z_nle, z_lt, z_nlt, z_eq, z_neq, if_pos, if_neg, x_andl, false_and, and_false, or_true, true_or, or_false, false_or, not_true, not_false_iff, x_rd_eq, x_rd_ne, x_st_o, Int.cast_ofNat_Int, Int.ofNat_zero, Int.ofNat_one, not_true_eq_false, not_false_eq_true, if_true, if_false, ite_self, and_self, Int.ofNat_eq_natCast, Int.tdiv_eq_ediv_of_nonneg, Int.tmod_eq_emod_of_nonneg, x_bm32, gx51, k_of, k_stateNow, ev]
          exact K3
        · have K3 := K2 σ' ⟨n1, fun p q => n2 p (by rw [e1', s] at q; omega)⟩
          rw [e1', s] at K3
          generalize ocn V (21 * b + (w' 9 + x - w_of w' (w' 8) 5)).toNat = n at K3 cb ci
          rw [bk_211_2]
          simp (disch := first | omega | (simp only [x_wtI, x_wtJ, x_wtR, x_wtN]; omega) | assumption | (simp (disch := omega) only [x_st_o, x_rd_ne]; first | assumption | omega) | (apply mir_eq; assumption; (intro c h1 h2; simp (disch := omega) only [x_st_o])) | (apply mis_eq; assumption; (intro c h1 h2; simp (disch := omega) only [x_st_o])) | rfl) only [bk_211_0, bk_211_3, bk_211_4, bk_211_5, bk_211_6, bk_211_7, wp_ald0, wp_ild1, wk_195, wp_pop2, wp_ic, wp_ist3, wp_ist4, wp_fall, wp_ild4, wp_icge, wp_ist5, wp_ild5, wr_50_1, wl_51, wp_cald, wk_192, wp_icgt, wk_197, wk_207, wp_lc, wp_lcmp, wp_ifne, wp_goto, wp_ild3, wp_ild2, wp_icne, wp_puti kd_50, wp_inc3, wp_inc5, wp_inc4, wp_iret mz_211, x_clr_I, x_clr_J, x_clr_R, x_clr_U, ct_some, ct_none, lc_lt, lc_ge, lc_gt, lc_le, lc_eq, lc_r, xI_inj, xJ_inj, Option.some.injEq, eq_self, bi_r, bi_0, bi_1, bi_n, Classical.not_not, and_true, true_and, ite_true, ite_false, ↓reduceIte, ↓x_andl, z_le, z_nle, z_lt, z_nlt, z_eq, z_neq, if_pos, if_neg, x_andl, false_and, and_false, or_true, true_or, or_false, false_or, not_true, not_false_iff, x_rd_eq, x_rd_ne, x_st_o, Int.cast_ofNat_Int, Int.ofNat_zero, Int.ofNat_one, not_true_eq_false, not_false_eq_true, if_true, if_false, ite_self, and_self, Int.ofNat_eq_natCast, Int.tdiv_eq_ediv_of_nonneg, Int.tmod_eq_emod_of_nonneg, x_bm32, gx51, k_of, k_stateNow, ev]
          exact K3
    · intro σx ⟨n1, n2⟩
      have gx51 : σx 51 0 = w' := by rw [n1.1 51 0 (by simp)]; exact g51
      have cf := ocn_fl (V := V) (a := 21 * b + min 21 (max 0 (w' 9 + (w_of w' (w' 8) 3 + 1) - w_of w' (w' 8) 5))) (b := 21 * (b + 1)) (by omega) (by omega) (fun p p0 p1 => by
        have z := vL b (p - 21 * b) (by omega) (by omega) (by omega) (by omega) (fun l => by
          have := l.2.2.2
          omega)
        rw [show 21 * b + (p - 21 * b) = p by omega] at z
        exact z)
      have K3 := K (σx, xI (w_of w' (w' 8) 3 + 1)) ⟨n1, fun p q => n2 p (by rw [← cf]; exact q)⟩
      simp only at K3
      rw [cf] at K3
      rw [bk_211_2]
      simp (disch := first | omega | (simp only [x_wtI, x_wtJ, x_wtR, x_wtN]; omega) | assumption | (simp (disch := omega) only [x_st_o, x_rd_ne]; first | assumption | omega) | (apply mir_eq; assumption; (intro c h1 h2; simp (disch := omega) only [x_st_o])) | (apply mis_eq; assumption; (intro c h1 h2; simp (disch := omega) only [x_st_o])) | rfl) only [bk_211_0, bk_211_3, bk_211_4, bk_211_5, bk_211_6, bk_211_7, wp_ald0, wp_ild1, wk_195, wp_pop2, wp_ic, wp_ist3, wp_ist4, wp_fall, wp_ild4, wp_icge, wp_ist5, wp_ild5, wr_50_1, wl_51, wp_cald, wk_192, wp_icgt, wk_197, wk_207, wp_lc, wp_lcmp, wp_ifne, wp_goto, wp_ild3, wp_ild2, wp_icne, wp_puti kd_50, wp_inc3, wp_inc5, wp_inc4, wp_iret mz_211, x_clr_I, x_clr_J, x_clr_R, x_clr_U, ct_some, ct_none, lc_lt, lc_ge, lc_gt, lc_le, lc_eq, lc_r, xI_inj, xJ_inj, Option.some.injEq, eq_self, bi_r, bi_0, bi_1, bi_n, Classical.not_not, and_true, true_and, ite_true, ite_false, ↓reduceIte, ↓x_andl, z_le, z_nle, z_lt, z_nlt, z_eq, z_neq, if_pos, if_neg, x_andl, false_and, and_false, or_true, true_or, or_false, false_or, not_true, not_false_iff, x_rd_eq, x_rd_ne, x_st_o, Int.cast_ofNat_Int, Int.ofNat_zero, Int.ofNat_one, not_true_eq_false, not_false_eq_true, if_true, if_false, ite_self, and_self, Int.ofNat_eq_natCast, Int.tdiv_eq_ediv_of_nonneg, Int.tmod_eq_emod_of_nonneg, x_bm32, gx51, k_of]
      exact K3
  · intro ⟨σb, u⟩ ⟨j1, j2⟩
    simp only at j1 j2 ⊢
    rw [bk_211_1]
    simp (disch := first | omega | (simp only [x_wtI, x_wtJ, x_wtR, x_wtN]; omega) | assumption | (simp (disch := omega) only [x_st_o, x_rd_ne]; first | assumption | omega) | (apply mir_eq; assumption; (intro c h1 h2; simp (disch := omega) only [x_st_o])) | (apply mis_eq; assumption; (intro c h1 h2; simp (disch := omega) only [x_st_o])) | rfl) only [bk_211_0, bk_211_3, bk_211_4, bk_211_5, bk_211_6, bk_211_7, wp_ald0, wp_ild1, wk_195, wp_pop2, wp_ic, wp_ist3, wp_ist4, wp_fall, wp_ild4, wp_icge, wp_ist5, wp_ild5, wr_50_1, wl_51, wp_cald, wk_192, wp_icgt, wk_197, wk_207, wp_lc, wp_lcmp, wp_ifne, wp_goto, wp_ild3, wp_ild2, wp_icne, wp_puti kd_50, wp_inc3, wp_inc5, wp_inc4, wp_iret mz_211, x_clr_I, x_clr_J, x_clr_R, x_clr_U, ct_some, ct_none, lc_lt, lc_ge, lc_gt, lc_le, lc_eq, lc_r, xI_inj, xJ_inj, Option.some.injEq, eq_self, bi_r, bi_0, bi_1, bi_n, Classical.not_not, and_true, true_and, ite_true, ite_false, ↓reduceIte, ↓x_andl, z_le, z_nle, z_lt, z_nlt, z_eq, z_neq, if_pos, if_neg, x_andl, false_and, and_false, or_true, true_or, or_false, false_or, not_true, not_false_iff, x_rd_eq, x_rd_ne, x_st_o, Int.cast_ofNat_Int, Int.ofNat_zero, Int.ofNat_one, not_true_eq_false, not_false_eq_true, if_true, if_false, ite_self, and_self, Int.ofNat_eq_natCast, Int.tdiv_eq_ediv_of_nonneg, Int.tmod_eq_emod_of_nonneg, x_bm32]
    have hhb : iN L S0 σb := by
      refine iN_scr hh1 (eqo_mono (by decide) j1.1) ?_ ?_
      · intro j k _ _ _
        rw [j1.1 24 j (by simp)]
      · intro k hk
        exact j1.2 k (by omega)
    refine hQ _ _ ⟨rfl, eqo_trans (eqo_mono (by simp) e1) (eqo_mono (by simp) j1.1), hhb, by rw [j1.1 60 0 (by simp), j1.1 59 0 (by simp)]; exact g1, by rw [j1.1 60 0 (by simp), j1.1 61 0 (by simp)]; exact m1, j2⟩

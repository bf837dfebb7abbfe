section OG
variable {L : Int} {S0 : Int → Int}
set_option maxHeartbeats 4000000 in
theorem o_gap : x_o26 (iN L S0) := by
  intro σ hh f hf
  refine ag_J ?_
  obtain ⟨w, h51, hw, h100, hn, hq, hM, hS⟩ := iN_w hh
  obtain ⟨n8, n9, n10, _⟩ := id hn
  have a := wf_h hw
  unfold wf_hdr at a
  simp (disch := first | omega | (simp only [x_wtI, x_wtJ, x_wtR, x_wtN]; omega) | assumption | (simp (disch := omega) only [x_st_o, x_rd_ne]; first | assumption | omega) | (apply mir_eq; assumption; (intro c h1 h2; simp (disch := omega) only [x_st_o])) | (apply mis_eq; assumption; (intro c h1 h2; simp (disch := omega) only [x_st_o])) | rfl) only [sp_131, bk_131_0, bk_131_1, bk_131_2, bk_131_3, bk_131_4, wp_ald0, wr_0_9, wk_77, wr_0_2, wr_20_0, wp_ild1, wk_60, wp_ifeq, wr_33_2, wl_35, wp_sbal, wp_ifne, wp_fall, wp_lc, wp_lret, wp_ic, wk_105, wp_ast2, wp_ald2, wk_3, wr_20_1, wl_21, wl_22, wl_36, wl_37, wl_38, wl_39, wp_cald, wr_20_2, wr_33_5, wr_33_6, wk_13, wp_lst3, wp_lld3, wp_lcmp, wp_goto, wr_33_3, wr_33_4, wk_11, wp_lsub, x_clr_I, x_clr_J, x_clr_R, x_clr_U, ct_some, ct_none, lc_lt, lc_ge, lc_gt, lc_le, lc_eq, lc_r, xI_inj, xJ_inj, Option.some.injEq, eq_self, bi_r, bi_0, bi_1, bi_n, Classical.not_not, and_true, true_and, ite_true, ite_false, ↓reduceIte, ↓x_andl, z_le, z_nle, z_lt, z_nlt, z_eq, z_neq, if_pos, if_neg, x_andl, false_and, and_false, or_true, true_or, or_false, false_or, not_true, not_false_iff, x_rd_eq, x_rd_ne, x_st_o, Int.cast_ofNat_Int, Int.ofNat_zero, Int.ofNat_one, not_true_eq_false, not_false_eq_true, if_true, if_false, ite_self, and_self, Int.ofNat_eq_natCast, Int.tdiv_eq_ediv_of_nonneg, Int.tmod_eq_emod_of_nonneg, x_bm32]
  refine x_use (d := 994) (h_follow hM hS hw h100 hn hq) ?_
  rintro r σ1 ⟨rfl, e1, f1⟩
  have hh1 : iN L S0 σ1 := iN_e hh e1 (by decide)
  have g51 : σ1 51 0 = w := (e1 51 0 (by decide)).trans h51
  have hM1 : mir σ1 1 w := mir_eq hM (fun c q1 q2 => e1 c 1 (by simp))
  have f100 : ∀ j i, σ1 100 j i = σ 100 j i := fun j i => by rw [e1 100 j (by simp)]
  by_cases c1 : 0 ≤ f ∧ f < w 0
  · have cel := f1.1 f c1.1 c1.2
    have o := wf_f hw c1.1 c1.2
    unfold wf_one at o
    have wkf := f1.2.1 f c1.1 c1.2
    have wkb := wk_b hw hn hq (Int.le_refl _) f1.2.1 f c1.1 c1.2
    by_cases cc : σ1 35 0 f = 1
    · have cr := cel.2.2.2 cc
      have ev : cV σ1 f = 21 * σ1 39 0 f + σ1 38 0 f := if_pos cc
      have nv : ¬ cV σ1 f = -1 := by omega
      have fr := (wkb.2.2 nv).1
      have nc := (wkb.2.2 nv).2.1
      have c34 : σ1 34 0 f = 1 := by
        by_cases q : σ1 34 0 f = 1
        · exact q
        · exact absurd (if_neg q) nc
      have cs := cel.2.2.1 c34
      have ec : cC σ1 f = 21 * σ1 37 0 f + σ1 36 0 f := if_pos c34
      have pq := hq f c1.1 c1.2
      have ge : w 8 ≤ f := by
        by_cases q : f < w 8
        · exact absurd fr (fr_lt q)
        · omega
      have pb := wkf.2.1
      rw [if_neg nc, ec] at pb
      obtain ⟨st, hst⟩ : ∃ st, st = σ1 36 0 f := ⟨_, rfl⟩
      obtain ⟨wd, hwd⟩ : ∃ wd, wd = σ1 37 0 f := ⟨_, rfl⟩
      obtain ⟨X, hX⟩ : ∃ X, X = w (536 + 2 * f) := ⟨_, rfl⟩
      obtain ⟨B, hB⟩ : ∃ B, B = w (536 + 2 * f + 1) := ⟨_, rfl⟩
      rw [← hst, ← hwd] at cs ec pb
      rw [← hX, ← hB] at pq pb
      have po := p_or_01 (a := wd) (b := B)
      have rb := room_b hw (l := p_or wd B)
      have law : p_law w f st wd X B := by
        by_cases q : p_law w f st wd X B
        · exact q
        · exfalso
          unfold p_beh at pb
          rw [show (21 * wd + st) % 21 = st by omega, show (21 * wd + st) / 21 = wd by omega, if_neg (fun z => q z.2)] at pb
          exact nv pb
      have sl : s_law w 4 f st wd B (st + X - w_of w f 5) := (sl_iff hw c1.1 c1.2 (by omega) (by omega) (by omega)).mpr ⟨law, fun _ => by omega⟩
      have sb := sl_b hw c1.1 c1.2 (by omega) sl
      have pb2 : cV σ1 f = 21 * p_or wd B + (st + X - w_of w f 5) := by
        rw [pb]
        unfold p_beh
        rw [show (21 * wd + st) % 21 = st by omega, show (21 * wd + st) / 21 = wd by omega, if_pos ⟨by omega, law⟩]
      have e39 : σ1 39 0 f = p_or wd B := by omega
      have e38 : σ1 38 0 f = st + X - w_of w f 5 := by omega
      simp (disch := first | omega | (simp only [x_wtI, x_wtJ, x_wtR, x_wtN]; omega) | assumption | (simp (disch := omega) only [x_st_o, x_rd_ne]; first | assumption | omega) | (apply mir_eq; assumption; (intro c h1 h2; simp (disch := omega) only [x_st_o])) | (apply mis_eq; assumption; (intro c h1 h2; simp (disch := omega) only [x_st_o])) | rfl) only [bk_131_0, bk_131_1, bk_131_2, bk_131_3, bk_131_4, wp_ald0, wr_0_9, wk_77, wr_0_2, wr_20_0, wp_ild1, wk_60, wp_ifeq, wr_33_2, wl_35, wp_sbal, wp_ifne, wp_fall, wp_lc, wp_lret, wp_ic, wk_105, wp_ast2, wp_ald2, wk_3, wr_20_1, wl_21, wl_22, wl_36, wl_37, wl_38, wl_39, wp_cald, wr_20_2, wr_33_5, wr_33_6, wk_13, wp_lst3, wp_lld3, wp_lcmp, wp_goto, wr_33_3, wr_33_4, wk_11, wp_lsub, x_clr_I, x_clr_J, x_clr_R, x_clr_U, ct_some, ct_none, lc_lt, lc_ge, lc_gt, lc_le, lc_eq, lc_r, xI_inj, xJ_inj, Option.some.injEq, eq_self, bi_r, bi_0, bi_1, bi_n, Classical.not_not, and_true, true_and, ite_true, ite_false, ↓reduceIte, ↓x_andl, z_le, z_nle, z_lt, z_nlt, z_eq, z_neq, if_pos, if_neg, x_andl, false_and, and_false, or_true, true_or, or_false, false_or, not_true, not_false_iff, x_rd_eq, x_rd_ne, x_st_o, Int.cast_ofNat_Int, Int.ofNat_zero, Int.ofNat_one, not_true_eq_false, not_false_eq_true, if_true, if_false, ite_self, and_self, Int.ofNat_eq_natCast, Int.tdiv_eq_ediv_of_nonneg, Int.tmod_eq_emod_of_nonneg, x_bm32, k_has, bi_t, cc]
      refine x_use (d := 992) (h_tab (j := 0) hh1 (by omega) rfl) ?_
      rintro r σ2 ⟨rfl, tk, hh2, f2, ct⟩
      rw [g51] at ct
      have g51' : σ2 51 0 = w := (tk.1 51 0 (by decide)).trans g51
      obtain ⟨w2, h512, _, _, _, _, hM2, hS2⟩ := iN_w hh2
      have ew : w2 = w := h512.symm.trans g51'
      subst ew
      have fj := iF_j (j := 0) hh2.2.2.1 (by omega)
      simp (disch := first | omega | (simp only [x_wtI, x_wtJ, x_wtR, x_wtN]; omega) | assumption | (simp (disch := omega) only [x_st_o, x_rd_ne]; first | assumption | omega) | (apply mir_eq; assumption; (intro c h1 h2; simp (disch := omega) only [x_st_o])) | (apply mis_eq; assumption; (intro c h1 h2; simp (disch := omega) only [x_st_o])) | rfl) only [bk_131_0, bk_131_1, bk_131_2, bk_131_3, bk_131_4, wp_ald0, wr_0_9, wk_77, wr_0_2, wr_20_0, wp_ild1, wk_60, wp_ifeq, wr_33_2, wl_35, wp_sbal, wp_ifne, wp_fall, wp_lc, wp_lret, wp_ic, wk_105, wp_ast2, wp_ald2, wk_3, wr_20_1, wl_21, wl_22, wl_36, wl_37, wl_38, wl_39, wp_cald, wr_20_2, wr_33_5, wr_33_6, wk_13, wp_lst3, wp_lld3, wp_lcmp, wp_goto, wr_33_3, wr_33_4, wk_11, wp_lsub, x_clr_I, x_clr_J, x_clr_R, x_clr_U, ct_some, ct_none, lc_lt, lc_ge, lc_gt, lc_le, lc_eq, lc_r, xI_inj, xJ_inj, Option.some.injEq, eq_self, bi_r, bi_0, bi_1, bi_n, Classical.not_not, and_true, true_and, ite_true, ite_false, ↓reduceIte, ↓x_andl, z_le, z_nle, z_lt, z_nlt, z_eq, z_neq, if_pos, if_neg, x_andl, false_and, and_false, or_true, true_or, or_false, false_or, not_true, not_false_iff, x_rd_eq, x_rd_ne, x_st_o, Int.cast_ofNat_Int, Int.ofNat_zero, Int.ofNat_one, not_true_eq_false, not_false_eq_true, if_true, if_false, ite_self, and_self, Int.ofNat_eq_natCast, Int.tdiv_eq_ediv_of_nonneg, Int.tmod_eq_emod_of_nonneg, x_bm32]
      refine x_use (d := 995) (h_look (j := 0) (c := 0) (E := 5) hM2 (by omega) hw c1.1 c1.2 fj.2.2 (by omega) fj.2.1 (by omega) rfl rfl (fun _ => cT_k hw hn ct ge c1.2 fr) (fun z => by omega)) ?_
      rintro r σ3 ⟨rfl, e3, k3, R, hR, lb⟩
      have hh3 := iN_look hh2 (by omega) e3 k3
      have hS3 : mis σ3 1 w2 := mis_eq hS2 (fun c q1 q2 => e3 c 1 (by simp))
      have hRb := rok_b hR
      have hs := vsc_b (c := 0) (w := w2) (f := f)
      have hk := kpE_b hw (E := 5) (f := f)
      have s36 : σ3 36 0 f = st := by rw [e3 36 0 (by simp), tk.1 36 0 (by decide), ← hst]
      have s37 : σ3 37 0 f = wd := by rw [e3 37 0 (by simp), tk.1 37 0 (by decide), ← hwd]
      have s38 : σ3 38 0 f = st + X - w_of w2 f 5 := by rw [e3 38 0 (by simp), tk.1 38 0 (by decide), e38]
      have s39 : σ3 39 0 f = p_or wd B := by rw [e3 39 0 (by simp), tk.1 39 0 (by decide), e39]
      have pX : σ3 21 1 f = X := by rw [(hS3.2 f c1.1 c1.2).1, hX]
      have pB : σ3 22 1 f = B := by rw [(hS3.2 f c1.1 c1.2).2, hB]
      have e25 : σ3 25 0 = σ2 25 0 := e3 25 0 (by simp)
      have g513 : σ3 51 0 = w2 := (e3 51 0 (by simp)).trans g51'
      have kw := fun (Q' : Option x_V → x_S → Prop) => k_weigh (σ := σ3) (d := 998) (Q := Q') (j := 0) (c := 0) (x := X) (b := B) (t := st + X - w_of w2 f 5) (l := p_or wd B) (by omega) hw c1.1 c1.2 (by rw [k3 3 (by omega)]; exact fj.2.2) (by omega) lb hRb hs hk (by omega) (by omega) (by omega) (by omega)
      have wb := wgh_b (c := 0) (x := X) (b := B) (t := st + X - w_of w2 f 5) (l := p_or wd B) hw c1.1 c1.2 hRb hs hk (by omega) (by omega) (by omega) (by omega)
      have zz : ∀ u, zst 9223372036854775807 0 5 4 w2 (σ2 26 0) (σ2 25 0) f st wd B (st + X - w_of w2 f 5) u ↔ (¬ R (21 * p_or wd B + (st + X - w_of w2 f 5)) = 9223372036854775807 ∧ u = wgh w2 0 (v_sc 0 w2 f) (kpE w2 5 f) R f X B (st + X - w_of w2 f 5) (p_or wd B)) := by
        intro u
        rw [← zcl_zst hw c1.1 c1.2 (by omega) hR, zcl_w, show st + X - w_of w2 f 5 + w_of w2 f 5 - st = X by omega]
        exact ⟨fun z => z.2, fun z => ⟨sl, z⟩⟩
      generalize hov : wgh w2 0 (v_sc 0 w2 f) (kpE w2 5 f) R f X B (st + X - w_of w2 f 5) (p_or wd B) = own at kw wb zz
      have ex0 : f * 42 + wd * 21 + st = 42 * f + (21 * wd + st) := by omega
      have hx0 : 0 ≤ f * 42 + wd * 21 + st ∧ f * 42 + wd * 21 + st < 1680 := by omega
      have tb := (ct.1 f ge c1.2 fr).2 (21 * wd + st) (by omega) (by omega)
      have gp := gb_pos (k := w_of w2 f 6)
      rw [← ex0] at tb
      have fin : ∀ v, (∀ T L' : Int → Int, gT 0 5 4 (-1) w2 L' T (w2 8) → ((∀ u, ¬ zst (-9223372036854775808) 0 5 4 w2 L' T f st wd B (st + X - w_of w2 f 5) u) ∧ v = (-9223372036854775808)) ∨ ∃ u, zst (-9223372036854775808) 0 5 4 w2 L' T f st wd B (st + X - w_of w2 f 5) u ∧ v = u - T (42 * f + (21 * wd + st))) → x_Sp 999 230 [xR 50 0, xI f] σ3 (fun r2 σ2 => r2 = some (xJ v) ∧ iN L S0 σ2) := by
        intro v hv
        have gE := hh3.2.2.2.1.1
        simp (disch := first | omega | (simp only [x_wtI, x_wtJ, x_wtR, x_wtN]; omega) | assumption | (simp (disch := omega) only [x_st_o, x_rd_ne]; first | assumption | omega) | (apply mir_eq; assumption; (intro c h1 h2; simp (disch := omega) only [x_st_o])) | (apply mis_eq; assumption; (intro c h1 h2; simp (disch := omega) only [x_st_o])) | rfl) only [sp_230, bk_230_0, bk_230_1, bk_230_2, bk_230_3, bk_230_4, wp_ald0, wp_ild1, wk_191, wp_ifne, wp_lc, wp_lret, wk_222, wr_50_26, wl_62, wl_63, wp_cald, wp_ic, wp_icne, wk_195, wp_pop2, wr_50_25, wk_220, wk_221, wk_207, wp_lst2, wp_lld2, wp_lcmp, wp_goto, wr_50_20, wp_imul, wp_iadd, wl_59, wp_pald, wp_lsub, wp_fall, x_clr_I, x_clr_J, x_clr_R, x_clr_U, ct_some, ct_none, lc_lt, lc_ge, lc_gt, lc_le, lc_eq, lc_r, xI_inj, xJ_inj, Option.some.injEq, eq_self, bi_r, bi_0, bi_1, bi_n, Classical.not_not, and_true, true_and, ite_true, ite_false, ↓reduceIte, ↓x_andl, z_le, z_nle, z_lt, z_nlt, z_eq, z_neq, if_pos, if_neg, x_andl, false_and, and_false, or_true, true_or, or_false, false_or, not_true, not_false_iff, x_rd_eq, x_rd_ne, x_st_o, Int.cast_ofNat_Int, Int.ofNat_zero, Int.ofNat_one, not_true_eq_false, not_false_eq_true, if_true, if_false, ite_self, and_self, Int.ofNat_eq_natCast, Int.tdiv_eq_ediv_of_nonneg, Int.tmod_eq_emod_of_nonneg, x_bm32, k_isFork g513, bi_t]
        refine x_use (d := 994) (h_goes g513 gE hw hn hq) ?_
        rintro r σ4 ⟨rfl, e4, k4⟩
        have u := wk_uniq hw hn.1 (Int.le_refl _) f1.2.1 k4 f c1.1 c1.2
        have hh4 : iN L S0 σ4 := iN_e hh3 e4 (by decide)
        have g514 : σ4 51 0 = w2 := (e4 51 0 (by simp)).trans g513
        have eM : σ4 62 0 f = 21 * wd + st := by rw [← u.1, ec]
        have eV : σ4 63 0 f = 21 * p_or wd B + (st + X - w_of w2 f 5) := by rw [← u.2.1, pb2]
        simp (disch := first | omega | (simp only [x_wtI, x_wtJ, x_wtR, x_wtN]; omega) | assumption | (simp (disch := omega) only [x_st_o, x_rd_ne]; first | assumption | omega) | (apply mir_eq; assumption; (intro c h1 h2; simp (disch := omega) only [x_st_o])) | (apply mis_eq; assumption; (intro c h1 h2; simp (disch := omega) only [x_st_o])) | rfl) only [bk_230_0, bk_230_1, bk_230_2, bk_230_3, bk_230_4, wp_ald0, wp_ild1, wk_191, wp_ifne, wp_lc, wp_lret, wk_222, wr_50_26, wl_62, wl_63, wp_cald, wp_ic, wp_icne, wk_195, wp_pop2, wr_50_25, wk_220, wk_221, wk_207, wp_lst2, wp_lld2, wp_lcmp, wp_goto, wr_50_20, wp_imul, wp_iadd, wl_59, wp_pald, wp_lsub, wp_fall, x_clr_I, x_clr_J, x_clr_R, x_clr_U, ct_some, ct_none, lc_lt, lc_ge, lc_gt, lc_le, lc_eq, lc_r, xI_inj, xJ_inj, Option.some.injEq, eq_self, bi_r, bi_0, bi_1, bi_n, Classical.not_not, and_true, true_and, ite_true, ite_false, ↓reduceIte, ↓x_andl, z_le, z_nle, z_lt, z_nlt, z_eq, z_neq, if_pos, if_neg, x_andl, false_and, and_false, or_true, true_or, or_false, false_or, not_true, not_false_iff, x_rd_eq, x_rd_ne, x_st_o, Int.cast_ofNat_Int, Int.ofNat_zero, Int.ofNat_one, not_true_eq_false, not_false_eq_true, if_true, if_false, ite_self, and_self, Int.ofNat_eq_natCast, Int.tdiv_eq_ediv_of_nonneg, Int.tmod_eq_emod_of_nonneg, x_bm32, eV]
        refine x_use (d := 991) (h_solveI (c := 0) hh4 (by omega)) ?_
        rintro r σ5 ⟨rfl, e5, hh5, g5, m5⟩
        rw [g514] at g5 m5
        have g515 : σ5 51 0 = w2 := (e5 51 0 (by simp)).trans g514
        have eM5 : σ5 62 0 f = 21 * wd + st := by rw [e5 62 0 (by simp)]; exact eM
        have m := hh5.2.2.2.1
        simp (disch := first | omega | (simp only [x_wtI, x_wtJ, x_wtR, x_wtN]; omega) | assumption | (simp (disch := omega) only [x_st_o, x_rd_ne]; first | assumption | omega) | (apply mir_eq; assumption; (intro c h1 h2; simp (disch := omega) only [x_st_o])) | (apply mis_eq; assumption; (intro c h1 h2; simp (disch := omega) only [x_st_o])) | rfl) only [bk_230_0, bk_230_1, bk_230_2, bk_230_3, bk_230_4, wp_ald0, wp_ild1, wk_191, wp_ifne, wp_lc, wp_lret, wk_222, wr_50_26, wl_62, wl_63, wp_cald, wp_ic, wp_icne, wk_195, wp_pop2, wr_50_25, wk_220, wk_221, wk_207, wp_lst2, wp_lld2, wp_lcmp, wp_goto, wr_50_20, wp_imul, wp_iadd, wl_59, wp_pald, wp_lsub, wp_fall, x_clr_I, x_clr_J, x_clr_R, x_clr_U, ct_some, ct_none, lc_lt, lc_ge, lc_gt, lc_le, lc_eq, lc_r, xI_inj, xJ_inj, Option.some.injEq, eq_self, bi_r, bi_0, bi_1, bi_n, Classical.not_not, and_true, true_and, ite_true, ite_false, ↓reduceIte, ↓x_andl, z_le, z_nle, z_lt, z_nlt, z_eq, z_neq, if_pos, if_neg, x_andl, false_and, and_false, or_true, true_or, or_false, false_or, not_true, not_false_iff, x_rd_eq, x_rd_ne, x_st_o, Int.cast_ofNat_Int, Int.ofNat_zero, Int.ofNat_one, not_true_eq_false, not_false_eq_true, if_true, if_false, ite_self, and_self, Int.ofNat_eq_natCast, Int.tdiv_eq_ediv_of_nonneg, Int.tmod_eq_emod_of_nonneg, x_bm32, eM5, k_planX g515, k_planB g515, ← hX, ← hB]
        refine x_use (d := 993) (h_worthN (σ := σ5) (w := w2) (E := 5) (Wd := 4) (c := 0) (f := f) (st := st) (wd := wd) (x := X) (b := B) g515 m.1 m.2.1 rfl rfl hw c1.1 c1.2 (by omega) (by omega) (by omega) (by omega) (by omega) (by omega) (by omega) (fun q q0 q1 => by
          have kk := wf_k hw (f := f) (i := q) c1.1 c1.2 q0 q1
          exact (g5 _ (by omega) (by omega)).1) (fun b t l c2 => by omega)) ?_
        rintro r σ6 ⟨hσ6, v1, rfl, hv1⟩
        subst hσ6
        have hx1 : 0 ≤ 42 * f + (21 * wd + st) ∧ 42 * f + (21 * wd + st) < 1680 := by omega
        rcases hv _ _ g5 with ⟨z1, z2⟩ | ⟨u1, z1, z2⟩
        · have e1' : v1 = (-9223372036854775808) := by
            rcases wor_z hv1 with ⟨y, _⟩ | ⟨y, _⟩
            · exact y
            · exact absurd y (z1 _)
          subst z2
          simp (disch := first | omega | (simp only [x_wtI, x_wtJ, x_wtR, x_wtN]; omega) | assumption | (simp (disch := omega) only [x_st_o, x_rd_ne]; first | assumption | omega) | (apply mir_eq; assumption; (intro c h1 h2; simp (disch := omega) only [x_st_o])) | (apply mis_eq; assumption; (intro c h1 h2; simp (disch := omega) only [x_st_o])) | rfl) only [bk_230_0, bk_230_1, bk_230_2, bk_230_3, bk_230_4, wp_ald0, wp_ild1, wk_191, wp_ifne, wp_lc, wp_lret, wk_222, wr_50_26, wl_62, wl_63, wp_cald, wp_ic, wp_icne, wk_195, wp_pop2, wr_50_25, wk_220, wk_221, wk_207, wp_lst2, wp_lld2, wp_lcmp, wp_goto, wr_50_20, wp_imul, wp_iadd, wl_59, wp_pald, wp_lsub, wp_fall, x_clr_I, x_clr_J, x_clr_R, x_clr_U, ct_some, ct_none, lc_lt, lc_ge, lc_gt, lc_le, lc_eq, lc_r, xI_inj, xJ_inj, Option.some.injEq, eq_self, bi_r, bi_0, bi_1, bi_n, Classical.not_not, and_true, true_and, ite_true, ite_false, ↓reduceIte, ↓x_andl, z_le, z_nle, z_lt, z_nlt, z_eq, z_neq, if_pos, if_neg, x_andl, false_and, and_false, or_true, true_or, or_false, false_or, not_true, not_false_iff, x_rd_eq, x_rd_ne, x_st_o, Int.cast_ofNat_Int, Int.ofNat_zero, Int.ofNat_one, not_true_eq_false, not_false_eq_true, if_true, if_false, ite_self, and_self, Int.ofNat_eq_natCast, Int.tdiv_eq_ediv_of_nonneg, Int.tmod_eq_emod_of_nonneg, x_bm32, eM5, e1']
          exact hh5
        · have e1' : v1 = u1 ∧ -(g_b (w_of w2 f 6)) ≤ v1 ∧ v1 ≤ g_b (w_of w2 f 6) := by
            rcases wor_z hv1 with ⟨_, y⟩ | ⟨y, y2⟩
            · exact absurd z1 (y _)
            · exact ⟨zst_f z1 y, y2⟩
          obtain ⟨e1'', e1b⟩ := e1'
          subst e1''
          subst z2
          simp (disch := first | omega | (simp only [x_wtI, x_wtJ, x_wtR, x_wtN]; omega) | assumption | (simp (disch := omega) only [x_st_o, x_rd_ne]; first | assumption | omega) | (apply mir_eq; assumption; (intro c h1 h2; simp (disch := omega) only [x_st_o])) | (apply mis_eq; assumption; (intro c h1 h2; simp (disch := omega) only [x_st_o])) | rfl) only [bk_230_0, bk_230_1, bk_230_2, bk_230_3, bk_230_4, wp_ald0, wp_ild1, wk_191, wp_ifne, wp_lc, wp_lret, wk_222, wr_50_26, wl_62, wl_63, wp_cald, wp_ic, wp_icne, wk_195, wp_pop2, wr_50_25, wk_220, wk_221, wk_207, wp_lst2, wp_lld2, wp_lcmp, wp_goto, wr_50_20, wp_imul, wp_iadd, wl_59, wp_pald, wp_lsub, wp_fall, x_clr_I, x_clr_J, x_clr_R, x_clr_U, ct_some, ct_none, lc_lt, lc_ge, lc_gt, lc_le, lc_eq, lc_r, xI_inj, xJ_inj, Option.some.injEq, eq_self, bi_r, bi_0, bi_1, bi_n, Classical.not_not, and_true, true_and, ite_true, ite_false, ↓reduceIte, ↓x_andl, z_le, z_nle, z_lt, z_nlt, z_eq, z_neq, if_pos, if_neg, x_andl, false_and, and_false, or_true, true_or, or_false, false_or, not_true, not_false_iff, x_rd_eq, x_rd_ne, x_st_o, Int.cast_ofNat_Int, Int.ofNat_zero, Int.ofNat_one, not_true_eq_false, not_false_eq_true, if_true, if_false, ite_self, and_self, Int.ofNat_eq_natCast, Int.tdiv_eq_ediv_of_nonneg, Int.tmod_eq_emod_of_nonneg, x_bm32, eM5]
          exact hh5
      have zn : ∀ (T L' : Int → Int), gT 0 5 4 (-1) w2 L' T (w2 8) → ∀ u, zst (-9223372036854775808) 0 5 4 w2 L' T f st wd B (st + X - w_of w2 f 5) u ↔ zst 9223372036854775807 0 5 4 w2 (σ2 26 0) (σ2 25 0) f st wd B (st + X - w_of w2 f 5) u := fun T L' gt u => zst_now (Ym := w2) hw hn (by omega) gt (fun z => by omega) ct ge c1.2 fr (by omega) (by omega) (fun z => by omega) _ _ u
      by_cases cd : own = 9223372036854775807
      · simp (disch := first | omega | (simp only [x_wtI, x_wtJ, x_wtR, x_wtN]; omega) | assumption | (simp (disch := omega) only [x_st_o, x_rd_ne]; first | assumption | omega) | (apply mir_eq; assumption; (intro c h1 h2; simp (disch := omega) only [x_st_o])) | (apply mis_eq; assumption; (intro c h1 h2; simp (disch := omega) only [x_st_o])) | rfl) only [bk_131_0, bk_131_1, bk_131_2, bk_131_3, bk_131_4, wp_ald0, wr_0_9, wk_77, wr_0_2, wr_20_0, wp_ild1, wk_60, wp_ifeq, wr_33_2, wl_35, wp_sbal, wp_ifne, wp_fall, wp_lc, wp_lret, wp_ic, wk_105, wp_ast2, wp_ald2, wk_3, wr_20_1, wl_21, wl_22, wl_36, wl_37, wl_38, wl_39, wp_cald, wr_20_2, wr_33_5, wr_33_6, wk_13, wp_lst3, wp_lld3, wp_lcmp, wp_goto, wr_33_3, wr_33_4, wk_11, wp_lsub, x_clr_I, x_clr_J, x_clr_R, x_clr_U, ct_some, ct_none, lc_lt, lc_ge, lc_gt, lc_le, lc_eq, lc_r, xI_inj, xJ_inj, Option.some.injEq, eq_self, bi_r, bi_0, bi_1, bi_n, Classical.not_not, and_true, true_and, ite_true, ite_false, ↓reduceIte, ↓x_andl, z_le, z_nle, z_lt, z_nlt, z_eq, z_neq, if_pos, if_neg, x_andl, false_and, and_false, or_true, true_or, or_false, false_or, not_true, not_false_iff, x_rd_eq, x_rd_ne, x_st_o, Int.cast_ofNat_Int, Int.ofNat_zero, Int.ofNat_one, not_true_eq_false, not_false_eq_true, if_true, if_false, ite_self, and_self, Int.ofNat_eq_natCast, Int.tdiv_eq_ediv_of_nonneg, Int.tmod_eq_emod_of_nonneg, x_bm32, pX, pB, s38, s39, kw, cd]
        refine ⟨(-9223372036854775808), rfl, fun j' i' => by rw [e3 100 j' (by simp), tk_100 tk j' i', f100], by omega, fin _ (fun T L' gt => Or.inl ⟨fun u z => ?_, rfl⟩)⟩
        have y := (zz u).mp ((zn T L' gt u).mp z)
        omega
      · have zo := (zz own).mpr ⟨by omega, rfl⟩
        have alive : ¬ σ2 25 0 (f * 42 + wd * 21 + st) = 9223372036854775807 := by
          rw [ex0]
          intro z
          rcases (ct.1 f ge c1.2 fr).1 st wd (by omega) (by omega) (by omega) (by omega) with ⟨_, y⟩ | ⟨y, _⟩
          · exact y own (zst_val.mp ⟨_, _, zo⟩)
          · obtain ⟨b, t, y2⟩ := zst_val.mpr y
            have bd := zst_bd hw c1.1 c1.2 (by omega) (by omega) (cT_k hw hn ct ge c1.2 fr) (fun z => by omega) (by omega) y2
            omega
        have tb2 := tb.resolve_left alive
        have s25 : σ3 25 0 (f * 42 + wd * 21 + st) = σ2 25 0 (f * 42 + wd * 21 + st) := by rw [e25]
        generalize hat : σ2 25 0 (f * 42 + wd * 21 + st) = at0 at tb2 s25
        simp (disch := first | omega | (simp only [x_wtI, x_wtJ, x_wtR, x_wtN]; omega) | assumption | (simp (disch := omega) only [x_st_o, x_rd_ne]; first | assumption | omega) | (apply mir_eq; assumption; (intro c h1 h2; simp (disch := omega) only [x_st_o])) | (apply mis_eq; assumption; (intro c h1 h2; simp (disch := omega) only [x_st_o])) | rfl) only [bk_131_0, bk_131_1, bk_131_2, bk_131_3, bk_131_4, wp_ald0, wr_0_9, wk_77, wr_0_2, wr_20_0, wp_ild1, wk_60, wp_ifeq, wr_33_2, wl_35, wp_sbal, wp_ifne, wp_fall, wp_lc, wp_lret, wp_ic, wk_105, wp_ast2, wp_ald2, wk_3, wr_20_1, wl_21, wl_22, wl_36, wl_37, wl_38, wl_39, wp_cald, wr_20_2, wr_33_5, wr_33_6, wk_13, wp_lst3, wp_lld3, wp_lcmp, wp_goto, wr_33_3, wr_33_4, wk_11, wp_lsub, bk_11_0, wr_24_4, wp_imul, wp_ild3, wp_iadd, wp_ild2, wl_25, wp_pald, x_clr_I, x_clr_J, x_clr_R, x_clr_U, ct_some, ct_none, lc_lt, lc_ge, lc_gt, lc_le, lc_eq, lc_r, xI_inj, xJ_inj, Option.some.injEq, eq_self, bi_r, bi_0, bi_1, bi_n, Classical.not_not, and_true, true_and, ite_true, ite_false, ↓reduceIte, ↓x_andl, z_le, z_nle, z_lt, z_nlt, z_eq, z_neq, if_pos, if_neg, x_andl, false_and, and_false, or_true, true_or, or_false, false_or, not_true, not_false_iff, x_rd_eq, x_rd_ne, x_st_o, Int.cast_ofNat_Int, Int.ofNat_zero, Int.ofNat_one, not_true_eq_false, not_false_eq_true, if_true, if_false, ite_self, and_self, Int.ofNat_eq_natCast, Int.tdiv_eq_ediv_of_nonneg, Int.tmod_eq_emod_of_nonneg, x_bm32, pX, pB, s36, s37, s38, s39, kw, sp_11, s25]
        refine ⟨own - at0, rfl, fun j' i' => by rw [e3 100 j' (by simp), tk_100 tk j' i', f100], by omega, fin _ (fun T L' gt => Or.inr ⟨own, (zn T L' gt own).mpr zo, ?_⟩)⟩
        have ag := tab_ag (Ym := w2) hw hn (by omega) gt (fun z => by omega) ct f ge c1.2 fr st wd (by omega) (by omega) (by omega) (by omega) (fun z => by omega)
        rw [← ex0] at ag
        rcases ag with y | y
        · exact absurd y.2 alive
        · rw [← ex0, y.1, hat]
    · have c0 : σ1 35 0 f = 0 := by
        have := cel.2.1
        omega
      have ev : cV σ1 f = -1 := if_neg cc
      simp (disch := first | omega | (simp only [x_wtI, x_wtJ, x_wtR, x_wtN]; omega) | assumption | (simp (disch := omega) only [x_st_o, x_rd_ne]; first | assumption | omega) | (apply mir_eq; assumption; (intro c h1 h2; simp (disch := omega) only [x_st_o])) | (apply mis_eq; assumption; (intro c h1 h2; simp (disch := omega) only [x_st_o])) | rfl) only [bk_131_0, bk_131_1, bk_131_2, bk_131_3, bk_131_4, wp_ald0, wr_0_9, wk_77, wr_0_2, wr_20_0, wp_ild1, wk_60, wp_ifeq, wr_33_2, wl_35, wp_sbal, wp_ifne, wp_fall, wp_lc, wp_lret, wp_ic, wk_105, wp_ast2, wp_ald2, wk_3, wr_20_1, wl_21, wl_22, wl_36, wl_37, wl_38, wl_39, wp_cald, wr_20_2, wr_33_5, wr_33_6, wk_13, wp_lst3, wp_lld3, wp_lcmp, wp_goto, wr_33_3, wr_33_4, wk_11, wp_lsub, x_clr_I, x_clr_J, x_clr_R, x_clr_U, ct_some, ct_none, lc_lt, lc_ge, lc_gt, lc_le, lc_eq, lc_r, xI_inj, xJ_inj, Option.some.injEq, eq_self, bi_r, bi_0, bi_1, bi_n, Classical.not_not, and_true, true_and, ite_true, ite_false, ↓reduceIte, ↓x_andl, z_le, z_nle, z_lt, z_nlt, z_eq, z_neq, if_pos, if_neg, x_andl, false_and, and_false, or_true, true_or, or_false, false_or, not_true, not_false_iff, x_rd_eq, x_rd_ne, x_st_o, Int.cast_ofNat_Int, Int.ofNat_zero, Int.ofNat_one, not_true_eq_false, not_false_eq_true, if_true, if_false, ite_self, and_self, Int.ofNat_eq_natCast, Int.tdiv_eq_ediv_of_nonneg, Int.tmod_eq_emod_of_nonneg, x_bm32, k_has, bi_t, c0]
      refine ⟨(-9223372036854775808), rfl, fun j i => f100 j i, by omega, ?_⟩
      have gE := hh1.2.2.2.1.1
      simp (disch := first | omega | (simp only [x_wtI, x_wtJ, x_wtR, x_wtN]; omega) | assumption | (simp (disch := omega) only [x_st_o, x_rd_ne]; first | assumption | omega) | (apply mir_eq; assumption; (intro c h1 h2; simp (disch := omega) only [x_st_o])) | (apply mis_eq; assumption; (intro c h1 h2; simp (disch := omega) only [x_st_o])) | rfl) only [sp_230, bk_230_0, bk_230_1, bk_230_2, bk_230_3, bk_230_4, wp_ald0, wp_ild1, wk_191, wp_ifne, wp_lc, wp_lret, wk_222, wr_50_26, wl_62, wl_63, wp_cald, wp_ic, wp_icne, wk_195, wp_pop2, wr_50_25, wk_220, wk_221, wk_207, wp_lst2, wp_lld2, wp_lcmp, wp_goto, wr_50_20, wp_imul, wp_iadd, wl_59, wp_pald, wp_lsub, wp_fall, x_clr_I, x_clr_J, x_clr_R, x_clr_U, ct_some, ct_none, lc_lt, lc_ge, lc_gt, lc_le, lc_eq, lc_r, xI_inj, xJ_inj, Option.some.injEq, eq_self, bi_r, bi_0, bi_1, bi_n, Classical.not_not, and_true, true_and, ite_true, ite_false, ↓reduceIte, ↓x_andl, z_le, z_nle, z_lt, z_nlt, z_eq, z_neq, if_pos, if_neg, x_andl, false_and, and_false, or_true, true_or, or_false, false_or, not_true, not_false_iff, x_rd_eq, x_rd_ne, x_st_o, Int.cast_ofNat_Int, Int.ofNat_zero, Int.ofNat_one, not_true_eq_false, not_false_eq_true, if_true, if_false, ite_self, and_self, Int.ofNat_eq_natCast, Int.tdiv_eq_ediv_of_nonneg, Int.tmod_eq_emod_of_nonneg, x_bm32, k_isFork, bi_t]
      refine x_use (d := 994) (h_goes g51 gE hw hn hq) ?_
      rintro r σ2 ⟨rfl, e2, k2⟩
      have u := wk_uniq hw hn.1 (Int.le_refl _) f1.2.1 k2 f c1.1 c1.2
      have eV : σ2 63 0 f = -1 := by rw [← u.2.1, ev]
      simp (disch := first | omega | (simp only [x_wtI, x_wtJ, x_wtR, x_wtN]; omega) | assumption | (simp (disch := omega) only [x_st_o, x_rd_ne]; first | assumption | omega) | (apply mir_eq; assumption; (intro c h1 h2; simp (disch := omega) only [x_st_o])) | (apply mis_eq; assumption; (intro c h1 h2; simp (disch := omega) only [x_st_o])) | rfl) only [bk_230_0, bk_230_1, bk_230_2, bk_230_3, bk_230_4, wp_ald0, wp_ild1, wk_191, wp_ifne, wp_lc, wp_lret, wk_222, wr_50_26, wl_62, wl_63, wp_cald, wp_ic, wp_icne, wk_195, wp_pop2, wr_50_25, wk_220, wk_221, wk_207, wp_lst2, wp_lld2, wp_lcmp, wp_goto, wr_50_20, wp_imul, wp_iadd, wl_59, wp_pald, wp_lsub, wp_fall, x_clr_I, x_clr_J, x_clr_R, x_clr_U, ct_some, ct_none, lc_lt, lc_ge, lc_gt, lc_le, lc_eq, lc_r, xI_inj, xJ_inj, Option.some.injEq, eq_self, bi_r, bi_0, bi_1, bi_n, Classical.not_not, and_true, true_and, ite_true, ite_false, ↓reduceIte, ↓x_andl, z_le, z_nle, z_lt, z_nlt, z_eq, z_neq, if_pos, if_neg, x_andl, false_and, and_false, or_true, true_or, or_false, false_or, not_true, not_false_iff, x_rd_eq, x_rd_ne, x_st_o, Int.cast_ofNat_Int, Int.ofNat_zero, Int.ofNat_one, not_true_eq_false, not_false_eq_true, if_true, if_false, ite_self, and_self, Int.ofNat_eq_natCast, Int.tdiv_eq_ediv_of_nonneg, Int.tmod_eq_emod_of_nonneg, x_bm32, eV]
      exact iN_e hh1 e2 (by decide)
  · simp (disch := first | omega | (simp only [x_wtI, x_wtJ, x_wtR, x_wtN]; omega) | assumption | (simp (disch := omega) only [x_st_o, x_rd_ne]; first | assumption | omega) | (apply mir_eq; assumption; (intro c h1 h2; simp (disch := omega) only [x_st_o])) | (apply mis_eq; assumption; (intro c h1 h2; simp (disch := omega) only [x_st_o])) | rfl) only [bk_131_0, bk_131_1, bk_131_2, bk_131_3, bk_131_4, wp_ald0, wr_0_9, wk_77, wr_0_2, wr_20_0, wp_ild1, wk_60, wp_ifeq, wr_33_2, wl_35, wp_sbal, wp_ifne, wp_fall, wp_lc, wp_lret, wp_ic, wk_105, wp_ast2, wp_ald2, wk_3, wr_20_1, wl_21, wl_22, wl_36, wl_37, wl_38, wl_39, wp_cald, wr_20_2, wr_33_5, wr_33_6, wk_13, wp_lst3, wp_lld3, wp_lcmp, wp_goto, wr_33_3, wr_33_4, wk_11, wp_lsub, x_clr_I, x_clr_J, x_clr_R, x_clr_U, ct_some, ct_none, lc_lt, lc_ge, lc_gt, lc_le, lc_eq, lc_r, xI_inj, xJ_inj, Option.some.injEq, eq_self, bi_r, bi_0, bi_1, bi_n, Classical.not_not, and_true, true_and, ite_true, ite_false, ↓reduceIte, ↓x_andl, z_le, z_nle, z_lt, z_nlt, z_eq, z_neq, if_pos, if_neg, x_andl, false_and, and_false, or_true, true_or, or_false, false_or, not_true, not_false_iff, x_rd_eq, x_rd_ne, x_st_o, Int.cast_ofNat_Int, Int.ofNat_zero, Int.ofNat_one, not_true_eq_false, not_false_eq_true, if_true, if_false, ite_self, and_self, Int.ofNat_eq_natCast, Int.tdiv_eq_ediv_of_nonneg, Int.tmod_eq_emod_of_nonneg, x_bm32, k_has, bi_f]
    refine ⟨(-9223372036854775808), rfl, fun j i => f100 j i, by omega, ?_⟩
    simp (disch := first | omega | (simp only [x_wtI, x_wtJ, x_wtR, x_wtN]; omega) | assumption | (simp (disch := omega) only [x_st_o, x_rd_ne]; first | assumption | omega) | (apply mir_eq; assumption; (intro c h1 h2; simp (disch := omega) only [x_st_o])) | (apply mis_eq; assumption; (intro c h1 h2; simp (disch := omega) only [x_st_o])) | rfl) only [sp_230, bk_230_0, bk_230_1, bk_230_2, bk_230_3, bk_230_4, wp_ald0, wp_ild1, wk_191, wp_ifne, wp_lc, wp_lret, wk_222, wr_50_26, wl_62, wl_63, wp_cald, wp_ic, wp_icne, wk_195, wp_pop2, wr_50_25, wk_220, wk_221, wk_207, wp_lst2, wp_lld2, wp_lcmp, wp_goto, wr_50_20, wp_imul, wp_iadd, wl_59, wp_pald, wp_lsub, wp_fall, x_clr_I, x_clr_J, x_clr_R, x_clr_U, ct_some, ct_none, lc_lt, lc_ge, lc_gt, lc_le, lc_eq, lc_r, xI_inj, xJ_inj, Option.some.injEq, eq_self, bi_r, bi_0, bi_1, bi_n, Classical.not_not, and_true, true_and, ite_true, ite_false, ↓reduceIte, ↓x_andl, z_le, z_nle, z_lt, z_nlt, z_eq, z_neq, if_pos, if_neg, x_andl, false_and, and_false, or_true, true_or, or_false, false_or, not_true, not_false_iff, x_rd_eq, x_rd_ne, x_st_o, Int.cast_ofNat_Int, Int.ofNat_zero, Int.ofNat_one, not_true_eq_false, not_false_eq_true, if_true, if_false, ite_self, and_self, Int.ofNat_eq_natCast, Int.tdiv_eq_ediv_of_nonneg, Int.tmod_eq_emod_of_nonneg, x_bm32, k_isFork, bi_f]
    exact hh1
end OG

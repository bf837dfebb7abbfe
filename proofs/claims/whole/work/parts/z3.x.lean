def flE (w : Int → Int) (g h : Int) : Prop := w_of w g 2 = w_of w h 2 ∧ w_of w g 3 = w_of w h 3 ∧ w_of w g 4 = w_of w h 4 ∧ w_of w g 5 = w_of w h 5
def ldE (σ : x_S) (g h : Int) : Prop := σ 47 0 g = σ 47 0 h ∧ ∀ i, 0 ≤ i → i < σ 47 0 g → lko σ g i = lko σ h i ∧ σ 45 0 (lkl σ g i) = σ 45 0 (lkl σ h i)
def SA (w : Int → Int) (σ : x_S) (g h : Int) : Prop := flE w g h ∧ ldE σ g h
theorem SA_r {w : Int → Int} {σ : x_S} {g : Int} : SA w σ g g := ⟨⟨rfl, rfl, rfl, rfl⟩, rfl, fun _ _ _ => ⟨rfl, rfl⟩⟩
theorem SA_s {w : Int → Int} {σ : x_S} {g h : Int} (a : SA w σ g h) : SA w σ h g := ⟨⟨a.1.1.symm, a.1.2.1.symm, a.1.2.2.1.symm, a.1.2.2.2.symm⟩, a.2.1.symm, fun i i0 i1 => ⟨(a.2.2 i i0 (by rw [a.2.1]; exact i1)).1.symm, (a.2.2 i i0 (by rw [a.2.1]; exact i1)).2.symm⟩⟩
theorem SA_t {w : Int → Int} {σ : x_S} {g h k : Int} (a : SA w σ g h) (b : SA w σ h k) : SA w σ g k := ⟨⟨a.1.1.trans b.1.1, a.1.2.1.trans b.1.2.1, a.1.2.2.1.trans b.1.2.2.1, a.1.2.2.2.trans b.1.2.2.2⟩, a.2.1.trans b.2.1, fun i i0 i1 => ⟨(a.2.2 i i0 i1).1.trans (b.2.2 i i0 (by rw [← a.2.1]; exact i1)).1, (a.2.2 i i0 i1).2.trans (b.2.2 i i0 (by rw [← a.2.1]; exact i1)).2⟩⟩
theorem SA_cg {w : Int → Int} {σ σ' : x_S} {g h : Int} (e1 : σ' 47 0 g = σ 47 0 g) (e2 : σ' 47 0 h = σ 47 0 h) (eg : ∀ i, 0 ≤ i → i < σ 47 0 g → lko σ' g i = lko σ g i ∧ σ' 45 0 (lkl σ' g i) = σ 45 0 (lkl σ g i)) (eh : ∀ i, 0 ≤ i → i < σ 47 0 h → lko σ' h i = lko σ h i ∧ σ' 45 0 (lkl σ' h i) = σ 45 0 (lkl σ h i)) : SA w σ' g h ↔ SA w σ g h := by
  unfold SA ldE
  rw [e1, e2]
  constructor
  · rintro ⟨a, b, c⟩
    refine ⟨a, b, fun i i0 i1 => ?_⟩
    have x := c i i0 i1
    rw [(eg i i0 i1).1, (eg i i0 i1).2, (eh i i0 (by rw [← b]; exact i1)).1, (eh i i0 (by rw [← b]; exact i1)).2] at x
    exact x
  · rintro ⟨a, b, c⟩
    refine ⟨a, b, fun i i0 i1 => ?_⟩
    rw [(eg i i0 i1).1, (eg i i0 i1).2, (eh i i0 (by rw [← b]; exact i1)).1, (eh i i0 (by rw [← b]; exact i1)).2]
    exact c i i0 i1
theorem k_doAlike {d : Nat} {σ : x_S} {Q : Option x_V → x_S → Prop} {w : Int → Int} {f g : Int} (hM : mir σ 1 w) (hw : wf w) (h0 : 0 ≤ f) (h1 : f < w 0) (g0 : 0 ≤ g) (g1 : g < w 0) : x_Sp d 21 [xR 44 0, xI f, xI g] σ Q ↔ Q (some (xI (x_bi (w_of w f 2 = w_of w g 2 ∧ w_of w f 3 = w_of w g 3 ∧ w_of w f 4 = w_of w g 4 ∧ w_of w f 5 = w_of w g 5)))) σ := by
  have a := wf_h hw
  unfold wf_hdr at a
  have o := wf_f hw h0 h1
  unfold wf_one at o
  have o2 := wf_f hw g0 g1
  unfold wf_one at o2
  refine x_sp_of ?_
  by_cases c1 : w_of w f 2 = w_of w g 2
  · by_cases c2 : w_of w f 3 = w_of w g 3
    · by_cases c3 : w_of w f 4 = w_of w g 4
      · by_cases c4 : w_of w f 5 = w_of w g 5
        · rw [bi_t ⟨c1, c2, c3, c4⟩]
          simp (disch := first | omega | (simp only [x_wtI, x_wtJ, x_wtR, x_wtN]; omega) | assumption | (simp (disch := omega) only [x_st_o, x_rd_ne]; first | assumption | omega) | (apply mir_eq; assumption; (intro c h1 h2; simp (disch := omega) only [x_st_o])) | (apply mis_eq; assumption; (intro c h1 h2; simp (disch := omega) only [x_st_o])) | rfl) only [sp_21, bk_21_0, bk_21_1, bk_21_2, wp_ald0, wr_44_0, wr_6_9, wp_ild1, wl_9, wl_10, wl_11, wl_12, wp_cald, wp_ild2, wp_icne, wr_6_10, wr_6_11, wr_6_12, wp_ic, wp_goto, wp_fall, wp_zret0 mz_21, wp_zret1 mz_21, wp_zretb mz_21, wp_zret mz_21, x_clr_I, x_clr_J, x_clr_R, x_clr_U, ct_some, ct_none, lc_lt, lc_ge, lc_gt, lc_le, lc_eq, lc_r, xI_inj, xJ_inj, Option.some.injEq, eq_self, bi_r, bi_0, bi_1, bi_n, Classical.not_not, and_true, true_and, ite_true, ite_false, ↓reduceIte, ↓x_andl, z_le, z_nle, z_lt, z_nlt, z_eq, z_neq, if_pos, if_neg, x_andl, false_and, and_false, or_true, true_or, or_false, false_or, not_true, not_false_iff, x_rd_eq, x_rd_ne, x_st_o, Int.cast_ofNat_Int, Int.ofNat_zero, Int.ofNat_one, not_true_eq_false, not_false_eq_true, if_true, if_false, ite_self, and_self, Int.ofNat_eq_natCast, Int.tdiv_eq_ediv_of_nonneg, Int.tmod_eq_emod_of_nonneg, x_bm32, mi_price hM, mi_most hM, mi_sell hM, mi_need hM]
        · rw [bi_f (fun z => c4 z.2.2.2)]
          simp (disch := first | omega | (simp only [x_wtI, x_wtJ, x_wtR, x_wtN]; omega) | assumption | (simp (disch := omega) only [x_st_o, x_rd_ne]; first | assumption | omega) | (apply mir_eq; assumption; (intro c h1 h2; simp (disch := omega) only [x_st_o])) | (apply mis_eq; assumption; (intro c h1 h2; simp (disch := omega) only [x_st_o])) | rfl) only [sp_21, bk_21_0, bk_21_1, bk_21_2, wp_ald0, wr_44_0, wr_6_9, wp_ild1, wl_9, wl_10, wl_11, wl_12, wp_cald, wp_ild2, wp_icne, wr_6_10, wr_6_11, wr_6_12, wp_ic, wp_goto, wp_fall, wp_zret0 mz_21, wp_zret1 mz_21, wp_zretb mz_21, wp_zret mz_21, x_clr_I, x_clr_J, x_clr_R, x_clr_U, ct_some, ct_none, lc_lt, lc_ge, lc_gt, lc_le, lc_eq, lc_r, xI_inj, xJ_inj, Option.some.injEq, eq_self, bi_r, bi_0, bi_1, bi_n, Classical.not_not, and_true, true_and, ite_true, ite_false, ↓reduceIte, ↓x_andl, z_le, z_nle, z_lt, z_nlt, z_eq, z_neq, if_pos, if_neg, x_andl, false_and, and_false, or_true, true_or, or_false, false_or, not_true, not_false_iff, x_rd_eq, x_rd_ne, x_st_o, Int.cast_ofNat_Int, Int.ofNat_zero, Int.ofNat_one, not_true_eq_false, not_false_eq_true, if_true, if_false, ite_self, and_self, Int.ofNat_eq_natCast, Int.tdiv_eq_ediv_of_nonneg, Int.tmod_eq_emod_of_nonneg, x_bm32, mi_price hM, mi_most hM, mi_sell hM, mi_need hM]
      · rw [bi_f (fun z => c3 z.2.2.1)]
        simp (disch := first | omega | (simp only [x_wtI, x_wtJ, x_wtR, x_wtN]; omega) | assumption | (simp (disch := omega) only [x_st_o, x_rd_ne]; first | assumption | omega) | (apply mir_eq; assumption; (intro c h1 h2; simp (disch := omega) only [x_st_o])) | (apply mis_eq; assumption; (intro c h1 h2; simp (disch := omega) only [x_st_o])) | rfl) only [sp_21, bk_21_0, bk_21_1, bk_21_2, wp_ald0, wr_44_0, wr_6_9, wp_ild1, wl_9, wl_10, wl_11, wl_12, wp_cald, wp_ild2, wp_icne, wr_6_10, wr_6_11, wr_6_12, wp_ic, wp_goto, wp_fall, wp_zret0 mz_21, wp_zret1 mz_21, wp_zretb mz_21, wp_zret mz_21, x_clr_I, x_clr_J, x_clr_R, x_clr_U, ct_some, ct_none, lc_lt, lc_ge, lc_gt, lc_le, lc_eq, lc_r, xI_inj, xJ_inj, Option.some.injEq, eq_self, bi_r, bi_0, bi_1, bi_n, Classical.not_not, and_true, true_and, ite_true, ite_false, ↓reduceIte, ↓x_andl, z_le, z_nle, z_lt, z_nlt, z_eq, z_neq, if_pos, if_neg, x_andl, false_and, and_false, or_true, true_or, or_false, false_or, not_true, not_false_iff, x_rd_eq, x_rd_ne, x_st_o, Int.cast_ofNat_Int, Int.ofNat_zero, Int.ofNat_one, not_true_eq_false, not_false_eq_true, if_true, if_false, ite_self, and_self, Int.ofNat_eq_natCast, Int.tdiv_eq_ediv_of_nonneg, Int.tmod_eq_emod_of_nonneg, x_bm32, mi_price hM, mi_most hM, mi_sell hM, mi_need hM]
    · rw [bi_f (fun z => c2 z.2.1)]
      simp (disch := first | omega | (simp only [x_wtI, x_wtJ, x_wtR, x_wtN]; omega) | assumption | (simp (disch := omega) only [x_st_o, x_rd_ne]; first | assumption | omega) | (apply mir_eq; assumption; (intro c h1 h2; simp (disch := omega) only [x_st_o])) | (apply mis_eq; assumption; (intro c h1 h2; simp (disch := omega) only [x_st_o])) | rfl) only [sp_21, bk_21_0, bk_21_1, bk_21_2, wp_ald0, wr_44_0, wr_6_9, wp_ild1, wl_9, wl_10, wl_11, wl_12, wp_cald, wp_ild2, wp_icne, wr_6_10, wr_6_11, wr_6_12, wp_ic, wp_goto, wp_fall, wp_zret0 mz_21, wp_zret1 mz_21, wp_zretb mz_21, wp_zret mz_21, x_clr_I, x_clr_J, x_clr_R, x_clr_U, ct_some, ct_none, lc_lt, lc_ge, lc_gt, lc_le, lc_eq, lc_r, xI_inj, xJ_inj, Option.some.injEq, eq_self, bi_r, bi_0, bi_1, bi_n, Classical.not_not, and_true, true_and, ite_true, ite_false, ↓reduceIte, ↓x_andl, z_le, z_nle, z_lt, z_nlt, z_eq, z_neq, if_pos, if_neg, x_andl, false_and, and_false, or_true, true_or, or_false, false_or, not_true, not_false_iff, x_rd_eq, x_rd_ne, x_st_o, Int.cast_ofNat_Int, Int.ofNat_zero, Int.ofNat_one, not_true_eq_false, not_false_eq_true, if_true, if_false, ite_self, and_self, Int.ofNat_eq_natCast, Int.tdiv_eq_ediv_of_nonneg, Int.tmod_eq_emod_of_nonneg, x_bm32, mi_price hM, mi_most hM, mi_sell hM, mi_need hM]
  · rw [bi_f (fun z => c1 z.1)]
    simp (disch := first | omega | (simp only [x_wtI, x_wtJ, x_wtR, x_wtN]; omega) | assumption | (simp (disch := omega) only [x_st_o, x_rd_ne]; first | assumption | omega) | (apply mir_eq; assumption; (intro c h1 h2; simp (disch := omega) only [x_st_o])) | (apply mis_eq; assumption; (intro c h1 h2; simp (disch := omega) only [x_st_o])) | rfl) only [sp_21, bk_21_0, bk_21_1, bk_21_2, wp_ald0, wr_44_0, wr_6_9, wp_ild1, wl_9, wl_10, wl_11, wl_12, wp_cald, wp_ild2, wp_icne, wr_6_10, wr_6_11, wr_6_12, wp_ic, wp_goto, wp_fall, wp_zret0 mz_21, wp_zret1 mz_21, wp_zretb mz_21, wp_zret mz_21, x_clr_I, x_clr_J, x_clr_R, x_clr_U, ct_some, ct_none, lc_lt, lc_ge, lc_gt, lc_le, lc_eq, lc_r, xI_inj, xJ_inj, Option.some.injEq, eq_self, bi_r, bi_0, bi_1, bi_n, Classical.not_not, and_true, true_and, ite_true, ite_false, ↓reduceIte, ↓x_andl, z_le, z_nle, z_lt, z_nlt, z_eq, z_neq, if_pos, if_neg, x_andl, false_and, and_false, or_true, true_or, or_false, false_or, not_true, not_false_iff, x_rd_eq, x_rd_ne, x_st_o, Int.cast_ofNat_Int, Int.ofNat_zero, Int.ofNat_one, not_true_eq_false, not_false_eq_true, if_true, if_false, ite_self, and_self, Int.ofNat_eq_natCast, Int.tdiv_eq_ediv_of_nonneg, Int.tmod_eq_emod_of_nonneg, x_bm32, mi_price hM, mi_most hM, mi_sell hM, mi_need hM]
/-! what stands in the cells of a fork that has its list -/
def lkR (σ : x_S) (f : Int) : Prop := (0 ≤ σ 47 0 f ∧ σ 47 0 f ≤ 5) ∧ ∀ i, 0 ≤ i → i < σ 47 0 f → (0 ≤ lkl σ f i ∧ lkl σ f i < 40) ∧ (0 ≤ lko σ f i ∧ lko σ f i ≤ 1000) ∧ (0 ≤ σ 45 0 (lkl σ f i) ∧ σ 45 0 (lkl σ f i) < 40)
theorem h_lead {σ : x_S} {f g : Int} (hf : 0 ≤ f ∧ f < 40) (hg : 0 ≤ g ∧ g < 40) (rf : lkR σ f) (rg : lkR σ g) : x_Sp 0 22 [xR 44 0, xI f, xI g] σ (fun r σ' => σ' = σ ∧ ∃ v, r = some (xI v) ∧ ((v = 1 ∧ ldE σ f g) ∨ (v = 0 ∧ ¬ ldE σ f g))) := by
  refine x_gen (fun Q hQ => ?_)
  have r1 := rf.1
  have r2 := rg.1
  by_cases c : σ 47 0 f = σ 47 0 g
  · generalize hn : σ 47 0 f = n at c r1
    have hng := c.symm
    simp (disch := first | omega | (simp only [x_wtI, x_wtJ, x_wtR, x_wtN]; omega) | assumption | (simp (disch := omega) only [x_st_o, x_rd_ne]; first | assumption | omega) | (apply mir_eq; assumption; (intro c h1 h2; simp (disch := omega) only [x_st_o])) | (apply mis_eq; assumption; (intro c h1 h2; simp (disch := omega) only [x_st_o])) | rfl) only [sp_22, bk_22_0, bk_22_1, bk_22_3, bk_22_4, bk_22_5, wp_ald0, wr_44_3, wp_ild1, wl_45, wl_47, wl_48, wl_49, wp_cald, wp_ild2, wp_iceq, wp_ic, wp_zret0 mz_22, wp_zret1 mz_22, wp_zretb mz_22, wp_zret mz_22, wp_ist3, wp_fall, wp_ild3, wp_icge, wp_imul, wp_iadd, wp_ist4, wp_ist5, wr_44_5, wp_ild4, wp_ild5, wp_icne, wr_44_1, wr_44_4, wp_inc3, wp_goto, x_clr_I, x_clr_J, x_clr_R, x_clr_U, ct_some, ct_none, lc_lt, lc_ge, lc_gt, lc_le, lc_eq, lc_r, xI_inj, xJ_inj, Option.some.injEq, eq_self, bi_r, bi_0, bi_1, bi_n, Classical.not_not, and_true, true_and, ite_true, ite_false, ↓reduceIte, ↓x_andl, z_le, z_nle, z_lt, z_nlt, z_eq, z_neq, if_pos, if_neg, x_andl, false_and, and_false, or_true, true_or, or_false, false_or, not_true, not_false_iff, x_rd_eq, x_rd_ne, x_st_o, Int.cast_ofNat_Int, Int.ofNat_zero, Int.ofNat_one, not_true_eq_false, not_false_eq_true, if_true, if_false, ite_self, and_self, Int.ofNat_eq_natCast, Int.tdiv_eq_ediv_of_nonneg, Int.tmod_eq_emod_of_nonneg, x_bm32, hn, hng]
    refine x_lpX (α := x_V × x_V) (fun i _ => ∀ q, 0 ≤ q → q < i → lko σ f q = lko σ g q ∧ σ 45 0 (lkl σ f q) = σ 45 0 (lkl σ g q)) (fun i q => x_Wp 0 22 (x_blk 22 2) [xR 44 0, xI f, xI g, xI i, q.1, q.2] [] σ Q) (lo := 0) (hi := n) (by omega) (a0 := (xU, xU)) (fun q a b => by omega) ?_ ?_
    · intro i ⟨u4, u5⟩ i0 i1 hJ
      have xf := rf.2 i i0 (by omega)
      have xg := rg.2 i i0 (by omega)
      have e1 : σ 48 0 (f * 5 + i) = lkl σ f i := rfl
      have e2 : σ 48 0 (g * 5 + i) = lkl σ g i := rfl
      have e3 : σ 49 0 (f * 5 + i) = lko σ f i := rfl
      have e4 : σ 49 0 (g * 5 + i) = lko σ g i := rfl
      have no : ¬ (lko σ f i = lko σ g i ∧ σ 45 0 (lkl σ f i) = σ 45 0 (lkl σ g i)) → Q (some (xI 0)) σ := fun z => hQ _ _ ⟨rfl, 0, rfl, Or.inr ⟨rfl, fun y => z (y.2 i i0 (by omega))⟩⟩
      have ys : lko σ f i = lko σ g i ∧ σ 45 0 (lkl σ f i) = σ 45 0 (lkl σ g i) → ∀ q, 0 ≤ q → q < i + 1 → lko σ f q = lko σ g q ∧ σ 45 0 (lkl σ f q) = σ 45 0 (lkl σ g q) := by
        intro z q q0 q1
        by_cases y : q = i
        · rw [y]
          exact z
        · exact hJ q q0 (by omega)
      generalize lkl σ f i = lf at xf e1 no ys
      generalize lkl σ g i = lg at xg e2 no ys
      generalize lko σ f i = of at xf e3 no ys
      generalize lko σ g i = og at xg e4 no ys
      generalize hdf : σ 45 0 lf = df at xf no ys
      generalize hdg : σ 45 0 lg = dg at xg no ys
      simp only
      by_cases c1 : of = og
      · by_cases c2 : df = dg
        · refine Or.inr ⟨(xI (f * 5 + i), xI (g * 5 + i)), ys ⟨c1, c2⟩, fun H => ?_⟩
          simp only at H
          rw [bk_22_2]
          simp (disch := first | omega | (simp only [x_wtI, x_wtJ, x_wtR, x_wtN]; omega) | assumption | (simp (disch := omega) only [x_st_o, x_rd_ne]; first | assumption | omega) | (apply mir_eq; assumption; (intro c h1 h2; simp (disch := omega) only [x_st_o])) | (apply mis_eq; assumption; (intro c h1 h2; simp (disch := omega) only [x_st_o])) | rfl) only [bk_22_0, bk_22_1, bk_22_3, bk_22_4, bk_22_5, wp_ald0, wr_44_3, wp_ild1, wl_45, wl_47, wl_48, wl_49, wp_cald, wp_ild2, wp_iceq, wp_ic, wp_zret0 mz_22, wp_zret1 mz_22, wp_zretb mz_22, wp_zret mz_22, wp_ist3, wp_fall, wp_ild3, wp_icge, wp_imul, wp_iadd, wp_ist4, wp_ist5, wr_44_5, wp_ild4, wp_ild5, wp_icne, wr_44_1, wr_44_4, wp_inc3, wp_goto, x_clr_I, x_clr_J, x_clr_R, x_clr_U, ct_some, ct_none, lc_lt, lc_ge, lc_gt, lc_le, lc_eq, lc_r, xI_inj, xJ_inj, Option.some.injEq, eq_self, bi_r, bi_0, bi_1, bi_n, Classical.not_not, and_true, true_and, ite_true, ite_false, ↓reduceIte, ↓x_andl, z_le, z_nle, z_lt, z_nlt, z_eq, z_neq, if_pos, if_neg, x_andl, false_and, and_false, or_true, true_or, or_false, false_or, not_true, not_false_iff, x_rd_eq, x_rd_ne, x_st_o, Int.cast_ofNat_Int, Int.ofNat_zero, Int.ofNat_one, not_true_eq_false, not_false_eq_true, if_true, if_false, ite_self, and_self, Int.ofNat_eq_natCast, Int.tdiv_eq_ediv_of_nonneg, Int.tmod_eq_emod_of_nonneg, x_bm32, hn, e1, e2, e3, e4, hdf, hdg]
          exact H
        · have F := no (fun z => c2 z.2)
          refine Or.inl ?_
          rw [bk_22_2]
          simp (disch := first | omega | (simp only [x_wtI, x_wtJ, x_wtR, x_wtN]; omega) | assumption | (simp (disch := omega) only [x_st_o, x_rd_ne]; first | assumption | omega) | (apply mir_eq; assumption; (intro c h1 h2; simp (disch := omega) only [x_st_o])) | (apply mis_eq; assumption; (intro c h1 h2; simp (disch := omega) only [x_st_o])) | rfl) only [bk_22_0, bk_22_1, bk_22_3, bk_22_4, bk_22_5, wp_ald0, wr_44_3, wp_ild1, wl_45, wl_47, wl_48, wl_49, wp_cald, wp_ild2, wp_iceq, wp_ic, wp_zret0 mz_22, wp_zret1 mz_22, wp_zretb mz_22, wp_zret mz_22, wp_ist3, wp_fall, wp_ild3, wp_icge, wp_imul, wp_iadd, wp_ist4, wp_ist5, wr_44_5, wp_ild4, wp_ild5, wp_icne, wr_44_1, wr_44_4, wp_inc3, wp_goto, x_clr_I, x_clr_J, x_clr_R, x_clr_U, ct_some, ct_none, lc_lt, lc_ge, lc_gt, lc_le, lc_eq, lc_r, xI_inj, xJ_inj, Option.some.injEq, eq_self, bi_r, bi_0, bi_1, bi_n, Classical.not_not, and_true, true_and, ite_true, ite_false, ↓reduceIte, ↓x_andl, z_le, z_nle, z_lt, z_nlt, z_eq, z_neq, if_pos, if_neg, x_andl, false_and, and_false, or_true, true_or, or_false, false_or, not_true, not_false_iff, x_rd_eq, x_rd_ne, x_st_o, Int.cast_ofNat_Int, Int.ofNat_zero, Int.ofNat_one, not_true_eq_false, not_false_eq_true, if_true, if_false, ite_self, and_self, Int.ofNat_eq_natCast, Int.tdiv_eq_ediv_of_nonneg, Int.tmod_eq_emod_of_nonneg, x_bm32, hn, e1, e2, e3, e4, hdf, hdg]
          exact F
      · have F := no (fun z => c1 z.1)
        refine Or.inl ?_
        rw [bk_22_2]
        simp (disch := first | omega | (simp only [x_wtI, x_wtJ, x_wtR, x_wtN]; omega) | assumption | (simp (disch := omega) only [x_st_o, x_rd_ne]; first | assumption | omega) | (apply mir_eq; assumption; (intro c h1 h2; simp (disch := omega) only [x_st_o])) | (apply mis_eq; assumption; (intro c h1 h2; simp (disch := omega) only [x_st_o])) | rfl) only [bk_22_0, bk_22_1, bk_22_3, bk_22_4, bk_22_5, wp_ald0, wr_44_3, wp_ild1, wl_45, wl_47, wl_48, wl_49, wp_cald, wp_ild2, wp_iceq, wp_ic, wp_zret0 mz_22, wp_zret1 mz_22, wp_zretb mz_22, wp_zret mz_22, wp_ist3, wp_fall, wp_ild3, wp_icge, wp_imul, wp_iadd, wp_ist4, wp_ist5, wr_44_5, wp_ild4, wp_ild5, wp_icne, wr_44_1, wr_44_4, wp_inc3, wp_goto, x_clr_I, x_clr_J, x_clr_R, x_clr_U, ct_some, ct_none, lc_lt, lc_ge, lc_gt, lc_le, lc_eq, lc_r, xI_inj, xJ_inj, Option.some.injEq, eq_self, bi_r, bi_0, bi_1, bi_n, Classical.not_not, and_true, true_and, ite_true, ite_false, ↓reduceIte, ↓x_andl, z_le, z_nle, z_lt, z_nlt, z_eq, z_neq, if_pos, if_neg, x_andl, false_and, and_false, or_true, true_or, or_false, false_or, not_true, not_false_iff, x_rd_eq, x_rd_ne, x_st_o, Int.cast_ofNat_Int, Int.ofNat_zero, Int.ofNat_one, not_true_eq_false, not_false_eq_true, if_true, if_false, ite_self, and_self, Int.ofNat_eq_natCast, Int.tdiv_eq_ediv_of_nonneg, Int.tmod_eq_emod_of_nonneg, x_bm32, hn, e1, e2, e3, e4]
        exact F
    · intro ⟨u4, u5⟩ hJ
      have F := hQ (some (xI 1)) σ ⟨rfl, 1, rfl, Or.inl ⟨rfl, by rw [hn, hng], fun i i0 i1 => hJ i i0 (by rw [← hn]; exact i1)⟩⟩
      simp only
      rw [bk_22_2]
      simp (disch := first | omega | (simp only [x_wtI, x_wtJ, x_wtR, x_wtN]; omega) | assumption | (simp (disch := omega) only [x_st_o, x_rd_ne]; first | assumption | omega) | (apply mir_eq; assumption; (intro c h1 h2; simp (disch := omega) only [x_st_o])) | (apply mis_eq; assumption; (intro c h1 h2; simp (disch := omega) only [x_st_o])) | rfl) only [bk_22_0, bk_22_1, bk_22_3, bk_22_4, bk_22_5, wp_ald0, wr_44_3, wp_ild1, wl_45, wl_47, wl_48, wl_49, wp_cald, wp_ild2, wp_iceq, wp_ic, wp_zret0 mz_22, wp_zret1 mz_22, wp_zretb mz_22, wp_zret mz_22, wp_ist3, wp_fall, wp_ild3, wp_icge, wp_imul, wp_iadd, wp_ist4, wp_ist5, wr_44_5, wp_ild4, wp_ild5, wp_icne, wr_44_1, wr_44_4, wp_inc3, wp_goto, x_clr_I, x_clr_J, x_clr_R, x_clr_U, ct_some, ct_none, lc_lt, lc_ge, lc_gt, lc_le, lc_eq, lc_r, xI_inj, xJ_inj, Option.some.injEq, eq_self, bi_r, bi_0, bi_1, bi_n, Classical.not_not, and_true, true_and, ite_true, ite_false, ↓reduceIte, ↓x_andl, z_le, z_nle, z_lt, z_nlt, z_eq, z_neq, if_pos, if_neg, x_andl, false_and, and_false, or_true, true_or, or_false, false_or, not_true, not_false_iff, x_rd_eq, x_rd_ne, x_st_o, Int.cast_ofNat_Int, Int.ofNat_zero, Int.ofNat_one, not_true_eq_false, not_false_eq_true, if_true, if_false, ite_self, and_self, Int.ofNat_eq_natCast, Int.tdiv_eq_ediv_of_nonneg, Int.tmod_eq_emod_of_nonneg, x_bm32, hn]
      exact F
  · have F := hQ (some (xI 0)) σ ⟨rfl, 0, rfl, Or.inr ⟨rfl, fun z => c z.1⟩⟩
    simp (disch := first | omega | (simp only [x_wtI, x_wtJ, x_wtR, x_wtN]; omega) | assumption | (simp (disch := omega) only [x_st_o, x_rd_ne]; first | assumption | omega) | (apply mir_eq; assumption; (intro c h1 h2; simp (disch := omega) only [x_st_o])) | (apply mis_eq; assumption; (intro c h1 h2; simp (disch := omega) only [x_st_o])) | rfl) only [sp_22, bk_22_0, bk_22_1, bk_22_3, bk_22_4, bk_22_5, wp_ald0, wr_44_3, wp_ild1, wl_45, wl_47, wl_48, wl_49, wp_cald, wp_ild2, wp_iceq, wp_ic, wp_zret0 mz_22, wp_zret1 mz_22, wp_zretb mz_22, wp_zret mz_22, wp_ist3, wp_fall, wp_ild3, wp_icge, wp_imul, wp_iadd, wp_ist4, wp_ist5, wr_44_5, wp_ild4, wp_ild5, wp_icne, wr_44_1, wr_44_4, wp_inc3, wp_goto, x_clr_I, x_clr_J, x_clr_R, x_clr_U, ct_some, ct_none, lc_lt, lc_ge, lc_gt, lc_le, lc_eq, lc_r, xI_inj, xJ_inj, Option.some.injEq, eq_self, bi_r, bi_0, bi_1, bi_n, Classical.not_not, and_true, true_and, ite_true, ite_false, ↓reduceIte, ↓x_andl, z_le, z_nle, z_lt, z_nlt, z_eq, z_neq, if_pos, if_neg, x_andl, false_and, and_false, or_true, true_or, or_false, false_or, not_true, not_false_iff, x_rd_eq, x_rd_ne, x_st_o, Int.cast_ofNat_Int, Int.ofNat_zero, Int.ofNat_one, not_true_eq_false, not_false_eq_true, if_true, if_false, ite_self, and_self, Int.ofNat_eq_natCast, Int.tdiv_eq_ediv_of_nonneg, Int.tmod_eq_emod_of_nonneg, x_bm32]
    exact F
theorem h_kindOf {σ : x_S} {w : Int → Int} {f : Int} (hM : mir σ 1 w) (hw : wf w) (h0 : 0 ≤ f) (h1 : f < w 0) (rf : lkR σ f) (rg : ∀ g, f < g → g < w 0 → lkR σ g ∧ 0 ≤ σ 45 0 g ∧ σ 45 0 g < 40) : x_Sp 2 20 [xR 44 0, xI f] σ (fun r σ' => σ' = σ ∧ ∃ v, r = some (xI v) ∧ ((∃ g, f < g ∧ g < w 0 ∧ SA w σ f g ∧ v = σ 45 0 g) ∨ (v = f ∧ ∀ g, f < g → g < w 0 → ¬ SA w σ f g))) := by
  have a := wf_h hw
  unfold wf_hdr at a
  refine x_gen (fun Q hQ => ?_)
  simp (disch := first | omega | (simp only [x_wtI, x_wtJ, x_wtR, x_wtN]; omega) | assumption | (simp (disch := omega) only [x_st_o, x_rd_ne]; first | assumption | omega) | (apply mir_eq; assumption; (intro c h1 h2; simp (disch := omega) only [x_st_o])) | (apply mis_eq; assumption; (intro c h1 h2; simp (disch := omega) only [x_st_o])) | rfl) only [sp_20, bk_20_0, bk_20_2, bk_20_3, wp_ild1, wp_ic, wp_iadd, wp_ist2, wp_fall, wp_ild2, wp_ald0, wr_44_0, wp_geti kd_6, wp_icge, wk_21, wp_ifeq, wk_22, wr_44_1, wl_45, wp_cald, wp_iret mz_20, wp_inc2, wp_goto, x_clr_I, x_clr_J, x_clr_R, x_clr_U, ct_some, ct_none, lc_lt, lc_ge, lc_gt, lc_le, lc_eq, lc_r, xI_inj, xJ_inj, Option.some.injEq, eq_self, bi_r, bi_0, bi_1, bi_n, Classical.not_not, and_true, true_and, ite_true, ite_false, ↓reduceIte, ↓x_andl, z_le, z_nle, z_lt, z_nlt, z_eq, z_neq, if_pos, if_neg, x_andl, false_and, and_false, or_true, true_or, or_false, false_or, not_true, not_false_iff, x_rd_eq, x_rd_ne, x_st_o, Int.cast_ofNat_Int, Int.ofNat_zero, Int.ofNat_one, not_true_eq_false, not_false_eq_true, if_true, if_false, ite_self, and_self, Int.ofNat_eq_natCast, Int.tdiv_eq_ediv_of_nonneg, Int.tmod_eq_emod_of_nonneg, x_bm32]
  refine x_lpX (α := Unit) (fun g _ => ∀ q, f < q → q < g → ¬ SA w σ f q) (fun g _ => x_Wp 2 20 (x_blk 20 1) [xR 44 0, xI f, xI g] [] σ Q) (lo := f + 1) (hi := w 0) (by omega) (a0 := ()) (fun q p z => by omega) ?_ ?_
  · intro g _ g0 g1 hJ
    obtain ⟨rg1, rg2⟩ := rg g (by omega) g1
    by_cases cf : w_of w f 2 = w_of w g 2 ∧ w_of w f 3 = w_of w g 3 ∧ w_of w f 4 = w_of w g 4 ∧ w_of w f 5 = w_of w g 5
    · obtain ⟨r, σ', ⟨hσ', v, hr, hv⟩, ev⟩ := x_ex (h_lead (σ := σ) (f := f) (g := g) (by omega) (by omega) rf rg1)
      subst hσ'
      subst hr
      rcases hv with ⟨rfl, hl⟩ | ⟨rfl, hl⟩
      · have F := hQ (some (xI (σ' 45 0 g))) σ' ⟨rfl, _, rfl, Or.inl ⟨g, by omega, g1, ⟨cf, hl⟩, rfl⟩⟩
        refine Or.inl ?_
        rw [bk_20_1]
        simp (disch := first | omega | (simp only [x_wtI, x_wtJ, x_wtR, x_wtN]; omega) | assumption | (simp (disch := omega) only [x_st_o, x_rd_ne]; first | assumption | omega) | (apply mir_eq; assumption; (intro c h1 h2; simp (disch := omega) only [x_st_o])) | (apply mis_eq; assumption; (intro c h1 h2; simp (disch := omega) only [x_st_o])) | rfl) only [bk_20_0, bk_20_2, bk_20_3, wp_ild1, wp_ic, wp_iadd, wp_ist2, wp_fall, wp_ild2, wp_ald0, wr_44_0, wp_geti kd_6, wp_icge, wk_21, wp_ifeq, wk_22, wr_44_1, wl_45, wp_cald, wp_iret mz_20, wp_inc2, wp_goto, x_clr_I, x_clr_J, x_clr_R, x_clr_U, ct_some, ct_none, lc_lt, lc_ge, lc_gt, lc_le, lc_eq, lc_r, xI_inj, xJ_inj, Option.some.injEq, eq_self, bi_r, bi_0, bi_1, bi_n, Classical.not_not, and_true, true_and, ite_true, ite_false, ↓reduceIte, ↓x_andl, z_le, z_nle, z_lt, z_nlt, z_eq, z_neq, if_pos, if_neg, x_andl, false_and, and_false, or_true, true_or, or_false, false_or, not_true, not_false_iff, x_rd_eq, x_rd_ne, x_st_o, Int.cast_ofNat_Int, Int.ofNat_zero, Int.ofNat_one, not_true_eq_false, not_false_eq_true, if_true, if_false, ite_self, and_self, Int.ofNat_eq_natCast, Int.tdiv_eq_ediv_of_nonneg, Int.tmod_eq_emod_of_nonneg, x_bm32, mi_size hM, k_doAlike hM hw, bi_t cf, ev]
        exact F
      · refine Or.inr ⟨(), fun q q0 q1 z => ?_, fun H => ?_⟩
        · by_cases y : q = g
          · rw [y] at z
            exact hl z.2
          · exact hJ q q0 (by omega) z
        · rw [bk_20_1]
          simp (disch := first | omega | (simp only [x_wtI, x_wtJ, x_wtR, x_wtN]; omega) | assumption | (simp (disch := omega) only [x_st_o, x_rd_ne]; first | assumption | omega) | (apply mir_eq; assumption; (intro c h1 h2; simp (disch := omega) only [x_st_o])) | (apply mis_eq; assumption; (intro c h1 h2; simp (disch := omega) only [x_st_o])) | rfl) only [bk_20_0, bk_20_2, bk_20_3, wp_ild1, wp_ic, wp_iadd, wp_ist2, wp_fall, wp_ild2, wp_ald0, wr_44_0, wp_geti kd_6, wp_icge, wk_21, wp_ifeq, wk_22, wr_44_1, wl_45, wp_cald, wp_iret mz_20, wp_inc2, wp_goto, x_clr_I, x_clr_J, x_clr_R, x_clr_U, ct_some, ct_none, lc_lt, lc_ge, lc_gt, lc_le, lc_eq, lc_r, xI_inj, xJ_inj, Option.some.injEq, eq_self, bi_r, bi_0, bi_1, bi_n, Classical.not_not, and_true, true_and, ite_true, ite_false, ↓reduceIte, ↓x_andl, z_le, z_nle, z_lt, z_nlt, z_eq, z_neq, if_pos, if_neg, x_andl, false_and, and_false, or_true, true_or, or_false, false_or, not_true, not_false_iff, x_rd_eq, x_rd_ne, x_st_o, Int.cast_ofNat_Int, Int.ofNat_zero, Int.ofNat_one, not_true_eq_false, not_false_eq_true, if_true, if_false, ite_self, and_self, Int.ofNat_eq_natCast, Int.tdiv_eq_ediv_of_nonneg, Int.tmod_eq_emod_of_nonneg, x_bm32, mi_size hM, k_doAlike hM hw, bi_t cf, ev]
          exact H
    · refine Or.inr ⟨(), fun q q0 q1 z => ?_, fun H => ?_⟩
      · by_cases y : q = g
        · rw [y] at z
          exact cf z.1
        · exact hJ q q0 (by omega) z
      · rw [bk_20_1]
        simp (disch := first | omega | (simp only [x_wtI, x_wtJ, x_wtR, x_wtN]; omega) | assumption | (simp (disch := omega) only [x_st_o, x_rd_ne]; first | assumption | omega) | (apply mir_eq; assumption; (intro c h1 h2; simp (disch := omega) only [x_st_o])) | (apply mis_eq; assumption; (intro c h1 h2; simp (disch := omega) only [x_st_o])) | rfl) only [bk_20_0, bk_20_2, bk_20_3, wp_ild1, wp_ic, wp_iadd, wp_ist2, wp_fall, wp_ild2, wp_ald0, wr_44_0, wp_geti kd_6, wp_icge, wk_21, wp_ifeq, wk_22, wr_44_1, wl_45, wp_cald, wp_iret mz_20, wp_inc2, wp_goto, x_clr_I, x_clr_J, x_clr_R, x_clr_U, ct_some, ct_none, lc_lt, lc_ge, lc_gt, lc_le, lc_eq, lc_r, xI_inj, xJ_inj, Option.some.injEq, eq_self, bi_r, bi_0, bi_1, bi_n, Classical.not_not, and_true, true_and, ite_true, ite_false, ↓reduceIte, ↓x_andl, z_le, z_nle, z_lt, z_nlt, z_eq, z_neq, if_pos, if_neg, x_andl, false_and, and_false, or_true, true_or, or_false, false_or, not_true, not_false_iff, x_rd_eq, x_rd_ne, x_st_o, Int.cast_ofNat_Int, Int.ofNat_zero, Int.ofNat_one, not_true_eq_false, not_false_eq_true, if_true, if_false, ite_self, and_self, Int.ofNat_eq_natCast, Int.tdiv_eq_ediv_of_nonneg, Int.tmod_eq_emod_of_nonneg, x_bm32, mi_size hM, k_doAlike hM hw, bi_f cf]
        exact H
  · intro _ hJ
    have F := hQ (some (xI f)) σ ⟨rfl, f, rfl, Or.inr ⟨rfl, hJ⟩⟩
    rw [bk_20_1]
    simp (disch := first | omega | (simp only [x_wtI, x_wtJ, x_wtR, x_wtN]; omega) | assumption | (simp (disch := omega) only [x_st_o, x_rd_ne]; first | assumption | omega) | (apply mir_eq; assumption; (intro c h1 h2; simp (disch := omega) only [x_st_o])) | (apply mis_eq; assumption; (intro c h1 h2; simp (disch := omega) only [x_st_o])) | rfl) only [bk_20_0, bk_20_2, bk_20_3, wp_ild1, wp_ic, wp_iadd, wp_ist2, wp_fall, wp_ild2, wp_ald0, wr_44_0, wp_geti kd_6, wp_icge, wk_21, wp_ifeq, wk_22, wr_44_1, wl_45, wp_cald, wp_iret mz_20, wp_inc2, wp_goto, x_clr_I, x_clr_J, x_clr_R, x_clr_U, ct_some, ct_none, lc_lt, lc_ge, lc_gt, lc_le, lc_eq, lc_r, xI_inj, xJ_inj, Option.some.injEq, eq_self, bi_r, bi_0, bi_1, bi_n, Classical.not_not, and_true, true_and, ite_true, ite_false, ↓reduceIte, ↓x_andl, z_le, z_nle, z_lt, z_nlt, z_eq, z_neq, if_pos, if_neg, x_andl, false_and, and_false, or_true, true_or, or_false, false_or, not_true, not_false_iff, x_rd_eq, x_rd_ne, x_st_o, Int.cast_ofNat_Int, Int.ofNat_zero, Int.ofNat_one, not_true_eq_false, not_false_eq_true, if_true, if_false, ite_self, and_self, Int.ofNat_eq_natCast, Int.tdiv_eq_ediv_of_nonneg, Int.tmod_eq_emod_of_nonneg, x_bm32, mi_size hM]
    exact F
/-! all forks from one on have their lists and kinds -/
def lkP (jn : Int) (w : Int → Int) (σ : x_S) (h : Int) : Prop := lkF jn w σ h (w_of w h 7).toNat ∧ (h ≤ σ 45 0 h ∧ σ 45 0 h < w 0) ∧ σ 45 0 (σ 45 0 h) = σ 45 0 h
def lkA (jn : Int) (w : Int → Int) (σ : x_S) (lo : Int) : Prop := (∀ h, lo ≤ h → h < w 0 → lkP jn w σ h) ∧ ∀ g h, lo ≤ g → g < w 0 → lo ≤ h → h < w 0 → (σ 45 0 g = σ 45 0 h ↔ SA w σ g h)
theorem lkF_R {jn : Int} {w : Int → Int} {σ : x_S} {h : Int} {i : Nat} (hw : wf w) (h0 : 0 ≤ h) (h1 : h < w 0) (hi : (i : Int) ≤ w_of w h 7) (hF : lkF jn w σ h i) (hk : ∀ p : Int, 0 ≤ p → p < w_of w h 7 → 0 ≤ σ 45 0 (w_of w h (8 + p)) ∧ σ 45 0 (w_of w h (8 + p)) < 40) : lkR σ h := by
  have a := wf_h hw
  unfold wf_hdr at a
  have o := wf_f hw h0 h1
  unfold wf_one at o
  have jn := jR_n hF.1
  refine ⟨by omega, fun q q0 q1 => ?_⟩
  obtain ⟨p, p1, p2⟩ := jR_l hF.1 q q0 q1
  have kk := wf_k hw (f := h) (i := p) h0 h1 p1.1 (by omega)
  have ob := jR_o (B := 200) (ch := fun k => if 0 ≤ k ∧ k < w 0 then w_of w k 1 else 0) (by omega) (fun q => by
    show 0 ≤ (if 0 ≤ lkk w h q ∧ lkk w h q < w 0 then w_of w (lkk w h q) 1 else 0) ∧ (if 0 ≤ lkk w h q ∧ lkk w h q < w 0 then w_of w (lkk w h q) 1 else 0) ≤ 200
    by_cases z : 0 ≤ lkk w h q ∧ lkk w h q < w 0
    · rw [if_pos z]
      have ok := wf_f hw z.1 z.2
      unfold wf_one at ok
      omega
    · rw [if_neg z]
      omega) (jR_cg (kd' := σ 45 0) (ch' := fun k => if 0 ≤ k ∧ k < w 0 then w_of w k 1 else 0) (kid' := lkk w h) (l' := lkl σ h) (o' := lko σ h) (fun p p0 p1 => by
        have kp := wf_k hw (f := h) (i := p) h0 h1 p0 (by omega)
        refine ⟨rfl, rfl, ?_⟩
        show (if 0 ≤ lkk w h p ∧ lkk w h p < w 0 then w_of w (lkk w h p) 1 else 0) = w_of w (lkk w h p) 1
        have e : lkk w h p = w_of w h (8 + p) := rfl
        rw [e, if_pos ⟨by omega, kp.2.1⟩]) (fun _ _ _ => ⟨rfl, rfl⟩) hF.1) q q0 q1
  rw [p2]
  have e : lkk w h p = w_of w h (8 + p) := rfl
  rw [e]
  exact ⟨by omega, by omega, hk p p1.1 (by omega)⟩

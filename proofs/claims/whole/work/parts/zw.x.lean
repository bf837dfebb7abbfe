theorem rcp_r {σ : x_S} : rcp σ σ := ⟨eqo_refl, fun _ _ => rfl⟩
theorem h_cchk {fr wo : Int → Int} {Q : Option x_V → x_S → Prop} {σ : x_S} (hM : mir σ 0 fr) (hw : wf fr) (h5 : ∀ g, 0 < g → g < fr 0 → σ 5 0 g = wo g) (h2 : σ 3 0 2 = 0) (h3 : σ 3 0 3 = -1) : ∀ (m : Nat) (f : Int) (l2 l3 : x_V), fr 0 - f = m → 0 ≤ f → (∀ σ', rcp σ σ' → σ' 3 0 2 = (ccR fr wo m f).1 → σ' 3 0 3 = (ccR fr wo m f).2 → Q none σ') → x_Wp 4 40 (x_blk 40 1) [xR 3 0, xI f, l2, l3] [] σ Q := by
  have mb := (wf_h hw).1
  have sz := mi_size hM
  intro m
  induction m with
  | zero =>
    intro f l2 l3 hm f0 H
    have F := H σ rcp_r h2 h3
    have e : f = fr 0 := by omega
    rw [e]
    generalize fr 0 = k at sz mb
    rw [bk_40_1]
    simp (disch := first | omega | (simp only [x_wtI, x_wtJ, x_wtR, x_wtN]; omega) | assumption | (simp (disch := omega) only [x_st_o, x_rd_ne]; first | assumption | omega) | (apply mir_eq; assumption; (intro c h1 h2; simp (disch := omega) only [x_st_o])) | (apply mis_eq; assumption; (intro c h1 h2; simp (disch := omega) only [x_st_o])) | rfl) only [bk_40_0, bk_40_2, bk_40_3, bk_40_4, bk_40_5, wp_ic, wp_ist1, wp_fall, wp_ild1, wp_ald0, wr_3_0, wp_geti kd_6, wp_icge, wp_geti kd_3, wp_ifne, wp_ist2, wp_ist3, wp_ild3, wr_6_14, wl_5, wl_8, wl_14, wp_cald, wp_ild2, wr_6_8, wk_61, wp_iadd, wp_inc3, wp_goto, wp_ifle, wp_iceq, wr_3_5, wp_puti kd_3, wk_33, wp_inc1, wp_ret, x_clr_I, x_clr_J, x_clr_R, x_clr_U, ct_some, ct_none, lc_lt, lc_ge, lc_gt, lc_le, lc_eq, lc_r, xI_inj, xJ_inj, Option.some.injEq, eq_self, bi_r, bi_0, bi_1, bi_n, Classical.not_not, and_true, true_and, ite_true, ite_false, ↓reduceIte, ↓x_andl, z_le, z_nle, z_lt, z_nlt, z_eq, z_neq, if_pos, if_neg, x_andl, false_and, and_false, or_true, true_or, or_false, false_or, not_true, not_false_iff, x_rd_eq, x_rd_ne, x_st_o, Int.cast_ofNat_Int, Int.ofNat_zero, Int.ofNat_one, not_true_eq_false, not_false_eq_true, if_true, if_false, ite_self, and_self, Int.ofNat_eq_natCast, Int.tdiv_eq_ediv_of_nonneg, Int.tmod_eq_emod_of_nonneg, x_bm32, sz]
    exact F
  | succ m ih =>
    intro f l2 l3 hm f0 H
    have f1 : f < fr 0 := by omega
    have o := wf_f hw f0 f1
    unfold wf_one at o
    have k7 := mi_kids hM f0 f1
    have e : ccR fr wo (m + 1) f = if cBad fr f then (4, wo (w_of fr f 8)) else ccR fr wo m (f + 1) := rfl
    rw [e] at H
    have sb := sum_b hw f0 f1 (w_of fr f 7).toNat (by omega)
    have fin : x_Wp 4 40 (x_blk 40 3) [xR 3 0, xI f, xI (w_sum fr f (w_of fr f 7).toNat), xI (w_of fr f 7)] [] σ Q := by
      by_cases c : cBad fr f
      · rw [if_pos c] at H
        have k0 := wf_k hw (i := 0) f0 f1 (Int.le_refl 0) c.1
        have e80 : (8 : Int) + 0 = 8 := rfl
        rw [e80] at k0
        have ek : p_kid fr f 0 = w_of fr f 8 := if_pos ⟨⟨f0, f1⟩, Int.le_refl 0, c.1⟩
        have kd := fun (d' : Nat) (Q' : Option x_V → x_S → Prop) => k_kidAt (d := d') (Q := Q') (f := f) (i := 0) hM hw (by omega) (by omega) (by omega)
        rw [ek] at kd
        have e5 := h5 (w_of fr f 8) (by omega) k0.2.1
        have q2 : x_st σ 3 0 7 (wo (w_of fr f 8)) 3 0 2 = 0 := by rw [x_rd_ne (by omega)]; exact h2
        have kf := fun (d' : Nat) (Q' : Option x_V → x_S → Prop) => k_fail (d := d') (σ := x_st σ 3 0 7 (wo (w_of fr f 8))) (Q := Q') (c := 4) (by omega)
        simp only [if_pos q2, x_rd_eq] at kf
        have F := H (x_st (x_st (x_st σ 3 0 7 (wo (w_of fr f 8))) 3 0 2 4) 3 0 3 (wo (w_of fr f 8))) ⟨eqo_st (by simp) (eqo_st (by simp) (eqo_st (by simp) eqo_refl)), fun k hk => by rw [x_rd_ne (by omega), x_rd_ne (by omega), x_rd_ne (by omega)]⟩ (by rw [x_rd_ne (by omega), x_rd_eq]) (by rw [x_rd_eq])
        have c1 := c.1
        have c2 := c.2
        have kb : f < w_of fr f 8 ∧ w_of fr f 8 < fr 0 := ⟨k0.1, k0.2.1⟩
        clear c k0 ek q2 h5 ih H e
        generalize wo (w_of fr f 8) = W at e5 kf F
        generalize w_of fr f 8 = g at kd e5 kb
        generalize w_sum fr f (w_of fr f 7).toNat = s at c2 sb
        generalize w_of fr f 7 = k at k7 o c1 sb
        generalize fr 0 = M at sz mb f1 kb hm
        rw [bk_40_3]
        simp (disch := first | omega | (simp only [x_wtI, x_wtJ, x_wtR, x_wtN]; omega) | assumption | (simp (disch := omega) only [x_st_o, x_rd_ne]; first | assumption | omega) | (apply mir_eq; assumption; (intro c h1 h2; simp (disch := omega) only [x_st_o])) | (apply mis_eq; assumption; (intro c h1 h2; simp (disch := omega) only [x_st_o])) | rfl) only [bk_40_0, bk_40_2, bk_40_3, bk_40_4, bk_40_5, wp_ic, wp_ist1, wp_fall, wp_ild1, wp_ald0, wr_3_0, wp_geti kd_6, wp_icge, wp_geti kd_3, wp_ifne, wp_ist2, wp_ist3, wp_ild3, wr_6_14, wl_5, wl_8, wl_14, wp_cald, wp_ild2, wr_6_8, wk_61, wp_iadd, wp_inc3, wp_goto, wp_ifle, wp_iceq, wr_3_5, wp_puti kd_3, wk_33, wp_inc1, wp_ret, x_clr_I, x_clr_J, x_clr_R, x_clr_U, ct_some, ct_none, lc_lt, lc_ge, lc_gt, lc_le, lc_eq, lc_r, xI_inj, xJ_inj, Option.some.injEq, eq_self, bi_r, bi_0, bi_1, bi_n, Classical.not_not, and_true, true_and, ite_true, ite_false, ↓reduceIte, ↓x_andl, z_le, z_nle, z_lt, z_nlt, z_eq, z_neq, if_pos, if_neg, x_andl, false_and, and_false, or_true, true_or, or_false, false_or, not_true, not_false_iff, x_rd_eq, x_rd_ne, x_st_o, Int.cast_ofNat_Int, Int.ofNat_zero, Int.ofNat_one, not_true_eq_false, not_false_eq_true, if_true, if_false, ite_self, and_self, Int.ofNat_eq_natCast, Int.tdiv_eq_ediv_of_nonneg, Int.tmod_eq_emod_of_nonneg, x_bm32, k7, kd, e5, kf]
        rw [bk_40_1]
        by_cases z : f + 1 < M
        · simp (disch := first | omega | (simp only [x_wtI, x_wtJ, x_wtR, x_wtN]; omega) | assumption | (simp (disch := omega) only [x_st_o, x_rd_ne]; first | assumption | omega) | (apply mir_eq; assumption; (intro c h1 h2; simp (disch := omega) only [x_st_o])) | (apply mis_eq; assumption; (intro c h1 h2; simp (disch := omega) only [x_st_o])) | rfl) only [bk_40_0, bk_40_2, bk_40_3, bk_40_4, bk_40_5, wp_ic, wp_ist1, wp_fall, wp_ild1, wp_ald0, wr_3_0, wp_geti kd_6, wp_icge, wp_geti kd_3, wp_ifne, wp_ist2, wp_ist3, wp_ild3, wr_6_14, wl_5, wl_8, wl_14, wp_cald, wp_ild2, wr_6_8, wk_61, wp_iadd, wp_inc3, wp_goto, wp_ifle, wp_iceq, wr_3_5, wp_puti kd_3, wk_33, wp_inc1, wp_ret, x_clr_I, x_clr_J, x_clr_R, x_clr_U, ct_some, ct_none, lc_lt, lc_ge, lc_gt, lc_le, lc_eq, lc_r, xI_inj, xJ_inj, Option.some.injEq, eq_self, bi_r, bi_0, bi_1, bi_n, Classical.not_not, and_true, true_and, ite_true, ite_false, ↓reduceIte, ↓x_andl, z_le, z_nle, z_lt, z_nlt, z_eq, z_neq, if_pos, if_neg, x_andl, false_and, and_false, or_true, true_or, or_false, false_or, not_true, not_false_iff, x_rd_eq, x_rd_ne, x_st_o, Int.cast_ofNat_Int, Int.ofNat_zero, Int.ofNat_one, not_true_eq_false, not_false_eq_true, if_true, if_false, ite_self, and_self, Int.ofNat_eq_natCast, Int.tdiv_eq_ediv_of_nonneg, Int.tmod_eq_emod_of_nonneg, x_bm32, sz]
          exact F
        · simp (disch := first | omega | (simp only [x_wtI, x_wtJ, x_wtR, x_wtN]; omega) | assumption | (simp (disch := omega) only [x_st_o, x_rd_ne]; first | assumption | omega) | (apply mir_eq; assumption; (intro c h1 h2; simp (disch := omega) only [x_st_o])) | (apply mis_eq; assumption; (intro c h1 h2; simp (disch := omega) only [x_st_o])) | rfl) only [bk_40_0, bk_40_2, bk_40_3, bk_40_4, bk_40_5, wp_ic, wp_ist1, wp_fall, wp_ild1, wp_ald0, wr_3_0, wp_geti kd_6, wp_icge, wp_geti kd_3, wp_ifne, wp_ist2, wp_ist3, wp_ild3, wr_6_14, wl_5, wl_8, wl_14, wp_cald, wp_ild2, wr_6_8, wk_61, wp_iadd, wp_inc3, wp_goto, wp_ifle, wp_iceq, wr_3_5, wp_puti kd_3, wk_33, wp_inc1, wp_ret, x_clr_I, x_clr_J, x_clr_R, x_clr_U, ct_some, ct_none, lc_lt, lc_ge, lc_gt, lc_le, lc_eq, lc_r, xI_inj, xJ_inj, Option.some.injEq, eq_self, bi_r, bi_0, bi_1, bi_n, Classical.not_not, and_true, true_and, ite_true, ite_false, ↓reduceIte, ↓x_andl, z_le, z_nle, z_lt, z_nlt, z_eq, z_neq, if_pos, if_neg, x_andl, false_and, and_false, or_true, true_or, or_false, false_or, not_true, not_false_iff, x_rd_eq, x_rd_ne, x_st_o, Int.cast_ofNat_Int, Int.ofNat_zero, Int.ofNat_one, not_true_eq_false, not_false_eq_true, if_true, if_false, ite_self, and_self, Int.ofNat_eq_natCast, Int.tdiv_eq_ediv_of_nonneg, Int.tmod_eq_emod_of_nonneg, x_bm32, sz]
          exact F
      · rw [if_neg c] at H
        have K := ih (f + 1) (xI (w_sum fr f (w_of fr f 7).toNat)) (xI (w_of fr f 7)) (by omega) (by omega) H
        have c' : ¬ 0 < w_of fr f 7 ∨ w_sum fr f (w_of fr f 7).toNat = 100 := by
          by_cases z : 0 < w_of fr f 7
          · refine Or.inr ?_
            by_cases y : w_sum fr f (w_of fr f 7).toNat = 100
            · exact y
            · exact absurd ⟨z, y⟩ c
          · exact Or.inl z
        clear c h5 ih H e
        generalize w_sum fr f (w_of fr f 7).toNat = s at K sb c'
        generalize w_of fr f 7 = k at k7 o K c' sb
        generalize fr 0 = M at sz mb f1 hm
        rw [bk_40_3]
        by_cases z : 0 < k
        · have z2 : s = 100 := by omega
          subst z2
          simp (disch := first | omega | (simp only [x_wtI, x_wtJ, x_wtR, x_wtN]; omega) | assumption | (simp (disch := omega) only [x_st_o, x_rd_ne]; first | assumption | omega) | (apply mir_eq; assumption; (intro c h1 h2; simp (disch := omega) only [x_st_o])) | (apply mis_eq; assumption; (intro c h1 h2; simp (disch := omega) only [x_st_o])) | rfl) only [bk_40_0, bk_40_2, bk_40_3, bk_40_4, bk_40_5, wp_ic, wp_ist1, wp_fall, wp_ild1, wp_ald0, wr_3_0, wp_geti kd_6, wp_icge, wp_geti kd_3, wp_ifne, wp_ist2, wp_ist3, wp_ild3, wr_6_14, wl_5, wl_8, wl_14, wp_cald, wp_ild2, wr_6_8, wk_61, wp_iadd, wp_inc3, wp_goto, wp_ifle, wp_iceq, wr_3_5, wp_puti kd_3, wk_33, wp_inc1, wp_ret, x_clr_I, x_clr_J, x_clr_R, x_clr_U, ct_some, ct_none, lc_lt, lc_ge, lc_gt, lc_le, lc_eq, lc_r, xI_inj, xJ_inj, Option.some.injEq, eq_self, bi_r, bi_0, bi_1, bi_n, Classical.not_not, and_true, true_and, ite_true, ite_false, ↓reduceIte, ↓x_andl, z_le, z_nle, z_lt, z_nlt, z_eq, z_neq, if_pos, if_neg, x_andl, false_and, and_false, or_true, true_or, or_false, false_or, not_true, not_false_iff, x_rd_eq, x_rd_ne, x_st_o, Int.cast_ofNat_Int, Int.ofNat_zero, Int.ofNat_one, not_true_eq_false, not_false_eq_true, if_true, if_false, ite_self, and_self, Int.ofNat_eq_natCast, Int.tdiv_eq_ediv_of_nonneg, Int.tmod_eq_emod_of_nonneg, x_bm32, k7]
          exact K
        · simp (disch := first | omega | (simp only [x_wtI, x_wtJ, x_wtR, x_wtN]; omega) | assumption | (simp (disch := omega) only [x_st_o, x_rd_ne]; first | assumption | omega) | (apply mir_eq; assumption; (intro c h1 h2; simp (disch := omega) only [x_st_o])) | (apply mis_eq; assumption; (intro c h1 h2; simp (disch := omega) only [x_st_o])) | rfl) only [bk_40_0, bk_40_2, bk_40_3, bk_40_4, bk_40_5, wp_ic, wp_ist1, wp_fall, wp_ild1, wp_ald0, wr_3_0, wp_geti kd_6, wp_icge, wp_geti kd_3, wp_ifne, wp_ist2, wp_ist3, wp_ild3, wr_6_14, wl_5, wl_8, wl_14, wp_cald, wp_ild2, wr_6_8, wk_61, wp_iadd, wp_inc3, wp_goto, wp_ifle, wp_iceq, wr_3_5, wp_puti kd_3, wk_33, wp_inc1, wp_ret, x_clr_I, x_clr_J, x_clr_R, x_clr_U, ct_some, ct_none, lc_lt, lc_ge, lc_gt, lc_le, lc_eq, lc_r, xI_inj, xJ_inj, Option.some.injEq, eq_self, bi_r, bi_0, bi_1, bi_n, Classical.not_not, and_true, true_and, ite_true, ite_false, ↓reduceIte, ↓x_andl, z_le, z_nle, z_lt, z_nlt, z_eq, z_neq, if_pos, if_neg, x_andl, false_and, and_false, or_true, true_or, or_false, false_or, not_true, not_false_iff, x_rd_eq, x_rd_ne, x_st_o, Int.cast_ofNat_Int, Int.ofNat_zero, Int.ofNat_one, not_true_eq_false, not_false_eq_true, if_true, if_false, ite_self, and_self, Int.ofNat_eq_natCast, Int.tdiv_eq_ediv_of_nonneg, Int.tmod_eq_emod_of_nonneg, x_bm32, k7]
          exact K
    have K := c_sum hM hw ⟨f0, f1⟩ (w_of fr f 7).toNat 0 (by omega) fin
    have K2 : x_Wp 4 40 (x_blk 40 2) [xR 3 0, xI f, xI 0, xI 0] [] σ Q := K
    clear fin K H ih h5
    generalize fr 0 = M at sz mb f1 hm
    rw [bk_40_1]
    simp (disch := first | omega | (simp only [x_wtI, x_wtJ, x_wtR, x_wtN]; omega) | assumption | (simp (disch := omega) only [x_st_o, x_rd_ne]; first | assumption | omega) | (apply mir_eq; assumption; (intro c h1 h2; simp (disch := omega) only [x_st_o])) | (apply mis_eq; assumption; (intro c h1 h2; simp (disch := omega) only [x_st_o])) | rfl) only [bk_40_0, bk_40_3, bk_40_4, bk_40_5, wp_ic, wp_ist1, wp_fall, wp_ild1, wp_ald0, wr_3_0, wp_geti kd_6, wp_icge, wp_geti kd_3, wp_ifne, wp_ist2, wp_ist3, wp_ild3, wr_6_14, wl_5, wl_8, wl_14, wp_cald, wp_ild2, wr_6_8, wk_61, wp_iadd, wp_inc3, wp_goto, wp_ifle, wp_iceq, wr_3_5, wp_puti kd_3, wk_33, wp_inc1, wp_ret, x_clr_I, x_clr_J, x_clr_R, x_clr_U, ct_some, ct_none, lc_lt, lc_ge, lc_gt, lc_le, lc_eq, lc_r, xI_inj, xJ_inj, Option.some.injEq, eq_self, bi_r, bi_0, bi_1, bi_n, Classical.not_not, and_true, true_and, ite_true, ite_false, ↓reduceIte, ↓x_andl, z_le, z_nle, z_lt, z_nlt, z_eq, z_neq, if_pos, if_neg, x_andl, false_and, and_false, or_true, true_or, or_false, false_or, not_true, not_false_iff, x_rd_eq, x_rd_ne, x_st_o, Int.cast_ofNat_Int, Int.ofNat_zero, Int.ofNat_one, not_true_eq_false, not_false_eq_true, if_true, if_false, ite_self, and_self, Int.ofNat_eq_natCast, Int.tdiv_eq_ediv_of_nonneg, Int.tmod_eq_emod_of_nonneg, x_bm32, sz, h2]
    exact K2
/-! the model looks at the sums -/
theorem k_wrongAt {d : Nat} {σ : x_S} {Q : Option x_V → x_S → Prop} {c p : Int} (h : σ 50 0 12 = 0) : x_Sp (d + 1) 183 [xR 50 0, xI c, xI p] σ Q ↔ Q none (x_st (x_st σ 50 0 12 c) 50 0 13 p) := by
  refine x_sp_of ?_
  have kg := fun (d' : Nat) (Q' : Option x_V → x_S → Prop) => k_good (d := d') (σ := σ) (Q := Q') (by omega)
  simp only [if_pos h] at kg
  simp (disch := first | omega | (simp only [x_wtI, x_wtJ, x_wtR, x_wtN]; omega) | assumption | (simp (disch := omega) only [x_st_o, x_rd_ne]; first | assumption | omega) | (apply mir_eq; assumption; (intro c h1 h2; simp (disch := omega) only [x_st_o])) | (apply mis_eq; assumption; (intro c h1 h2; simp (disch := omega) only [x_st_o])) | rfl) only [sp_183, bk_183_0, bk_183_1, wp_ald0, wk_177, wp_ifne, wp_ret, wp_ild1, wp_puti kd_50, wp_ild2, x_clr_I, x_clr_J, x_clr_R, x_clr_U, ct_some, ct_none, lc_lt, lc_ge, lc_gt, lc_le, lc_eq, lc_r, xI_inj, xJ_inj, Option.some.injEq, eq_self, bi_r, bi_0, bi_1, bi_n, Classical.not_not, and_true, true_and, ite_true, ite_false, ↓reduceIte, ↓x_andl, z_le, z_nle, z_lt, z_nlt, z_eq, z_neq, if_pos, if_neg, x_andl, false_and, and_false, or_true, true_or, or_false, false_or, not_true, not_false_iff, x_rd_eq, x_rd_ne, x_st_o, Int.cast_ofNat_Int, Int.ofNat_zero, Int.ofNat_one, not_true_eq_false, not_false_eq_true, if_true, if_false, ite_self, and_self, Int.ofNat_eq_natCast, Int.tdiv_eq_ediv_of_nonneg, Int.tmod_eq_emod_of_nonneg, x_bm32, kg]
theorem m_sum {σ : x_S} {fr : Int → Int} {f : Int} {Q : Option x_V → x_S → Prop} (e6 : σ 56 0 = fr) (hw : wf fr) (hf : 0 ≤ f ∧ f < fr 0) : ∀ (m i : Nat), (i : Int) + m = w_of fr f 7 → x_Wp 4 189 (x_blk 189 3) [xR 50 0, xI f, xI (16 + 13 * f), xI (w_sum fr f (w_of fr f 7).toNat), xI (w_of fr f 7)] [] σ Q → x_Wp 4 189 (x_blk 189 2) [xR 50 0, xI f, xI (16 + 13 * f), xI (w_sum fr f i), xI (i : Int)] [] σ Q := by
  have mb := (wf_h hw).1
  have o := wf_f hw hf.1 hf.2
  unfold wf_one at o
  have k7 : σ 56 0 (16 + 13 * f + 7) = w_of fr f 7 := by rw [e6]; rfl
  intro m
  induction m with
  | zero =>
    intro i hi H
    have e : (w_of fr f 7).toNat = i := by omega
    have ei : (i : Int) = w_of fr f 7 := by omega
    rw [e] at H
    rw [ei]
    generalize w_sum fr f i = s at H
    generalize w_of fr f 7 = k at H k7 o
    rw [bk_189_2]
    simp (disch := first | omega | (simp only [x_wtI, x_wtJ, x_wtR, x_wtN]; omega) | assumption | (simp (disch := omega) only [x_st_o, x_rd_ne]; first | assumption | omega) | (apply mir_eq; assumption; (intro c h1 h2; simp (disch := omega) only [x_st_o])) | (apply mis_eq; assumption; (intro c h1 h2; simp (disch := omega) only [x_st_o])) | rfl) only [bk_189_0, bk_189_1, bk_189_4, bk_189_5, wp_ic, wp_ist1, wp_fall, wp_ild1, wp_ald0, wr_50_14, wl_56, wl_57, wp_cald, wp_icge, wk_177, wp_ifeq, wp_imul, wp_iadd, wp_ist2, wp_ist3, wp_ist4, wp_ild4, wp_ild2, wp_ild3, wp_inc4, wp_goto, wp_ifle, wp_iceq, wr_50_15, wk_183, wp_inc1, wp_ret, x_clr_I, x_clr_J, x_clr_R, x_clr_U, ct_some, ct_none, lc_lt, lc_ge, lc_gt, lc_le, lc_eq, lc_r, xI_inj, xJ_inj, Option.some.injEq, eq_self, bi_r, bi_0, bi_1, bi_n, Classical.not_not, and_true, true_and, ite_true, ite_false, ↓reduceIte, ↓x_andl, z_le, z_nle, z_lt, z_nlt, z_eq, z_neq, if_pos, if_neg, x_andl, false_and, and_false, or_true, true_or, or_false, false_or, not_true, not_false_iff, x_rd_eq, x_rd_ne, x_st_o, Int.cast_ofNat_Int, Int.ofNat_zero, Int.ofNat_one, not_true_eq_false, not_false_eq_true, if_true, if_false, ite_self, and_self, Int.ofNat_eq_natCast, Int.tdiv_eq_ediv_of_nonneg, Int.tmod_eq_emod_of_nonneg, x_bm32, k7]
    exact H
  | succ m ih =>
    intro i hi H
    have K := ih (i + 1) (by omega) H
    have es : w_sum fr f (i + 1) = w_sum fr f i + w_of fr (w_of fr f (8 + i)) 1 := rfl
    have sb := sum_b hw hf.1 hf.2 i (by omega)
    have kk := wf_k hw (i := (i : Int)) hf.1 hf.2 (by omega) (by omega)
    have ok := wf_f hw (f := w_of fr f (8 + i)) (by omega) kk.2.1
    unfold wf_one at ok
    have k8 : σ 56 0 (16 + 13 * f + 8 + i) = w_of fr f (8 + i) := by
      rw [e6, Int.add_assoc]
      rfl
    have k1 : σ 56 0 (16 + 13 * w_of fr f (8 + i) + 1) = w_of fr (w_of fr f (8 + i)) 1 := by rw [e6]; rfl
    have ei : ((i + 1 : Nat) : Int) = (i : Int) + 1 := by omega
    rw [ei, es] at K
    have ob := ok.2.1
    have c15 : w_of fr f 7 ≤ 5 := by omega
    generalize w_of fr (w_of fr f (8 + i)) 1 = c at K k1 ob
    generalize w_sum fr f i = s at K sb
    generalize w_of fr f 7 = k at k7 hi c15
    have kk2 : f < w_of fr f (8 + i) ∧ w_of fr f (8 + i) < 40 := by omega
    clear o ok kk es
    generalize w_of fr f (8 + i) = g at k8 k1 kk2
    have i0 : (0 : Int) ≤ (i : Int) := by omega
    generalize (i : Int) = ii at K k8 hi sb i0
    rw [bk_189_2]
    simp (disch := first | omega | (simp only [x_wtI, x_wtJ, x_wtR, x_wtN]; omega) | assumption | (simp (disch := omega) only [x_st_o, x_rd_ne]; first | assumption | omega) | (apply mir_eq; assumption; (intro c h1 h2; simp (disch := omega) only [x_st_o])) | (apply mis_eq; assumption; (intro c h1 h2; simp (disch := omega) only [x_st_o])) | rfl) only [bk_189_0, bk_189_1, bk_189_4, bk_189_5, wp_ic, wp_ist1, wp_fall, wp_ild1, wp_ald0, wr_50_14, wl_56, wl_57, wp_cald, wp_icge, wk_177, wp_ifeq, wp_imul, wp_iadd, wp_ist2, wp_ist3, wp_ist4, wp_ild4, wp_ild2, wp_ild3, wp_inc4, wp_goto, wp_ifle, wp_iceq, wr_50_15, wk_183, wp_inc1, wp_ret, x_clr_I, x_clr_J, x_clr_R, x_clr_U, ct_some, ct_none, lc_lt, lc_ge, lc_gt, lc_le, lc_eq, lc_r, xI_inj, xJ_inj, Option.some.injEq, eq_self, bi_r, bi_0, bi_1, bi_n, Classical.not_not, and_true, true_and, ite_true, ite_false, ↓reduceIte, ↓x_andl, z_le, z_nle, z_lt, z_nlt, z_eq, z_neq, if_pos, if_neg, x_andl, false_and, and_false, or_true, true_or, or_false, false_or, not_true, not_false_iff, x_rd_eq, x_rd_ne, x_st_o, Int.cast_ofNat_Int, Int.ofNat_zero, Int.ofNat_one, not_true_eq_false, not_false_eq_true, if_true, if_false, ite_self, and_self, Int.ofNat_eq_natCast, Int.tdiv_eq_ediv_of_nonneg, Int.tmod_eq_emod_of_nonneg, x_bm32, k7, k8, k1]
    exact K
theorem h_mchk {fr wo : Int → Int} {Q : Option x_V → x_S → Prop} {σ : x_S} (e6 : σ 56 0 = fr) (e7 : σ 57 0 = wo) (hw : wf fr) (h2 : σ 50 0 12 = 0) (h3 : σ 50 0 13 = -1) : ∀ (m : Nat) (f : Int) (l2 l3 l4 : x_V), fr 0 - f = m → 0 ≤ f → (∀ σ', mkp σ σ' → σ' 50 0 12 = (ccR fr wo m f).1 → σ' 50 0 13 = (ccR fr wo m f).2 → Q none σ') → x_Wp 4 189 (x_blk 189 1) [xR 50 0, xI f, l2, l3, l4] [] σ Q := by
  have mb := (wf_h hw).1
  have sz : σ 56 0 0 = fr 0 := by rw [e6]
  have kg := fun (d' : Nat) (Q' : Option x_V → x_S → Prop) => k_good (d := d') (σ := σ) (Q := Q') (by omega)
  simp only [if_pos h2] at kg
  intro m
  induction m with
  | zero =>
    intro f l2 l3 l4 hm f0 H
    have F := H σ mkp_r h2 h3
    have e : f = fr 0 := by omega
    rw [e]
    generalize fr 0 = k at sz mb
    rw [bk_189_1]
    simp (disch := first | omega | (simp only [x_wtI, x_wtJ, x_wtR, x_wtN]; omega) | assumption | (simp (disch := omega) only [x_st_o, x_rd_ne]; first | assumption | omega) | (apply mir_eq; assumption; (intro c h1 h2; simp (disch := omega) only [x_st_o])) | (apply mis_eq; assumption; (intro c h1 h2; simp (disch := omega) only [x_st_o])) | rfl) only [bk_189_0, bk_189_2, bk_189_3, bk_189_4, bk_189_5, wp_ic, wp_ist1, wp_fall, wp_ild1, wp_ald0, wr_50_14, wl_56, wl_57, wp_cald, wp_icge, wk_177, wp_ifeq, wp_imul, wp_iadd, wp_ist2, wp_ist3, wp_ist4, wp_ild4, wp_ild2, wp_ild3, wp_inc4, wp_goto, wp_ifle, wp_iceq, wr_50_15, wk_183, wp_inc1, wp_ret, x_clr_I, x_clr_J, x_clr_R, x_clr_U, ct_some, ct_none, lc_lt, lc_ge, lc_gt, lc_le, lc_eq, lc_r, xI_inj, xJ_inj, Option.some.injEq, eq_self, bi_r, bi_0, bi_1, bi_n, Classical.not_not, and_true, true_and, ite_true, ite_false, ↓reduceIte, ↓x_andl, z_le, z_nle, z_lt, z_nlt, z_eq, z_neq, if_pos, if_neg, x_andl, false_and, and_false, or_true, true_or, or_false, false_or, not_true, not_false_iff, x_rd_eq, x_rd_ne, x_st_o, Int.cast_ofNat_Int, Int.ofNat_zero, Int.ofNat_one, not_true_eq_false, not_false_eq_true, if_true, if_false, ite_self, and_self, Int.ofNat_eq_natCast, Int.tdiv_eq_ediv_of_nonneg, Int.tmod_eq_emod_of_nonneg, x_bm32, sz]
    exact F
  | succ m ih =>
    intro f l2 l3 l4 hm f0 H
    have f1 : f < fr 0 := by omega
    have o := wf_f hw f0 f1
    unfold wf_one at o
    have k7 : σ 56 0 (16 + 13 * f + 7) = w_of fr f 7 := by rw [e6]; rfl
    have e : ccR fr wo (m + 1) f = if cBad fr f then (4, wo (w_of fr f 8)) else ccR fr wo m (f + 1) := rfl
    rw [e] at H
    have sb := sum_b hw f0 f1 (w_of fr f 7).toNat (by omega)
    have fin : x_Wp 4 189 (x_blk 189 3) [xR 50 0, xI f, xI (16 + 13 * f), xI (w_sum fr f (w_of fr f 7).toNat), xI (w_of fr f 7)] [] σ Q := by
      by_cases c : cBad fr f
      · rw [if_pos c] at H
        have k0 := wf_k hw (i := 0) f0 f1 (Int.le_refl 0) c.1
        have e80 : (8 : Int) + 0 = 8 := rfl
        rw [e80] at k0
        have e8 : σ 56 0 (16 + 13 * f + 8) = w_of fr f 8 := by rw [e6]; rfl
        have e5 : σ 57 0 (w_of fr f 8) = wo (w_of fr f 8) := by rw [e7]
        have kf := fun (d' : Nat) (Q' : Option x_V → x_S → Prop) => k_wrongAt (d := d') (σ := σ) (Q := Q') (c := 4) (p := wo (w_of fr f 8)) h2
        have F := H (x_st (x_st σ 50 0 12 4) 50 0 13 (wo (w_of fr f 8))) ⟨eqo_st (by simp) (eqo_st (by simp) eqo_refl), fun k hk => by rw [x_rd_ne (by omega), x_rd_ne (by omega)]⟩ (by rw [x_rd_ne (by omega), x_rd_eq]) (by rw [x_rd_eq])
        have c1 := c.1
        have c2 := c.2
        have kb : f < w_of fr f 8 ∧ w_of fr f 8 < fr 0 := ⟨k0.1, k0.2.1⟩
        have q2 : ¬ x_st (x_st σ 50 0 12 4) 50 0 13 (wo (w_of fr f 8)) 50 0 12 = 0 := by
          rw [x_rd_ne (by omega), x_rd_eq]
          omega
        have kg2 := fun (d' : Nat) (Q' : Option x_V → x_S → Prop) => k_good (d := d') (σ := x_st (x_st σ 50 0 12 4) 50 0 13 (wo (w_of fr f 8))) (Q := Q') (by rw [x_rd_ne (by omega), x_rd_eq]; omega)
        simp only [if_neg q2] at kg2
        clear c k0 ih H e q2
        generalize wo (w_of fr f 8) = W at e5 kf F kg2
        generalize w_of fr f 8 = g at e8 e5 kb
        generalize w_sum fr f (w_of fr f 7).toNat = s at c2 sb
        generalize w_of fr f 7 = k at k7 o c1 sb
        generalize fr 0 = M at sz mb f1 kb hm
        rw [bk_189_3]
        simp (disch := first | omega | (simp only [x_wtI, x_wtJ, x_wtR, x_wtN]; omega) | assumption | (simp (disch := omega) only [x_st_o, x_rd_ne]; first | assumption | omega) | (apply mir_eq; assumption; (intro c h1 h2; simp (disch := omega) only [x_st_o])) | (apply mis_eq; assumption; (intro c h1 h2; simp (disch := omega) only [x_st_o])) | rfl) only [bk_189_0, bk_189_2, bk_189_3, bk_189_4, bk_189_5, wp_ic, wp_ist1, wp_fall, wp_ild1, wp_ald0, wr_50_14, wl_56, wl_57, wp_cald, wp_icge, wk_177, wp_ifeq, wp_imul, wp_iadd, wp_ist2, wp_ist3, wp_ist4, wp_ild4, wp_ild2, wp_ild3, wp_inc4, wp_goto, wp_ifle, wp_iceq, wr_50_15, wk_183, wp_inc1, wp_ret, x_clr_I, x_clr_J, x_clr_R, x_clr_U, ct_some, ct_none, lc_lt, lc_ge, lc_gt, lc_le, lc_eq, lc_r, xI_inj, xJ_inj, Option.some.injEq, eq_self, bi_r, bi_0, bi_1, bi_n, Classical.not_not, and_true, true_and, ite_true, ite_false, ↓reduceIte, ↓x_andl, z_le, z_nle, z_lt, z_nlt, z_eq, z_neq, if_pos, if_neg, x_andl, false_and, and_false, or_true, true_or, or_false, false_or, not_true, not_false_iff, x_rd_eq, x_rd_ne, x_st_o, Int.cast_ofNat_Int, Int.ofNat_zero, Int.ofNat_one, not_true_eq_false, not_false_eq_true, if_true, if_false, ite_self, and_self, Int.ofNat_eq_natCast, Int.tdiv_eq_ediv_of_nonneg, Int.tmod_eq_emod_of_nonneg, x_bm32, k7, e8, e5, kf]
        rw [bk_189_1]
        by_cases z : f + 1 < M
        · simp (disch := first | omega | (simp only [x_wtI, x_wtJ, x_wtR, x_wtN]; omega) | assumption | (simp (disch := omega) only [x_st_o, x_rd_ne]; first | assumption | omega) | (apply mir_eq; assumption; (intro c h1 h2; simp (disch := omega) only [x_st_o])) | (apply mis_eq; assumption; (intro c h1 h2; simp (disch := omega) only [x_st_o])) | rfl) only [bk_189_0, bk_189_2, bk_189_3, bk_189_4, bk_189_5, wp_ic, wp_ist1, wp_fall, wp_ild1, wp_ald0, wr_50_14, wl_56, wl_57, wp_cald, wp_icge, wk_177, wp_ifeq, wp_imul, wp_iadd, wp_ist2, wp_ist3, wp_ist4, wp_ild4, wp_ild2, wp_ild3, wp_inc4, wp_goto, wp_ifle, wp_iceq, wr_50_15, wk_183, wp_inc1, wp_ret, x_clr_I, x_clr_J, x_clr_R, x_clr_U, ct_some, ct_none, lc_lt, lc_ge, lc_gt, lc_le, lc_eq, lc_r, xI_inj, xJ_inj, Option.some.injEq, eq_self, bi_r, bi_0, bi_1, bi_n, Classical.not_not, and_true, true_and, ite_true, ite_false, ↓reduceIte, ↓x_andl, z_le, z_nle, z_lt, z_nlt, z_eq, z_neq, if_pos, if_neg, x_andl, false_and, and_false, or_true, true_or, or_false, false_or, not_true, not_false_iff, x_rd_eq, x_rd_ne, x_st_o, Int.cast_ofNat_Int, Int.ofNat_zero, Int.ofNat_one, not_true_eq_false, not_false_eq_true, if_true, if_false, ite_self, and_self, Int.ofNat_eq_natCast, Int.tdiv_eq_ediv_of_nonneg, Int.tmod_eq_emod_of_nonneg, x_bm32, sz, kg2]
          exact F
        · simp (disch := first | omega | (simp only [x_wtI, x_wtJ, x_wtR, x_wtN]; omega) | assumption | (simp (disch := omega) only [x_st_o, x_rd_ne]; first | assumption | omega) | (apply mir_eq; assumption; (intro c h1 h2; simp (disch := omega) only [x_st_o])) | (apply mis_eq; assumption; (intro c h1 h2; simp (disch := omega) only [x_st_o])) | rfl) only [bk_189_0, bk_189_2, bk_189_3, bk_189_4, bk_189_5, wp_ic, wp_ist1, wp_fall, wp_ild1, wp_ald0, wr_50_14, wl_56, wl_57, wp_cald, wp_icge, wk_177, wp_ifeq, wp_imul, wp_iadd, wp_ist2, wp_ist3, wp_ist4, wp_ild4, wp_ild2, wp_ild3, wp_inc4, wp_goto, wp_ifle, wp_iceq, wr_50_15, wk_183, wp_inc1, wp_ret, x_clr_I, x_clr_J, x_clr_R, x_clr_U, ct_some, ct_none, lc_lt, lc_ge, lc_gt, lc_le, lc_eq, lc_r, xI_inj, xJ_inj, Option.some.injEq, eq_self, bi_r, bi_0, bi_1, bi_n, Classical.not_not, and_true, true_and, ite_true, ite_false, ↓reduceIte, ↓x_andl, z_le, z_nle, z_lt, z_nlt, z_eq, z_neq, if_pos, if_neg, x_andl, false_and, and_false, or_true, true_or, or_false, false_or, not_true, not_false_iff, x_rd_eq, x_rd_ne, x_st_o, Int.cast_ofNat_Int, Int.ofNat_zero, Int.ofNat_one, not_true_eq_false, not_false_eq_true, if_true, if_false, ite_self, and_self, Int.ofNat_eq_natCast, Int.tdiv_eq_ediv_of_nonneg, Int.tmod_eq_emod_of_nonneg, x_bm32, sz]
          exact F
      · rw [if_neg c] at H
        have K := ih (f + 1) (xI (16 + 13 * f)) (xI (w_sum fr f (w_of fr f 7).toNat)) (xI (w_of fr f 7)) (by omega) (by omega) H
        have c' : ¬ 0 < w_of fr f 7 ∨ w_sum fr f (w_of fr f 7).toNat = 100 := by
          by_cases z : 0 < w_of fr f 7
          · refine Or.inr ?_
            by_cases y : w_sum fr f (w_of fr f 7).toNat = 100
            · exact y
            · exact absurd ⟨z, y⟩ c
          · exact Or.inl z
        clear c ih H e
        generalize w_sum fr f (w_of fr f 7).toNat = s at K sb c'
        generalize w_of fr f 7 = k at k7 o K c' sb
        generalize fr 0 = M at sz mb f1 hm
        rw [bk_189_3]
        by_cases z : 0 < k
        · have z2 : s = 100 := by omega
          subst z2
          simp (disch := first | omega | (simp only [x_wtI, x_wtJ, x_wtR, x_wtN]; omega) | assumption | (simp (disch := omega) only [x_st_o, x_rd_ne]; first | assumption | omega) | (apply mir_eq; assumption; (intro c h1 h2; simp (disch := omega) only [x_st_o])) | (apply mis_eq; assumption; (intro c h1 h2; simp (disch := omega) only [x_st_o])) | rfl) only [bk_189_0, bk_189_2, bk_189_3, bk_189_4, bk_189_5, wp_ic, wp_ist1, wp_fall, wp_ild1, wp_ald0, wr_50_14, wl_56, wl_57, wp_cald, wp_icge, wk_177, wp_ifeq, wp_imul, wp_iadd, wp_ist2, wp_ist3, wp_ist4, wp_ild4, wp_ild2, wp_ild3, wp_inc4, wp_goto, wp_ifle, wp_iceq, wr_50_15, wk_183, wp_inc1, wp_ret, x_clr_I, x_clr_J, x_clr_R, x_clr_U, ct_some, ct_none, lc_lt, lc_ge, lc_gt, lc_le, lc_eq, lc_r, xI_inj, xJ_inj, Option.some.injEq, eq_self, bi_r, bi_0, bi_1, bi_n, Classical.not_not, and_true, true_and, ite_true, ite_false, ↓reduceIte, ↓x_andl, z_le, z_nle, z_lt, z_nlt, z_eq, z_neq, if_pos, if_neg, x_andl, false_and, and_false, or_true, true_or, or_false, false_or, not_true, not_false_iff, x_rd_eq, x_rd_ne, x_st_o, Int.cast_ofNat_Int, Int.ofNat_zero, Int.ofNat_one, not_true_eq_false, not_false_eq_true, if_true, if_false, ite_self, and_self, Int.ofNat_eq_natCast, Int.tdiv_eq_ediv_of_nonneg, Int.tmod_eq_emod_of_nonneg, x_bm32, k7]
          exact K
        · simp (disch := first | omega | (simp only [x_wtI, x_wtJ, x_wtR, x_wtN]; omega) | assumption | (simp (disch := omega) only [x_st_o, x_rd_ne]; first | assumption | omega) | (apply mir_eq; assumption; (intro c h1 h2; simp (disch := omega) only [x_st_o])) | (apply mis_eq; assumption; (intro c h1 h2; simp (disch := omega) only [x_st_o])) | rfl) only [bk_189_0, bk_189_2, bk_189_3, bk_189_4, bk_189_5, wp_ic, wp_ist1, wp_fall, wp_ild1, wp_ald0, wr_50_14, wl_56, wl_57, wp_cald, wp_icge, wk_177, wp_ifeq, wp_imul, wp_iadd, wp_ist2, wp_ist3, wp_ist4, wp_ild4, wp_ild2, wp_ild3, wp_inc4, wp_goto, wp_ifle, wp_iceq, wr_50_15, wk_183, wp_inc1, wp_ret, x_clr_I, x_clr_J, x_clr_R, x_clr_U, ct_some, ct_none, lc_lt, lc_ge, lc_gt, lc_le, lc_eq, lc_r, xI_inj, xJ_inj, Option.some.injEq, eq_self, bi_r, bi_0, bi_1, bi_n, Classical.not_not, and_true, true_and, ite_true, ite_false, ↓reduceIte, ↓x_andl, z_le, z_nle, z_lt, z_nlt, z_eq, z_neq, if_pos, if_neg, x_andl, false_and, and_false, or_true, true_or, or_false, false_or, not_true, not_false_iff, x_rd_eq, x_rd_ne, x_st_o, Int.cast_ofNat_Int, Int.ofNat_zero, Int.ofNat_one, not_true_eq_false, not_false_eq_true, if_true, if_false, ite_self, and_self, Int.ofNat_eq_natCast, Int.tdiv_eq_ediv_of_nonneg, Int.tmod_eq_emod_of_nonneg, x_bm32, k7]
          exact K
    have K := m_sum e6 hw ⟨f0, f1⟩ (w_of fr f 7).toNat 0 (by omega) fin
    have K2 : x_Wp 4 189 (x_blk 189 2) [xR 50 0, xI f, xI (16 + 13 * f), xI 0, xI 0] [] σ Q := K
    clear fin K H ih
    generalize fr 0 = M at sz mb f1 hm
    rw [bk_189_1]
    simp (disch := first | omega | (simp only [x_wtI, x_wtJ, x_wtR, x_wtN]; omega) | assumption | (simp (disch := omega) only [x_st_o, x_rd_ne]; first | assumption | omega) | (apply mir_eq; assumption; (intro c h1 h2; simp (disch := omega) only [x_st_o])) | (apply mis_eq; assumption; (intro c h1 h2; simp (disch := omega) only [x_st_o])) | rfl) only [bk_189_0, bk_189_3, bk_189_4, bk_189_5, wp_ic, wp_ist1, wp_fall, wp_ild1, wp_ald0, wr_50_14, wl_56, wl_57, wp_cald, wp_icge, wk_177, wp_ifeq, wp_imul, wp_iadd, wp_ist2, wp_ist3, wp_ist4, wp_ild4, wp_ild2, wp_ild3, wp_inc4, wp_goto, wp_ifle, wp_iceq, wr_50_15, wk_183, wp_inc1, wp_ret, x_clr_I, x_clr_J, x_clr_R, x_clr_U, ct_some, ct_none, lc_lt, lc_ge, lc_gt, lc_le, lc_eq, lc_r, xI_inj, xJ_inj, Option.some.injEq, eq_self, bi_r, bi_0, bi_1, bi_n, Classical.not_not, and_true, true_and, ite_true, ite_false, ↓reduceIte, ↓x_andl, z_le, z_nle, z_lt, z_nlt, z_eq, z_neq, if_pos, if_neg, x_andl, false_and, and_false, or_true, true_or, or_false, false_or, not_true, not_false_iff, x_rd_eq, x_rd_ne, x_st_o, Int.cast_ofNat_Int, Int.ofNat_zero, Int.ofNat_one, not_true_eq_false, not_false_eq_true, if_true, if_false, ite_self, and_self, Int.ofNat_eq_natCast, Int.tdiv_eq_ediv_of_nonneg, Int.tmod_eq_emod_of_nonneg, x_bm32, sz, kg]
    exact K2

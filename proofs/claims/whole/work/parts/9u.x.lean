section MV
variable {w : Int → Int} {f g t n : Int}
theorem mv_ws (g0 : 0 ≤ g) (t0 : 0 ≤ t) (g1 : g < 40) (t1 : t < 40) : ws w (w_mv w g t n) := ⟨fun i hi => mv_h g0 t0 (by omega) g1 t1, fun h k _ _ k0 k1 k2 _ => mv_k (by omega)⟩
theorem mv_z (hw : wf w) (g0 : 0 ≤ g) (t0 : 0 ≤ t) (g1 : g < w 0) (t1 : t < w 0) (ug : w_of w g 0 = f) (ut : w_of w t 0 = f) : ∀ h, 0 ≤ h → h < w 0 → ¬ h = f → ∀ (L T : Int → Int) st wd b t' u, zst 9223372036854775807 0 5 4 (w_mv w g t n) L T h st wd b t' u ↔ zst 9223372036854775807 0 5 4 w L T h st wd b t' u := by
  have a := wf_h hw
  unfold wf_hdr at a
  intro h h0 h1 ne L T st wd b t' u
  refine zst_loc hw (mv_ws g0 t0 (by omega) (by omega)) h0 h1 (mv_k (by omega)) (fun i i0 i1 => ?_) _ _ _ _ _ _ _ _ _ _ _
  have kk := wf_k hw (f := h) (i := i) h0 h1 i0 i1
  refine mv_o (fun z => ne ?_) (fun z => ne ?_)
  · rw [z] at kk
    exact kk.2.2.1.symm.trans ug
  · rw [z] at kk
    exact kk.2.2.1.symm.trans ut
end MV
section OED
variable {L : Int} {S0 : Int → Int}
set_option maxHeartbeats 4000000 in
theorem h_edgeM {σ : x_S} {w : Int → Int} {f i j b0 t0 v : Int} (hh : iN L S0 σ) (h51 : σ 51 0 = w) (h0 : 0 ≤ f) (h1 : f < w 0) (ci : 0 ≤ i ∧ i < w_of w f 7) (cj : 0 ≤ j ∧ j < w_of w f 7) (ij : ¬ i = j) (hir : -2147483648 ≤ i ∧ i ≤ 2147483647) (hjr : -2147483648 ≤ j ∧ j ≤ 2147483647) (al : alv w) (p0 : pkw w b0 t0) (hv : ansP (w_mv w (w_of w f (8 + i)) (w_of w f (8 + j))) b0 t0 (w_of w (w_of w f (8 + i)) 1) v) : x_Sp 999 256 [xR 50 0, xI f, xI i, xI j] σ (fun r2 σ2 => r2 = some (xI v) ∧ iN L S0 σ2) := by
  obtain ⟨w', h51', hw, h100, hn, hq, hM, hS⟩ := iN_w hh
  have ew : w' = w := h51'.symm.trans h51
  subst ew
  have a := wf_h hw
  unfold wf_hdr at a
  obtain ⟨n8, n9, n10, _⟩ := id hn
  have o := wf_f hw (f := w' 8) n8.1 n8.2
  unfold wf_one at o
  have of := wf_f hw h0 h1
  unfold wf_one at of
  have ki := wf_k hw h0 h1 ci.1 ci.2
  have kj := wf_k hw h0 h1 cj.1 cj.2
  have hi1 := ch_100 hw h100 h0 h1 ci.1 ci.2
  have hj1 := ch_100 hw h100 h0 h1 cj.1 cj.2
  have gt : ¬ w_of w' f (8 + i) = w_of w' f (8 + j) := by
    by_cases c : i < j
    · have := wf_i hw h0 h1 ci.1 c cj.2; omega
    · have := wf_i hw h0 h1 cj.1 (show j < i by omega) ci.2; omega
  have isI : (0 ≤ f ∧ f < w' 0) ∧ 0 ≤ i ∧ i < w_of w' f 7 := ⟨⟨h0, h1⟩, ci⟩
  have isJ : (0 ≤ f ∧ f < w' 0) ∧ 0 ≤ j ∧ j < w_of w' f 7 := ⟨⟨h0, h1⟩, cj⟩
  simp (disch := first | omega | (simp only [x_wtI, x_wtJ, x_wtR, x_wtN]; omega) | assumption | (simp (disch := omega) only [x_st_o, x_rd_ne]; first | assumption | omega) | (apply mir_eq; assumption; (intro c h1 h2; simp (disch := omega) only [x_st_o])) | (apply mis_eq; assumption; (intro c h1 h2; simp (disch := omega) only [x_st_o])) | rfl) only [sp_256, bk_256_0, bk_256_1, bk_256_2, bk_256_3, bk_256_5, bk_256_6, wp_ald0, wp_ild1, wp_ild2, wk_257, wp_ifeq, wp_ild3, wp_icne, wp_fall, wp_ic, wp_iret mz_256, wk_195, wp_lst4, wp_lld4, wp_lc, wp_lcmp, wp_ifne, wr_50_1, wl_51, wp_cald, wk_197, wk_209, wp_geti kd_50, wp_ist6, wp_ist7, wp_iadd, wk_192, wp_imul, wp_ist8, wp_ist9, wp_ild8, wp_ist10, wp_ild9, wp_ist11, wp_ist12, wp_ist13, wp_ild13, wp_ild10, wp_icgt, wp_ild12, wp_isub, ws_51, wp_ild11, wp_ild6, wp_ild7, wk_258, wp_inc13, wp_goto, x_clr_I, x_clr_J, x_clr_R, x_clr_U, ct_some, ct_none, lc_lt, lc_ge, lc_gt, lc_le, lc_eq, lc_r, xI_inj, xJ_inj, Option.some.injEq, eq_self, bi_r, bi_0, bi_1, bi_n, Classical.not_not, and_true, true_and, ite_true, ite_false, ↓reduceIte, ↓x_andl, z_le, z_nle, z_lt, z_nlt, z_eq, z_neq, if_pos, if_neg, x_andl, false_and, and_false, or_true, true_or, or_false, false_or, not_true, not_false_iff, x_rd_eq, x_rd_ne, x_st_o, Int.cast_ofNat_Int, Int.ofNat_zero, Int.ofNat_one, not_true_eq_false, not_false_eq_true, if_true, if_false, ite_self, and_self, Int.ofNat_eq_natCast, Int.tdiv_eq_ediv_of_nonneg, Int.tmod_eq_emod_of_nonneg, x_bm32, k_isKid h51 hw, bi_t isI, bi_t isJ]
  refine x_use (d := 991) (h_solveI (c := 0) hh (by omega)) ?_
  rintro r σ5 ⟨rfl, e5, hh5, g5, m5⟩
  rw [h51] at g5 m5 ⊢
  have g515 : σ5 51 0 = w' := (e5 51 0 (by simp)).trans h51
  have nv := al _ _ g5
  have fl := p0 _ _ g5
  have sb := sl_b hw n8.1 n8.2 n9 fl.1.1.1
  have hTk : ∀ q, 0 ≤ q → q < w_of w' (w' 8) 7 → t_bd (-9223372036854775808) w' (σ5 59 0) (w_of w' (w' 8) (8 + q)) := by
    intro q q0 q1
    have kk := wf_k hw (f := w' 8) (i := q) n8.1 n8.2 q0 q1
    exact (g5 _ (by omega) (by omega)).1
  have nb := zst_bd hw n8.1 n8.2 n9 n10 hTk (fun z => by omega) (by omega) fl.1
  have gp := gb_pos (k := w_of w' (w' 8) 6)
  generalize htn : σ5 59 0 (42 * w' 8 + (21 * w' 10 + w' 9)) = tn at fl nb nv
  simp (disch := first | omega | (simp only [x_wtI, x_wtJ, x_wtR, x_wtN]; omega) | assumption | (simp (disch := omega) only [x_st_o, x_rd_ne]; first | assumption | omega) | (apply mir_eq; assumption; (intro c h1 h2; simp (disch := omega) only [x_st_o])) | (apply mis_eq; assumption; (intro c h1 h2; simp (disch := omega) only [x_st_o])) | rfl) only [bk_256_0, bk_256_1, bk_256_2, bk_256_3, bk_256_5, bk_256_6, wp_ald0, wp_ild1, wp_ild2, wk_257, wp_ifeq, wp_ild3, wp_icne, wp_fall, wp_ic, wp_iret mz_256, wk_195, wp_lst4, wp_lld4, wp_lc, wp_lcmp, wp_ifne, wr_50_1, wl_51, wp_cald, wk_197, wk_209, wp_geti kd_50, wp_ist6, wp_ist7, wp_iadd, wk_192, wp_imul, wp_ist8, wp_ist9, wp_ild8, wp_ist10, wp_ild9, wp_ist11, wp_ist12, wp_ist13, wp_ild13, wp_ild10, wp_icgt, wp_ild12, wp_isub, ws_51, wp_ild11, wp_ild6, wp_ild7, wk_258, wp_inc13, wp_goto, x_clr_I, x_clr_J, x_clr_R, x_clr_U, ct_some, ct_none, lc_lt, lc_ge, lc_gt, lc_le, lc_eq, lc_r, xI_inj, xJ_inj, Option.some.injEq, eq_self, bi_r, bi_0, bi_1, bi_n, Classical.not_not, and_true, true_and, ite_true, ite_false, ↓reduceIte, ↓x_andl, z_le, z_nle, z_lt, z_nlt, z_eq, z_neq, if_pos, if_neg, x_andl, false_and, and_false, or_true, true_or, or_false, false_or, not_true, not_false_iff, x_rd_eq, x_rd_ne, x_st_o, Int.cast_ofNat_Int, Int.ofNat_zero, Int.ofNat_one, not_true_eq_false, not_false_eq_true, if_true, if_false, ite_self, and_self, Int.ofNat_eq_natCast, Int.tdiv_eq_ediv_of_nonneg, Int.tmod_eq_emod_of_nonneg, x_bm32, g515, k_stateNow]
  refine x_use (d := 992) (h_stepM (c := 0) hh5 g515 rfl rfl hw n8.1 n8.2 (by omega) n9 n10 hTk (fun z => by omega) (by omega) fl) ?_
  rintro r σ6 ⟨rfl, k6, hh6, x6, b6⟩
  have g516 : σ6 51 0 = w' := by rw [k6.1 51 0 (by simp)]; exact g515
  have m6 := hh6.2.2.2.1
  generalize hG : w_of w' f (8 + i) = g at ki hi1 gt hv
  generalize hT : w_of w' f (8 + j) = t at kj hj1 gt hv
  have wg : w' (16 + 13 * g + 1) = w_of w' g 1 := rfl
  have wt : w' (16 + 13 * t + 1) = w_of w' t 1 := rfl
  have hx0 : 0 ≤ 16 + 13 * g + 1 ∧ 16 + 13 * g + 1 < 616 := by omega
  have hx1 : 0 ≤ 16 + 13 * t + 1 ∧ 16 + 13 * t + 1 < 616 := by omega
  simp (disch := first | omega | (simp only [x_wtI, x_wtJ, x_wtR, x_wtN]; omega) | assumption | (simp (disch := omega) only [x_st_o, x_rd_ne]; first | assumption | omega) | (apply mir_eq; assumption; (intro c h1 h2; simp (disch := omega) only [x_st_o])) | (apply mis_eq; assumption; (intro c h1 h2; simp (disch := omega) only [x_st_o])) | rfl) only [bk_256_0, bk_256_1, bk_256_2, bk_256_3, bk_256_5, bk_256_6, wp_ald0, wp_ild1, wp_ild2, wk_257, wp_ifeq, wp_ild3, wp_icne, wp_fall, wp_ic, wp_iret mz_256, wk_195, wp_lst4, wp_lld4, wp_lc, wp_lcmp, wp_ifne, wr_50_1, wl_51, wp_cald, wk_197, wk_209, wp_geti kd_50, wp_ist6, wp_ist7, wp_iadd, wk_192, wp_imul, wp_ist8, wp_ist9, wp_ild8, wp_ist10, wp_ild9, wp_ist11, wp_ist12, wp_ist13, wp_ild13, wp_ild10, wp_icgt, wp_ild12, wp_isub, ws_51, wp_ild11, wp_ild6, wp_ild7, wk_258, wp_inc13, wp_goto, x_clr_I, x_clr_J, x_clr_R, x_clr_U, ct_some, ct_none, lc_lt, lc_ge, lc_gt, lc_le, lc_eq, lc_r, xI_inj, xJ_inj, Option.some.injEq, eq_self, bi_r, bi_0, bi_1, bi_n, Classical.not_not, and_true, true_and, ite_true, ite_false, ↓reduceIte, ↓x_andl, z_le, z_nle, z_lt, z_nlt, z_eq, z_neq, if_pos, if_neg, x_andl, false_and, and_false, or_true, true_or, or_false, false_or, not_true, not_false_iff, x_rd_eq, x_rd_ne, x_st_o, Int.cast_ofNat_Int, Int.ofNat_zero, Int.ofNat_one, not_true_eq_false, not_false_eq_true, if_true, if_false, ite_self, and_self, Int.ofNat_eq_natCast, Int.tdiv_eq_ediv_of_nonneg, Int.tmod_eq_emod_of_nonneg, x_bm32, x6, b6, g516, k_of, hG, hT, wg, wt]
  obtain ⟨X, hX⟩ : ∃ X, X = t0 + w_of w' (w' 8) 5 - w' 9 := ⟨_, rfl⟩
  rw [← hX]
  generalize hhas : w_of w' g 1 = has at hi1 hv
  generalize hhad : w_of w' t 1 = had at hj1
  have inv0 : ∀ σ' : x_S, x_eqo [(50, 0), (51, 0), (59, 0), (60, 0), (61, 0)] σ6 σ' → (∀ k, ¬ (k = 23 ∨ k = 24) → σ' 50 0 k = σ6 50 0 k) → (∀ q, ¬ q = 16 + 13 * g + 1 → ¬ q = 16 + 13 * t + 1 → σ' 51 0 q = w' q) → iN L S0 (x_st (x_st σ' 51 0 (16 + 13 * g + 1) has) 51 0 (16 + 13 * t + 1) had) := by
    intro σ' e k o
    have ee : (x_st (x_st σ' 51 0 (16 + 13 * g + 1) has) 51 0 (16 + 13 * t + 1) had) 51 0 = σ6 51 0 := by
      rw [g516]
      funext q
      by_cases z : q = 16 + 13 * t + 1
      · rw [z, x_rd_eq, ← hhad]
        rfl
      · rw [x_rd_ne (by omega)]
        by_cases z2 : q = 16 + 13 * g + 1
        · rw [z2, x_rd_eq, ← hhas]
          rfl
        · rw [x_rd_ne (by omega)]
          exact o q z2 z
    refine iN_scr hh6 (eqo_mono (S := [(50, 0), (59, 0), (60, 0), (61, 0)]) (by decide) ?_) ?_ ?_
    · intro c j hc
      by_cases z : c = 51 ∧ j = 0
      · obtain ⟨rfl, rfl⟩ := z
        exact ee
      · rw [x_st_o (by omega), x_st_o (by omega)]
        exact e c j (fun y => by
          simp only [List.mem_cons, Prod.mk.injEq, List.not_mem_nil, or_false] at y hc
          omega)
    · intro j k _ _ _
      rw [x_st_o (by omega), x_st_o (by omega), e 24 j (by simp)]
    · intro k' hk
      rw [x_st_o (by omega), x_st_o (by omega)]
      exact k k' (by omega)
  have exitM : ∀ (σ' : x_S) (n ls : Int), 1 ≤ n → n ≤ has + 1 → -1 ≤ ls → ls ≤ has → (n = has + 1 ∨ ¬ ls = -1) → iN L S0 (x_st (x_st σ' 51 0 (16 + 13 * g + 1) has) 51 0 (16 + 13 * t + 1) had) → x_Wp 999 256 (x_blk 256 4) [xR 50 0, xI f, xI i, xI j, xJ tn, xU, xI X, xI b0, xI (16 + 13 * g + 1), xI (16 + 13 * t + 1), xI has, xI had, xI ls, xI n] [] σ' (fun r2 σ2 => r2 = some (xI ls) ∧ iN L S0 σ2) := by
    intro σ' n ls n1 n2 l1 l2 hx hi
    rw [bk_256_4]
    by_cases c : n = has + 1
    · simp (disch := first | omega | (simp only [x_wtI, x_wtJ, x_wtR, x_wtN]; omega) | assumption | (simp (disch := omega) only [x_st_o, x_rd_ne]; first | assumption | omega) | (apply mir_eq; assumption; (intro c h1 h2; simp (disch := omega) only [x_st_o])) | (apply mis_eq; assumption; (intro c h1 h2; simp (disch := omega) only [x_st_o])) | rfl) only [bk_256_0, bk_256_1, bk_256_2, bk_256_3, bk_256_5, bk_256_6, wp_ald0, wp_ild1, wp_ild2, wk_257, wp_ifeq, wp_ild3, wp_icne, wp_fall, wp_ic, wp_iret mz_256, wk_195, wp_lst4, wp_lld4, wp_lc, wp_lcmp, wp_ifne, wr_50_1, wl_51, wp_cald, wk_197, wk_209, wp_geti kd_50, wp_ist6, wp_ist7, wp_iadd, wk_192, wp_imul, wp_ist8, wp_ist9, wp_ild8, wp_ist10, wp_ild9, wp_ist11, wp_ist12, wp_ist13, wp_ild13, wp_ild10, wp_icgt, wp_ild12, wp_isub, ws_51, wp_ild11, wp_ild6, wp_ild7, wk_258, wp_inc13, wp_goto, x_clr_I, x_clr_J, x_clr_R, x_clr_U, ct_some, ct_none, lc_lt, lc_ge, lc_gt, lc_le, lc_eq, lc_r, xI_inj, xJ_inj, Option.some.injEq, eq_self, bi_r, bi_0, bi_1, bi_n, Classical.not_not, and_true, true_and, ite_true, ite_false, ↓reduceIte, ↓x_andl, z_le, z_nle, z_lt, z_nlt, z_eq, z_neq, if_pos, if_neg, x_andl, false_and, and_false, or_true, true_or, or_false, false_or, not_true, not_false_iff, x_rd_eq, x_rd_ne, x_st_o, Int.cast_ofNat_Int, Int.ofNat_zero, Int.ofNat_one, not_true_eq_false, not_false_eq_true, if_true, if_false, ite_self, and_self, Int.ofNat_eq_natCast, Int.tdiv_eq_ediv_of_nonneg, Int.tmod_eq_emod_of_nonneg, x_bm32]
      exact hi
    · have c2 : ¬ ls = -1 := by omega
      simp (disch := first | omega | (simp only [x_wtI, x_wtJ, x_wtR, x_wtN]; omega) | assumption | (simp (disch := omega) only [x_st_o, x_rd_ne]; first | assumption | omega) | (apply mir_eq; assumption; (intro c h1 h2; simp (disch := omega) only [x_st_o])) | (apply mis_eq; assumption; (intro c h1 h2; simp (disch := omega) only [x_st_o])) | rfl) only [bk_256_0, bk_256_1, bk_256_2, bk_256_3, bk_256_5, bk_256_6, wp_ald0, wp_ild1, wp_ild2, wk_257, wp_ifeq, wp_ild3, wp_icne, wp_fall, wp_ic, wp_iret mz_256, wk_195, wp_lst4, wp_lld4, wp_lc, wp_lcmp, wp_ifne, wr_50_1, wl_51, wp_cald, wk_197, wk_209, wp_geti kd_50, wp_ist6, wp_ist7, wp_iadd, wk_192, wp_imul, wp_ist8, wp_ist9, wp_ild8, wp_ist10, wp_ild9, wp_ist11, wp_ist12, wp_ist13, wp_ild13, wp_ild10, wp_icgt, wp_ild12, wp_isub, ws_51, wp_ild11, wp_ild6, wp_ild7, wk_258, wp_inc13, wp_goto, x_clr_I, x_clr_J, x_clr_R, x_clr_U, ct_some, ct_none, lc_lt, lc_ge, lc_gt, lc_le, lc_eq, lc_r, xI_inj, xJ_inj, Option.some.injEq, eq_self, bi_r, bi_0, bi_1, bi_n, Classical.not_not, and_true, true_and, ite_true, ite_false, ↓reduceIte, ↓x_andl, z_le, z_nle, z_lt, z_nlt, z_eq, z_neq, if_pos, if_neg, x_andl, false_and, and_false, or_true, true_or, or_false, false_or, not_true, not_false_iff, x_rd_eq, x_rd_ne, x_st_o, Int.cast_ofNat_Int, Int.ofNat_zero, Int.ofNat_one, not_true_eq_false, not_false_eq_true, if_true, if_false, ite_self, and_self, Int.ofNat_eq_natCast, Int.tdiv_eq_ediv_of_nonneg, Int.tmod_eq_emod_of_nonneg, x_bm32]
      exact hi
  have key : ∀ q : Nat, ∀ (n : Int) (σ' : x_S), n + q = has + 1 → 1 ≤ n → (v = -1 ∨ n ≤ v) → x_eqo [(50, 0), (51, 0), (59, 0), (60, 0), (61, 0)] σ6 σ' → (∀ k, ¬ (k = 23 ∨ k = 24) → σ' 50 0 k = σ6 50 0 k) → (∀ q, ¬ q = 16 + 13 * g + 1 → ¬ q = 16 + 13 * t + 1 → σ' 51 0 q = w' q) → x_Wp 999 256 (x_blk 256 4) [xR 50 0, xI f, xI i, xI j, xJ tn, xU, xI X, xI b0, xI (16 + 13 * g + 1), xI (16 + 13 * t + 1), xI has, xI had, xI (-1), xI n] [] σ' (fun r2 σ2 => r2 = some (xI v) ∧ iN L S0 σ2) := by
    intro q
    induction q with
    | zero =>
      intro n σ' hn1 n1 hvn e k o
      have v1 : v = -1 := by
        rcases hv with ⟨z, _⟩ | ⟨z, _⟩
        · exact z
        · omega
      rw [v1]
      exact exitM σ' n (-1) n1 (by omega) (by omega) (by omega) (Or.inl (by omega)) (inv0 σ' e k o)
    | succ q ih =>
      intro n σ' hn1 n1 hvn e k o
      have n2 : n ≤ has := by omega
      generalize hσa : x_st (x_st σ' 51 0 (16 + 13 * g + 1) (has - n)) 51 0 (16 + 13 * t + 1) (had + n) = σa
      have ea : x_eqo [(51, 0)] σ' σa := by
        subst hσa
        exact eqo_st (by simp) (eqo_st (by simp) eqo_refl)
      have WW : σa 51 0 = w_mv w' g t n := by
        subst hσa
        funext q'
        unfold w_mv
        by_cases z : q' = 16 + 13 * t + 1
        · rw [z, x_rd_eq, up_eq, hhad]
        · rw [x_rd_ne (by omega), up_ne z]
          by_cases z2 : q' = 16 + 13 * g + 1
          · rw [z2, x_rd_eq, up_eq, hhas]
          · rw [x_rd_ne (by omega), up_ne z2]
            exact o q' z2 z
      have s : ws w' (w_mv w' g t n) := mv_ws (by omega) (by omega) (by omega) (by omega)
      have hWf := wf_mv (g := g) (t := t) (n := n) hw (by omega) (by omega) (by omega) (by omega) (by omega) (by omega)
      have hWn := ws_n hw hn s
      have eq1 : ∀ t1, t1 + w_of (w_mv w' g t n) (w_mv w' g t n 8) 5 - w_mv w' g t n 9 = t1 + w_of w' (w' 8) 5 - w' 9 := by
        intro t1
        rw [s.1 8 (by omega), s.1 9 (by omega), s.2 (w' 8) 5 n8.1 (by omega) (by omega) (by omega) (by omega) (by omega)]
      have k' : ∀ k, σa 50 0 k = σ' 50 0 k := fun k => by rw [ea 50 0 (by simp)]
      have mk : ∀ b1 t1, pkw (w_mv w' g t n) b1 t1 → x_Sp 8 258 [xR 50 0, xI X, xI b0] σa (fun r σ2 => r = some (xI (if t1 + w_of w' (w' 8) 5 - w' 9 = X ∧ b1 = b0 then 0 else 1)) ∧ x_eqo [(50, 0), (59, 0), (60, 0), (61, 0)] σa σ2 ∧ ∀ k, ¬ (k = 23 ∨ k = 24) → σ2 50 0 k = σ' 50 0 k) := by
        intro b1 t1 hp
        refine x_use (d := 0) (h_isOther WW (by rw [k', k 17 (by omega)]; exact m6.1) (by rw [k', k 18 (by omega)]; exact m6.2.1) (by rw [k', k 19 (by omega)]; exact m6.2.2.1) hWf hWn hp (by omega) sb.1) ?_
        rintro r σ2 ⟨q1, q2, q3⟩
        rw [eq1] at q1
        exact ⟨q1, q2, fun k hk => by rw [q3 k hk, k']⟩
      have nx : ∀ σ2 : x_S, x_eqo [(50, 0), (59, 0), (60, 0), (61, 0)] σa σ2 → x_eqo [(50, 0), (51, 0), (59, 0), (60, 0), (61, 0)] σ6 σ2 ∧ ∀ q, ¬ q = 16 + 13 * g + 1 → ¬ q = 16 + 13 * t + 1 → σ2 51 0 q = w' q := by
        intro σ2 e2
        refine ⟨eqo_trans e (eqo_trans (eqo_mono (by simp) ea) (eqo_mono (by simp) e2)), fun q h1' h2' => ?_⟩
        rw [e2 51 0 (by simp), ← hσa, x_rd_ne (by omega), x_rd_ne (by omega)]
        exact o q h1' h2'
      rcases ans_at hv n1 n2 hvn with ⟨z1, z2⟩ | ⟨z1, b1, t1, z2, z3⟩
      · obtain ⟨r, σ2, ⟨hr, e2, k2⟩, ev⟩ := x_ex (mk b0 t0 z2)
        rw [if_pos ⟨hX.symm, rfl⟩] at hr
        subst hr
        obtain ⟨y1, y2⟩ := nx σ2 e2
        have K := ih (n + 1) σ2 (by omega) (by omega) (by omega) y1 (fun q hq => by rw [k2 q hq]; exact k q hq) y2
        rw [bk_256_4]
        simp (disch := first | omega | (simp only [x_wtI, x_wtJ, x_wtR, x_wtN]; omega) | assumption | (simp (disch := omega) only [x_st_o, x_rd_ne]; first | assumption | omega) | (apply mir_eq; assumption; (intro c h1 h2; simp (disch := omega) only [x_st_o])) | (apply mis_eq; assumption; (intro c h1 h2; simp (disch := omega) only [x_st_o])) | rfl) only [bk_256_0, bk_256_1, bk_256_2, bk_256_3, bk_256_5, bk_256_6, wp_ald0, wp_ild1, wp_ild2, wk_257, wp_ifeq, wp_ild3, wp_icne, wp_fall, wp_ic, wp_iret mz_256, wk_195, wp_lst4, wp_lld4, wp_lc, wp_lcmp, wp_ifne, wr_50_1, wl_51, wp_cald, wk_197, wk_209, wp_geti kd_50, wp_ist6, wp_ist7, wp_iadd, wk_192, wp_imul, wp_ist8, wp_ist9, wp_ild8, wp_ist10, wp_ild9, wp_ist11, wp_ist12, wp_ist13, wp_ild13, wp_ild10, wp_icgt, wp_ild12, wp_isub, ws_51, wp_ild11, wp_ild6, wp_ild7, wk_258, wp_inc13, wp_goto, x_clr_I, x_clr_J, x_clr_R, x_clr_U, ct_some, ct_none, lc_lt, lc_ge, lc_gt, lc_le, lc_eq, lc_r, xI_inj, xJ_inj, Option.some.injEq, eq_self, bi_r, bi_0, bi_1, bi_n, Classical.not_not, and_true, true_and, ite_true, ite_false, ↓reduceIte, ↓x_andl, z_le, z_nle, z_lt, z_nlt, z_eq, z_neq, if_pos, if_neg, x_andl, false_and, and_false, or_true, true_or, or_false, false_or, not_true, not_false_iff, x_rd_eq, x_rd_ne, x_st_o, Int.cast_ofNat_Int, Int.ofNat_zero, Int.ofNat_one, not_true_eq_false, not_false_eq_true, if_true, if_false, ite_self, and_self, Int.ofNat_eq_natCast, Int.tdiv_eq_ediv_of_nonneg, Int.tmod_eq_emod_of_nonneg, x_bm32, hσa]
        refine (ev 990 _).mpr ?_
        simp (disch := first | omega | (simp only [x_wtI, x_wtJ, x_wtR, x_wtN]; omega) | assumption | (simp (disch := omega) only [x_st_o, x_rd_ne]; first | assumption | omega) | (apply mir_eq; assumption; (intro c h1 h2; simp (disch := omega) only [x_st_o])) | (apply mis_eq; assumption; (intro c h1 h2; simp (disch := omega) only [x_st_o])) | rfl) only [bk_256_0, bk_256_1, bk_256_2, bk_256_3, bk_256_5, bk_256_6, wp_ald0, wp_ild1, wp_ild2, wk_257, wp_ifeq, wp_ild3, wp_icne, wp_fall, wp_ic, wp_iret mz_256, wk_195, wp_lst4, wp_lld4, wp_lc, wp_lcmp, wp_ifne, wr_50_1, wl_51, wp_cald, wk_197, wk_209, wp_geti kd_50, wp_ist6, wp_ist7, wp_iadd, wk_192, wp_imul, wp_ist8, wp_ist9, wp_ild8, wp_ist10, wp_ild9, wp_ist11, wp_ist12, wp_ist13, wp_ild13, wp_ild10, wp_icgt, wp_ild12, wp_isub, ws_51, wp_ild11, wp_ild6, wp_ild7, wk_258, wp_inc13, wp_goto, x_clr_I, x_clr_J, x_clr_R, x_clr_U, ct_some, ct_none, lc_lt, lc_ge, lc_gt, lc_le, lc_eq, lc_r, xI_inj, xJ_inj, Option.some.injEq, eq_self, bi_r, bi_0, bi_1, bi_n, Classical.not_not, and_true, true_and, ite_true, ite_false, ↓reduceIte, ↓x_andl, z_le, z_nle, z_lt, z_nlt, z_eq, z_neq, if_pos, if_neg, x_andl, false_and, and_false, or_true, true_or, or_false, false_or, not_true, not_false_iff, x_rd_eq, x_rd_ne, x_st_o, Int.cast_ofNat_Int, Int.ofNat_zero, Int.ofNat_one, not_true_eq_false, not_false_eq_true, if_true, if_false, ite_self, and_self, Int.ofNat_eq_natCast, Int.tdiv_eq_ediv_of_nonneg, Int.tmod_eq_emod_of_nonneg, x_bm32]
        exact K
      · obtain ⟨r, σ2, ⟨hr, e2, k2⟩, ev⟩ := x_ex (mk b1 t1 z2)
        rw [if_neg (fun y => z3 ⟨y.2, by omega⟩)] at hr
        subst hr
        obtain ⟨y1, y2⟩ := nx σ2 e2
        have K := exitM σ2 (n + 1) v (by omega) (by omega) (by omega) (by omega) (Or.inr (by omega)) (inv0 σ2 y1 (fun q hq => by rw [k2 q hq]; exact k q hq) y2)
        rw [← z1] at K ⊢
        rw [bk_256_4]
        simp (disch := first | omega | (simp only [x_wtI, x_wtJ, x_wtR, x_wtN]; omega) | assumption | (simp (disch := omega) only [x_st_o, x_rd_ne]; first | assumption | omega) | (apply mir_eq; assumption; (intro c h1 h2; simp (disch := omega) only [x_st_o])) | (apply mis_eq; assumption; (intro c h1 h2; simp (disch := omega) only [x_st_o])) | rfl) only [bk_256_0, bk_256_1, bk_256_2, bk_256_3, bk_256_5, bk_256_6, wp_ald0, wp_ild1, wp_ild2, wk_257, wp_ifeq, wp_ild3, wp_icne, wp_fall, wp_ic, wp_iret mz_256, wk_195, wp_lst4, wp_lld4, wp_lc, wp_lcmp, wp_ifne, wr_50_1, wl_51, wp_cald, wk_197, wk_209, wp_geti kd_50, wp_ist6, wp_ist7, wp_iadd, wk_192, wp_imul, wp_ist8, wp_ist9, wp_ild8, wp_ist10, wp_ild9, wp_ist11, wp_ist12, wp_ist13, wp_ild13, wp_ild10, wp_icgt, wp_ild12, wp_isub, ws_51, wp_ild11, wp_ild6, wp_ild7, wk_258, wp_inc13, wp_goto, x_clr_I, x_clr_J, x_clr_R, x_clr_U, ct_some, ct_none, lc_lt, lc_ge, lc_gt, lc_le, lc_eq, lc_r, xI_inj, xJ_inj, Option.some.injEq, eq_self, bi_r, bi_0, bi_1, bi_n, Classical.not_not, and_true, true_and, ite_true, ite_false, ↓reduceIte, ↓x_andl, z_le, z_nle, z_lt, z_nlt, z_eq, z_neq, if_pos, if_neg, x_andl, false_and, and_false, or_true, true_or, or_false, false_or, not_true, not_false_iff, x_rd_eq, x_rd_ne, x_st_o, Int.cast_ofNat_Int, Int.ofNat_zero, Int.ofNat_one, not_true_eq_false, not_false_eq_true, if_true, if_false, ite_self, and_self, Int.ofNat_eq_natCast, Int.tdiv_eq_ediv_of_nonneg, Int.tmod_eq_emod_of_nonneg, x_bm32, hσa]
        refine (ev 990 _).mpr ?_
        simp (disch := first | omega | (simp only [x_wtI, x_wtJ, x_wtR, x_wtN]; omega) | assumption | (simp (disch := omega) only [x_st_o, x_rd_ne]; first | assumption | omega) | (apply mir_eq; assumption; (intro c h1 h2; simp (disch := omega) only [x_st_o])) | (apply mis_eq; assumption; (intro c h1 h2; simp (disch := omega) only [x_st_o])) | rfl) only [bk_256_0, bk_256_1, bk_256_2, bk_256_3, bk_256_5, bk_256_6, wp_ald0, wp_ild1, wp_ild2, wk_257, wp_ifeq, wp_ild3, wp_icne, wp_fall, wp_ic, wp_iret mz_256, wk_195, wp_lst4, wp_lld4, wp_lc, wp_lcmp, wp_ifne, wr_50_1, wl_51, wp_cald, wk_197, wk_209, wp_geti kd_50, wp_ist6, wp_ist7, wp_iadd, wk_192, wp_imul, wp_ist8, wp_ist9, wp_ild8, wp_ist10, wp_ild9, wp_ist11, wp_ist12, wp_ist13, wp_ild13, wp_ild10, wp_icgt, wp_ild12, wp_isub, ws_51, wp_ild11, wp_ild6, wp_ild7, wk_258, wp_inc13, wp_goto, x_clr_I, x_clr_J, x_clr_R, x_clr_U, ct_some, ct_none, lc_lt, lc_ge, lc_gt, lc_le, lc_eq, lc_r, xI_inj, xJ_inj, Option.some.injEq, eq_self, bi_r, bi_0, bi_1, bi_n, Classical.not_not, and_true, true_and, ite_true, ite_false, ↓reduceIte, ↓x_andl, z_le, z_nle, z_lt, z_nlt, z_eq, z_neq, if_pos, if_neg, x_andl, false_and, and_false, or_true, true_or, or_false, false_or, not_true, not_false_iff, x_rd_eq, x_rd_ne, x_st_o, Int.cast_ofNat_Int, Int.ofNat_zero, Int.ofNat_one, not_true_eq_false, not_false_eq_true, if_true, if_false, ite_self, and_self, Int.ofNat_eq_natCast, Int.tdiv_eq_ediv_of_nonneg, Int.tmod_eq_emod_of_nonneg, x_bm32]
        exact K
  have vr : v = -1 ∨ 1 ≤ v := by
    rcases hv with ⟨z, _⟩ | ⟨z, _⟩
    · exact Or.inl z
    · exact Or.inr z.1
  exact key has.toNat 1 σ6 (by omega) (by omega) vr eqo_refl (fun _ _ => rfl) (fun q _ _ => by rw [g516])
set_option maxHeartbeats 4000000 in
theorem h_edgeC {σ2 : x_S} {w : Int → Int} {f i j g t b0 t0 low : Int} {Q : Option x_V → x_S → Prop} (hh : iN L S0 σ2) (h51 : σ2 51 0 = w) (h0 : 0 ≤ f) (h1 : f < w 0) (fr : p_fr w (w 8) f) (g0 : 0 ≤ g) (g1 : g < w 0) (t00 : 0 ≤ t) (t1 : t < w 0) (gt : ¬ g = t) (ug : w_of w g 0 = f) (ut : w_of w t 0 = f) (hg : 0 ≤ w_of w g 1 ∧ w_of w g 1 ≤ 100) (ht1 : 0 ≤ w_of w t 1 ∧ w_of w t 1 ≤ 100) (ha : σ2 24 3 1 = 4 ∧ σ2 24 3 2 = 5 ∧ σ2 24 3 3 = 0) (rows : ∀ h, w 8 ≤ h → h < w 0 → p_fr w (w 8) h → g_row 9223372036854775807 0 5 4 w (σ2 26 3) (σ2 25 3) h ∧ t_bd 9223372036854775807 w (σ2 25 3) h) (hb : 0 ≤ b0 ∧ b0 ≤ 1) (ht : 0 ≤ t0 ∧ t0 ≤ 20) (hfl : fL (zst 9223372036854775807 0 5 4 w (σ2 26 3) (σ2 25 3) (w 8) (w 9) (w 10)) b0 t0 low)
    (hQ : ∀ v σF, (-1 ≤ v ∧ v ≤ 100) → ansP (w_mv w g t) b0 t0 (w_of w g 1) v → x_f100 σ2 σF → iN L S0 σF → σF 51 0 = w → Q (some (xI v)) σF) : x_Wp 999 150 (x_blk 150 5) [xR 0 0, xI f, xI i, xI j, xR 6 1, xI g, xI t, xI (w_of w g 1), xI (b0 * 21 + t0), xI (-1), xI 0] [] σ2 Q := by
  obtain ⟨w', h51', hw, h100, hn, hq, hM, hS⟩ := iN_w hh
  have ew : w' = w := h51'.symm.trans h51
  subst ew
  have a := wf_h hw
  unfold wf_hdr at a
  obtain ⟨n8, n9, n10, _⟩ := id hn
  have pg := mi_chance hM g0 g1
  have pt := mi_chance hM t00 t1
  generalize hhas : w_of w' g 1 = has at hg hQ pg
  generalize hhad : w_of w' t 1 = had at ht1 pt
  have fin : ∀ (σ : x_S) (x y : Int), x = has → y = had → x_eqo [(8, 1), (24, 3), (25, 3), (27, 3), (28, 3)] σ2 σ → (∀ h, ¬ h = g → ¬ h = t → σ 8 1 h = σ2 8 1 h) → x_f100 σ2 (x_st (x_st σ 8 1 g x) 8 1 t y) ∧ iN L S0 (x_st (x_st σ 8 1 g x) 8 1 t y) ∧ (x_st (x_st σ 8 1 g x) 8 1 t y) 51 0 = w' := by
    intro σ x y hx hy e k8
    subst hx
    subst hy
    have ee : x_eqo [(24, 3), (25, 3), (27, 3), (28, 3)] σ2 (x_st (x_st σ 8 1 g x) 8 1 t y) := by
      intro c jj hc
      by_cases z : c = 8 ∧ jj = 1
      · obtain ⟨rfl, rfl⟩ := z
        funext q
        by_cases z1 : q = t
        · rw [z1, x_rd_eq, pt]
        · rw [x_rd_ne (by omega)]
          by_cases z2 : q = g
          · rw [z2, x_rd_eq, pg]
          · rw [x_rd_ne (by omega)]
            exact k8 q z2 z1
      · rw [x_st_o (by omega), x_st_o (by omega)]
        exact e c jj (fun y => by
          simp only [List.mem_cons, Prod.mk.injEq, List.not_mem_nil, or_false] at y hc
          omega)
    exact ⟨tr_100 ee, iN_tr hh ee, (ee 51 0 (by simp)).trans h51⟩
  have exitC : ∀ (σ : x_S) (n v : Int), 0 ≤ n → n ≤ has → -1 ≤ v → v ≤ 100 → (n = has ∨ ¬ v = -1) → σ 8 1 g = has - n → σ 8 1 t = had + n → (∀ x y, x = has → y = had → Q (some (xI v)) (x_st (x_st σ 8 1 g x) 8 1 t y)) → x_Wp 999 150 (x_blk 150 5) [xR 0 0, xI f, xI i, xI j, xR 6 1, xI g, xI t, xI has, xI (b0 * 21 + t0), xI v, xI n] [] σ Q := by
    intro σ n v n1 n2 l1 l2 hx c1 c2 hi
    rw [bk_150_5]
    by_cases c : n = has
    · simp (disch := first | omega | (simp only [x_wtI, x_wtJ, x_wtR, x_wtN]; omega) | assumption | (simp (disch := omega) only [x_st_o, x_rd_ne]; first | assumption | omega) | (apply mir_eq; assumption; (intro c h1 h2; simp (disch := omega) only [x_st_o])) | (apply mis_eq; assumption; (intro c h1 h2; simp (disch := omega) only [x_st_o])) | rfl) only [bk_150_0, bk_150_1, bk_150_2, bk_150_3, bk_150_4, bk_150_6, bk_150_7, bk_150_8, wp_ald0, wr_0_2, wr_20_0, wp_ast4, wp_ald4, wp_ild1, wp_ild2, wk_61, wp_ist5, wp_ild3, wp_ist6, wp_ild5, wp_ic, wp_iceq, wp_ild6, wp_icne, wp_fall, wp_iret mz_150, wr_6_8, wl_8, wp_cald, wp_ist7, wk_133, wp_ifeq, wk_104, wp_lc, wp_lcmp, wp_ifne, wk_151, wp_ist8, wp_ist9, wp_ist10, wp_ild10, wp_ild7, wp_icge, wp_ild9, wp_inc10, wk_73, wk_152, wp_ild8, wp_goto, wp_ineg, bk_73_0, wp_dup2, wp_isub, ws_8, wp_iadd, wp_ret, x_clr_I, x_clr_J, x_clr_R, x_clr_U, ct_some, ct_none, lc_lt, lc_ge, lc_gt, lc_le, lc_eq, lc_r, xI_inj, xJ_inj, Option.some.injEq, eq_self, bi_r, bi_0, bi_1, bi_n, Classical.not_not, and_true, true_and, ite_true, ite_false, ↓reduceIte, ↓x_andl, z_le, z_nle, z_lt, z_nlt, z_eq, z_neq, if_pos, if_neg, x_andl, false_and, and_false, or_true, true_or, or_false, false_or, not_true, not_false_iff, x_rd_eq, x_rd_ne, x_st_o, Int.cast_ofNat_Int, Int.ofNat_zero, Int.ofNat_one, not_true_eq_false, not_false_eq_true, if_true, if_false, ite_self, and_self, Int.ofNat_eq_natCast, Int.tdiv_eq_ediv_of_nonneg, Int.tmod_eq_emod_of_nonneg, x_bm32, sp_73, c1, c2]
      exact hi _ _ (by omega) (by omega)
    · have c3 : ¬ v = -1 := by omega
      simp (disch := first | omega | (simp only [x_wtI, x_wtJ, x_wtR, x_wtN]; omega) | assumption | (simp (disch := omega) only [x_st_o, x_rd_ne]; first | assumption | omega) | (apply mir_eq; assumption; (intro c h1 h2; simp (disch := omega) only [x_st_o])) | (apply mis_eq; assumption; (intro c h1 h2; simp (disch := omega) only [x_st_o])) | rfl) only [bk_150_0, bk_150_1, bk_150_2, bk_150_3, bk_150_4, bk_150_6, bk_150_7, bk_150_8, wp_ald0, wr_0_2, wr_20_0, wp_ast4, wp_ald4, wp_ild1, wp_ild2, wk_61, wp_ist5, wp_ild3, wp_ist6, wp_ild5, wp_ic, wp_iceq, wp_ild6, wp_icne, wp_fall, wp_iret mz_150, wr_6_8, wl_8, wp_cald, wp_ist7, wk_133, wp_ifeq, wk_104, wp_lc, wp_lcmp, wp_ifne, wk_151, wp_ist8, wp_ist9, wp_ist10, wp_ild10, wp_ild7, wp_icge, wp_ild9, wp_inc10, wk_73, wk_152, wp_ild8, wp_goto, wp_ineg, bk_73_0, wp_dup2, wp_isub, ws_8, wp_iadd, wp_ret, x_clr_I, x_clr_J, x_clr_R, x_clr_U, ct_some, ct_none, lc_lt, lc_ge, lc_gt, lc_le, lc_eq, lc_r, xI_inj, xJ_inj, Option.some.injEq, eq_self, bi_r, bi_0, bi_1, bi_n, Classical.not_not, and_true, true_and, ite_true, ite_false, ↓reduceIte, ↓x_andl, z_le, z_nle, z_lt, z_nlt, z_eq, z_neq, if_pos, if_neg, x_andl, false_and, and_false, or_true, true_or, or_false, false_or, not_true, not_false_iff, x_rd_eq, x_rd_ne, x_st_o, Int.cast_ofNat_Int, Int.ofNat_zero, Int.ofNat_one, not_true_eq_false, not_false_eq_true, if_true, if_false, ite_self, and_self, Int.ofNat_eq_natCast, Int.tdiv_eq_ediv_of_nonneg, Int.tmod_eq_emod_of_nonneg, x_bm32, sp_73, c1, c2]
      exact hi _ _ (by omega) (by omega)
  have key : ∀ q : Nat, ∀ (n : Int) (σ : x_S), n + q = has → 0 ≤ n → x_eqo [(8, 1), (24, 3), (25, 3), (27, 3), (28, 3)] σ2 σ → (∀ k, ¬ (7 ≤ k ∧ k ≤ 9) → σ 24 3 k = σ2 24 3 k) → (∀ h, ¬ h = g → ¬ h = t → σ 8 1 h = σ2 8 1 h) → σ 8 1 g = has - n → σ 8 1 t = had + n → (∀ h, w' 8 < h → h < w' 0 → p_fr w' (w' 8) h → ¬ h = f → g_row 9223372036854775807 0 5 4 w' (σ2 26 3) (σ 25 3) h ∧ t_bd 9223372036854775807 w' (σ 25 3) h) → (∀ m, 1 ≤ m → m ≤ n → pkw (w_mv w' g t m) b0 t0) → x_Wp 999 150 (x_blk 150 5) [xR 0 0, xI f, xI i, xI j, xR 6 1, xI g, xI t, xI has, xI (b0 * 21 + t0), xI (-1), xI n] [] σ Q := by
    intro q
    induction q with
    | zero =>
      intro n σ hn1 n1 e k k8 c1 c2 hr hp
      refine exitC σ n (-1) n1 (by omega) (by omega) (by omega) (Or.inl (by omega)) c1 c2 (fun x y hx hy => ?_)
      obtain ⟨y1, y2, y3⟩ := fin σ x y hx hy e k8
      exact hQ _ _ (by omega) (Or.inl ⟨rfl, fun m m1 m2 => hp m m1 (by omega)⟩) y1 y2 y3
    | succ q ih =>
      intro n σ hn1 n1 e k k8 c1 c2 hr hp
      have n2 : n < has := by omega
      have s : ws w' (w_mv w' g t (n + 1)) := mv_ws g0 t00 (by omega) (by omega)
      have hWf := wf_mv (g := g) (t := t) (n := n + 1) hw g0 g1 t00 t1 (by omega) (by omega)
      generalize hσa : x_st (x_st σ 8 1 g (has - n - 1)) 8 1 t (had + n + 1) = σa
      have ea : x_eqo [(8, 1)] σ σa := by
        subst hσa
        exact eqo_st (by simp) (eqo_st (by simp) eqo_refl)
      have ag : σa 8 1 g = has - (n + 1) := by
        subst hσa
        rw [x_rd_ne (by omega), x_rd_eq]
        omega
      have at' : σa 8 1 t = had + (n + 1) := by
        subst hσa
        rw [x_rd_eq]
        omega
      have ao : ∀ h, ¬ h = g → ¬ h = t → σa 8 1 h = σ2 8 1 h := by
        intro h hg ht
        subst hσa
        rw [x_rd_ne (by omega), x_rd_ne (by omega)]
        exact k8 h hg ht
      have hMa : mir σa 1 (w_mv w' g t (n + 1)) := by
        refine mir_ws hw hM s (fun c c6 c15 c8 c9 => ?_) (fun h h0 h1 => ?_) (fun h h0 h1 => ?_)
        · rw [ea c 1 (by simp; omega), e c 1 (by simp; omega)]
        · by_cases z1 : h = g
          · rw [z1, ag, mv_g gt, hhas]
          · by_cases z2 : h = t
            · rw [z2, at', mv_t, hhad]
            · rw [ao h z1 z2, mv_o z1 z2]
              exact mi_chance hM h0 h1
        · rw [ea 9 1 (by simp), e 9 1 (by simp), mi_price hM h0 h1]
          exact (mv_k (by omega)).symm
      have hSa : mis σa 1 (w_mv w' g t (n + 1)) := by
        have b20 : σa 20 1 = σ2 20 1 := by rw [ea 20 1 (by simp), e 20 1 (by simp)]
        refine ⟨?_, fun h h0 h1 => ?_⟩
        · rw [b20, s.1 8 (by omega), s.1 9 (by omega), s.1 10 (by omega), s.1 11 (by omega), s.1 12 (by omega)]
          exact hS.1
        · rw [s.1 0 (by omega)] at h1
          rw [ea 21 1 (by simp), e 21 1 (by simp), ea 22 1 (by simp), e 22 1 (by simp), mv_h g0 t00 (by omega) (by omega) (by omega), mv_h g0 t00 (by omega) (by omega) (by omega)]
          exact hS.2 h h0 h1
      have k24 : ∀ k, ¬ (7 ≤ k ∧ k ≤ 9) → σa 24 3 k = σ2 24 3 k := fun q hq => by rw [ea 24 3 (by simp)]; exact k q hq
      have a25 : σa 25 3 = σ 25 3 := ea 25 3 (by simp)
      have a26 : σa 26 3 = σ2 26 3 := by rw [ea 26 3 (by simp), e 26 3 (by simp)]
      obtain ⟨r, σb, ⟨eb, kb, rb, b, tt, bb, tb, hr2, hpk⟩, ev⟩ := x_ex (h_try (σ := σa) (f := f) (V0 := σ2 25 3) (L0 := σ2 26 3) (b0 := b0) (t0 := t0) (low0 := low) hw hn hWf s (mv_z hw g0 t00 g1 t1 ug ut) hMa hSa h1 fr (by rw [k24 3 (by omega)]; exact ha.2.2) (by rw [k24 1 (by omega)]; exact ha.1) (by rw [k24 2 (by omega)]; exact ha.2.1) (fun h p q hf => (rows h (by omega) q hf).1) hfl.1 (fun h p q hf nf => by rw [a25, a26]; exact hr h p q hf nf))
      subst hr2
      rw [a26] at rb
      have e' : x_eqo [(8, 1), (24, 3), (25, 3), (27, 3), (28, 3)] σ2 σb := eqo_trans e (eqo_trans (eqo_mono (by simp) ea) (eqo_mono (by simp) eb))
      have b8 : σb 8 1 = σa 8 1 := eb 8 1 (by simp)
      have k8' : ∀ h, ¬ h = g → ¬ h = t → σb 8 1 h = σ2 8 1 h := fun h q1 q2 => by rw [b8]; exact ao h q1 q2
      have bg : σb 8 1 g = has - (n + 1) := by rw [b8]; exact ag
      have bt : σb 8 1 t = had + (n + 1) := by rw [b8]; exact at'
      by_cases cp : b * 21 + tt = b0 * 21 + t0
      · have ebt : b = b0 ∧ tt = t0 := by omega
        rw [ebt.1, ebt.2] at hpk
        have K := ih (n + 1) σb (by omega) (by omega) e' (fun q hq => by rw [kb q hq]; exact k24 q hq) k8' bg bt rb (fun m m1 m2 => by
          by_cases z : m = n + 1
          · rw [z]
            exact hpk
          · exact hp m m1 (by omega))
        rw [bk_150_5]
        simp (disch := first | omega | (simp only [x_wtI, x_wtJ, x_wtR, x_wtN]; omega) | assumption | (simp (disch := omega) only [x_st_o, x_rd_ne]; first | assumption | omega) | (apply mir_eq; assumption; (intro c h1 h2; simp (disch := omega) only [x_st_o])) | (apply mis_eq; assumption; (intro c h1 h2; simp (disch := omega) only [x_st_o])) | rfl) only [bk_150_0, bk_150_1, bk_150_2, bk_150_3, bk_150_4, bk_150_6, bk_150_7, bk_150_8, wp_ald0, wr_0_2, wr_20_0, wp_ast4, wp_ald4, wp_ild1, wp_ild2, wk_61, wp_ist5, wp_ild3, wp_ist6, wp_ild5, wp_ic, wp_iceq, wp_ild6, wp_icne, wp_fall, wp_iret mz_150, wr_6_8, wl_8, wp_cald, wp_ist7, wk_133, wp_ifeq, wk_104, wp_lc, wp_lcmp, wp_ifne, wk_151, wp_ist8, wp_ist9, wp_ist10, wp_ild10, wp_ild7, wp_icge, wp_ild9, wp_inc10, wk_73, wk_152, wp_ild8, wp_goto, wp_ineg, bk_73_0, wp_dup2, wp_isub, ws_8, wp_iadd, wp_ret, x_clr_I, x_clr_J, x_clr_R, x_clr_U, ct_some, ct_none, lc_lt, lc_ge, lc_gt, lc_le, lc_eq, lc_r, xI_inj, xJ_inj, Option.some.injEq, eq_self, bi_r, bi_0, bi_1, bi_n, Classical.not_not, and_true, true_and, ite_true, ite_false, ↓reduceIte, ↓x_andl, z_le, z_nle, z_lt, z_nlt, z_eq, z_neq, if_pos, if_neg, x_andl, false_and, and_false, or_true, true_or, or_false, false_or, not_true, not_false_iff, x_rd_eq, x_rd_ne, x_st_o, Int.cast_ofNat_Int, Int.ofNat_zero, Int.ofNat_one, not_true_eq_false, not_false_eq_true, if_true, if_false, ite_self, and_self, Int.ofNat_eq_natCast, Int.tdiv_eq_ediv_of_nonneg, Int.tmod_eq_emod_of_nonneg, x_bm32, sp_73, c1, c2, hσa]
        refine (ev 992 _).mpr ?_
        simp (disch := first | omega | (simp only [x_wtI, x_wtJ, x_wtR, x_wtN]; omega) | assumption | (simp (disch := omega) only [x_st_o, x_rd_ne]; first | assumption | omega) | (apply mir_eq; assumption; (intro c h1 h2; simp (disch := omega) only [x_st_o])) | (apply mis_eq; assumption; (intro c h1 h2; simp (disch := omega) only [x_st_o])) | rfl) only [bk_150_0, bk_150_1, bk_150_2, bk_150_3, bk_150_4, bk_150_6, bk_150_7, bk_150_8, wp_ald0, wr_0_2, wr_20_0, wp_ast4, wp_ald4, wp_ild1, wp_ild2, wk_61, wp_ist5, wp_ild3, wp_ist6, wp_ild5, wp_ic, wp_iceq, wp_ild6, wp_icne, wp_fall, wp_iret mz_150, wr_6_8, wl_8, wp_cald, wp_ist7, wk_133, wp_ifeq, wk_104, wp_lc, wp_lcmp, wp_ifne, wk_151, wp_ist8, wp_ist9, wp_ist10, wp_ild10, wp_ild7, wp_icge, wp_ild9, wp_inc10, wk_73, wk_152, wp_ild8, wp_goto, wp_ineg, x_clr_I, x_clr_J, x_clr_R, x_clr_U, ct_some, ct_none, lc_lt, lc_ge, lc_gt, lc_le, lc_eq, lc_r, xI_inj, xJ_inj, Option.some.injEq, eq_self, bi_r, bi_0, bi_1, bi_n, Classical.not_not, and_true, true_and, ite_true, ite_false, ↓reduceIte, ↓x_andl, z_le, z_nle, z_lt, z_nlt, z_eq, z_neq, if_pos, if_neg, x_andl, false_and, and_false, or_true, true_or, or_false, false_or, not_true, not_false_iff, x_rd_eq, x_rd_ne, x_st_o, Int.cast_ofNat_Int, Int.ofNat_zero, Int.ofNat_one, not_true_eq_false, not_false_eq_true, if_true, if_false, ite_self, and_self, Int.ofNat_eq_natCast, Int.tdiv_eq_ediv_of_nonneg, Int.tmod_eq_emod_of_nonneg, x_bm32, cp]
        exact K
      · have K := exitC σb (n + 1) (n + 1) (by omega) (by omega) (by omega) (by omega) (Or.inr (by omega)) bg bt (fun x y hx hy => by
          obtain ⟨y1, y2, y3⟩ := fin σb x y hx hy e' k8'
          exact hQ _ _ (by omega) (Or.inr ⟨by omega, fun m m1 m2 => hp m m1 (by omega), b, tt, hpk, fun z => cp (by omega)⟩) y1 y2 y3)
        rw [bk_150_5]
        simp (disch := first | omega | (simp only [x_wtI, x_wtJ, x_wtR, x_wtN]; omega) | assumption | (simp (disch := omega) only [x_st_o, x_rd_ne]; first | assumption | omega) | (apply mir_eq; assumption; (intro c h1 h2; simp (disch := omega) only [x_st_o])) | (apply mis_eq; assumption; (intro c h1 h2; simp (disch := omega) only [x_st_o])) | rfl) only [bk_150_0, bk_150_1, bk_150_2, bk_150_3, bk_150_4, bk_150_6, bk_150_7, bk_150_8, wp_ald0, wr_0_2, wr_20_0, wp_ast4, wp_ald4, wp_ild1, wp_ild2, wk_61, wp_ist5, wp_ild3, wp_ist6, wp_ild5, wp_ic, wp_iceq, wp_ild6, wp_icne, wp_fall, wp_iret mz_150, wr_6_8, wl_8, wp_cald, wp_ist7, wk_133, wp_ifeq, wk_104, wp_lc, wp_lcmp, wp_ifne, wk_151, wp_ist8, wp_ist9, wp_ist10, wp_ild10, wp_ild7, wp_icge, wp_ild9, wp_inc10, wk_73, wk_152, wp_ild8, wp_goto, wp_ineg, bk_73_0, wp_dup2, wp_isub, ws_8, wp_iadd, wp_ret, x_clr_I, x_clr_J, x_clr_R, x_clr_U, ct_some, ct_none, lc_lt, lc_ge, lc_gt, lc_le, lc_eq, lc_r, xI_inj, xJ_inj, Option.some.injEq, eq_self, bi_r, bi_0, bi_1, bi_n, Classical.not_not, and_true, true_and, ite_true, ite_false, ↓reduceIte, ↓x_andl, z_le, z_nle, z_lt, z_nlt, z_eq, z_neq, if_pos, if_neg, x_andl, false_and, and_false, or_true, true_or, or_false, false_or, not_true, not_false_iff, x_rd_eq, x_rd_ne, x_st_o, Int.cast_ofNat_Int, Int.ofNat_zero, Int.ofNat_one, not_true_eq_false, not_false_eq_true, if_true, if_false, ite_self, and_self, Int.ofNat_eq_natCast, Int.tdiv_eq_ediv_of_nonneg, Int.tmod_eq_emod_of_nonneg, x_bm32, sp_73, c1, c2, hσa]
        refine (ev 992 _).mpr ?_
        simp (disch := first | omega | (simp only [x_wtI, x_wtJ, x_wtR, x_wtN]; omega) | assumption | (simp (disch := omega) only [x_st_o, x_rd_ne]; first | assumption | omega) | (apply mir_eq; assumption; (intro c h1 h2; simp (disch := omega) only [x_st_o])) | (apply mis_eq; assumption; (intro c h1 h2; simp (disch := omega) only [x_st_o])) | rfl) only [bk_150_0, bk_150_1, bk_150_2, bk_150_3, bk_150_4, bk_150_6, bk_150_7, bk_150_8, wp_ald0, wr_0_2, wr_20_0, wp_ast4, wp_ald4, wp_ild1, wp_ild2, wk_61, wp_ist5, wp_ild3, wp_ist6, wp_ild5, wp_ic, wp_iceq, wp_ild6, wp_icne, wp_fall, wp_iret mz_150, wr_6_8, wl_8, wp_cald, wp_ist7, wk_133, wp_ifeq, wk_104, wp_lc, wp_lcmp, wp_ifne, wk_151, wp_ist8, wp_ist9, wp_ist10, wp_ild10, wp_ild7, wp_icge, wp_ild9, wp_inc10, wk_73, wk_152, wp_ild8, wp_goto, wp_ineg, x_clr_I, x_clr_J, x_clr_R, x_clr_U, ct_some, ct_none, lc_lt, lc_ge, lc_gt, lc_le, lc_eq, lc_r, xI_inj, xJ_inj, Option.some.injEq, eq_self, bi_r, bi_0, bi_1, bi_n, Classical.not_not, and_true, true_and, ite_true, ite_false, ↓reduceIte, ↓x_andl, z_le, z_nle, z_lt, z_nlt, z_eq, z_neq, if_pos, if_neg, x_andl, false_and, and_false, or_true, true_or, or_false, false_or, not_true, not_false_iff, x_rd_eq, x_rd_ne, x_st_o, Int.cast_ofNat_Int, Int.ofNat_zero, Int.ofNat_one, not_true_eq_false, not_false_eq_true, if_true, if_false, ite_self, and_self, Int.ofNat_eq_natCast, Int.tdiv_eq_ediv_of_nonneg, Int.tmod_eq_emod_of_nonneg, x_bm32]
        exact K
  exact key has.toNat 0 σ2 (by omega) (by omega) eqo_refl (fun _ _ => rfl) (fun _ _ _ => rfl) (by rw [pg]; omega) (by rw [pt]; omega) (fun h p q hf nf => rows h (by omega) q hf) (fun m m1 m2 => by omega)
theorem o_edge : x_o37 (iN L S0) := by
  intro σ hh f i j hf hi hj
  refine ag_I ?_
  obtain ⟨w, h51, hw, h100, hn, hq, hM, hS⟩ := iN_w hh
  have a := wf_h hw
  unfold wf_hdr at a
  obtain ⟨n8, n9, n10, _⟩ := id hn
  by_cases c1 : (0 ≤ f ∧ f < w 0) ∧ (0 ≤ i ∧ i < w_of w f 7) ∧ (0 ≤ j ∧ j < w_of w f 7) ∧ ¬ i = j
  · obtain ⟨cf, ci, cj, ij⟩ := c1
    have ki := wf_k hw cf.1 cf.2 ci.1 ci.2
    have kj := wf_k hw cf.1 cf.2 cj.1 cj.2
    have o := wf_f hw cf.1 cf.2
    unfold wf_one at o
    have hi1 := ch_100 hw h100 cf.1 cf.2 ci.1 ci.2
    have hj1 := ch_100 hw h100 cf.1 cf.2 cj.1 cj.2
    have eg : p_kid w f i = w_of w f (8 + i) := if_pos ⟨cf, ci⟩
    have et : p_kid w f j = w_of w f (8 + j) := if_pos ⟨cf, cj⟩
    have gt : ¬ w_of w f (8 + i) = w_of w f (8 + j) := by
      by_cases c : i < j
      · have := wf_i hw cf.1 cf.2 ci.1 c cj.2; omega
      · have := wf_i hw cf.1 cf.2 cj.1 (show j < i by omega) ci.2; omega
    have isI : (0 ≤ f ∧ f < w 0) ∧ 0 ≤ i ∧ i < w_of w f 7 := ⟨cf, ci⟩
    have isJ : (0 ≤ f ∧ f < w 0) ∧ 0 ≤ j ∧ j < w_of w f 7 := ⟨cf, cj⟩
    by_cases fr : p_fr w (w 8) f
    · have ah : (0 ≤ f ∧ f < w 0) ∧ p_fr w (w 8) f := ⟨cf, fr⟩
      simp (disch := first | omega | (simp only [x_wtI, x_wtJ, x_wtR, x_wtN]; omega) | assumption | (simp (disch := omega) only [x_st_o, x_rd_ne]; first | assumption | omega) | (apply mir_eq; assumption; (intro c h1 h2; simp (disch := omega) only [x_st_o])) | (apply mis_eq; assumption; (intro c h1 h2; simp (disch := omega) only [x_st_o])) | rfl) only [sp_150, bk_150_0, bk_150_1, bk_150_2, bk_150_3, bk_150_4, bk_150_6, bk_150_7, bk_150_8, wp_ald0, wr_0_2, wr_20_0, wp_ast4, wp_ald4, wp_ild1, wp_ild2, wk_61, wp_ist5, wp_ild3, wp_ist6, wp_ild5, wp_ic, wp_iceq, wp_ild6, wp_icne, wp_fall, wp_iret mz_150, wr_6_8, wl_8, wp_cald, wp_ist7, wk_133, wp_ifeq, wk_104, wp_lc, wp_lcmp, wp_ifne, wk_151, wp_ist8, wp_ist9, wp_ist10, wp_ild10, wp_ild7, wp_icge, wp_ild9, wp_inc10, wk_73, wk_152, wp_ild8, wp_goto, wp_ineg, x_clr_I, x_clr_J, x_clr_R, x_clr_U, ct_some, ct_none, lc_lt, lc_ge, lc_gt, lc_le, lc_eq, lc_r, xI_inj, xJ_inj, Option.some.injEq, eq_self, bi_r, bi_0, bi_1, bi_n, Classical.not_not, and_true, true_and, ite_true, ite_false, ↓reduceIte, ↓x_andl, z_le, z_nle, z_lt, z_nlt, z_eq, z_neq, if_pos, if_neg, x_andl, false_and, and_false, or_true, true_or, or_false, false_or, not_true, not_false_iff, x_rd_eq, x_rd_ne, x_st_o, Int.cast_ofNat_Int, Int.ofNat_zero, Int.ofNat_one, not_true_eq_false, not_false_eq_true, if_true, if_false, ite_self, and_self, Int.ofNat_eq_natCast, Int.tdiv_eq_ediv_of_nonneg, Int.tmod_eq_emod_of_nonneg, x_bm32, k_kidAt hM hw, eg, et, mi_chance hM, k_isAhead hM hS hw hn, bi_t ah]
      refine x_use (d := 991) (h_leastNow (j := 0) hh (by omega) rfl) ?_
      rintro r σ1 ⟨rfl, tk, hh1, f1, ct⟩
      have g51 : σ1 51 0 = w := (tk.1 51 0 (by decide)).trans h51
      rw [h51] at ct ⊢
      have gp := gb_pos (k := w_of w (w 8) 6)
      have tb := (ct.1 (w 8) (Int.le_refl _) n8.2 fr_self).2 (21 * w 10 + w 9) (by omega) (by omega)
      have na : ∀ (T L' : Int → Int), gT 0 5 4 (-1) w L' T (w 8) → tg (T (42 * w 8 + (21 * w 10 + w 9))) (σ1 25 0 (42 * w 8 + (21 * w 10 + w 9))) := fun T L' gt => now_ag (Ym := w) hw hn (by omega) gt (fun z => by omega) ct
      by_cases cd : σ1 25 0 (42 * w 8 + (21 * w 10 + w 9)) = 9223372036854775807
      · rw [cd]
        simp (disch := first | omega | (simp only [x_wtI, x_wtJ, x_wtR, x_wtN]; omega) | assumption | (simp (disch := omega) only [x_st_o, x_rd_ne]; first | assumption | omega) | (apply mir_eq; assumption; (intro c h1 h2; simp (disch := omega) only [x_st_o])) | (apply mis_eq; assumption; (intro c h1 h2; simp (disch := omega) only [x_st_o])) | rfl) only [bk_150_0, bk_150_1, bk_150_2, bk_150_3, bk_150_4, bk_150_6, bk_150_7, bk_150_8, wp_ald0, wr_0_2, wr_20_0, wp_ast4, wp_ald4, wp_ild1, wp_ild2, wk_61, wp_ist5, wp_ild3, wp_ist6, wp_ild5, wp_ic, wp_iceq, wp_ild6, wp_icne, wp_fall, wp_iret mz_150, wr_6_8, wl_8, wp_cald, wp_ist7, wk_133, wp_ifeq, wk_104, wp_lc, wp_lcmp, wp_ifne, wk_151, wp_ist8, wp_ist9, wp_ist10, wp_ild10, wp_ild7, wp_icge, wp_ild9, wp_inc10, wk_73, wk_152, wp_ild8, wp_goto, wp_ineg, x_clr_I, x_clr_J, x_clr_R, x_clr_U, ct_some, ct_none, lc_lt, lc_ge, lc_gt, lc_le, lc_eq, lc_r, xI_inj, xJ_inj, Option.some.injEq, eq_self, bi_r, bi_0, bi_1, bi_n, Classical.not_not, and_true, true_and, ite_true, ite_false, ↓reduceIte, ↓x_andl, z_le, z_nle, z_lt, z_nlt, z_eq, z_neq, if_pos, if_neg, x_andl, false_and, and_false, or_true, true_or, or_false, false_or, not_true, not_false_iff, x_rd_eq, x_rd_ne, x_st_o, Int.cast_ofNat_Int, Int.ofNat_zero, Int.ofNat_one, not_true_eq_false, not_false_eq_true, if_true, if_false, ite_self, and_self, Int.ofNat_eq_natCast, Int.tdiv_eq_ediv_of_nonneg, Int.tmod_eq_emod_of_nonneg, x_bm32]
        refine ⟨-1, rfl, tk_100 tk, ?_⟩
        simp (disch := first | omega | (simp only [x_wtI, x_wtJ, x_wtR, x_wtN]; omega) | assumption | (simp (disch := omega) only [x_st_o, x_rd_ne]; first | assumption | omega) | (apply mir_eq; assumption; (intro c h1 h2; simp (disch := omega) only [x_st_o])) | (apply mis_eq; assumption; (intro c h1 h2; simp (disch := omega) only [x_st_o])) | rfl) only [sp_256, bk_256_0, bk_256_1, bk_256_2, bk_256_3, bk_256_5, bk_256_6, wp_ald0, wp_ild1, wp_ild2, wk_257, wp_ifeq, wp_ild3, wp_icne, wp_fall, wp_ic, wp_iret mz_256, wk_195, wp_lst4, wp_lld4, wp_lc, wp_lcmp, wp_ifne, wr_50_1, wl_51, wp_cald, wk_197, wk_209, wp_geti kd_50, wp_ist6, wp_ist7, wp_iadd, wk_192, wp_imul, wp_ist8, wp_ist9, wp_ild8, wp_ist10, wp_ild9, wp_ist11, wp_ist12, wp_ist13, wp_ild13, wp_ild10, wp_icgt, wp_ild12, wp_isub, ws_51, wp_ild11, wp_ild6, wp_ild7, wk_258, wp_inc13, wp_goto, x_clr_I, x_clr_J, x_clr_R, x_clr_U, ct_some, ct_none, lc_lt, lc_ge, lc_gt, lc_le, lc_eq, lc_r, xI_inj, xJ_inj, Option.some.injEq, eq_self, bi_r, bi_0, bi_1, bi_n, Classical.not_not, and_true, true_and, ite_true, ite_false, ↓reduceIte, ↓x_andl, z_le, z_nle, z_lt, z_nlt, z_eq, z_neq, if_pos, if_neg, x_andl, false_and, and_false, or_true, true_or, or_false, false_or, not_true, not_false_iff, x_rd_eq, x_rd_ne, x_st_o, Int.cast_ofNat_Int, Int.ofNat_zero, Int.ofNat_one, not_true_eq_false, not_false_eq_true, if_true, if_false, ite_self, and_self, Int.ofNat_eq_natCast, Int.tdiv_eq_ediv_of_nonneg, Int.tmod_eq_emod_of_nonneg, x_bm32, k_isKid g51 hw, bi_t isI, bi_t isJ]
        refine x_use (d := 991) (h_solveI (c := 0) hh1 (by omega)) ?_
        rintro r σ5 ⟨rfl, e5, hh5, g5, m5⟩
        rw [g51] at g5 m5 ⊢
        have e : σ5 59 0 (42 * w 8 + (21 * w 10 + w 9)) = (-9223372036854775808) := by
          rcases na _ _ g5 with ⟨z, _⟩ | ⟨_, _, z⟩
          · exact z
          · exact absurd cd z
        rw [e]
        simp (disch := first | omega | (simp only [x_wtI, x_wtJ, x_wtR, x_wtN]; omega) | assumption | (simp (disch := omega) only [x_st_o, x_rd_ne]; first | assumption | omega) | (apply mir_eq; assumption; (intro c h1 h2; simp (disch := omega) only [x_st_o])) | (apply mis_eq; assumption; (intro c h1 h2; simp (disch := omega) only [x_st_o])) | rfl) only [bk_256_0, bk_256_1, bk_256_2, bk_256_3, bk_256_5, bk_256_6, wp_ald0, wp_ild1, wp_ild2, wk_257, wp_ifeq, wp_ild3, wp_icne, wp_fall, wp_ic, wp_iret mz_256, wk_195, wp_lst4, wp_lld4, wp_lc, wp_lcmp, wp_ifne, wr_50_1, wl_51, wp_cald, wk_197, wk_209, wp_geti kd_50, wp_ist6, wp_ist7, wp_iadd, wk_192, wp_imul, wp_ist8, wp_ist9, wp_ild8, wp_ist10, wp_ild9, wp_ist11, wp_ist12, wp_ist13, wp_ild13, wp_ild10, wp_icgt, wp_ild12, wp_isub, ws_51, wp_ild11, wp_ild6, wp_ild7, wk_258, wp_inc13, wp_goto, x_clr_I, x_clr_J, x_clr_R, x_clr_U, ct_some, ct_none, lc_lt, lc_ge, lc_gt, lc_le, lc_eq, lc_r, xI_inj, xJ_inj, Option.some.injEq, eq_self, bi_r, bi_0, bi_1, bi_n, Classical.not_not, and_true, true_and, ite_true, ite_false, ↓reduceIte, ↓x_andl, z_le, z_nle, z_lt, z_nlt, z_eq, z_neq, if_pos, if_neg, x_andl, false_and, and_false, or_true, true_or, or_false, false_or, not_true, not_false_iff, x_rd_eq, x_rd_ne, x_st_o, Int.cast_ofNat_Int, Int.ofNat_zero, Int.ofNat_one, not_true_eq_false, not_false_eq_true, if_true, if_false, ite_self, and_self, Int.ofNat_eq_natCast, Int.tdiv_eq_ediv_of_nonneg, Int.tmod_eq_emod_of_nonneg, x_bm32]
        exact hh5
      · have al : alv w := by
          intro T L' gt z
          rcases na T L' gt with ⟨_, y⟩ | ⟨_, y, _⟩
          · exact cd y
          · exact y z
        have tb2 := tb.resolve_left cd
        generalize hat : σ1 25 0 (42 * w 8 + (21 * w 10 + w 9)) = at0 at tb2
        have nd : ¬ at0 = 9223372036854775807 := by omega
        simp (disch := first | omega | (simp only [x_wtI, x_wtJ, x_wtR, x_wtN]; omega) | assumption | (simp (disch := omega) only [x_st_o, x_rd_ne]; first | assumption | omega) | (apply mir_eq; assumption; (intro c h1 h2; simp (disch := omega) only [x_st_o])) | (apply mis_eq; assumption; (intro c h1 h2; simp (disch := omega) only [x_st_o])) | rfl) only [bk_150_0, bk_150_1, bk_150_2, bk_150_3, bk_150_4, bk_150_6, bk_150_7, bk_150_8, wp_ald0, wr_0_2, wr_20_0, wp_ast4, wp_ald4, wp_ild1, wp_ild2, wk_61, wp_ist5, wp_ild3, wp_ist6, wp_ild5, wp_ic, wp_iceq, wp_ild6, wp_icne, wp_fall, wp_iret mz_150, wr_6_8, wl_8, wp_cald, wp_ist7, wk_133, wp_ifeq, wk_104, wp_lc, wp_lcmp, wp_ifne, wk_151, wp_ist8, wp_ist9, wp_ist10, wp_ild10, wp_ild7, wp_icge, wp_ild9, wp_inc10, wk_73, wk_152, wp_ild8, wp_goto, wp_ineg, x_clr_I, x_clr_J, x_clr_R, x_clr_U, ct_some, ct_none, lc_lt, lc_ge, lc_gt, lc_le, lc_eq, lc_r, xI_inj, xJ_inj, Option.some.injEq, eq_self, bi_r, bi_0, bi_1, bi_n, Classical.not_not, and_true, true_and, ite_true, ite_false, ↓reduceIte, ↓x_andl, z_le, z_nle, z_lt, z_nlt, z_eq, z_neq, if_pos, if_neg, x_andl, false_and, and_false, or_true, true_or, or_false, false_or, not_true, not_false_iff, x_rd_eq, x_rd_ne, x_st_o, Int.cast_ofNat_Int, Int.ofNat_zero, Int.ofNat_one, not_true_eq_false, not_false_eq_true, if_true, if_false, ite_self, and_self, Int.ofNat_eq_natCast, Int.tdiv_eq_ediv_of_nonneg, Int.tmod_eq_emod_of_nonneg, x_bm32]
        refine x_use (d := 991) (h_begin hh1 g51 (f1 rfl) al) ?_
        rintro r σ2 ⟨f2, hh2, g512, ha, rows, b0, t0, low, hb, ht, hr, hfl⟩
        subst hr
        simp (disch := first | omega | (simp only [x_wtI, x_wtJ, x_wtR, x_wtN]; omega) | assumption | (simp (disch := omega) only [x_st_o, x_rd_ne]; first | assumption | omega) | (apply mir_eq; assumption; (intro c h1 h2; simp (disch := omega) only [x_st_o])) | (apply mis_eq; assumption; (intro c h1 h2; simp (disch := omega) only [x_st_o])) | rfl) only [bk_150_0, bk_150_1, bk_150_2, bk_150_3, bk_150_4, bk_150_6, bk_150_7, bk_150_8, wp_ald0, wr_0_2, wr_20_0, wp_ast4, wp_ald4, wp_ild1, wp_ild2, wk_61, wp_ist5, wp_ild3, wp_ist6, wp_ild5, wp_ic, wp_iceq, wp_ild6, wp_icne, wp_fall, wp_iret mz_150, wr_6_8, wl_8, wp_cald, wp_ist7, wk_133, wp_ifeq, wk_104, wp_lc, wp_lcmp, wp_ifne, wk_151, wp_ist8, wp_ist9, wp_ist10, wp_ild10, wp_ild7, wp_icge, wp_ild9, wp_inc10, wk_73, wk_152, wp_ild8, wp_goto, wp_ineg, x_clr_I, x_clr_J, x_clr_R, x_clr_U, ct_some, ct_none, lc_lt, lc_ge, lc_gt, lc_le, lc_eq, lc_r, xI_inj, xJ_inj, Option.some.injEq, eq_self, bi_r, bi_0, bi_1, bi_n, Classical.not_not, and_true, true_and, ite_true, ite_false, ↓reduceIte, ↓x_andl, z_le, z_nle, z_lt, z_nlt, z_eq, z_neq, if_pos, if_neg, x_andl, false_and, and_false, or_true, true_or, or_false, false_or, not_true, not_false_iff, x_rd_eq, x_rd_ne, x_st_o, Int.cast_ofNat_Int, Int.ofNat_zero, Int.ofNat_one, not_true_eq_false, not_false_eq_true, if_true, if_false, ite_self, and_self, Int.ofNat_eq_natCast, Int.tdiv_eq_ediv_of_nonneg, Int.tmod_eq_emod_of_nonneg, x_bm32]
        refine h_edgeC hh2 g512 cf.1 cf.2 fr (by omega) ki.2.1 (by omega) kj.2.1 gt ki.2.2.1 kj.2.2.1 hi1 hj1 ha rows hb ht hfl ?_
        intro v σF vb hans fF hhF gF
        refine ⟨v, rfl, fun j i => by rw [fF j i, f2 j i, tk_100 tk j i], h_edgeM hhF gF cf.1 cf.2 ci cj ij hi hj al ?_ hans⟩
        exact pk_of hw hn (fun h p q hf => (rows h (by omega) q hf).1) hfl
    · have ah : ¬ ((0 ≤ f ∧ f < w 0) ∧ p_fr w (w 8) f) := fun z => fr z.2
      simp (disch := first | omega | (simp only [x_wtI, x_wtJ, x_wtR, x_wtN]; omega) | assumption | (simp (disch := omega) only [x_st_o, x_rd_ne]; first | assumption | omega) | (apply mir_eq; assumption; (intro c h1 h2; simp (disch := omega) only [x_st_o])) | (apply mis_eq; assumption; (intro c h1 h2; simp (disch := omega) only [x_st_o])) | rfl) only [sp_150, bk_150_0, bk_150_1, bk_150_2, bk_150_3, bk_150_4, bk_150_6, bk_150_7, bk_150_8, wp_ald0, wr_0_2, wr_20_0, wp_ast4, wp_ald4, wp_ild1, wp_ild2, wk_61, wp_ist5, wp_ild3, wp_ist6, wp_ild5, wp_ic, wp_iceq, wp_ild6, wp_icne, wp_fall, wp_iret mz_150, wr_6_8, wl_8, wp_cald, wp_ist7, wk_133, wp_ifeq, wk_104, wp_lc, wp_lcmp, wp_ifne, wk_151, wp_ist8, wp_ist9, wp_ist10, wp_ild10, wp_ild7, wp_icge, wp_ild9, wp_inc10, wk_73, wk_152, wp_ild8, wp_goto, wp_ineg, x_clr_I, x_clr_J, x_clr_R, x_clr_U, ct_some, ct_none, lc_lt, lc_ge, lc_gt, lc_le, lc_eq, lc_r, xI_inj, xJ_inj, Option.some.injEq, eq_self, bi_r, bi_0, bi_1, bi_n, Classical.not_not, and_true, true_and, ite_true, ite_false, ↓reduceIte, ↓x_andl, z_le, z_nle, z_lt, z_nlt, z_eq, z_neq, if_pos, if_neg, x_andl, false_and, and_false, or_true, true_or, or_false, false_or, not_true, not_false_iff, x_rd_eq, x_rd_ne, x_st_o, Int.cast_ofNat_Int, Int.ofNat_zero, Int.ofNat_one, not_true_eq_false, not_false_eq_true, if_true, if_false, ite_self, and_self, Int.ofNat_eq_natCast, Int.tdiv_eq_ediv_of_nonneg, Int.tmod_eq_emod_of_nonneg, x_bm32, k_kidAt hM hw, eg, et, mi_chance hM, k_isAhead hM hS hw hn, bi_f ah]
      refine ⟨-1, rfl, fun _ _ => rfl, ?_⟩
      by_cases cd : alv w
      · obtain ⟨_, σ8, ⟨_, tk8, hh8, f8, _⟩, _⟩ := x_ex (h_leastNow (j := 0) (c := 0) hh (by omega) rfl)
        obtain ⟨_, σ2, ⟨_, _, _, _, rows, b0, t0, low, hb, ht, _, hfl⟩, _⟩ := x_ex (h_begin hh8 ((tk8.1 51 0 (by decide)).trans h51) (f8 rfl) cd)
        refine h_edgeM hh h51 cf.1 cf.2 ci cj ij hi hj cd (pk_of hw hn (fun h p q hf => (rows h (by omega) q hf).1) hfl) (Or.inl ⟨rfl, fun m m1 m2 => ?_⟩)
        exact pk_far hw hn (wf_mv hw (by omega) ki.2.1 (by omega) kj.2.1 (by omega) (by omega)) (mv_ws (by omega) (by omega) (by omega) (by omega)) (mv_z hw (by omega) (by omega) ki.2.1 kj.2.1 ki.2.2.1 kj.2.2.1) fr (fun h p q hf => (rows h p q hf).1) hfl
      · simp (disch := first | omega | (simp only [x_wtI, x_wtJ, x_wtR, x_wtN]; omega) | assumption | (simp (disch := omega) only [x_st_o, x_rd_ne]; first | assumption | omega) | (apply mir_eq; assumption; (intro c h1 h2; simp (disch := omega) only [x_st_o])) | (apply mis_eq; assumption; (intro c h1 h2; simp (disch := omega) only [x_st_o])) | rfl) only [sp_256, bk_256_0, bk_256_1, bk_256_2, bk_256_3, bk_256_5, bk_256_6, wp_ald0, wp_ild1, wp_ild2, wk_257, wp_ifeq, wp_ild3, wp_icne, wp_fall, wp_ic, wp_iret mz_256, wk_195, wp_lst4, wp_lld4, wp_lc, wp_lcmp, wp_ifne, wr_50_1, wl_51, wp_cald, wk_197, wk_209, wp_geti kd_50, wp_ist6, wp_ist7, wp_iadd, wk_192, wp_imul, wp_ist8, wp_ist9, wp_ild8, wp_ist10, wp_ild9, wp_ist11, wp_ist12, wp_ist13, wp_ild13, wp_ild10, wp_icgt, wp_ild12, wp_isub, ws_51, wp_ild11, wp_ild6, wp_ild7, wk_258, wp_inc13, wp_goto, x_clr_I, x_clr_J, x_clr_R, x_clr_U, ct_some, ct_none, lc_lt, lc_ge, lc_gt, lc_le, lc_eq, lc_r, xI_inj, xJ_inj, Option.some.injEq, eq_self, bi_r, bi_0, bi_1, bi_n, Classical.not_not, and_true, true_and, ite_true, ite_false, ↓reduceIte, ↓x_andl, z_le, z_nle, z_lt, z_nlt, z_eq, z_neq, if_pos, if_neg, x_andl, false_and, and_false, or_true, true_or, or_false, false_or, not_true, not_false_iff, x_rd_eq, x_rd_ne, x_st_o, Int.cast_ofNat_Int, Int.ofNat_zero, Int.ofNat_one, not_true_eq_false, not_false_eq_true, if_true, if_false, ite_self, and_self, Int.ofNat_eq_natCast, Int.tdiv_eq_ediv_of_nonneg, Int.tmod_eq_emod_of_nonneg, x_bm32, k_isKid h51 hw, bi_t isI, bi_t isJ]
        refine x_use (d := 991) (h_solveI (c := 0) hh (by omega)) ?_
        rintro r σ5 ⟨rfl, e5, hh5, g5, m5⟩
        rw [h51] at g5 m5 ⊢
        obtain ⟨_, σ1, ⟨_, _, _, _, ct⟩, _⟩ := x_ex (h_leastNow (j := 0) (c := 0) hh (by omega) rfl)
        rw [h51] at ct
        have e : σ5 59 0 (42 * w 8 + (21 * w 10 + w 9)) = (-9223372036854775808) := by
          by_cases z : σ5 59 0 (42 * w 8 + (21 * w 10 + w 9)) = (-9223372036854775808)
          · exact z
          · exfalso
            refine cd (fun T L' gt y => ?_)
            have n1 := now_ag (Ym := w) hw hn (by omega) gt (fun z => by omega) ct
            have n2 := now_ag (Ym := w) hw hn (by omega) g5 (fun z => by omega) ct
            rcases n2 with ⟨x, _⟩ | ⟨_, _, x⟩
            · exact z x
            · rcases n1 with ⟨_, x'⟩ | ⟨_, x', _⟩
              · exact x x'
              · exact x' y
        rw [e]
        simp (disch := first | omega | (simp only [x_wtI, x_wtJ, x_wtR, x_wtN]; omega) | assumption | (simp (disch := omega) only [x_st_o, x_rd_ne]; first | assumption | omega) | (apply mir_eq; assumption; (intro c h1 h2; simp (disch := omega) only [x_st_o])) | (apply mis_eq; assumption; (intro c h1 h2; simp (disch := omega) only [x_st_o])) | rfl) only [bk_256_0, bk_256_1, bk_256_2, bk_256_3, bk_256_5, bk_256_6, wp_ald0, wp_ild1, wp_ild2, wk_257, wp_ifeq, wp_ild3, wp_icne, wp_fall, wp_ic, wp_iret mz_256, wk_195, wp_lst4, wp_lld4, wp_lc, wp_lcmp, wp_ifne, wr_50_1, wl_51, wp_cald, wk_197, wk_209, wp_geti kd_50, wp_ist6, wp_ist7, wp_iadd, wk_192, wp_imul, wp_ist8, wp_ist9, wp_ild8, wp_ist10, wp_ild9, wp_ist11, wp_ist12, wp_ist13, wp_ild13, wp_ild10, wp_icgt, wp_ild12, wp_isub, ws_51, wp_ild11, wp_ild6, wp_ild7, wk_258, wp_inc13, wp_goto, x_clr_I, x_clr_J, x_clr_R, x_clr_U, ct_some, ct_none, lc_lt, lc_ge, lc_gt, lc_le, lc_eq, lc_r, xI_inj, xJ_inj, Option.some.injEq, eq_self, bi_r, bi_0, bi_1, bi_n, Classical.not_not, and_true, true_and, ite_true, ite_false, ↓reduceIte, ↓x_andl, z_le, z_nle, z_lt, z_nlt, z_eq, z_neq, if_pos, if_neg, x_andl, false_and, and_false, or_true, true_or, or_false, false_or, not_true, not_false_iff, x_rd_eq, x_rd_ne, x_st_o, Int.cast_ofNat_Int, Int.ofNat_zero, Int.ofNat_one, not_true_eq_false, not_false_eq_true, if_true, if_false, ite_self, and_self, Int.ofNat_eq_natCast, Int.tdiv_eq_ediv_of_nonneg, Int.tmod_eq_emod_of_nonneg, x_bm32]
        exact hh5
  · by_cases c2 : (0 ≤ f ∧ f < w 0) ∧ 0 ≤ i ∧ i < w_of w f 7
    · have ki := wf_k hw c2.1.1 c2.1.2 c2.2.1 c2.2.2
      have eg : p_kid w f i = w_of w f (8 + i) := if_pos c2
      by_cases c3 : (0 ≤ f ∧ f < w 0) ∧ 0 ≤ j ∧ j < w_of w f 7
      · have kj := wf_k hw c3.1.1 c3.1.2 c3.2.1 c3.2.2
        have et : p_kid w f j = w_of w f (8 + j) := if_pos c3
        have ij : i = j := by
          by_cases z : i = j
          · exact z
          · exact absurd ⟨c2.1, c2.2, c3.2, z⟩ c1
        simp (disch := first | omega | (simp only [x_wtI, x_wtJ, x_wtR, x_wtN]; omega) | assumption | (simp (disch := omega) only [x_st_o, x_rd_ne]; first | assumption | omega) | (apply mir_eq; assumption; (intro c h1 h2; simp (disch := omega) only [x_st_o])) | (apply mis_eq; assumption; (intro c h1 h2; simp (disch := omega) only [x_st_o])) | rfl) only [sp_150, bk_150_0, bk_150_1, bk_150_2, bk_150_3, bk_150_4, bk_150_6, bk_150_7, bk_150_8, wp_ald0, wr_0_2, wr_20_0, wp_ast4, wp_ald4, wp_ild1, wp_ild2, wk_61, wp_ist5, wp_ild3, wp_ist6, wp_ild5, wp_ic, wp_iceq, wp_ild6, wp_icne, wp_fall, wp_iret mz_150, wr_6_8, wl_8, wp_cald, wp_ist7, wk_133, wp_ifeq, wk_104, wp_lc, wp_lcmp, wp_ifne, wk_151, wp_ist8, wp_ist9, wp_ist10, wp_ild10, wp_ild7, wp_icge, wp_ild9, wp_inc10, wk_73, wk_152, wp_ild8, wp_goto, wp_ineg, x_clr_I, x_clr_J, x_clr_R, x_clr_U, ct_some, ct_none, lc_lt, lc_ge, lc_gt, lc_le, lc_eq, lc_r, xI_inj, xJ_inj, Option.some.injEq, eq_self, bi_r, bi_0, bi_1, bi_n, Classical.not_not, and_true, true_and, ite_true, ite_false, ↓reduceIte, ↓x_andl, z_le, z_nle, z_lt, z_nlt, z_eq, z_neq, if_pos, if_neg, x_andl, false_and, and_false, or_true, true_or, or_false, false_or, not_true, not_false_iff, x_rd_eq, x_rd_ne, x_st_o, Int.cast_ofNat_Int, Int.ofNat_zero, Int.ofNat_one, not_true_eq_false, not_false_eq_true, if_true, if_false, ite_self, and_self, Int.ofNat_eq_natCast, Int.tdiv_eq_ediv_of_nonneg, Int.tmod_eq_emod_of_nonneg, x_bm32, k_kidAt hM hw, eg, et]
        refine ⟨-2, rfl, fun _ _ => rfl, ?_⟩
        simp (disch := first | omega | (simp only [x_wtI, x_wtJ, x_wtR, x_wtN]; omega) | assumption | (simp (disch := omega) only [x_st_o, x_rd_ne]; first | assumption | omega) | (apply mir_eq; assumption; (intro c h1 h2; simp (disch := omega) only [x_st_o])) | (apply mis_eq; assumption; (intro c h1 h2; simp (disch := omega) only [x_st_o])) | rfl) only [sp_256, bk_256_0, bk_256_1, bk_256_2, bk_256_3, bk_256_5, bk_256_6, wp_ald0, wp_ild1, wp_ild2, wk_257, wp_ifeq, wp_ild3, wp_icne, wp_fall, wp_ic, wp_iret mz_256, wk_195, wp_lst4, wp_lld4, wp_lc, wp_lcmp, wp_ifne, wr_50_1, wl_51, wp_cald, wk_197, wk_209, wp_geti kd_50, wp_ist6, wp_ist7, wp_iadd, wk_192, wp_imul, wp_ist8, wp_ist9, wp_ild8, wp_ist10, wp_ild9, wp_ist11, wp_ist12, wp_ist13, wp_ild13, wp_ild10, wp_icgt, wp_ild12, wp_isub, ws_51, wp_ild11, wp_ild6, wp_ild7, wk_258, wp_inc13, wp_goto, x_clr_I, x_clr_J, x_clr_R, x_clr_U, ct_some, ct_none, lc_lt, lc_ge, lc_gt, lc_le, lc_eq, lc_r, xI_inj, xJ_inj, Option.some.injEq, eq_self, bi_r, bi_0, bi_1, bi_n, Classical.not_not, and_true, true_and, ite_true, ite_false, ↓reduceIte, ↓x_andl, z_le, z_nle, z_lt, z_nlt, z_eq, z_neq, if_pos, if_neg, x_andl, false_and, and_false, or_true, true_or, or_false, false_or, not_true, not_false_iff, x_rd_eq, x_rd_ne, x_st_o, Int.cast_ofNat_Int, Int.ofNat_zero, Int.ofNat_one, not_true_eq_false, not_false_eq_true, if_true, if_false, ite_self, and_self, Int.ofNat_eq_natCast, Int.tdiv_eq_ediv_of_nonneg, Int.tmod_eq_emod_of_nonneg, x_bm32, k_isKid h51 hw, bi_t c2, bi_t c3]
        exact hh
      · have et : p_kid w f j = -1 := if_neg c3
        simp (disch := first | omega | (simp only [x_wtI, x_wtJ, x_wtR, x_wtN]; omega) | assumption | (simp (disch := omega) only [x_st_o, x_rd_ne]; first | assumption | omega) | (apply mir_eq; assumption; (intro c h1 h2; simp (disch := omega) only [x_st_o])) | (apply mis_eq; assumption; (intro c h1 h2; simp (disch := omega) only [x_st_o])) | rfl) only [sp_150, bk_150_0, bk_150_1, bk_150_2, bk_150_3, bk_150_4, bk_150_6, bk_150_7, bk_150_8, wp_ald0, wr_0_2, wr_20_0, wp_ast4, wp_ald4, wp_ild1, wp_ild2, wk_61, wp_ist5, wp_ild3, wp_ist6, wp_ild5, wp_ic, wp_iceq, wp_ild6, wp_icne, wp_fall, wp_iret mz_150, wr_6_8, wl_8, wp_cald, wp_ist7, wk_133, wp_ifeq, wk_104, wp_lc, wp_lcmp, wp_ifne, wk_151, wp_ist8, wp_ist9, wp_ist10, wp_ild10, wp_ild7, wp_icge, wp_ild9, wp_inc10, wk_73, wk_152, wp_ild8, wp_goto, wp_ineg, x_clr_I, x_clr_J, x_clr_R, x_clr_U, ct_some, ct_none, lc_lt, lc_ge, lc_gt, lc_le, lc_eq, lc_r, xI_inj, xJ_inj, Option.some.injEq, eq_self, bi_r, bi_0, bi_1, bi_n, Classical.not_not, and_true, true_and, ite_true, ite_false, ↓reduceIte, ↓x_andl, z_le, z_nle, z_lt, z_nlt, z_eq, z_neq, if_pos, if_neg, x_andl, false_and, and_false, or_true, true_or, or_false, false_or, not_true, not_false_iff, x_rd_eq, x_rd_ne, x_st_o, Int.cast_ofNat_Int, Int.ofNat_zero, Int.ofNat_one, not_true_eq_false, not_false_eq_true, if_true, if_false, ite_self, and_self, Int.ofNat_eq_natCast, Int.tdiv_eq_ediv_of_nonneg, Int.tmod_eq_emod_of_nonneg, x_bm32, k_kidAt hM hw, eg, et]
        refine ⟨-2, rfl, fun _ _ => rfl, ?_⟩
        simp (disch := first | omega | (simp only [x_wtI, x_wtJ, x_wtR, x_wtN]; omega) | assumption | (simp (disch := omega) only [x_st_o, x_rd_ne]; first | assumption | omega) | (apply mir_eq; assumption; (intro c h1 h2; simp (disch := omega) only [x_st_o])) | (apply mis_eq; assumption; (intro c h1 h2; simp (disch := omega) only [x_st_o])) | rfl) only [sp_256, bk_256_0, bk_256_1, bk_256_2, bk_256_3, bk_256_5, bk_256_6, wp_ald0, wp_ild1, wp_ild2, wk_257, wp_ifeq, wp_ild3, wp_icne, wp_fall, wp_ic, wp_iret mz_256, wk_195, wp_lst4, wp_lld4, wp_lc, wp_lcmp, wp_ifne, wr_50_1, wl_51, wp_cald, wk_197, wk_209, wp_geti kd_50, wp_ist6, wp_ist7, wp_iadd, wk_192, wp_imul, wp_ist8, wp_ist9, wp_ild8, wp_ist10, wp_ild9, wp_ist11, wp_ist12, wp_ist13, wp_ild13, wp_ild10, wp_icgt, wp_ild12, wp_isub, ws_51, wp_ild11, wp_ild6, wp_ild7, wk_258, wp_inc13, wp_goto, x_clr_I, x_clr_J, x_clr_R, x_clr_U, ct_some, ct_none, lc_lt, lc_ge, lc_gt, lc_le, lc_eq, lc_r, xI_inj, xJ_inj, Option.some.injEq, eq_self, bi_r, bi_0, bi_1, bi_n, Classical.not_not, and_true, true_and, ite_true, ite_false, ↓reduceIte, ↓x_andl, z_le, z_nle, z_lt, z_nlt, z_eq, z_neq, if_pos, if_neg, x_andl, false_and, and_false, or_true, true_or, or_false, false_or, not_true, not_false_iff, x_rd_eq, x_rd_ne, x_st_o, Int.cast_ofNat_Int, Int.ofNat_zero, Int.ofNat_one, not_true_eq_false, not_false_eq_true, if_true, if_false, ite_self, and_self, Int.ofNat_eq_natCast, Int.tdiv_eq_ediv_of_nonneg, Int.tmod_eq_emod_of_nonneg, x_bm32, k_isKid h51 hw, bi_t c2, bi_f c3]
        exact hh
    · have eg : p_kid w f i = -1 := if_neg c2
      simp (disch := first | omega | (simp only [x_wtI, x_wtJ, x_wtR, x_wtN]; omega) | assumption | (simp (disch := omega) only [x_st_o, x_rd_ne]; first | assumption | omega) | (apply mir_eq; assumption; (intro c h1 h2; simp (disch := omega) only [x_st_o])) | (apply mis_eq; assumption; (intro c h1 h2; simp (disch := omega) only [x_st_o])) | rfl) only [sp_150, bk_150_0, bk_150_1, bk_150_2, bk_150_3, bk_150_4, bk_150_6, bk_150_7, bk_150_8, wp_ald0, wr_0_2, wr_20_0, wp_ast4, wp_ald4, wp_ild1, wp_ild2, wk_61, wp_ist5, wp_ild3, wp_ist6, wp_ild5, wp_ic, wp_iceq, wp_ild6, wp_icne, wp_fall, wp_iret mz_150, wr_6_8, wl_8, wp_cald, wp_ist7, wk_133, wp_ifeq, wk_104, wp_lc, wp_lcmp, wp_ifne, wk_151, wp_ist8, wp_ist9, wp_ist10, wp_ild10, wp_ild7, wp_icge, wp_ild9, wp_inc10, wk_73, wk_152, wp_ild8, wp_goto, wp_ineg, x_clr_I, x_clr_J, x_clr_R, x_clr_U, ct_some, ct_none, lc_lt, lc_ge, lc_gt, lc_le, lc_eq, lc_r, xI_inj, xJ_inj, Option.some.injEq, eq_self, bi_r, bi_0, bi_1, bi_n, Classical.not_not, and_true, true_and, ite_true, ite_false, ↓reduceIte, ↓x_andl, z_le, z_nle, z_lt, z_nlt, z_eq, z_neq, if_pos, if_neg, x_andl, false_and, and_false, or_true, true_or, or_false, false_or, not_true, not_false_iff, x_rd_eq, x_rd_ne, x_st_o, Int.cast_ofNat_Int, Int.ofNat_zero, Int.ofNat_one, not_true_eq_false, not_false_eq_true, if_true, if_false, ite_self, and_self, Int.ofNat_eq_natCast, Int.tdiv_eq_ediv_of_nonneg, Int.tmod_eq_emod_of_nonneg, x_bm32, k_kidAt hM hw, eg]
      refine ⟨-2, rfl, fun _ _ => rfl, ?_⟩
      simp (disch := first | omega | (simp only [x_wtI, x_wtJ, x_wtR, x_wtN]; omega) | assumption | (simp (disch := omega) only [x_st_o, x_rd_ne]; first | assumption | omega) | (apply mir_eq; assumption; (intro c h1 h2; simp (disch := omega) only [x_st_o])) | (apply mis_eq; assumption; (intro c h1 h2; simp (disch := omega) only [x_st_o])) | rfl) only [sp_256, bk_256_0, bk_256_1, bk_256_2, bk_256_3, bk_256_5, bk_256_6, wp_ald0, wp_ild1, wp_ild2, wk_257, wp_ifeq, wp_ild3, wp_icne, wp_fall, wp_ic, wp_iret mz_256, wk_195, wp_lst4, wp_lld4, wp_lc, wp_lcmp, wp_ifne, wr_50_1, wl_51, wp_cald, wk_197, wk_209, wp_geti kd_50, wp_ist6, wp_ist7, wp_iadd, wk_192, wp_imul, wp_ist8, wp_ist9, wp_ild8, wp_ist10, wp_ild9, wp_ist11, wp_ist12, wp_ist13, wp_ild13, wp_ild10, wp_icgt, wp_ild12, wp_isub, ws_51, wp_ild11, wp_ild6, wp_ild7, wk_258, wp_inc13, wp_goto, x_clr_I, x_clr_J, x_clr_R, x_clr_U, ct_some, ct_none, lc_lt, lc_ge, lc_gt, lc_le, lc_eq, lc_r, xI_inj, xJ_inj, Option.some.injEq, eq_self, bi_r, bi_0, bi_1, bi_n, Classical.not_not, and_true, true_and, ite_true, ite_false, ↓reduceIte, ↓x_andl, z_le, z_nle, z_lt, z_nlt, z_eq, z_neq, if_pos, if_neg, x_andl, false_and, and_false, or_true, true_or, or_false, false_or, not_true, not_false_iff, x_rd_eq, x_rd_ne, x_st_o, Int.cast_ofNat_Int, Int.ofNat_zero, Int.ofNat_one, not_true_eq_false, not_false_eq_true, if_true, if_false, ite_self, and_self, Int.ofNat_eq_natCast, Int.tdiv_eq_ediv_of_nonneg, Int.tmod_eq_emod_of_nonneg, x_bm32, k_isKid h51 hw, bi_f c2]
      exact hh
end OED

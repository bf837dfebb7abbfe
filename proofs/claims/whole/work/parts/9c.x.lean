theorem gT_row {w L T : Int → Int} {c E Wd : Int} (hn : wn w) (hc : ¬ c = 2) (h : gT c E Wd (-1) w L T (w 8)) : ∀ f, w 8 ≤ f → f < w 0 → p_fr w (w 8) f → g_row (-9223372036854775808) c E Wd w L T f ∧ t_bd (-9223372036854775808) w T f := by
  have n8 := hn.1
  intro f f0 f1 fr
  obtain ⟨a, b, _⟩ := h f f0 f1
  exact ⟨fun st wd p q p2 q2 => ((b ⟨fr, Or.inl hc⟩ st wd p q p2 q2).resolve_left (fun z => by omega)).2, a⟩
theorem dead_le {w L1 L2 T1 T2 : Int → Int} {mk1 mk2 c1 c2 W1 W2 : Int} (hw : wf w) (hn : wn w) (hW : W1 ≤ W2) (hc : 0 ≤ c2 ∧ c2 ≤ 3) (hc2 : ¬ c2 = 2) (hmk : mk2 < -600000000000000000 ∨ 600000000000000000 < mk2)
    (h1 : ∀ f, w 8 ≤ f → f < w 0 → p_fr w (w 8) f → g_row mk1 c1 5 W1 w L1 T1 f) (h2 : ∀ f, w 8 ≤ f → f < w 0 → p_fr w (w 8) f → g_row mk2 c2 5 W2 w L2 T2 f ∧ t_bd mk2 w T2 f) :
    ∀ f, w 8 ≤ f → f < w 0 → p_fr w (w 8) f → ∀ st wd, 0 ≤ st → st ≤ 20 → 0 ≤ wd → wd ≤ 1 → ¬ T1 (42 * f + (21 * wd + st)) = mk1 → ¬ T2 (42 * f + (21 * wd + st)) = mk2 := by
  have n8 := hn.1
  have key : ∀ n : Nat, ∀ f, w 0 - f ≤ n → w 8 ≤ f → f < w 0 → p_fr w (w 8) f → ∀ st wd, 0 ≤ st → st ≤ 20 → 0 ≤ wd → wd ≤ 1 → ¬ T1 (42 * f + (21 * wd + st)) = mk1 → ¬ T2 (42 * f + (21 * wd + st)) = mk2 := by
    intro n
    induction n with
    | zero => intro f p _ q; omega
    | succ n ih =>
      intro f hn2 f0 f1 fr st wd p q p2 q2 ha
      rcases h1 f f0 f1 fr st wd p q p2 q2 with ⟨z, _⟩ | ⟨⟨b, t, l, r, _⟩, _⟩
      · exact absurd z ha
      · have sb := sl_b hw (by omega) f1 ⟨p, q⟩ l
        have po := p_or_01 (a := wd) (b := b)
        have l2 : s_law w W2 f st wd b t := ⟨l.1.elim Or.inl (fun z => Or.inr ⟨z.1, z.2.1, by omega⟩), l.2⟩
        have r2 : r_ok mk2 5 w T2 f (21 * p_or wd b + t) := by
          rcases r with z | z
          · exact Or.inl z
          · refine Or.inr (fun ⟨i, i0, i1, e⟩ => ?_)
            have kk := wf_k hw (f := f) (i := i) (by omega) f1 i0 i1
            exact ih _ (by omega) (by omega) kk.2.1 (fr_kid hw n8.1 fr (by omega) f1 i0 i1) t (p_or wd b) (by omega) (by omega) (by omega) (by omega) (fun y => z ⟨i, i0, i1, y⟩) e
        rcases (h2 f f0 f1 fr).1 st wd p q p2 q2 with ⟨_, z⟩ | ⟨z, _⟩
        · exact absurd ⟨b, t, l2, r2, rfl⟩ (z _)
        · rw [← zst_val] at z
          obtain ⟨b', t', zz⟩ := z
          have bd := zst_bd hw (by omega) f1 ⟨p, q⟩ ⟨p2, q2⟩ (fun i i0 i1 => by
            have kk := wf_k hw (f := f) (i := i) (by omega) f1 i0 i1
            exact (h2 _ (by omega) kk.2.1 (fr_kid hw n8.1 fr (by omega) f1 i0 i1)).2) (fun y => absurd y hc2) hc zz
          have gp := gb_pos (k := w_of w f 6)
          omega
  exact fun f => key (w 0 - f).toNat f (by omega)
theorem dead_ag {w L L2 T T2 : Int → Int} {c c2 : Int} (hw : wf w) (hn : wn w) (hc : 0 ≤ c ∧ c ≤ 3) (h2 : ¬ c = 2) (hc' : 0 ≤ c2 ∧ c2 ≤ 2) (h2' : ¬ c2 = 2) (hG : gT c 5 4 (-1) w L T (w 8)) (hC : cT c2 w T2 L2) : ∀ f, w 8 ≤ f → f < w 0 → p_fr w (w 8) f → ∀ st wd, 0 ≤ st → st ≤ 20 → 0 ≤ wd → wd ≤ 1 → (T (42 * f + (21 * wd + st)) = (-9223372036854775808) ↔ T2 (42 * f + (21 * wd + st)) = 9223372036854775807) := by
  intro f f0 f1 fr st wd p q p2 q2
  have A := dead_le hw hn (Int.le_refl 4) (by omega) h2' (Or.inr (by omega)) (fun f f0 f1 fr => (gT_row hn h2 hG f f0 f1 fr).1) hC.1 f f0 f1 fr st wd p q p2 q2
  have B := dead_le hw hn (Int.le_refl 4) hc h2 (Or.inl (by omega)) (fun f f0 f1 fr => (hC.1 f f0 f1 fr).1) (gT_row hn h2 hG) f f0 f1 fr st wd p q p2 q2
  constructor
  · intro z
    by_cases y : T2 (42 * f + (21 * wd + st)) = 9223372036854775807
    · exact y
    · exact absurd z (B y)
  · intro z
    by_cases y : T (42 * f + (21 * wd + st)) = (-9223372036854775808)
    · exact y
    · exact absurd z (A y)
section OC
variable {L : Int} {S0 : Int → Int}
theorem iN_tr {σ σ' : x_S} (h : iN L S0 σ) (e : x_eqo [(24, 3), (25, 3), (27, 3), (28, 3)] σ σ') : iN L S0 σ' := by
  refine iN_scr h (eqo_mono (by decide) e) ?_ ?_
  · intro j k hj _ _
    rw [e 24 j (by simp; omega)]
  · intro k _
    rw [e 50 0 (by simp)]
theorem tr_100 {σ σ' : x_S} (e : x_eqo [(24, 3), (25, 3), (27, 3), (28, 3)] σ σ') : x_f100 σ σ' := fun j i => by rw [e 100 j (by simp)]
theorem o_coin : x_o31 (iN L S0) := by
  intro σ hh
  refine ag_J ?_
  obtain ⟨w, h51, hw, h100, hn, hq, hM, hS⟩ := iN_w hh
  have a := wf_h hw
  unfold wf_hdr at a
  obtain ⟨n8, n9, n10, _⟩ := id hn
  have hn6 := wf_f hw (f := w 8) (by omega) (by omega)
  unfold wf_one at hn6
  simp (disch := first | omega | (simp only [x_wtI, x_wtJ, x_wtR, x_wtN]; omega) | assumption | (simp (disch := omega) only [x_st_o, x_rd_ne]; first | assumption | omega) | (apply mir_eq; assumption; (intro c h1 h2; simp (disch := omega) only [x_st_o])) | (apply mis_eq; assumption; (intro c h1 h2; simp (disch := omega) only [x_st_o])) | rfl) only [sp_143, bk_143_0, wp_ald0, wr_0_7, wp_ic, wk_14, wr_0_2, wp_geti kd_20, wk_1, wk_11, wk_107, wp_lret, sp_14, bk_14_0, wp_ild1, wp_puti kd_24, wp_ret, x_clr_I, x_clr_J, x_clr_R, x_clr_U, ct_some, ct_none, lc_lt, lc_ge, lc_gt, lc_le, lc_eq, lc_r, xI_inj, xJ_inj, Option.some.injEq, eq_self, bi_r, bi_0, bi_1, bi_n, Classical.not_not, and_true, true_and, ite_true, ite_false, ↓reduceIte, ↓x_andl, z_le, z_nle, z_lt, z_nlt, z_eq, z_neq, if_pos, if_neg, x_andl, false_and, and_false, or_true, true_or, or_false, false_or, not_true, not_false_iff, x_rd_eq, x_rd_ne, x_st_o, Int.cast_ofNat_Int, Int.ofNat_zero, Int.ofNat_one, not_true_eq_false, not_false_eq_true, if_true, if_false, ite_self, and_self, Int.ofNat_eq_natCast, Int.tdiv_eq_ediv_of_nonneg, Int.tmod_eq_emod_of_nonneg, x_bm32, hS.1.1]
  generalize hσ0 : x_st (x_st (x_st σ 24 3 3 3) 24 3 1 4) 24 3 2 5 = σ0
  have e0 : x_eqo [(24, 3), (25, 3), (27, 3), (28, 3)] σ σ0 := by
    subst hσ0
    repeat (first | exact eqo_refl | refine eqo_st (by simp) ?_)
  have f0 : σ0 24 3 3 = 3 ∧ σ0 24 3 1 = 4 ∧ σ0 24 3 2 = 5 := by
    subst hσ0
    refine ⟨?_, ?_, ?_⟩ <;> simp (disch := omega) only [x_st_o, x_rd_ne, x_rd_eq, s_fl_o, s_fl_in, s_fl_out, x_cp_o, x_cp_in, x_cp_out]
  have hM0 : mir σ0 1 w := mir_eq hM (fun c q1 q2 => e0 c 1 (by simp))
  refine x_use (d := 993) (h_fillFrom (j := 3) (c := 3) (E := 5) (Wd := 4) (top := w 8) hM0 (by omega) hw n8.1 n8.2 f0.1 (by omega) f0.2.1 (by omega) f0.2.2 (by omega) rfl (fun f _ _ _ z => by omega)) ?_
  rintro r σ1 ⟨rfl, e1, k1, g1⟩
  have e01 := eqo_trans e0 e1
  have hS1 : mis σ1 1 w := mis_eq hS (fun c q1 q2 => e01 c 1 (by simp))
  have hx0 : 0 ≤ w 8 * 42 + w 10 * 21 + w 9 ∧ w 8 * 42 + w 10 * 21 + w 9 < 1680 := by omega
  have ex : w 8 * 42 + w 10 * 21 + w 9 = 42 * w 8 + (21 * w 10 + w 9) := by omega
  have rg := t_rng (g1 (w 8) (by omega) (by omega) fr_self (by omega)).2 (s := 21 * w 10 + w 9) (by omega) (by omega)
  rw [← ex] at rg
  simp (disch := first | omega | (simp only [x_wtI, x_wtJ, x_wtR, x_wtN]; omega) | assumption | (simp (disch := omega) only [x_st_o, x_rd_ne]; first | assumption | omega) | (apply mir_eq; assumption; (intro c h1 h2; simp (disch := omega) only [x_st_o])) | (apply mis_eq; assumption; (intro c h1 h2; simp (disch := omega) only [x_st_o])) | rfl) only [bk_143_0, wp_ald0, wr_0_7, wp_ic, wk_14, wr_0_2, wp_geti kd_20, wk_1, wk_11, wk_107, wp_lret, x_clr_I, x_clr_J, x_clr_R, x_clr_U, ct_some, ct_none, lc_lt, lc_ge, lc_gt, lc_le, lc_eq, lc_r, xI_inj, xJ_inj, Option.some.injEq, eq_self, bi_r, bi_0, bi_1, bi_n, Classical.not_not, and_true, true_and, ite_true, ite_false, ↓reduceIte, ↓x_andl, z_le, z_nle, z_lt, z_nlt, z_eq, z_neq, if_pos, if_neg, x_andl, false_and, and_false, or_true, true_or, or_false, false_or, not_true, not_false_iff, x_rd_eq, x_rd_ne, x_st_o, Int.cast_ofNat_Int, Int.ofNat_zero, Int.ofNat_one, not_true_eq_false, not_false_eq_true, if_true, if_false, ite_self, and_self, Int.ofNat_eq_natCast, Int.tdiv_eq_ediv_of_nonneg, Int.tmod_eq_emod_of_nonneg, x_bm32, hS1.1.1, hS1.1.2.1, hS1.1.2.2.1]
  simp (disch := first | omega | (simp only [x_wtI, x_wtJ, x_wtR, x_wtN]; omega) | assumption | (simp (disch := omega) only [x_st_o, x_rd_ne]; first | assumption | omega) | (apply mir_eq; assumption; (intro c h1 h2; simp (disch := omega) only [x_st_o])) | (apply mis_eq; assumption; (intro c h1 h2; simp (disch := omega) only [x_st_o])) | rfl) only [sp_11, bk_11_0, wp_ald0, wr_24_4, wp_ild1, wp_ic, wp_imul, wp_ild3, wp_iadd, wp_ild2, wl_25, wp_pald, wp_lret, x_clr_I, x_clr_J, x_clr_R, x_clr_U, ct_some, ct_none, lc_lt, lc_ge, lc_gt, lc_le, lc_eq, lc_r, xI_inj, xJ_inj, Option.some.injEq, eq_self, bi_r, bi_0, bi_1, bi_n, Classical.not_not, and_true, true_and, ite_true, ite_false, ↓reduceIte, ↓x_andl, z_le, z_nle, z_lt, z_nlt, z_eq, z_neq, if_pos, if_neg, x_andl, false_and, and_false, or_true, true_or, or_false, false_or, not_true, not_false_iff, x_rd_eq, x_rd_ne, x_st_o, Int.cast_ofNat_Int, Int.ofNat_zero, Int.ofNat_one, not_true_eq_false, not_false_eq_true, if_true, if_false, ite_self, and_self, Int.ofNat_eq_natCast, Int.tdiv_eq_ediv_of_nonneg, Int.tmod_eq_emod_of_nonneg, x_bm32]
  generalize hv : σ1 25 3 (w 8 * 42 + w 10 * 21 + w 9) = v at rg
  simp (disch := first | omega | (simp only [x_wtI, x_wtJ, x_wtR, x_wtN]; omega) | assumption | (simp (disch := omega) only [x_st_o, x_rd_ne]; first | assumption | omega) | (apply mir_eq; assumption; (intro c h1 h2; simp (disch := omega) only [x_st_o])) | (apply mis_eq; assumption; (intro c h1 h2; simp (disch := omega) only [x_st_o])) | rfl) only [bk_143_0, wp_ald0, wr_0_7, wp_ic, wk_14, wr_0_2, wp_geti kd_20, wk_1, wk_11, wk_107, wp_lret, x_clr_I, x_clr_J, x_clr_R, x_clr_U, ct_some, ct_none, lc_lt, lc_ge, lc_gt, lc_le, lc_eq, lc_r, xI_inj, xJ_inj, Option.some.injEq, eq_self, bi_r, bi_0, bi_1, bi_n, Classical.not_not, and_true, true_and, ite_true, ite_false, ↓reduceIte, ↓x_andl, z_le, z_nle, z_lt, z_nlt, z_eq, z_neq, if_pos, if_neg, x_andl, false_and, and_false, or_true, true_or, or_false, false_or, not_true, not_false_iff, x_rd_eq, x_rd_ne, x_st_o, Int.cast_ofNat_Int, Int.ofNat_zero, Int.ofNat_one, not_true_eq_false, not_false_eq_true, if_true, if_false, ite_self, and_self, Int.ofNat_eq_natCast, Int.tdiv_eq_ediv_of_nonneg, Int.tmod_eq_emod_of_nonneg, x_bm32, k_told]
  refine ⟨x_told v, rfl, tr_100 e01, told_b rg, ?_⟩
  have hh1 := iN_tr hh e01
  have g51 : σ1 51 0 = w := (e01 51 0 (by simp)).trans h51
  simp (disch := first | omega | (simp only [x_wtI, x_wtJ, x_wtR, x_wtN]; omega) | assumption | (simp (disch := omega) only [x_st_o, x_rd_ne]; first | assumption | omega) | (apply mir_eq; assumption; (intro c h1 h2; simp (disch := omega) only [x_st_o])) | (apply mis_eq; assumption; (intro c h1 h2; simp (disch := omega) only [x_st_o])) | rfl) only [sp_240, bk_240_0, wp_ald0, wp_ic, wk_195, wp_lret, x_clr_I, x_clr_J, x_clr_R, x_clr_U, ct_some, ct_none, lc_lt, lc_ge, lc_gt, lc_le, lc_eq, lc_r, xI_inj, xJ_inj, Option.some.injEq, eq_self, bi_r, bi_0, bi_1, bi_n, Classical.not_not, and_true, true_and, ite_true, ite_false, ↓reduceIte, ↓x_andl, z_le, z_nle, z_lt, z_nlt, z_eq, z_neq, if_pos, if_neg, x_andl, false_and, and_false, or_true, true_or, or_false, false_or, not_true, not_false_iff, x_rd_eq, x_rd_ne, x_st_o, Int.cast_ofNat_Int, Int.ofNat_zero, Int.ofNat_one, not_true_eq_false, not_false_eq_true, if_true, if_false, ite_self, and_self, Int.ofNat_eq_natCast, Int.tdiv_eq_ediv_of_nonneg, Int.tmod_eq_emod_of_nonneg, x_bm32]
  refine x_use (d := 991) (h_solveI hh1 (by omega)) ?_
  rintro r σ2 ⟨rfl, e2, hh2, g2, m2⟩
  rw [g51] at g2 m2 ⊢
  have ag := tabsN hw hn (by omega) (by omega) g2 (fun f p q fr pf => (g1 f p q fr pf).1) (w 8) (by omega) (by omega) fr_self (by omega) (w 9) (w 10) (by omega) (by omega) (by omega) (by omega)
  rw [← ex, hv] at ag
  rw [tg_told ag, ex]
  simp (disch := first | omega | (simp only [x_wtI, x_wtJ, x_wtR, x_wtN]; omega) | assumption | (simp (disch := omega) only [x_st_o, x_rd_ne]; first | assumption | omega) | (apply mir_eq; assumption; (intro c h1 h2; simp (disch := omega) only [x_st_o])) | (apply mis_eq; assumption; (intro c h1 h2; simp (disch := omega) only [x_st_o])) | rfl) only [bk_240_0, wp_ald0, wp_ic, wk_195, wp_lret, x_clr_I, x_clr_J, x_clr_R, x_clr_U, ct_some, ct_none, lc_lt, lc_ge, lc_gt, lc_le, lc_eq, lc_r, xI_inj, xJ_inj, Option.some.injEq, eq_self, bi_r, bi_0, bi_1, bi_n, Classical.not_not, and_true, true_and, ite_true, ite_false, ↓reduceIte, ↓x_andl, z_le, z_nle, z_lt, z_nlt, z_eq, z_neq, if_pos, if_neg, x_andl, false_and, and_false, or_true, true_or, or_false, false_or, not_true, not_false_iff, x_rd_eq, x_rd_ne, x_st_o, Int.cast_ofNat_Int, Int.ofNat_zero, Int.ofNat_one, not_true_eq_false, not_false_eq_true, if_true, if_false, ite_self, and_self, Int.ofNat_eq_natCast, Int.tdiv_eq_ediv_of_nonneg, Int.tmod_eq_emod_of_nonneg, x_bm32]
  exact hh2
theorem o_late : x_o30 (iN L S0) := by
  intro σ hh far hfar
  refine ag_J ?_
  obtain ⟨w, h51, hw, h100, hn, hq, hM, hS⟩ := iN_w hh
  have a := wf_h hw
  unfold wf_hdr at a
  obtain ⟨n8, n9, n10, _⟩ := id hn
  have hn6 := wf_f hw (f := w 8) (by omega) (by omega)
  unfold wf_one at hn6
  by_cases cf : 0 ≤ far ∧ far ≤ 4
  · simp (disch := first | omega | (simp only [x_wtI, x_wtJ, x_wtR, x_wtN]; omega) | assumption | (simp (disch := omega) only [x_st_o, x_rd_ne]; first | assumption | omega) | (apply mir_eq; assumption; (intro c h1 h2; simp (disch := omega) only [x_st_o])) | (apply mis_eq; assumption; (intro c h1 h2; simp (disch := omega) only [x_st_o])) | rfl) only [sp_142, bk_142_0, bk_142_1, bk_142_2, bk_142_3, bk_142_4, wp_ild1, wp_iflt, wp_ic, wp_icle, wp_fall, wp_lc, wp_lret, wp_ald0, wr_0_7, wk_14, wp_puti kd_24, wr_0_2, wp_geti kd_20, wk_1, wk_11, wp_lst2, wp_lld2, wp_lcmp, wp_ifne, wp_goto, wk_104, wp_lsub, sp_14, bk_14_0, wp_ret, x_clr_I, x_clr_J, x_clr_R, x_clr_U, ct_some, ct_none, lc_lt, lc_ge, lc_gt, lc_le, lc_eq, lc_r, xI_inj, xJ_inj, Option.some.injEq, eq_self, bi_r, bi_0, bi_1, bi_n, Classical.not_not, and_true, true_and, ite_true, ite_false, ↓reduceIte, ↓x_andl, z_le, z_nle, z_lt, z_nlt, z_eq, z_neq, if_pos, if_neg, x_andl, false_and, and_false, or_true, true_or, or_false, false_or, not_true, not_false_iff, x_rd_eq, x_rd_ne, x_st_o, Int.cast_ofNat_Int, Int.ofNat_zero, Int.ofNat_one, not_true_eq_false, not_false_eq_true, if_true, if_false, ite_self, and_self, Int.ofNat_eq_natCast, Int.tdiv_eq_ediv_of_nonneg, Int.tmod_eq_emod_of_nonneg, x_bm32, hS.1.1]
    generalize hσ0 : x_st (x_st (x_st (x_st σ 24 3 3 0) 24 3 1 4) 24 3 2 5) 24 3 1 far = σ0
    have e0 : x_eqo [(24, 3), (25, 3), (27, 3), (28, 3)] σ σ0 := by
      subst hσ0
      repeat (first | exact eqo_refl | refine eqo_st (by simp) ?_)
    have f0 : σ0 24 3 3 = 0 ∧ σ0 24 3 1 = far ∧ σ0 24 3 2 = 5 := by
      subst hσ0
      refine ⟨?_, ?_, ?_⟩ <;> simp (disch := omega) only [x_st_o, x_rd_ne, x_rd_eq, s_fl_o, s_fl_in, s_fl_out, x_cp_o, x_cp_in, x_cp_out]
    have hM0 : mir σ0 1 w := mir_eq hM (fun c q1 q2 => e0 c 1 (by simp))
    refine x_use (d := 993) (h_fillFrom (j := 3) (c := 0) (E := 5) (Wd := far) (top := w 8) hM0 (by omega) hw n8.1 n8.2 f0.1 (by omega) f0.2.1 (by omega) f0.2.2 (by omega) rfl (fun f _ _ _ z => by omega)) ?_
    rintro r σ1 ⟨rfl, e1, k1, g1⟩
    have e01 := eqo_trans e0 e1
    have hS1 : mis σ1 1 w := mis_eq hS (fun c q1 q2 => e01 c 1 (by simp))
    have hx0 : 0 ≤ w 8 * 42 + w 10 * 21 + w 9 ∧ w 8 * 42 + w 10 * 21 + w 9 < 1680 := by omega
    have ex : w 8 * 42 + w 10 * 21 + w 9 = 42 * w 8 + (21 * w 10 + w 9) := by omega
    have rg := t_rng (g1 (w 8) (by omega) (by omega) fr_self (by omega)).2 (s := 21 * w 10 + w 9) (by omega) (by omega)
    have rb := (g1 (w 8) (by omega) (by omega) fr_self (by omega)).2 (21 * w 10 + w 9) (by omega) (by omega)
    have gp := gb_pos (k := w_of w (w 8) 6)
    rw [← ex] at rg rb
    have hh1 := iN_tr hh e01
    have g51 : σ1 51 0 = w := (e01 51 0 (by simp)).trans h51
    -- the model's side, from a store at which all is as it was
    have mod : ∀ (σa : x_S) (v : Int), iN L S0 σa → σa 51 0 = w → (∀ (T U : Int → Int) (LT LU : Int → Int), gT 0 5 4 (-1) w LT T (w 8) → gT 0 5 far (-1) w LU U (w 8) → (U (42 * w 8 + (21 * w 10 + w 9)) = (-9223372036854775808) ∧ v = (-9223372036854775808)) ∨ (¬ U (42 * w 8 + (21 * w 10 + w 9)) = (-9223372036854775808) ∧ v = U (42 * w 8 + (21 * w 10 + w 9)) - T (42 * w 8 + (21 * w 10 + w 9)) ∧ -9223372036854775808 ≤ U (42 * w 8 + (21 * w 10 + w 9)) ∧ U (42 * w 8 + (21 * w 10 + w 9)) ≤ 9223372036854775807)) → x_Sp 999 238 [xR 50 0, xI far] σa (fun r2 σ2 => r2 = some (xJ v) ∧ iN L S0 σ2) := by
      intro σa v ha ga hv
      simp (disch := first | omega | (simp only [x_wtI, x_wtJ, x_wtR, x_wtN]; omega) | assumption | (simp (disch := omega) only [x_st_o, x_rd_ne]; first | assumption | omega) | (apply mir_eq; assumption; (intro c h1 h2; simp (disch := omega) only [x_st_o])) | (apply mis_eq; assumption; (intro c h1 h2; simp (disch := omega) only [x_st_o])) | rfl) only [sp_238, bk_238_0, bk_238_1, bk_238_2, bk_238_3, wp_ild1, wp_i2l, wp_lc, wk_169, wp_ifne, wp_lret, wp_ald0, wp_ic, wk_195, wp_lst2, wp_puti kd_50, wp_lst4, wp_lld4, wp_lcmp, wp_goto, wp_lld2, wp_lsub, wp_fall, x_clr_I, x_clr_J, x_clr_R, x_clr_U, ct_some, ct_none, lc_lt, lc_ge, lc_gt, lc_le, lc_eq, lc_r, xI_inj, xJ_inj, Option.some.injEq, eq_self, bi_r, bi_0, bi_1, bi_n, Classical.not_not, and_true, true_and, ite_true, ite_false, ↓reduceIte, ↓x_andl, z_le, z_nle, z_lt, z_nlt, z_eq, z_neq, if_pos, if_neg, x_andl, false_and, and_false, or_true, true_or, or_false, false_or, not_true, not_false_iff, x_rd_eq, x_rd_ne, x_st_o, Int.cast_ofNat_Int, Int.ofNat_zero, Int.ofNat_one, not_true_eq_false, not_false_eq_true, if_true, if_false, ite_self, and_self, Int.ofNat_eq_natCast, Int.tdiv_eq_ediv_of_nonneg, Int.tmod_eq_emod_of_nonneg, x_bm32, c_in, bi_t]
      refine x_use (d := 991) (h_solveI ha (by omega)) ?_
      rintro r σ2 ⟨rfl, e2, hh2, g2, m2⟩
      rw [ga] at g2 ⊢
      have m := hh2.2.2.2.1
      simp (disch := first | omega | (simp only [x_wtI, x_wtJ, x_wtR, x_wtN]; omega) | assumption | (simp (disch := omega) only [x_st_o, x_rd_ne]; first | assumption | omega) | (apply mir_eq; assumption; (intro c h1 h2; simp (disch := omega) only [x_st_o])) | (apply mis_eq; assumption; (intro c h1 h2; simp (disch := omega) only [x_st_o])) | rfl) only [bk_238_0, bk_238_1, bk_238_2, bk_238_3, wp_ild1, wp_i2l, wp_lc, wk_169, wp_ifne, wp_lret, wp_ald0, wp_ic, wk_195, wp_lst2, wp_puti kd_50, wp_lst4, wp_lld4, wp_lcmp, wp_goto, wp_lld2, wp_lsub, wp_fall, x_clr_I, x_clr_J, x_clr_R, x_clr_U, ct_some, ct_none, lc_lt, lc_ge, lc_gt, lc_le, lc_eq, lc_r, xI_inj, xJ_inj, Option.some.injEq, eq_self, bi_r, bi_0, bi_1, bi_n, Classical.not_not, and_true, true_and, ite_true, ite_false, ↓reduceIte, ↓x_andl, z_le, z_nle, z_lt, z_nlt, z_eq, z_neq, if_pos, if_neg, x_andl, false_and, and_false, or_true, true_or, or_false, false_or, not_true, not_false_iff, x_rd_eq, x_rd_ne, x_st_o, Int.cast_ofNat_Int, Int.ofNat_zero, Int.ofNat_one, not_true_eq_false, not_false_eq_true, if_true, if_false, ite_self, and_self, Int.ofNat_eq_natCast, Int.tdiv_eq_ediv_of_nonneg, Int.tmod_eq_emod_of_nonneg, x_bm32]
      refine x_use (d := 991) (h_solveF (σ := x_st σ2 50 0 18 far) (w := w) (E := 5) (Wd := far) (ea := -1) (c := 0) (by rw [x_st_o (by omega), e2 51 0 (by simp)]; exact ga) (by rw [x_rd_ne (by omega)]; exact m.1) (by rw [x_rd_eq]) (by rw [x_rd_ne (by omega)]; exact m.2.2.1) hw hn (by omega) (by omega) (by omega) (by omega) (fun z => by omega)) ?_
      rintro r σ3 ⟨rfl, e3, g3, m3⟩
      have fin : iN L S0 (x_st σ3 50 0 18 4) := by
        refine iN_scr ha (σ' := x_st σ3 50 0 18 4) (eqo_mono (S := [(50, 0), (59, 0), (60, 0), (61, 0)]) (by decide) (eqo_st (by simp) (eqo_trans (eqo_mono (by simp) e2) (eqo_trans (eqo_st (by simp) eqo_refl) (eqo_mono (by simp) e3))))) ?_ ?_
        · intro j k _ _ _
          rw [x_st_o (by omega), e3 24 j (by simp), x_st_o (by omega), e2 24 j (by simp)]
        · intro k hk
          by_cases c18 : k = 18
          · rw [c18, x_rd_eq]
            exact ha.2.2.2.1.2.1.symm
          · rw [x_rd_ne (by omega), e3 50 0 (by simp), x_rd_ne (by omega), e2 50 0 (by simp)]
      rcases hv _ _ _ _ g2 g3 with ⟨z1, z2⟩ | ⟨z1, z2, z3⟩
      · rw [z1, z2]
        simp (disch := first | omega | (simp only [x_wtI, x_wtJ, x_wtR, x_wtN]; omega) | assumption | (simp (disch := omega) only [x_st_o, x_rd_ne]; first | assumption | omega) | (apply mir_eq; assumption; (intro c h1 h2; simp (disch := omega) only [x_st_o])) | (apply mis_eq; assumption; (intro c h1 h2; simp (disch := omega) only [x_st_o])) | rfl) only [bk_238_0, bk_238_1, bk_238_2, bk_238_3, wp_ild1, wp_i2l, wp_lc, wk_169, wp_ifne, wp_lret, wp_ald0, wp_ic, wk_195, wp_lst2, wp_puti kd_50, wp_lst4, wp_lld4, wp_lcmp, wp_goto, wp_lld2, wp_lsub, wp_fall, x_clr_I, x_clr_J, x_clr_R, x_clr_U, ct_some, ct_none, lc_lt, lc_ge, lc_gt, lc_le, lc_eq, lc_r, xI_inj, xJ_inj, Option.some.injEq, eq_self, bi_r, bi_0, bi_1, bi_n, Classical.not_not, and_true, true_and, ite_true, ite_false, ↓reduceIte, ↓x_andl, z_le, z_nle, z_lt, z_nlt, z_eq, z_neq, if_pos, if_neg, x_andl, false_and, and_false, or_true, true_or, or_false, false_or, not_true, not_false_iff, x_rd_eq, x_rd_ne, x_st_o, Int.cast_ofNat_Int, Int.ofNat_zero, Int.ofNat_one, not_true_eq_false, not_false_eq_true, if_true, if_false, ite_self, and_self, Int.ofNat_eq_natCast, Int.tdiv_eq_ediv_of_nonneg, Int.tmod_eq_emod_of_nonneg, x_bm32]
        exact fin
      · rw [z2]
        generalize σ3 59 0 (42 * w 8 + (21 * w 10 + w 9)) = u at z1 z3
        simp (disch := first | omega | (simp only [x_wtI, x_wtJ, x_wtR, x_wtN]; omega) | assumption | (simp (disch := omega) only [x_st_o, x_rd_ne]; first | assumption | omega) | (apply mir_eq; assumption; (intro c h1 h2; simp (disch := omega) only [x_st_o])) | (apply mis_eq; assumption; (intro c h1 h2; simp (disch := omega) only [x_st_o])) | rfl) only [bk_238_0, bk_238_1, bk_238_2, bk_238_3, wp_ild1, wp_i2l, wp_lc, wk_169, wp_ifne, wp_lret, wp_ald0, wp_ic, wk_195, wp_lst2, wp_puti kd_50, wp_lst4, wp_lld4, wp_lcmp, wp_goto, wp_lld2, wp_lsub, wp_fall, x_clr_I, x_clr_J, x_clr_R, x_clr_U, ct_some, ct_none, lc_lt, lc_ge, lc_gt, lc_le, lc_eq, lc_r, xI_inj, xJ_inj, Option.some.injEq, eq_self, bi_r, bi_0, bi_1, bi_n, Classical.not_not, and_true, true_and, ite_true, ite_false, ↓reduceIte, ↓x_andl, z_le, z_nle, z_lt, z_nlt, z_eq, z_neq, if_pos, if_neg, x_andl, false_and, and_false, or_true, true_or, or_false, false_or, not_true, not_false_iff, x_rd_eq, x_rd_ne, x_st_o, Int.cast_ofNat_Int, Int.ofNat_zero, Int.ofNat_one, not_true_eq_false, not_false_eq_true, if_true, if_false, ite_self, and_self, Int.ofNat_eq_natCast, Int.tdiv_eq_ediv_of_nonneg, Int.tmod_eq_emod_of_nonneg, x_bm32]
        exact fin
    have agU : ∀ (U LU : Int → Int), gT 0 5 far (-1) w LU U (w 8) → tg (U (42 * w 8 + (21 * w 10 + w 9))) (σ1 25 3 (42 * w 8 + (21 * w 10 + w 9))) := fun U LU g => tabsN hw hn (by omega) (by omega) g (fun f p q fr pf => (g1 f p q fr pf).1) (w 8) (by omega) (by omega) fr_self (by omega) (w 9) (w 10) (by omega) (by omega) (by omega) (by omega)
    by_cases cd : σ1 25 3 (w 8 * 42 + w 10 * 21 + w 9) = 9223372036854775807
    · simp (disch := first | omega | (simp only [x_wtI, x_wtJ, x_wtR, x_wtN]; omega) | assumption | (simp (disch := omega) only [x_st_o, x_rd_ne]; first | assumption | omega) | (apply mir_eq; assumption; (intro c h1 h2; simp (disch := omega) only [x_st_o])) | (apply mis_eq; assumption; (intro c h1 h2; simp (disch := omega) only [x_st_o])) | rfl) only [bk_142_0, bk_142_1, bk_142_2, bk_142_3, bk_142_4, wp_ild1, wp_iflt, wp_ic, wp_icle, wp_fall, wp_lc, wp_lret, wp_ald0, wr_0_7, wk_14, wp_puti kd_24, wr_0_2, wp_geti kd_20, wk_1, wk_11, wp_lst2, wp_lld2, wp_lcmp, wp_ifne, wp_goto, wk_104, wp_lsub, x_clr_I, x_clr_J, x_clr_R, x_clr_U, ct_some, ct_none, lc_lt, lc_ge, lc_gt, lc_le, lc_eq, lc_r, xI_inj, xJ_inj, Option.some.injEq, eq_self, bi_r, bi_0, bi_1, bi_n, Classical.not_not, and_true, true_and, ite_true, ite_false, ↓reduceIte, ↓x_andl, z_le, z_nle, z_lt, z_nlt, z_eq, z_neq, if_pos, if_neg, x_andl, false_and, and_false, or_true, true_or, or_false, false_or, not_true, not_false_iff, x_rd_eq, x_rd_ne, x_st_o, Int.cast_ofNat_Int, Int.ofNat_zero, Int.ofNat_one, not_true_eq_false, not_false_eq_true, if_true, if_false, ite_self, and_self, Int.ofNat_eq_natCast, Int.tdiv_eq_ediv_of_nonneg, Int.tmod_eq_emod_of_nonneg, x_bm32, hS1.1.1, hS1.1.2.1, hS1.1.2.2.1]
      simp (disch := first | omega | (simp only [x_wtI, x_wtJ, x_wtR, x_wtN]; omega) | assumption | (simp (disch := omega) only [x_st_o, x_rd_ne]; first | assumption | omega) | (apply mir_eq; assumption; (intro c h1 h2; simp (disch := omega) only [x_st_o])) | (apply mis_eq; assumption; (intro c h1 h2; simp (disch := omega) only [x_st_o])) | rfl) only [sp_11, bk_11_0, wp_ald0, wr_24_4, wp_ild1, wp_ic, wp_imul, wp_ild3, wp_iadd, wp_ild2, wl_25, wp_pald, wp_lret, x_clr_I, x_clr_J, x_clr_R, x_clr_U, ct_some, ct_none, lc_lt, lc_ge, lc_gt, lc_le, lc_eq, lc_r, xI_inj, xJ_inj, Option.some.injEq, eq_self, bi_r, bi_0, bi_1, bi_n, Classical.not_not, and_true, true_and, ite_true, ite_false, ↓reduceIte, ↓x_andl, z_le, z_nle, z_lt, z_nlt, z_eq, z_neq, if_pos, if_neg, x_andl, false_and, and_false, or_true, true_or, or_false, false_or, not_true, not_false_iff, x_rd_eq, x_rd_ne, x_st_o, Int.cast_ofNat_Int, Int.ofNat_zero, Int.ofNat_one, not_true_eq_false, not_false_eq_true, if_true, if_false, ite_self, and_self, Int.ofNat_eq_natCast, Int.tdiv_eq_ediv_of_nonneg, Int.tmod_eq_emod_of_nonneg, x_bm32, cd]
      simp (disch := first | omega | (simp only [x_wtI, x_wtJ, x_wtR, x_wtN]; omega) | assumption | (simp (disch := omega) only [x_st_o, x_rd_ne]; first | assumption | omega) | (apply mir_eq; assumption; (intro c h1 h2; simp (disch := omega) only [x_st_o])) | (apply mis_eq; assumption; (intro c h1 h2; simp (disch := omega) only [x_st_o])) | rfl) only [bk_142_0, bk_142_1, bk_142_2, bk_142_3, bk_142_4, wp_ild1, wp_iflt, wp_ic, wp_icle, wp_fall, wp_lc, wp_lret, wp_ald0, wr_0_7, wk_14, wp_puti kd_24, wr_0_2, wp_geti kd_20, wk_1, wk_11, wp_lst2, wp_lld2, wp_lcmp, wp_ifne, wp_goto, wk_104, wp_lsub, x_clr_I, x_clr_J, x_clr_R, x_clr_U, ct_some, ct_none, lc_lt, lc_ge, lc_gt, lc_le, lc_eq, lc_r, xI_inj, xJ_inj, Option.some.injEq, eq_self, bi_r, bi_0, bi_1, bi_n, Classical.not_not, and_true, true_and, ite_true, ite_false, ↓reduceIte, ↓x_andl, z_le, z_nle, z_lt, z_nlt, z_eq, z_neq, if_pos, if_neg, x_andl, false_and, and_false, or_true, true_or, or_false, false_or, not_true, not_false_iff, x_rd_eq, x_rd_ne, x_st_o, Int.cast_ofNat_Int, Int.ofNat_zero, Int.ofNat_one, not_true_eq_false, not_false_eq_true, if_true, if_false, ite_self, and_self, Int.ofNat_eq_natCast, Int.tdiv_eq_ediv_of_nonneg, Int.tmod_eq_emod_of_nonneg, x_bm32]
      refine ⟨(-9223372036854775808), rfl, tr_100 e01, by omega, mod σ1 _ hh1 g51 (fun T U LT LU gt gu => Or.inl ⟨?_, rfl⟩)⟩
      rcases agU U LU gu with ⟨z, _⟩ | ⟨_, _, z⟩
      · exact z
      · rw [← ex] at z
        exact absurd cd z
    · simp (disch := first | omega | (simp only [x_wtI, x_wtJ, x_wtR, x_wtN]; omega) | assumption | (simp (disch := omega) only [x_st_o, x_rd_ne]; first | assumption | omega) | (apply mir_eq; assumption; (intro c h1 h2; simp (disch := omega) only [x_st_o])) | (apply mis_eq; assumption; (intro c h1 h2; simp (disch := omega) only [x_st_o])) | rfl) only [bk_142_0, bk_142_1, bk_142_2, bk_142_3, bk_142_4, wp_ild1, wp_iflt, wp_ic, wp_icle, wp_fall, wp_lc, wp_lret, wp_ald0, wr_0_7, wk_14, wp_puti kd_24, wr_0_2, wp_geti kd_20, wk_1, wk_11, wp_lst2, wp_lld2, wp_lcmp, wp_ifne, wp_goto, wk_104, wp_lsub, x_clr_I, x_clr_J, x_clr_R, x_clr_U, ct_some, ct_none, lc_lt, lc_ge, lc_gt, lc_le, lc_eq, lc_r, xI_inj, xJ_inj, Option.some.injEq, eq_self, bi_r, bi_0, bi_1, bi_n, Classical.not_not, and_true, true_and, ite_true, ite_false, ↓reduceIte, ↓x_andl, z_le, z_nle, z_lt, z_nlt, z_eq, z_neq, if_pos, if_neg, x_andl, false_and, and_false, or_true, true_or, or_false, false_or, not_true, not_false_iff, x_rd_eq, x_rd_ne, x_st_o, Int.cast_ofNat_Int, Int.ofNat_zero, Int.ofNat_one, not_true_eq_false, not_false_eq_true, if_true, if_false, ite_self, and_self, Int.ofNat_eq_natCast, Int.tdiv_eq_ediv_of_nonneg, Int.tmod_eq_emod_of_nonneg, x_bm32, hS1.1.1, hS1.1.2.1, hS1.1.2.2.1]
      simp (disch := first | omega | (simp only [x_wtI, x_wtJ, x_wtR, x_wtN]; omega) | assumption | (simp (disch := omega) only [x_st_o, x_rd_ne]; first | assumption | omega) | (apply mir_eq; assumption; (intro c h1 h2; simp (disch := omega) only [x_st_o])) | (apply mis_eq; assumption; (intro c h1 h2; simp (disch := omega) only [x_st_o])) | rfl) only [sp_11, bk_11_0, wp_ald0, wr_24_4, wp_ild1, wp_ic, wp_imul, wp_ild3, wp_iadd, wp_ild2, wl_25, wp_pald, wp_lret, x_clr_I, x_clr_J, x_clr_R, x_clr_U, ct_some, ct_none, lc_lt, lc_ge, lc_gt, lc_le, lc_eq, lc_r, xI_inj, xJ_inj, Option.some.injEq, eq_self, bi_r, bi_0, bi_1, bi_n, Classical.not_not, and_true, true_and, ite_true, ite_false, ↓reduceIte, ↓x_andl, z_le, z_nle, z_lt, z_nlt, z_eq, z_neq, if_pos, if_neg, x_andl, false_and, and_false, or_true, true_or, or_false, false_or, not_true, not_false_iff, x_rd_eq, x_rd_ne, x_st_o, Int.cast_ofNat_Int, Int.ofNat_zero, Int.ofNat_one, not_true_eq_false, not_false_eq_true, if_true, if_false, ite_self, and_self, Int.ofNat_eq_natCast, Int.tdiv_eq_ediv_of_nonneg, Int.tmod_eq_emod_of_nonneg, x_bm32]
      generalize hv : σ1 25 3 (w 8 * 42 + w 10 * 21 + w 9) = v at rg rb cd
      simp (disch := first | omega | (simp only [x_wtI, x_wtJ, x_wtR, x_wtN]; omega) | assumption | (simp (disch := omega) only [x_st_o, x_rd_ne]; first | assumption | omega) | (apply mir_eq; assumption; (intro c h1 h2; simp (disch := omega) only [x_st_o])) | (apply mis_eq; assumption; (intro c h1 h2; simp (disch := omega) only [x_st_o])) | rfl) only [bk_142_0, bk_142_1, bk_142_2, bk_142_3, bk_142_4, wp_ild1, wp_iflt, wp_ic, wp_icle, wp_fall, wp_lc, wp_lret, wp_ald0, wr_0_7, wk_14, wp_puti kd_24, wr_0_2, wp_geti kd_20, wk_1, wk_11, wp_lst2, wp_lld2, wp_lcmp, wp_ifne, wp_goto, wk_104, wp_lsub, x_clr_I, x_clr_J, x_clr_R, x_clr_U, ct_some, ct_none, lc_lt, lc_ge, lc_gt, lc_le, lc_eq, lc_r, xI_inj, xJ_inj, Option.some.injEq, eq_self, bi_r, bi_0, bi_1, bi_n, Classical.not_not, and_true, true_and, ite_true, ite_false, ↓reduceIte, ↓x_andl, z_le, z_nle, z_lt, z_nlt, z_eq, z_neq, if_pos, if_neg, x_andl, false_and, and_false, or_true, true_or, or_false, false_or, not_true, not_false_iff, x_rd_eq, x_rd_ne, x_st_o, Int.cast_ofNat_Int, Int.ofNat_zero, Int.ofNat_one, not_true_eq_false, not_false_eq_true, if_true, if_false, ite_self, and_self, Int.ofNat_eq_natCast, Int.tdiv_eq_ediv_of_nonneg, Int.tmod_eq_emod_of_nonneg, x_bm32]
      refine x_use (d := 991) (h_leastNow (j := 0) hh1 (by omega) rfl) ?_
      rintro r σ2 ⟨rfl, tk, hh2, f2, ct⟩
      rw [g51] at ct ⊢
      have rm := (ct.1 (w 8) (by omega) (by omega) fr_self).2 (21 * w 10 + w 9) (by omega) (by omega)
      have g51' : σ2 51 0 = w := (tk.1 51 0 (by decide)).trans g51
      -- not dead
      have alive : ¬ σ2 25 0 (42 * w 8 + (21 * w 10 + w 9)) = 9223372036854775807 := dead_le (mk1 := 9223372036854775807) (mk2 := 9223372036854775807) hw hn cf.2 (by omega) (by omega) (Or.inr (by omega)) (fun f p q fr => by
        have o := wf_f hw (f := f) (by omega) q
        unfold wf_one at o
        exact (g1 f p q fr (by omega)).1) ct.1 (w 8) (by omega) (by omega) fr_self (w 9) (w 10) (by omega) (by omega) (by omega) (by omega) (by rw [← ex, hv]; exact cd)
      have rm2 := rm.resolve_left alive
      have rv := rb.resolve_left cd
      generalize hu : σ2 25 0 (42 * w 8 + (21 * w 10 + w 9)) = u at rm2
      simp (disch := first | omega | (simp only [x_wtI, x_wtJ, x_wtR, x_wtN]; omega) | assumption | (simp (disch := omega) only [x_st_o, x_rd_ne]; first | assumption | omega) | (apply mir_eq; assumption; (intro c h1 h2; simp (disch := omega) only [x_st_o])) | (apply mis_eq; assumption; (intro c h1 h2; simp (disch := omega) only [x_st_o])) | rfl) only [bk_142_0, bk_142_1, bk_142_2, bk_142_3, bk_142_4, wp_ild1, wp_iflt, wp_ic, wp_icle, wp_fall, wp_lc, wp_lret, wp_ald0, wr_0_7, wk_14, wp_puti kd_24, wr_0_2, wp_geti kd_20, wk_1, wk_11, wp_lst2, wp_lld2, wp_lcmp, wp_ifne, wp_goto, wk_104, wp_lsub, x_clr_I, x_clr_J, x_clr_R, x_clr_U, ct_some, ct_none, lc_lt, lc_ge, lc_gt, lc_le, lc_eq, lc_r, xI_inj, xJ_inj, Option.some.injEq, eq_self, bi_r, bi_0, bi_1, bi_n, Classical.not_not, and_true, true_and, ite_true, ite_false, ↓reduceIte, ↓x_andl, z_le, z_nle, z_lt, z_nlt, z_eq, z_neq, if_pos, if_neg, x_andl, false_and, and_false, or_true, true_or, or_false, false_or, not_true, not_false_iff, x_rd_eq, x_rd_ne, x_st_o, Int.cast_ofNat_Int, Int.ofNat_zero, Int.ofNat_one, not_true_eq_false, not_false_eq_true, if_true, if_false, ite_self, and_self, Int.ofNat_eq_natCast, Int.tdiv_eq_ediv_of_nonneg, Int.tmod_eq_emod_of_nonneg, x_bm32]
      refine ⟨v - u, rfl, fun j i => by rw [tk_100 tk j i, tr_100 e01 j i], by omega, mod σ2 _ hh2 g51' (fun T U LT LU gt gu => Or.inr ?_)⟩
      have aT := now_ag (Ym := w) hw hn (by omega) gt (fun z => by omega) ct
      rw [hu] at aT
      have aU := agU U LU gu
      rw [← ex, hv, ex] at aU
      rcases aT with ⟨_, z⟩ | ⟨z, _, _⟩
      · exact absurd (hu.trans z) alive
      · rcases aU with ⟨_, y⟩ | ⟨y, y2, _⟩
        · exact absurd y cd
        · exact ⟨y2, by rw [y, z], by omega, by omega⟩
  · by_cases c0 : far < 0
    · simp (disch := first | omega | (simp only [x_wtI, x_wtJ, x_wtR, x_wtN]; omega) | assumption | (simp (disch := omega) only [x_st_o, x_rd_ne]; first | assumption | omega) | (apply mir_eq; assumption; (intro c h1 h2; simp (disch := omega) only [x_st_o])) | (apply mis_eq; assumption; (intro c h1 h2; simp (disch := omega) only [x_st_o])) | rfl) only [sp_142, bk_142_0, bk_142_1, bk_142_2, bk_142_3, bk_142_4, wp_ild1, wp_iflt, wp_ic, wp_icle, wp_fall, wp_lc, wp_lret, wp_ald0, wr_0_7, wk_14, wp_puti kd_24, wr_0_2, wp_geti kd_20, wk_1, wk_11, wp_lst2, wp_lld2, wp_lcmp, wp_ifne, wp_goto, wk_104, wp_lsub, x_clr_I, x_clr_J, x_clr_R, x_clr_U, ct_some, ct_none, lc_lt, lc_ge, lc_gt, lc_le, lc_eq, lc_r, xI_inj, xJ_inj, Option.some.injEq, eq_self, bi_r, bi_0, bi_1, bi_n, Classical.not_not, and_true, true_and, ite_true, ite_false, ↓reduceIte, ↓x_andl, z_le, z_nle, z_lt, z_nlt, z_eq, z_neq, if_pos, if_neg, x_andl, false_and, and_false, or_true, true_or, or_false, false_or, not_true, not_false_iff, x_rd_eq, x_rd_ne, x_st_o, Int.cast_ofNat_Int, Int.ofNat_zero, Int.ofNat_one, not_true_eq_false, not_false_eq_true, if_true, if_false, ite_self, and_self, Int.ofNat_eq_natCast, Int.tdiv_eq_ediv_of_nonneg, Int.tmod_eq_emod_of_nonneg, x_bm32]
      refine ⟨(-9223372036854775808), rfl, fun _ _ => rfl, by omega, ?_⟩
      simp (disch := first | omega | (simp only [x_wtI, x_wtJ, x_wtR, x_wtN]; omega) | assumption | (simp (disch := omega) only [x_st_o, x_rd_ne]; first | assumption | omega) | (apply mir_eq; assumption; (intro c h1 h2; simp (disch := omega) only [x_st_o])) | (apply mis_eq; assumption; (intro c h1 h2; simp (disch := omega) only [x_st_o])) | rfl) only [sp_238, bk_238_0, bk_238_1, bk_238_2, bk_238_3, wp_ild1, wp_i2l, wp_lc, wk_169, wp_ifne, wp_lret, wp_ald0, wp_ic, wk_195, wp_lst2, wp_puti kd_50, wp_lst4, wp_lld4, wp_lcmp, wp_goto, wp_lld2, wp_lsub, wp_fall, x_clr_I, x_clr_J, x_clr_R, x_clr_U, ct_some, ct_none, lc_lt, lc_ge, lc_gt, lc_le, lc_eq, lc_r, xI_inj, xJ_inj, Option.some.injEq, eq_self, bi_r, bi_0, bi_1, bi_n, Classical.not_not, and_true, true_and, ite_true, ite_false, ↓reduceIte, ↓x_andl, z_le, z_nle, z_lt, z_nlt, z_eq, z_neq, if_pos, if_neg, x_andl, false_and, and_false, or_true, true_or, or_false, false_or, not_true, not_false_iff, x_rd_eq, x_rd_ne, x_st_o, Int.cast_ofNat_Int, Int.ofNat_zero, Int.ofNat_one, not_true_eq_false, not_false_eq_true, if_true, if_false, ite_self, and_self, Int.ofNat_eq_natCast, Int.tdiv_eq_ediv_of_nonneg, Int.tmod_eq_emod_of_nonneg, x_bm32, c_in, bi_f]
      exact hh
    · simp (disch := first | omega | (simp only [x_wtI, x_wtJ, x_wtR, x_wtN]; omega) | assumption | (simp (disch := omega) only [x_st_o, x_rd_ne]; first | assumption | omega) | (apply mir_eq; assumption; (intro c h1 h2; simp (disch := omega) only [x_st_o])) | (apply mis_eq; assumption; (intro c h1 h2; simp (disch := omega) only [x_st_o])) | rfl) only [sp_142, bk_142_0, bk_142_1, bk_142_2, bk_142_3, bk_142_4, wp_ild1, wp_iflt, wp_ic, wp_icle, wp_fall, wp_lc, wp_lret, wp_ald0, wr_0_7, wk_14, wp_puti kd_24, wr_0_2, wp_geti kd_20, wk_1, wk_11, wp_lst2, wp_lld2, wp_lcmp, wp_ifne, wp_goto, wk_104, wp_lsub, x_clr_I, x_clr_J, x_clr_R, x_clr_U, ct_some, ct_none, lc_lt, lc_ge, lc_gt, lc_le, lc_eq, lc_r, xI_inj, xJ_inj, Option.some.injEq, eq_self, bi_r, bi_0, bi_1, bi_n, Classical.not_not, and_true, true_and, ite_true, ite_false, ↓reduceIte, ↓x_andl, z_le, z_nle, z_lt, z_nlt, z_eq, z_neq, if_pos, if_neg, x_andl, false_and, and_false, or_true, true_or, or_false, false_or, not_true, not_false_iff, x_rd_eq, x_rd_ne, x_st_o, Int.cast_ofNat_Int, Int.ofNat_zero, Int.ofNat_one, not_true_eq_false, not_false_eq_true, if_true, if_false, ite_self, and_self, Int.ofNat_eq_natCast, Int.tdiv_eq_ediv_of_nonneg, Int.tmod_eq_emod_of_nonneg, x_bm32]
      refine ⟨(-9223372036854775808), rfl, fun _ _ => rfl, by omega, ?_⟩
      simp (disch := first | omega | (simp only [x_wtI, x_wtJ, x_wtR, x_wtN]; omega) | assumption | (simp (disch := omega) only [x_st_o, x_rd_ne]; first | assumption | omega) | (apply mir_eq; assumption; (intro c h1 h2; simp (disch := omega) only [x_st_o])) | (apply mis_eq; assumption; (intro c h1 h2; simp (disch := omega) only [x_st_o])) | rfl) only [sp_238, bk_238_0, bk_238_1, bk_238_2, bk_238_3, wp_ild1, wp_i2l, wp_lc, wk_169, wp_ifne, wp_lret, wp_ald0, wp_ic, wk_195, wp_lst2, wp_puti kd_50, wp_lst4, wp_lld4, wp_lcmp, wp_goto, wp_lld2, wp_lsub, wp_fall, x_clr_I, x_clr_J, x_clr_R, x_clr_U, ct_some, ct_none, lc_lt, lc_ge, lc_gt, lc_le, lc_eq, lc_r, xI_inj, xJ_inj, Option.some.injEq, eq_self, bi_r, bi_0, bi_1, bi_n, Classical.not_not, and_true, true_and, ite_true, ite_false, ↓reduceIte, ↓x_andl, z_le, z_nle, z_lt, z_nlt, z_eq, z_neq, if_pos, if_neg, x_andl, false_and, and_false, or_true, true_or, or_false, false_or, not_true, not_false_iff, x_rd_eq, x_rd_ne, x_st_o, Int.cast_ofNat_Int, Int.ofNat_zero, Int.ofNat_one, not_true_eq_false, not_false_eq_true, if_true, if_false, ite_self, and_self, Int.ofNat_eq_natCast, Int.tdiv_eq_ediv_of_nonneg, Int.tmod_eq_emod_of_nonneg, x_bm32, c_in, bi_f]
      exact hh
end OC

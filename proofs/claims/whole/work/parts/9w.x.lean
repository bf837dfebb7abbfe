theorem esum_bd {w T l : Int → Int} {mk f st wd : Int} (hw : wf w) (h0 : 0 ≤ f) (h1 : f < w 0) (ne : ¬ p_end w 5 f) (hs : 0 ≤ st ∧ st ≤ 20) (hd : 0 ≤ wd ∧ wd ≤ 1) (hT : ∀ i, 0 ≤ i → i < w_of w f 7 → t_bd mk w T (w_of w f (8 + i))) (j1 : ∀ i, 0 ≤ i → i < w_of w f 7 → x_ml mk (fun u => ∃ b t, zea mk 5 w T f i st wd b t u) (l i) ∧ ¬ l i = mk) : -(g_b (w_of w f 6)) ≤ e_sum w l f (w_of w f 7).toNat ∧ e_sum w l f (w_of w f 7).toNat ≤ g_b (w_of w f 6) := by
  have o := wf_f hw h0 h1
  unfold wf_one at o
  have nf : w_of w f 6 ≤ 3 := by
    by_cases q : w_of w f 7 = 0
    · exact absurd (Or.inl q) ne
    · have kk := wf_k hw (f := f) (i := 0) h0 h1 (by omega) (by omega)
      have ok := wf_f hw (f := w_of w f (8 + 0)) (by omega) kk.2.1
      unfold wf_one at ok
      omega
  have gs := gb_s (k := w_of w f 6) (by omega)
  have gp := gb_pos (k := w_of w f 6 + 1)
  have pb := pay_b (m := w_of w f 6 + 1)
  have lb : ∀ i, 0 ≤ i → i < w_of w f 7 → -(30000 * x_pay (w_of w f 6 + 1) + g_b (w_of w f 6 + 1)) ≤ l i ∧ l i ≤ 30000 * x_pay (w_of w f 6 + 1) + g_b (w_of w f 6 + 1) := by
    intro i i0 i1
    rcases (j1 i i0 i1).1 with ⟨z, _⟩ | ⟨⟨b', t', z⟩, _⟩
    · exact absurd z (j1 i i0 i1).2
    · exact zea_bd hw h0 h1 hs hd i0 i1 (hT i i0 i1) z
  have eb := esum_b hw h0 h1 (by omega) lb (w_of w f 7).toNat (by omega)
  have m5 := mulb (a := ((w_of w f 7).toNat : Int)) (b := 200 * (30000 * x_pay (w_of w f 6 + 1) + g_b (w_of w f 6 + 1))) (A := 5) (B := 200 * (30000 * x_pay (w_of w f 6 + 1) + g_b (w_of w f 6 + 1))) (by omega) (by omega)
  omega
/-! where something is left without knowing, something is left with it -/
theorem dead_e {w L1 L2 T1 T2 : Int → Int} {ea : Int} (hw : wf w) (hn : wn w) (h1 : gT 0 5 4 (-1) w L1 T1 (w 8)) (h2 : gT 0 5 4 ea w L2 T2 (w 8)) : ∀ f, w 8 ≤ f → f < w 0 → p_fr w (w 8) f → ∀ st wd, 0 ≤ st → st ≤ 20 → 0 ≤ wd → wd ≤ 1 → ¬ T1 (42 * f + (21 * wd + st)) = (-9223372036854775808) → ¬ T2 (42 * f + (21 * wd + st)) = (-9223372036854775808) := by
  have n8 := hn.1
  have key : ∀ n : Nat, ∀ f, w 0 - f ≤ n → w 8 ≤ f → f < w 0 → p_fr w (w 8) f → ∀ st wd, 0 ≤ st → st ≤ 20 → 0 ≤ wd → wd ≤ 1 → ¬ T1 (42 * f + (21 * wd + st)) = (-9223372036854775808) → ¬ T2 (42 * f + (21 * wd + st)) = (-9223372036854775808) := by
    intro n
    induction n with
    | zero => intro f p _ q; omega
    | succ n ih =>
      intro f hn2 f0 f1 fr st wd p q p2 q2 ha
      have gp := gb_pos (k := w_of w f 6)
      have hTk : ∀ i, 0 ≤ i → i < w_of w f 7 → t_bd (-9223372036854775808) w T2 (w_of w f (8 + i)) := by
        intro i i0 i1
        have kk := wf_k hw (f := f) (i := i) (by omega) f1 i0 i1
        exact (h2 _ (by omega) (by omega)).1
      rcases (gT_row hn (by omega) h1 f f0 f1 fr).1 st wd p q p2 q2 with ⟨z, _⟩ | ⟨⟨b, t, l, r, _⟩, _⟩
      · exact absurd z ha
      · have sb := sl_b hw (by omega) f1 ⟨p, q⟩ l
        have po := p_or_01 (a := wd) (b := b)
        have kid : ¬ p_end w 5 f → ∀ i, 0 ≤ i → i < w_of w f 7 → ¬ T2 (42 * w_of w f (8 + i) + (21 * p_or wd b + t)) = (-9223372036854775808) := by
          intro ne i i0 i1
          have kk := wf_k hw (f := f) (i := i) (by omega) f1 i0 i1
          exact ih _ (by omega) (by omega) kk.2.1 (fr_kid hw n8.1 fr (by omega) f1 i0 i1) t (p_or wd b) (by omega) (by omega) (by omega) (by omega) (fun y => (r.resolve_left ne) ⟨i, i0, i1, y⟩)
        have r2 : r_ok (-9223372036854775808) 5 w T2 f (21 * p_or wd b + t) := by
          by_cases ne : p_end w 5 f
          · exact Or.inl ne
          · exact Or.inr (fun ⟨i, i0, i1, e⟩ => kid ne i i0 i1 e)
        rcases (h2 f f0 f1).2.1 ⟨fr, Or.inl (by omega)⟩ st wd p q p2 q2 with ⟨⟨_, ne⟩, z⟩ | ⟨_, z⟩
        · rcases z with ⟨⟨i, i0, i1, y⟩, _⟩ | ⟨l', y1, y2⟩
          · exact absurd ⟨b, t, ⟨l, kid ne i i0 i1⟩, rfl⟩ (y _)
          · have := esum_bd hw (by omega) f1 ne ⟨p, q⟩ ⟨p2, q2⟩ hTk y1
            omega
        · rcases z with ⟨_, z⟩ | ⟨z, _⟩
          · exact absurd ⟨b, t, l, r2, rfl⟩ (z _)
          · rw [← zst_val] at z
            obtain ⟨b', t', zz⟩ := z
            have bd := zst_bd hw (by omega) f1 ⟨p, q⟩ ⟨p2, q2⟩ hTk (fun y => by omega) (by omega) zz
            omega
  exact fun f => key (w 0 - f).toNat f (by omega)
section OSO
variable {L : Int} {S0 : Int → Int}
set_option maxHeartbeats 8000000 in
theorem o_sooner : x_o28 (iN L S0) := by
  intro σ hh f hf
  refine ag_J ?_
  obtain ⟨w, h51, hw, h100, hn, hq, hM, hS⟩ := iN_w hh
  have a := wf_h hw
  unfold wf_hdr at a
  obtain ⟨n8, n9, n10, _⟩ := id hn
  simp (disch := first | omega | (simp only [x_wtI, x_wtJ, x_wtR, x_wtN]; omega) | assumption | (simp (disch := omega) only [x_st_o, x_rd_ne]; first | assumption | omega) | (apply mir_eq; assumption; (intro c h1 h2; simp (disch := omega) only [x_st_o])) | (apply mis_eq; assumption; (intro c h1 h2; simp (disch := omega) only [x_st_o])) | rfl) only [sp_138, bk_138_0, bk_138_1, bk_138_2, wp_ald0, wp_ic, wk_104, wp_lst2, wp_ild1, wk_133, wp_ifeq, wp_lld2, wp_lc, wp_lcmp, wp_ifne, wp_fall, wp_lret, wr_0_7, wk_14, wr_0_4, wk_15, wk_16, wr_0_2, wp_geti kd_20, wp_iceq, wr_20_0, wr_6_7, wl_7, wp_cald, wk_139, wk_2, wk_11, wp_lsub, x_clr_I, x_clr_J, x_clr_R, x_clr_U, ct_some, ct_none, lc_lt, lc_ge, lc_gt, lc_le, lc_eq, lc_r, xI_inj, xJ_inj, Option.some.injEq, eq_self, bi_r, bi_0, bi_1, bi_n, Classical.not_not, and_true, true_and, ite_true, ite_false, ↓reduceIte, ↓x_andl, z_le, z_nle, z_lt, z_nlt, z_eq, z_neq, if_pos, if_neg, x_andl, false_and, and_false, or_true, true_or, or_false, false_or, not_true, not_false_iff, x_rd_eq, x_rd_ne, x_st_o, Int.cast_ofNat_Int, Int.ofNat_zero, Int.ofNat_one, not_true_eq_false, not_false_eq_true, if_true, if_false, ite_self, and_self, Int.ofNat_eq_natCast, Int.tdiv_eq_ediv_of_nonneg, Int.tmod_eq_emod_of_nonneg, x_bm32]
  refine x_use (d := 991) (h_leastNow (j := 0) hh (by omega) rfl) ?_
  rintro r σ1 ⟨rfl, tk, hh1, f1, ct⟩
  have g51 : σ1 51 0 = w := (tk.1 51 0 (by decide)).trans h51
  rw [h51] at ct ⊢
  obtain ⟨w1, h511, _, _, _, _, hM1, hS1⟩ := iN_w hh1
  have ew : w1 = w := h511.symm.trans g51
  subst ew
  have gp := gb_pos (k := w_of w1 (w1 8) 6)
  have tb := (ct.1 (w1 8) (Int.le_refl _) n8.2 fr_self).2 (21 * w1 10 + w1 9) (by omega) (by omega)
  have na : ∀ (T L' : Int → Int), gT 0 5 4 (-1) w1 L' T (w1 8) → tg (T (42 * w1 8 + (21 * w1 10 + w1 9))) (σ1 25 0 (42 * w1 8 + (21 * w1 10 + w1 9))) := fun T L' gt => now_ag (Ym := w1) hw hn (by omega) gt (fun z => by omega) ct
  by_cases ah : (0 ≤ f ∧ f < w1 0) ∧ p_fr w1 (w1 8) f
  · obtain ⟨cf, fr⟩ := id ah
    have ge : w1 8 ≤ f := by
      by_cases q : f < w1 8
      · exact absurd fr (fr_lt q)
      · omega
    by_cases cd : σ1 25 0 (42 * w1 8 + (21 * w1 10 + w1 9)) = 9223372036854775807
    · rw [cd]
      simp (disch := first | omega | (simp only [x_wtI, x_wtJ, x_wtR, x_wtN]; omega) | assumption | (simp (disch := omega) only [x_st_o, x_rd_ne]; first | assumption | omega) | (apply mir_eq; assumption; (intro c h1 h2; simp (disch := omega) only [x_st_o])) | (apply mis_eq; assumption; (intro c h1 h2; simp (disch := omega) only [x_st_o])) | rfl) only [bk_138_0, bk_138_1, bk_138_2, wp_ald0, wp_ic, wk_104, wp_lst2, wp_ild1, wk_133, wp_ifeq, wp_lld2, wp_lc, wp_lcmp, wp_ifne, wp_fall, wp_lret, wr_0_7, wk_14, wr_0_4, wk_15, wk_16, wr_0_2, wp_geti kd_20, wp_iceq, wr_20_0, wr_6_7, wl_7, wp_cald, wk_139, wk_2, wk_11, wp_lsub, x_clr_I, x_clr_J, x_clr_R, x_clr_U, ct_some, ct_none, lc_lt, lc_ge, lc_gt, lc_le, lc_eq, lc_r, xI_inj, xJ_inj, Option.some.injEq, eq_self, bi_r, bi_0, bi_1, bi_n, Classical.not_not, and_true, true_and, ite_true, ite_false, ↓reduceIte, ↓x_andl, z_le, z_nle, z_lt, z_nlt, z_eq, z_neq, if_pos, if_neg, x_andl, false_and, and_false, or_true, true_or, or_false, false_or, not_true, not_false_iff, x_rd_eq, x_rd_ne, x_st_o, Int.cast_ofNat_Int, Int.ofNat_zero, Int.ofNat_one, not_true_eq_false, not_false_eq_true, if_true, if_false, ite_self, and_self, Int.ofNat_eq_natCast, Int.tdiv_eq_ediv_of_nonneg, Int.tmod_eq_emod_of_nonneg, x_bm32, k_isAhead hM1 hS1 hw hn, bi_t ah]
      refine ⟨(-9223372036854775808), rfl, tk_100 tk, by omega, ?_⟩
      simp (disch := first | omega | (simp only [x_wtI, x_wtJ, x_wtR, x_wtN]; omega) | assumption | (simp (disch := omega) only [x_st_o, x_rd_ne]; first | assumption | omega) | (apply mir_eq; assumption; (intro c h1 h2; simp (disch := omega) only [x_st_o])) | (apply mis_eq; assumption; (intro c h1 h2; simp (disch := omega) only [x_st_o])) | rfl) only [sp_232, bk_232_0, bk_232_1, bk_232_2, bk_232_3, wp_ald0, wp_ild1, wk_191, wp_ifeq, wk_199, wp_ifne, wp_fall, wp_lc, wp_lret, wp_ic, wk_195, wp_lst2, wp_lld2, wp_lcmp, wp_puti kd_50, wp_lst4, wp_lld4, wp_lsub, x_clr_I, x_clr_J, x_clr_R, x_clr_U, ct_some, ct_none, lc_lt, lc_ge, lc_gt, lc_le, lc_eq, lc_r, xI_inj, xJ_inj, Option.some.injEq, eq_self, bi_r, bi_0, bi_1, bi_n, Classical.not_not, and_true, true_and, ite_true, ite_false, ↓reduceIte, ↓x_andl, z_le, z_nle, z_lt, z_nlt, z_eq, z_neq, if_pos, if_neg, x_andl, false_and, and_false, or_true, true_or, or_false, false_or, not_true, not_false_iff, x_rd_eq, x_rd_ne, x_st_o, Int.cast_ofNat_Int, Int.ofNat_zero, Int.ofNat_one, not_true_eq_false, not_false_eq_true, if_true, if_false, ite_self, and_self, Int.ofNat_eq_natCast, Int.tdiv_eq_ediv_of_nonneg, Int.tmod_eq_emod_of_nonneg, x_bm32, k_isFork g51, bi_t, k_isFromNow g51 hw n8, bi_t fr]
      refine x_use (d := 991) (h_solveI (c := 0) hh1 (by omega)) ?_
      rintro r σ5 ⟨rfl, e5, hh5, g5, m5⟩
      rw [g51] at g5 m5 ⊢
      have e : σ5 59 0 (42 * w1 8 + (21 * w1 10 + w1 9)) = (-9223372036854775808) := by
        rcases na _ _ g5 with ⟨z, _⟩ | ⟨_, _, z⟩
        · exact z
        · exact absurd cd z
      rw [e]
      simp (disch := first | omega | (simp only [x_wtI, x_wtJ, x_wtR, x_wtN]; omega) | assumption | (simp (disch := omega) only [x_st_o, x_rd_ne]; first | assumption | omega) | (apply mir_eq; assumption; (intro c h1 h2; simp (disch := omega) only [x_st_o])) | (apply mis_eq; assumption; (intro c h1 h2; simp (disch := omega) only [x_st_o])) | rfl) only [bk_232_0, bk_232_1, bk_232_2, bk_232_3, wp_ald0, wp_ild1, wk_191, wp_ifeq, wk_199, wp_ifne, wp_fall, wp_lc, wp_lret, wp_ic, wk_195, wp_lst2, wp_lld2, wp_lcmp, wp_puti kd_50, wp_lst4, wp_lld4, wp_lsub, x_clr_I, x_clr_J, x_clr_R, x_clr_U, ct_some, ct_none, lc_lt, lc_ge, lc_gt, lc_le, lc_eq, lc_r, xI_inj, xJ_inj, Option.some.injEq, eq_self, bi_r, bi_0, bi_1, bi_n, Classical.not_not, and_true, true_and, ite_true, ite_false, ↓reduceIte, ↓x_andl, z_le, z_nle, z_lt, z_nlt, z_eq, z_neq, if_pos, if_neg, x_andl, false_and, and_false, or_true, true_or, or_false, false_or, not_true, not_false_iff, x_rd_eq, x_rd_ne, x_st_o, Int.cast_ofNat_Int, Int.ofNat_zero, Int.ofNat_one, not_true_eq_false, not_false_eq_true, if_true, if_false, ite_self, and_self, Int.ofNat_eq_natCast, Int.tdiv_eq_ediv_of_nonneg, Int.tmod_eq_emod_of_nonneg, x_bm32]
      exact hh5
    · have tb2 := tb.resolve_left cd
      generalize hat : σ1 25 0 (42 * w1 8 + (21 * w1 10 + w1 9)) = at0 at tb2
      have nd : ¬ at0 = 9223372036854775807 := by omega
      simp (disch := first | omega | (simp only [x_wtI, x_wtJ, x_wtR, x_wtN]; omega) | assumption | (simp (disch := omega) only [x_st_o, x_rd_ne]; first | assumption | omega) | (apply mir_eq; assumption; (intro c h1 h2; simp (disch := omega) only [x_st_o])) | (apply mis_eq; assumption; (intro c h1 h2; simp (disch := omega) only [x_st_o])) | rfl) only [bk_138_0, bk_138_1, bk_138_2, wp_ald0, wp_ic, wk_104, wp_lst2, wp_ild1, wk_133, wp_ifeq, wp_lld2, wp_lc, wp_lcmp, wp_ifne, wp_fall, wp_lret, wr_0_7, wk_14, wr_0_4, wk_15, wk_16, wr_0_2, wp_geti kd_20, wp_iceq, wr_20_0, wr_6_7, wl_7, wp_cald, wk_139, wk_2, wk_11, wp_lsub, bk_14_0, wp_puti kd_24, wp_ret, bk_15_0, wp_ald1, wr_24_4, wp_acpy kd_25 kd_25 (Or.inr rfl), x_clr_I, x_clr_J, x_clr_R, x_clr_U, ct_some, ct_none, lc_lt, lc_ge, lc_gt, lc_le, lc_eq, lc_r, xI_inj, xJ_inj, Option.some.injEq, eq_self, bi_r, bi_0, bi_1, bi_n, Classical.not_not, and_true, true_and, ite_true, ite_false, ↓reduceIte, ↓x_andl, z_le, z_nle, z_lt, z_nlt, z_eq, z_neq, if_pos, if_neg, x_andl, false_and, and_false, or_true, true_or, or_false, false_or, not_true, not_false_iff, x_rd_eq, x_rd_ne, x_st_o, Int.cast_ofNat_Int, Int.ofNat_zero, Int.ofNat_one, not_true_eq_false, not_false_eq_true, if_true, if_false, ite_self, and_self, Int.ofNat_eq_natCast, Int.tdiv_eq_ediv_of_nonneg, Int.tmod_eq_emod_of_nonneg, x_bm32, sp_14, sp_15, k_isAhead hM1 hS1 hw hn, bi_t ah]
      generalize hσ0 : x_st (x_st (x_st σ1 24 3 3 0) 24 3 1 4) 24 3 2 5 = σ0
      have e0 : x_eqo [(24, 3), (25, 3), (27, 3), (28, 3)] σ1 σ0 := by
        subst hσ0
        repeat (first | exact eqo_refl | refine eqo_st (by simp) ?_)
      have f0 : σ0 24 3 3 = 0 ∧ σ0 24 3 1 = 4 ∧ σ0 24 3 2 = 5 := by
        subst hσ0
        refine ⟨?_, ?_, ?_⟩ <;> simp (disch := omega) only [x_st_o, x_rd_ne, x_rd_eq, s_fl_o, s_fl_in, s_fl_out, x_cp_o, x_cp_in, x_cp_out]
      generalize hσ2 : x_cp σ0 25 0 0 25 3 0 1680 = σ2
      have e2 : x_eqo [(24, 3), (25, 3), (27, 3), (28, 3)] σ0 σ2 := by
        subst hσ2
        exact eqo_cp (by simp) eqo_refl
      have c2 : ∀ i, 0 ≤ i → i < 1680 → σ2 25 3 i = σ1 25 0 i := by
        intro i i0 i1
        rw [← e0 25 0 (by simp)]
        subst hσ2
        simp (disch := omega) only [x_st_o, x_rd_ne, x_rd_eq, s_fl_o, s_fl_in, s_fl_out, x_cp_o, x_cp_in, x_cp_out]
        rw [show (0 : Int) + (i - 0) = i by omega]
      have k2 : σ2 24 3 = σ0 24 3 := by
        rw [← hσ2]
        funext i
        simp (disch := omega) only [x_st_o, x_rd_ne, x_rd_eq, s_fl_o, s_fl_in, s_fl_out, x_cp_o, x_cp_in, x_cp_out]
      have e02 := eqo_trans e0 e2
      have hM2 : mir σ2 1 w1 := mir_eq hM1 (fun c q1 q2 => e02 c 1 (by simp))
      have rows : ∀ (L9 : Int → Int) h, w1 8 ≤ h → h < w1 0 → p_fr w1 (w1 8) h → g_row 9223372036854775807 0 5 4 w1 L9 (σ2 25 3) h ∧ t_bd 9223372036854775807 w1 (σ2 25 3) h := by
        intro L9 h h0 h1 hf
        have x := ct.1 h h0 h1 hf
        refine ⟨gr_L (by omega) (gr_cg hw (by omega) h1 (fun s s0 s1 => c2 _ (by omega) (by omega)) (fun i i0 i1 s s0 s1 => ?_) x.1), fun s s0 s1 => ?_⟩
        · have kk := wf_k hw (f := h) (i := i) (by omega) h1 i0 i1
          exact c2 _ (by omega) (by omega)
        · rw [c2 _ (by omega) (by omega)]
          exact x.2 s s0 s1
      -- what comes is known at f
      have known : ∃ σ3, (∀ Q' : Option x_V → x_S → Prop, x_Sp 998 16 [xR 24 3, xI f] σ2 Q' ↔ Q' none σ3) ∧ x_eqo [(24, 3), (25, 3), (27, 3), (28, 3)] σ2 σ3 ∧ (∀ k, ¬ (7 ≤ k ∧ k ≤ 9) → σ3 24 3 k = σ2 24 3 k) ∧ (∀ i, ¬ (42 * f ≤ i ∧ i < 42 * f + 42) → σ3 25 3 i = σ2 25 3 i) ∧ (∀ st wd, 0 ≤ st → st ≤ 20 → 0 ≤ wd → wd ≤ 1 → q_at 9223372036854775807 0 5 4 f w1 (σ2 26 3) (σ2 25 3) f st wd (σ3 25 3 (42 * f + (21 * wd + st)))) ∧ t_bd 9223372036854775807 w1 (σ3 25 3) f := by
        by_cases ce : p_end w1 5 f
        · refine ⟨σ2, fun Q' => ?_, eqo_refl, fun _ _ => rfl, fun _ _ => rfl, fun st wd p q p2 q2 => Or.inr ⟨fun z => z.2 ce, (rows _ f ge cf.2 fr).1 st wd p q p2 q2⟩, (rows w1 f ge cf.2 fr).2⟩
          refine x_sp_of ?_
          have k22 : σ2 24 3 2 = 5 := by rw [k2]; exact f0.2.2
          simp (disch := first | omega | (simp only [x_wtI, x_wtJ, x_wtR, x_wtN]; omega) | assumption | (simp (disch := omega) only [x_st_o, x_rd_ne]; first | assumption | omega) | (apply mir_eq; assumption; (intro c h1 h2; simp (disch := omega) only [x_st_o])) | (apply mis_eq; assumption; (intro c h1 h2; simp (disch := omega) only [x_st_o])) | rfl) only [sp_16, bk_16_0, bk_16_1, bk_16_2, bk_16_3, bk_16_4, bk_16_5, bk_16_6, bk_16_7, bk_16_8, bk_16_9, bk_16_10, bk_16_11, bk_16_12, wp_ald0, wp_ild1, wk_4, wp_ifeq, wp_ret, wp_ic, wp_imul, wp_ist2, wp_ist3, wp_fall, wp_ild3, wp_icge, wr_24_4, wp_ild2, wp_iadd, wp_lc, ws_25, ws_27, ws_28, wp_inc3, wp_goto, wr_24_0, wr_6_14, wl_8, wl_13, wl_14, wl_15, wp_cald, wr_6_15, wp_ist4, wp_ild4, wr_24_6, wp_acpy kd_25 kd_27 (Or.inr rfl), wp_parts, wr_6_13, wl_25, wl_27, wl_28, wp_pald, wp_geti kd_6, wk_6, wk_7, wp_ist5, wp_ild5, wr_24_10, wp_lcmp, wp_ifne, wp_ist6, wp_ild6, wr_6_8, wp_i2l, wp_lmul, wp_ladd, wp_inc5, x_clr_I, x_clr_J, x_clr_R, x_clr_U, ct_some, ct_none, lc_lt, lc_ge, lc_gt, lc_le, lc_eq, lc_r, xI_inj, xJ_inj, Option.some.injEq, eq_self, bi_r, bi_0, bi_1, bi_n, Classical.not_not, and_true, true_and, ite_true, ite_false, ↓reduceIte, ↓x_andl, z_le, z_nle, z_lt, z_nlt, z_eq, z_neq, if_pos, if_neg, x_andl, false_and, and_false, or_true, true_or, or_false, false_or, not_true, not_false_iff, x_rd_eq, x_rd_ne, x_st_o, Int.cast_ofNat_Int, Int.ofNat_zero, Int.ofNat_one, not_true_eq_false, not_false_eq_true, if_true, if_false, ite_self, and_self, Int.ofNat_eq_natCast, Int.tdiv_eq_ediv_of_nonneg, Int.tmod_eq_emod_of_nonneg, x_bm32, k_isEndC hM2 (show 3 < 4 by omega) k22 hw, bi_t ce]
        · obtain ⟨r, σ3, ⟨hr, x1, x2, x3, x4⟩, ev⟩ := x_ex (h_known (T := σ2 25 3) hM2 hw cf.1 cf.2 (by rw [k2]; exact f0.1) (by rw [k2]; exact f0.2.1) (by rw [k2]; exact f0.2.2) rfl ce (fun i i0 i1 => by
            have kk := wf_k hw (f := f) (i := i) cf.1 cf.2 i0 i1
            exact (rows w1 _ (by omega) kk.2.1 (fr_kid hw n8.1 fr cf.1 cf.2 i0 i1)).2))
          subst hr
          refine ⟨σ3, fun Q' => ev 994 Q', x1, x2, x3, fun st wd p q p2 q2 => Or.inl ⟨⟨rfl, ce⟩, (x4 st wd p q p2 q2).1⟩, fun s s0 s1 => ?_⟩
          have z := (x4 (s % 21) (s / 21) (by omega) (by omega) (by omega) (by omega)).2
          rw [show 21 * (s / 21) + s % 21 = s by omega] at z
          exact z
      obtain ⟨σ3, ev3, e3, k3, o3, q3, b3⟩ := known
      have e03 := eqo_trans e02 e3
      have hM3 : mir σ3 1 w1 := mir_eq hM1 (fun c q1 q2 => e03 c 1 (by simp))
      have hS3 : mis σ3 1 w1 := mis_eq hS1 (fun c q1 q2 => e03 c 1 (by simp))
      have k24 : σ3 24 3 1 = 4 ∧ σ3 24 3 2 = 5 ∧ σ3 24 3 3 = 0 := ⟨by rw [k3 1 (by omega), k2]; exact f0.2.1, by rw [k3 2 (by omega), k2]; exact f0.2.2, by rw [k3 3 (by omega), k2]; exact f0.1⟩
      -- rows of the other forks stand as they did
      have rows3 : ∀ h, w1 8 < h → h < w1 0 → p_fr w1 (w1 8) h → ¬ p_fr w1 h f → g_row 9223372036854775807 0 5 4 w1 (σ2 26 3) (σ3 25 3) h ∧ t_bd 9223372036854775807 w1 (σ3 25 3) h := by
        intro h h0 h1 hf nf
        have x := rows (σ2 26 3) h (by omega) h1 hf
        have ne : ¬ h = f := fun z => nf (by rw [z]; exact fr_self)
        refine ⟨gr_cg hw (by omega) h1 (fun s s0 s1 => o3 _ (by omega)) (fun i i0 i1 s s0 s1 => o3 _ ?_) x.1, fun s s0 s1 => ?_⟩
        · have kk := wf_k hw (f := h) (i := i) (by omega) h1 i0 i1
          have nk : ¬ w_of w1 h (8 + i) = f := by
            intro y
            rw [y] at kk
            exact nf ((fr_up hw (by omega) kk.1 cf.2).mpr (by rw [kk.2.2.1]; exact fr_self))
          omega
        · rw [o3 _ (by omega)]
          exact x.2 s s0 s1
      -- the end, from a store whose table is right
      have fin : ∀ σF : x_S, x_eqo [(24, 3), (25, 3), (27, 3), (28, 3)] σ1 σF → (∀ h, w1 8 ≤ h → h < w1 0 → p_fr w1 (w1 8) h → ∀ st wd, 0 ≤ st → st ≤ 20 → 0 ≤ wd → wd ≤ 1 → q_at 9223372036854775807 0 5 4 f w1 (σ2 26 3) (σF 25 3) h st wd (σF 25 3 (42 * h + (21 * wd + st)))) → t_bd 9223372036854775807 w1 (σF 25 3) (w1 8) → x_Wp 999 138 (x_blk 138 3) [xR 0 0, xI f, xJ at0, xU] [] σF (fun r σ' => ∃ v, r = some (xJ v) ∧ x_f100 σ σ' ∧ (-9223372036854775808 ≤ v ∧ v ≤ 9223372036854775807) ∧ x_Sp 999 232 [xR 50 0, xI f] σ' (fun r2 σ2 => r2 = some (xJ v) ∧ iN L S0 σ2)) := by
        intro σF eF qF bF
        have hhF := iN_tr hh1 eF
        have gF : σF 51 0 = w1 := (eF 51 0 (by simp)).trans g51
        have hSF : mis σF 1 w1 := mis_eq hS1 (fun c q1 q2 => eF c 1 (by simp))
        have fF : x_f100 σ σF := fun j i => by rw [eF 100 j (by simp), tk_100 tk j i]
        have hx0 : 0 ≤ w1 8 * 42 + w1 10 * 21 + w1 9 ∧ w1 8 * 42 + w1 10 * 21 + w1 9 < 1680 := by omega
        have ex : w1 8 * 42 + w1 10 * 21 + w1 9 = 42 * w1 8 + (21 * w1 10 + w1 9) := by omega
        have tgE : ∀ (T L' : Int → Int), gT 0 5 4 f w1 L' T (w1 8) → tg (T (42 * w1 8 + (21 * w1 10 + w1 9))) (σF 25 3 (42 * w1 8 + (21 * w1 10 + w1 9))) := by
          intro T L' gt
          have o := wf_f hw (f := w1 8) n8.1 n8.2
          unfold wf_one at o
          exact tabs (Rc := fun _ _ => True) (L := L') (L2 := σ2 26 3) (ea := f) hw n8.1 (by omega) gt (fun h h0 h1 hf _ st wd p q p2 q2 => qF h h0 h1 hf st wd p q p2 q2) (fun _ _ _ _ _ _ _ _ _ _ _ _ _ _ _ _ _ => trivial) (fun _ _ _ _ _ _ _ _ _ _ _ _ _ _ _ => ⟨Or.inl (by omega), fun z => by omega⟩) (w1 8) (Int.le_refl _) n8.2 fr_self (by omega) (w1 9) (w1 10) n9.1 n9.2 n10.1 n10.2 trivial
        have bF2 := bF (21 * w1 10 + w1 9) (by omega) (by omega)
        -- it is not dead
        have alive : ¬ σF 25 3 (42 * w1 8 + (21 * w1 10 + w1 9)) = 9223372036854775807 := by
          intro z
          obtain ⟨_, σ8, ⟨_, _, _, g8, _⟩, _⟩ := x_ex (h_solveI (c := 0) hh1 (by omega))
          obtain ⟨_, σ9, ⟨_, _, g9, _⟩, _⟩ := x_ex (h_solveF (σ := x_st σ1 50 0 19 f) (w := w1) (E := 5) (Wd := 4) (ea := f) (c := 0) (by rw [x_st_o (by omega)]; exact g51) (by rw [x_rd_ne (by omega)]; exact hh1.2.2.2.1.1) (by rw [x_rd_ne (by omega)]; exact hh1.2.2.2.1.2.1) (by rw [x_rd_eq]) hw hn (by omega) (by omega) (by omega) (by omega) (fun z => by omega))
          rw [g51] at g8
          have d := dead_e hw hn g8 g9 (w1 8) (Int.le_refl _) n8.2 fr_self (w1 9) (w1 10) n9.1 n9.2 n10.1 n10.2 (by
            rcases na _ _ g8 with ⟨_, y⟩ | ⟨_, y, _⟩
            · exact absurd y cd
            · exact y)
          rcases tgE _ _ g9 with ⟨y, _⟩ | ⟨_, _, y⟩
          · exact d y
          · exact y z
        have bF3 := bF2.resolve_left alive
        have ex2 : σF 25 3 (w1 8 * 42 + w1 10 * 21 + w1 9) = σF 25 3 (42 * w1 8 + (21 * w1 10 + w1 9)) := by rw [ex]
        generalize hvt : σF 25 3 (42 * w1 8 + (21 * w1 10 + w1 9)) = vt at bF3 ex2
        rw [bk_138_3]
        simp (disch := first | omega | (simp only [x_wtI, x_wtJ, x_wtR, x_wtN]; omega) | assumption | (simp (disch := omega) only [x_st_o, x_rd_ne]; first | assumption | omega) | (apply mir_eq; assumption; (intro c h1 h2; simp (disch := omega) only [x_st_o])) | (apply mis_eq; assumption; (intro c h1 h2; simp (disch := omega) only [x_st_o])) | rfl) only [bk_138_0, bk_138_1, bk_138_2, wp_ald0, wp_ic, wk_104, wp_lst2, wp_ild1, wk_133, wp_ifeq, wp_lld2, wp_lc, wp_lcmp, wp_ifne, wp_fall, wp_lret, wr_0_7, wk_14, wr_0_4, wk_15, wk_16, wr_0_2, wp_geti kd_20, wp_iceq, wr_20_0, wr_6_7, wl_7, wp_cald, wk_139, wk_2, wk_11, wp_lsub, bk_11_0, wr_24_4, wp_imul, wp_ild3, wp_iadd, wp_ild2, wl_25, wp_pald, x_clr_I, x_clr_J, x_clr_R, x_clr_U, ct_some, ct_none, lc_lt, lc_ge, lc_gt, lc_le, lc_eq, lc_r, xI_inj, xJ_inj, Option.some.injEq, eq_self, bi_r, bi_0, bi_1, bi_n, Classical.not_not, and_true, true_and, ite_true, ite_false, ↓reduceIte, ↓x_andl, z_le, z_nle, z_lt, z_nlt, z_eq, z_neq, if_pos, if_neg, x_andl, false_and, and_false, or_true, true_or, or_false, false_or, not_true, not_false_iff, x_rd_eq, x_rd_ne, x_st_o, Int.cast_ofNat_Int, Int.ofNat_zero, Int.ofNat_one, not_true_eq_false, not_false_eq_true, if_true, if_false, ite_self, and_self, Int.ofNat_eq_natCast, Int.tdiv_eq_ediv_of_nonneg, Int.tmod_eq_emod_of_nonneg, x_bm32, hSF.1.1, hSF.1.2.1, hSF.1.2.2.1, sp_11, ex2]
        refine ⟨at0 - vt, rfl, by omega, ?_⟩
        have m := hhF.2.2.2.1
        simp (disch := first | omega | (simp only [x_wtI, x_wtJ, x_wtR, x_wtN]; omega) | assumption | (simp (disch := omega) only [x_st_o, x_rd_ne]; first | assumption | omega) | (apply mir_eq; assumption; (intro c h1 h2; simp (disch := omega) only [x_st_o])) | (apply mis_eq; assumption; (intro c h1 h2; simp (disch := omega) only [x_st_o])) | rfl) only [sp_232, bk_232_0, bk_232_1, bk_232_2, bk_232_3, wp_ald0, wp_ild1, wk_191, wp_ifeq, wk_199, wp_ifne, wp_fall, wp_lc, wp_lret, wp_ic, wk_195, wp_lst2, wp_lld2, wp_lcmp, wp_puti kd_50, wp_lst4, wp_lld4, wp_lsub, x_clr_I, x_clr_J, x_clr_R, x_clr_U, ct_some, ct_none, lc_lt, lc_ge, lc_gt, lc_le, lc_eq, lc_r, xI_inj, xJ_inj, Option.some.injEq, eq_self, bi_r, bi_0, bi_1, bi_n, Classical.not_not, and_true, true_and, ite_true, ite_false, ↓reduceIte, ↓x_andl, z_le, z_nle, z_lt, z_nlt, z_eq, z_neq, if_pos, if_neg, x_andl, false_and, and_false, or_true, true_or, or_false, false_or, not_true, not_false_iff, x_rd_eq, x_rd_ne, x_st_o, Int.cast_ofNat_Int, Int.ofNat_zero, Int.ofNat_one, not_true_eq_false, not_false_eq_true, if_true, if_false, ite_self, and_self, Int.ofNat_eq_natCast, Int.tdiv_eq_ediv_of_nonneg, Int.tmod_eq_emod_of_nonneg, x_bm32, k_isFork gF, bi_t, k_isFromNow gF hw n8, bi_t fr]
        refine x_use (d := 991) (h_solveI (c := 0) hhF (by omega)) ?_
        rintro r σ5 ⟨rfl, e5, hh5, g5, m5⟩
        rw [gF] at g5 m5 ⊢
        have g515 : σ5 51 0 = w1 := (e5 51 0 (by simp)).trans gF
        have v1 : σ5 59 0 (42 * w1 8 + (21 * w1 10 + w1 9)) = at0 := by
          rcases na _ _ g5 with ⟨_, y⟩ | ⟨y, _, _⟩
          · exact absurd y cd
          · rw [y, hat]
        rw [v1]
        simp (disch := first | omega | (simp only [x_wtI, x_wtJ, x_wtR, x_wtN]; omega) | assumption | (simp (disch := omega) only [x_st_o, x_rd_ne]; first | assumption | omega) | (apply mir_eq; assumption; (intro c h1 h2; simp (disch := omega) only [x_st_o])) | (apply mis_eq; assumption; (intro c h1 h2; simp (disch := omega) only [x_st_o])) | rfl) only [bk_232_0, bk_232_1, bk_232_2, bk_232_3, wp_ald0, wp_ild1, wk_191, wp_ifeq, wk_199, wp_ifne, wp_fall, wp_lc, wp_lret, wp_ic, wk_195, wp_lst2, wp_lld2, wp_lcmp, wp_puti kd_50, wp_lst4, wp_lld4, wp_lsub, x_clr_I, x_clr_J, x_clr_R, x_clr_U, ct_some, ct_none, lc_lt, lc_ge, lc_gt, lc_le, lc_eq, lc_r, xI_inj, xJ_inj, Option.some.injEq, eq_self, bi_r, bi_0, bi_1, bi_n, Classical.not_not, and_true, true_and, ite_true, ite_false, ↓reduceIte, ↓x_andl, z_le, z_nle, z_lt, z_nlt, z_eq, z_neq, if_pos, if_neg, x_andl, false_and, and_false, or_true, true_or, or_false, false_or, not_true, not_false_iff, x_rd_eq, x_rd_ne, x_st_o, Int.cast_ofNat_Int, Int.ofNat_zero, Int.ofNat_one, not_true_eq_false, not_false_eq_true, if_true, if_false, ite_self, and_self, Int.ofNat_eq_natCast, Int.tdiv_eq_ediv_of_nonneg, Int.tmod_eq_emod_of_nonneg, x_bm32]
        have m5' := hh5.2.2.2.1
        refine x_use (d := 991) (h_solveF (σ := x_st σ5 50 0 19 f) (w := w1) (E := 5) (Wd := 4) (ea := f) (c := 0) (by rw [x_st_o (by omega)]; exact g515) (by rw [x_rd_ne (by omega)]; exact m5'.1) (by rw [x_rd_ne (by omega)]; exact m5'.2.1) (by rw [x_rd_eq]) hw hn (by omega) (by omega) (by omega) (by omega) (fun z => by omega)) ?_
        rintro r σ6 ⟨rfl, e6, g6, m6⟩
        have v2 : σ6 59 0 (42 * w1 8 + (21 * w1 10 + w1 9)) = vt := by
          rcases tgE _ _ g6 with ⟨_, y⟩ | ⟨y, _, _⟩
          · exact absurd y alive
          · rw [y, hvt]
        rw [v2]
        have fin2 : iN L S0 (x_st σ6 50 0 19 (-1)) := by
          refine iN_scr hh5 (σ' := x_st σ6 50 0 19 (-1)) (eqo_mono (S := [(50, 0), (59, 0), (60, 0), (61, 0)]) (by decide) (eqo_st (by simp) (eqo_trans (eqo_st (by simp) eqo_refl) (eqo_mono (by simp) e6)))) ?_ ?_
          · intro j k _ _ _
            rw [x_st_o (by omega), e6 24 j (by simp), x_st_o (by omega)]
          · intro k hk
            by_cases c19 : k = 19
            · rw [c19, x_rd_eq]
              exact m5'.2.2.1.symm
            · rw [x_rd_ne (by omega), e6 50 0 (by simp), x_rd_ne (by omega)]
        simp (disch := first | omega | (simp only [x_wtI, x_wtJ, x_wtR, x_wtN]; omega) | assumption | (simp (disch := omega) only [x_st_o, x_rd_ne]; first | assumption | omega) | (apply mir_eq; assumption; (intro c h1 h2; simp (disch := omega) only [x_st_o])) | (apply mis_eq; assumption; (intro c h1 h2; simp (disch := omega) only [x_st_o])) | rfl) only [bk_232_0, bk_232_1, bk_232_2, bk_232_3, wp_ald0, wp_ild1, wk_191, wp_ifeq, wk_199, wp_ifne, wp_fall, wp_lc, wp_lret, wp_ic, wk_195, wp_lst2, wp_lld2, wp_lcmp, wp_puti kd_50, wp_lst4, wp_lld4, wp_lsub, x_clr_I, x_clr_J, x_clr_R, x_clr_U, ct_some, ct_none, lc_lt, lc_ge, lc_gt, lc_le, lc_eq, lc_r, xI_inj, xJ_inj, Option.some.injEq, eq_self, bi_r, bi_0, bi_1, bi_n, Classical.not_not, and_true, true_and, ite_true, ite_false, ↓reduceIte, ↓x_andl, z_le, z_nle, z_lt, z_nlt, z_eq, z_neq, if_pos, if_neg, x_andl, false_and, and_false, or_true, true_or, or_false, false_or, not_true, not_false_iff, x_rd_eq, x_rd_ne, x_st_o, Int.cast_ofNat_Int, Int.ofNat_zero, Int.ofNat_one, not_true_eq_false, not_false_eq_true, if_true, if_false, ite_self, and_self, Int.ofNat_eq_natCast, Int.tdiv_eq_ediv_of_nonneg, Int.tmod_eq_emod_of_nonneg, x_bm32]
        exact fin2
      refine (ev3 _).mpr ?_
      by_cases cn : f = w1 8
      · have F := fin σ3 e03 (fun h h0 h1 hf st wd p q p2 q2 => by
          by_cases z : h = f
          · rw [z]
            refine ke_at hw cf.1 cf.2 ⟨p, q⟩ (fun i i0 i1 s s0 s1 => o3 _ ?_) (q3 st wd p q p2 q2)
            have kk := wf_k hw (f := f) (i := i) cf.1 cf.2 i0 i1
            omega
          · exact Or.inr ⟨fun y => z y.1, (rows3 h (by omega) h1 hf (fr_lt (by omega))).1 st wd p q p2 q2⟩) (by rw [← cn]; exact b3)
        simp (disch := first | omega | (simp only [x_wtI, x_wtJ, x_wtR, x_wtN]; omega) | assumption | (simp (disch := omega) only [x_st_o, x_rd_ne]; first | assumption | omega) | (apply mir_eq; assumption; (intro c h1 h2; simp (disch := omega) only [x_st_o])) | (apply mis_eq; assumption; (intro c h1 h2; simp (disch := omega) only [x_st_o])) | rfl) only [bk_138_0, bk_138_1, bk_138_2, wp_ald0, wp_ic, wk_104, wp_lst2, wp_ild1, wk_133, wp_ifeq, wp_lld2, wp_lc, wp_lcmp, wp_ifne, wp_fall, wp_lret, wr_0_7, wk_14, wr_0_4, wk_15, wk_16, wr_0_2, wp_geti kd_20, wp_iceq, wr_20_0, wr_6_7, wl_7, wp_cald, wk_139, wk_2, wk_11, wp_lsub, x_clr_I, x_clr_J, x_clr_R, x_clr_U, ct_some, ct_none, lc_lt, lc_ge, lc_gt, lc_le, lc_eq, lc_r, xI_inj, xJ_inj, Option.some.injEq, eq_self, bi_r, bi_0, bi_1, bi_n, Classical.not_not, and_true, true_and, ite_true, ite_false, ↓reduceIte, ↓x_andl, z_le, z_nle, z_lt, z_nlt, z_eq, z_neq, if_pos, if_neg, x_andl, false_and, and_false, or_true, true_or, or_false, false_or, not_true, not_false_iff, x_rd_eq, x_rd_ne, x_st_o, Int.cast_ofNat_Int, Int.ofNat_zero, Int.ofNat_one, not_true_eq_false, not_false_eq_true, if_true, if_false, ite_self, and_self, Int.ofNat_eq_natCast, Int.tdiv_eq_ediv_of_nonneg, Int.tmod_eq_emod_of_nonneg, x_bm32, hS3.1.1]
        exact F
      · have u := wf_u hw (f := f) (by omega) cf.2
        have fu := fr_par hw n8.1 fr cn cf.2
        obtain ⟨r4, σ4, ⟨hr4, e4, k4, o4, g4⟩, ev4⟩ := x_ex (h_refillG (w := w1) (σ := σ3) (G := fun T h => (¬ h = f → g_row 9223372036854775807 0 5 4 w1 (σ2 26 3) T h) ∧ t_bd 9223372036854775807 w1 T h) (D := fun h => p_fr w1 (w1 8) h) (top := w1 8) (g0 := w_of w1 f 0) (c := 0) (L1 := σ2 26 3) hw n8.1 (by omega) fu.1 (by
          intro σ9 g hM9 w91 w92 w93 hL9 gt g1 gf gg hG
          have hgf : g < f := by
            by_cases q : w_of w1 f 0 < g
            · exact absurd gg (fr_lt q)
            · omega
          refine x_use (d := 0) (h_fillFork (j := 3) (c := 0) (E := 5) (Wd := 4) hM9 (by omega) hw (by omega) g1 w93 (by omega) w91 (by omega) w92 (by omega) rfl hL9 (fun _ i i0 i1 => ?_) (fun z => by omega)) ?_
          · have kk := wf_k hw (f := g) (i := i) (by omega) g1 i0 i1
            exact (hG _ (by omega) kk.2.1 (Or.inl (fr_kid hw n8.1 gf (by omega) g1 i0 i1)) (fr_lt kk.1)).2
          · rintro r σ10 ⟨rfl, a, b, c, d, e⟩
            exact ⟨rfl, a, b, c, fun _ => d, e⟩) (by
          intro T T' h h0 h1 er ek hG
          exact ⟨fun z => gr_cg hw (by omega) h1 er ek (hG.1 z), fun s s0 s1 => by rw [er s s0 s1]; exact hG.2 s s0 s1⟩) hM3 k24.1 k24.2.1 k24.2.2 (e3 26 3 (by simp)) (by
          intro h h0 h1 hd nf
          by_cases z : h = f
          · rw [z]
            exact ⟨fun y => absurd rfl y, b3⟩
          · have nf2 : ¬ p_fr w1 h f := by
              by_cases q : h < f
              · rw [fr_up hw (by omega) q cf.2]
                exact nf
              · exact fr_lt (by omega)
            exact ⟨fun _ => (rows3 h h0 h1 hd nf2).1, (rows3 h h0 h1 hd nf2).2⟩))
        subst hr4
        have e04 := eqo_trans e03 e4
        have hM4 : mir σ4 1 w1 := mir_eq hM1 (fun c q1 q2 => e04 c 1 (by simp))
        have hS4 : mis σ4 1 w1 := mis_eq hS1 (fun c q1 q2 => e04 c 1 (by simp))
        have e426 : σ4 26 3 = σ2 26 3 := by rw [e4 26 3 (by simp), e3 26 3 (by simp)]
        obtain ⟨r5, σ5, ⟨hr5, e5, k5, o5, g5, b5⟩, ev5⟩ := x_ex (h_fillFork (σ := σ4) (f := w1 8) (j := 3) (c := 0) (E := 5) (Wd := 4) (L := σ2 26 3) hM4 (by omega) hw n8.1 n8.2 (by rw [k4 3 (by omega)]; exact k24.2.2) (by omega) (by rw [k4 1 (by omega)]; exact k24.1) (by omega) (by rw [k4 2 (by omega)]; exact k24.2.1) (by omega) rfl e426 (fun _ i i0 i1 => by
          have kk := wf_k hw (f := w1 8) (i := i) n8.1 n8.2 i0 i1
          exact (g4 _ kk.1 kk.2.1 (Or.inl (fr_kid hw n8.1 fr_self n8.1 n8.2 i0 i1))).2) (fun z => by omega))
        subst hr5
        have e05 := eqo_trans e04 e5
        -- row f and the rows of its kids
        have same : ∀ i, 42 * f ≤ i → σ4 25 3 i = σ3 25 3 i := fun i hi => o4 i (fun h h0 hp => by
          have hl : h ≤ w_of w1 f 0 := by
            by_cases q : w_of w1 f 0 < h
            · exact absurd hp (fr_lt q)
            · omega
          omega)
        have F := fin σ5 e05 (fun h h0 h1 hf st wd p q p2 q2 => by
          by_cases z : h = f
          · rw [z, o5 _ (by omega), same _ (by omega)]
            refine ke_at hw cf.1 cf.2 ⟨p, q⟩ (fun i i0 i1 s s0 s1 => ?_) (q3 st wd p q p2 q2)
            have kk := wf_k hw (f := f) (i := i) cf.1 cf.2 i0 i1
            rw [o5 _ (by omega), same _ (by omega), o3 _ (by omega)]
          · refine Or.inr ⟨fun y => z y.1, ?_⟩
            by_cases z2 : h = w1 8
            · rw [z2]
              exact g5 st wd p q p2 q2
            · have x := (g4 h (by omega) h1 (Or.inl hf)).1 z
              refine gr_cg hw (by omega) h1 (fun s s0 s1 => o5 _ (by omega)) (fun i i0 i1 s s0 s1 => o5 _ ?_) x st wd p q p2 q2
              have kk := wf_k hw (f := h) (i := i) (by omega) h1 i0 i1
              omega) b5
        have un3 := mi_under hM3 cf.1 cf.2
        simp (disch := first | omega | (simp only [x_wtI, x_wtJ, x_wtR, x_wtN]; omega) | assumption | (simp (disch := omega) only [x_st_o, x_rd_ne]; first | assumption | omega) | (apply mir_eq; assumption; (intro c h1 h2; simp (disch := omega) only [x_st_o])) | (apply mis_eq; assumption; (intro c h1 h2; simp (disch := omega) only [x_st_o])) | rfl) only [bk_138_0, bk_138_1, bk_138_2, wp_ald0, wp_ic, wk_104, wp_lst2, wp_ild1, wk_133, wp_ifeq, wp_lld2, wp_lc, wp_lcmp, wp_ifne, wp_fall, wp_lret, wr_0_7, wk_14, wr_0_4, wk_15, wk_16, wr_0_2, wp_geti kd_20, wp_iceq, wr_20_0, wr_6_7, wl_7, wp_cald, wk_139, wk_2, wk_11, wp_lsub, x_clr_I, x_clr_J, x_clr_R, x_clr_U, ct_some, ct_none, lc_lt, lc_ge, lc_gt, lc_le, lc_eq, lc_r, xI_inj, xJ_inj, Option.some.injEq, eq_self, bi_r, bi_0, bi_1, bi_n, Classical.not_not, and_true, true_and, ite_true, ite_false, ↓reduceIte, ↓x_andl, z_le, z_nle, z_lt, z_nlt, z_eq, z_neq, if_pos, if_neg, x_andl, false_and, and_false, or_true, true_or, or_false, false_or, not_true, not_false_iff, x_rd_eq, x_rd_ne, x_st_o, Int.cast_ofNat_Int, Int.ofNat_zero, Int.ofNat_one, not_true_eq_false, not_false_eq_true, if_true, if_false, ite_self, and_self, Int.ofNat_eq_natCast, Int.tdiv_eq_ediv_of_nonneg, Int.tmod_eq_emod_of_nonneg, x_bm32, hS3.1.1, un3]
        refine (ev4 993 _).mpr ?_
        simp (disch := first | omega | (simp only [x_wtI, x_wtJ, x_wtR, x_wtN]; omega) | assumption | (simp (disch := omega) only [x_st_o, x_rd_ne]; first | assumption | omega) | (apply mir_eq; assumption; (intro c h1 h2; simp (disch := omega) only [x_st_o])) | (apply mis_eq; assumption; (intro c h1 h2; simp (disch := omega) only [x_st_o])) | rfl) only [bk_138_0, bk_138_1, bk_138_2, wp_ald0, wp_ic, wk_104, wp_lst2, wp_ild1, wk_133, wp_ifeq, wp_lld2, wp_lc, wp_lcmp, wp_ifne, wp_fall, wp_lret, wr_0_7, wk_14, wr_0_4, wk_15, wk_16, wr_0_2, wp_geti kd_20, wp_iceq, wr_20_0, wr_6_7, wl_7, wp_cald, wk_139, wk_2, wk_11, wp_lsub, x_clr_I, x_clr_J, x_clr_R, x_clr_U, ct_some, ct_none, lc_lt, lc_ge, lc_gt, lc_le, lc_eq, lc_r, xI_inj, xJ_inj, Option.some.injEq, eq_self, bi_r, bi_0, bi_1, bi_n, Classical.not_not, and_true, true_and, ite_true, ite_false, ↓reduceIte, ↓x_andl, z_le, z_nle, z_lt, z_nlt, z_eq, z_neq, if_pos, if_neg, x_andl, false_and, and_false, or_true, true_or, or_false, false_or, not_true, not_false_iff, x_rd_eq, x_rd_ne, x_st_o, Int.cast_ofNat_Int, Int.ofNat_zero, Int.ofNat_one, not_true_eq_false, not_false_eq_true, if_true, if_false, ite_self, and_self, Int.ofNat_eq_natCast, Int.tdiv_eq_ediv_of_nonneg, Int.tmod_eq_emod_of_nonneg, x_bm32, hS4.1.1]
        refine (ev5 994 _).mpr ?_
        simp (disch := first | omega | (simp only [x_wtI, x_wtJ, x_wtR, x_wtN]; omega) | assumption | (simp (disch := omega) only [x_st_o, x_rd_ne]; first | assumption | omega) | (apply mir_eq; assumption; (intro c h1 h2; simp (disch := omega) only [x_st_o])) | (apply mis_eq; assumption; (intro c h1 h2; simp (disch := omega) only [x_st_o])) | rfl) only [bk_138_0, bk_138_1, bk_138_2, wp_ald0, wp_ic, wk_104, wp_lst2, wp_ild1, wk_133, wp_ifeq, wp_lld2, wp_lc, wp_lcmp, wp_ifne, wp_fall, wp_lret, wr_0_7, wk_14, wr_0_4, wk_15, wk_16, wr_0_2, wp_geti kd_20, wp_iceq, wr_20_0, wr_6_7, wl_7, wp_cald, wk_139, wk_2, wk_11, wp_lsub, x_clr_I, x_clr_J, x_clr_R, x_clr_U, ct_some, ct_none, lc_lt, lc_ge, lc_gt, lc_le, lc_eq, lc_r, xI_inj, xJ_inj, Option.some.injEq, eq_self, bi_r, bi_0, bi_1, bi_n, Classical.not_not, and_true, true_and, ite_true, ite_false, ↓reduceIte, ↓x_andl, z_le, z_nle, z_lt, z_nlt, z_eq, z_neq, if_pos, if_neg, x_andl, false_and, and_false, or_true, true_or, or_false, false_or, not_true, not_false_iff, x_rd_eq, x_rd_ne, x_st_o, Int.cast_ofNat_Int, Int.ofNat_zero, Int.ofNat_one, not_true_eq_false, not_false_eq_true, if_true, if_false, ite_self, and_self, Int.ofNat_eq_natCast, Int.tdiv_eq_ediv_of_nonneg, Int.tmod_eq_emod_of_nonneg, x_bm32]
        exact F
  · have rg : -9223372036854775808 ≤ σ1 25 0 (42 * w1 8 + (21 * w1 10 + w1 9)) ∧ σ1 25 0 (42 * w1 8 + (21 * w1 10 + w1 9)) ≤ 9223372036854775807 := by
      rcases tb with z | z <;> omega
    generalize σ1 25 0 (42 * w1 8 + (21 * w1 10 + w1 9)) = at0 at rg
    simp (disch := first | omega | (simp only [x_wtI, x_wtJ, x_wtR, x_wtN]; omega) | assumption | (simp (disch := omega) only [x_st_o, x_rd_ne]; first | assumption | omega) | (apply mir_eq; assumption; (intro c h1 h2; simp (disch := omega) only [x_st_o])) | (apply mis_eq; assumption; (intro c h1 h2; simp (disch := omega) only [x_st_o])) | rfl) only [bk_138_0, bk_138_1, bk_138_2, wp_ald0, wp_ic, wk_104, wp_lst2, wp_ild1, wk_133, wp_ifeq, wp_lld2, wp_lc, wp_lcmp, wp_ifne, wp_fall, wp_lret, wr_0_7, wk_14, wr_0_4, wk_15, wk_16, wr_0_2, wp_geti kd_20, wp_iceq, wr_20_0, wr_6_7, wl_7, wp_cald, wk_139, wk_2, wk_11, wp_lsub, x_clr_I, x_clr_J, x_clr_R, x_clr_U, ct_some, ct_none, lc_lt, lc_ge, lc_gt, lc_le, lc_eq, lc_r, xI_inj, xJ_inj, Option.some.injEq, eq_self, bi_r, bi_0, bi_1, bi_n, Classical.not_not, and_true, true_and, ite_true, ite_false, ↓reduceIte, ↓x_andl, z_le, z_nle, z_lt, z_nlt, z_eq, z_neq, if_pos, if_neg, x_andl, false_and, and_false, or_true, true_or, or_false, false_or, not_true, not_false_iff, x_rd_eq, x_rd_ne, x_st_o, Int.cast_ofNat_Int, Int.ofNat_zero, Int.ofNat_one, not_true_eq_false, not_false_eq_true, if_true, if_false, ite_self, and_self, Int.ofNat_eq_natCast, Int.tdiv_eq_ediv_of_nonneg, Int.tmod_eq_emod_of_nonneg, x_bm32, k_isAhead hM1 hS1 hw hn, bi_f ah]
    refine ⟨(-9223372036854775808), rfl, tk_100 tk, by omega, ?_⟩
    by_cases cf : 0 ≤ f ∧ f < w1 0
    · have nf : ¬ p_fr w1 (w1 8) f := fun z => ah ⟨cf, z⟩
      simp (disch := first | omega | (simp only [x_wtI, x_wtJ, x_wtR, x_wtN]; omega) | assumption | (simp (disch := omega) only [x_st_o, x_rd_ne]; first | assumption | omega) | (apply mir_eq; assumption; (intro c h1 h2; simp (disch := omega) only [x_st_o])) | (apply mis_eq; assumption; (intro c h1 h2; simp (disch := omega) only [x_st_o])) | rfl) only [sp_232, bk_232_0, bk_232_1, bk_232_2, bk_232_3, wp_ald0, wp_ild1, wk_191, wp_ifeq, wk_199, wp_ifne, wp_fall, wp_lc, wp_lret, wp_ic, wk_195, wp_lst2, wp_lld2, wp_lcmp, wp_puti kd_50, wp_lst4, wp_lld4, wp_lsub, x_clr_I, x_clr_J, x_clr_R, x_clr_U, ct_some, ct_none, lc_lt, lc_ge, lc_gt, lc_le, lc_eq, lc_r, xI_inj, xJ_inj, Option.some.injEq, eq_self, bi_r, bi_0, bi_1, bi_n, Classical.not_not, and_true, true_and, ite_true, ite_false, ↓reduceIte, ↓x_andl, z_le, z_nle, z_lt, z_nlt, z_eq, z_neq, if_pos, if_neg, x_andl, false_and, and_false, or_true, true_or, or_false, false_or, not_true, not_false_iff, x_rd_eq, x_rd_ne, x_st_o, Int.cast_ofNat_Int, Int.ofNat_zero, Int.ofNat_one, not_true_eq_false, not_false_eq_true, if_true, if_false, ite_self, and_self, Int.ofNat_eq_natCast, Int.tdiv_eq_ediv_of_nonneg, Int.tmod_eq_emod_of_nonneg, x_bm32, k_isFork g51, bi_t, k_isFromNow g51 hw n8, bi_f nf]
      exact hh1
    · simp (disch := first | omega | (simp only [x_wtI, x_wtJ, x_wtR, x_wtN]; omega) | assumption | (simp (disch := omega) only [x_st_o, x_rd_ne]; first | assumption | omega) | (apply mir_eq; assumption; (intro c h1 h2; simp (disch := omega) only [x_st_o])) | (apply mis_eq; assumption; (intro c h1 h2; simp (disch := omega) only [x_st_o])) | rfl) only [sp_232, bk_232_0, bk_232_1, bk_232_2, bk_232_3, wp_ald0, wp_ild1, wk_191, wp_ifeq, wk_199, wp_ifne, wp_fall, wp_lc, wp_lret, wp_ic, wk_195, wp_lst2, wp_lld2, wp_lcmp, wp_puti kd_50, wp_lst4, wp_lld4, wp_lsub, x_clr_I, x_clr_J, x_clr_R, x_clr_U, ct_some, ct_none, lc_lt, lc_ge, lc_gt, lc_le, lc_eq, lc_r, xI_inj, xJ_inj, Option.some.injEq, eq_self, bi_r, bi_0, bi_1, bi_n, Classical.not_not, and_true, true_and, ite_true, ite_false, ↓reduceIte, ↓x_andl, z_le, z_nle, z_lt, z_nlt, z_eq, z_neq, if_pos, if_neg, x_andl, false_and, and_false, or_true, true_or, or_false, false_or, not_true, not_false_iff, x_rd_eq, x_rd_ne, x_st_o, Int.cast_ofNat_Int, Int.ofNat_zero, Int.ofNat_one, not_true_eq_false, not_false_eq_true, if_true, if_false, ite_self, and_self, Int.ofNat_eq_natCast, Int.tdiv_eq_ediv_of_nonneg, Int.tmod_eq_emod_of_nonneg, x_bm32, k_isFork g51, bi_f]
      exact hh1
end OSO

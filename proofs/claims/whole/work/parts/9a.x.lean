/-! the class's tables, filled when asked for -/
def tabS : List (Nat × Nat) := [(0, 0), (24, 0), (24, 1), (24, 2), (24, 3), (25, 0), (25, 1), (25, 2), (25, 3), (26, 0), (26, 1), (26, 2), (26, 3), (27, 0), (27, 1), (27, 2), (27, 3), (28, 0), (28, 1), (28, 2), (28, 3), (30, 0), (31, 0), (32, 0)]
def tabK (σ σ' : x_S) : Prop := x_eqo tabS σ σ' ∧ (∀ k, ¬ (13 ≤ k ∧ k ≤ 16) → σ' 0 0 k = σ 0 0 k) ∧ ∀ j k, j < 3 → ¬ (7 ≤ k ∧ k ≤ 9) → σ' 24 j k = σ 24 j k
def tabK2 (σ σ' : x_S) : Prop := x_eqo ((1, 0) :: (2, 0) :: tabS) σ σ' ∧ (∀ k, ¬ (13 ≤ k ∧ k ≤ 16) → σ' 0 0 k = σ 0 0 k) ∧ ∀ j k, j < 3 → ¬ (7 ≤ k ∧ k ≤ 9) → σ' 24 j k = σ 24 j k
theorem tabK_refl {σ : x_S} : tabK σ σ := ⟨eqo_refl, fun _ _ => rfl, fun _ _ _ _ => rfl⟩
theorem tabK_trans {σ σ1 σ2 : x_S} (h : tabK σ σ1) (h2 : tabK σ1 σ2) : tabK σ σ2 := ⟨eqo_trans h.1 h2.1, fun k hk => by rw [h2.2.1 k hk, h.2.1 k hk], fun j k hj hk => by rw [h2.2.2 j k hj hk, h.2.2 j k hj hk]⟩
theorem iN_tab {L : Int} {S0 : Int → Int} {σ σ' : x_S} (h : iN L S0 σ) (e : tabK σ σ') (hT : iT σ') : iN L S0 σ' := by
  obtain ⟨hW, _, hF, hM, hS, hR, hI, hX⟩ := h
  have n : ∀ c j, (c, j) ∉ tabS → σ' c j = σ c j := e.1
  have nt : ∀ c j, 6 ≤ c → c ≤ 22 → 1 ≤ j → j ≤ 4 → σ' c j = σ c j := by
    intro c j a b _ _
    refine n c j ?_
    intro z
    have : ∀ p ∈ tabS, ¬ (6 ≤ p.1 ∧ p.1 ≤ 22) := by decide
    exact this _ z ⟨a, b⟩
  have n50 := n 50 0 (by decide)
  have n3 := n 3 0 (by decide)
  refine ⟨iW_eq hW (n 51 0 (by decide)) (fun c a b => nt c 1 a b (by omega) (by omega)), hT, iF_eq hF (fun j k hj k1 k2 => e.2.2 j k hj (by omega)), iM_eq hM (by rw [n50]) (by rw [n50]) (by rw [n50]) (by rw [n50]) (e.2.1 17 (by omega)), iS_eq hS ?_, iR_eq hR (n 4 0 (by decide)) (n 54 0 (by decide)) (fun k _ _ => by rw [n3]) (by rw [n50]) (by rw [n50]) (by rw [n50]), iI_eq hI (n 52 0 (by decide)) (n 53 0 (by decide)) (fun c j a b _ _ => nt c j a b (by omega) (by omega)), iX_eq hX ?_⟩
  · intro c hc
    rcases hc with rfl | rfl | rfl | rfl | rfl | rfl <;> exact n _ 0 (by decide)
  · intro j
    refine n 100 j ?_
    intro z
    have : ∀ p ∈ tabS, ¬ (100 ≤ p.1) := by decide
    exact this _ z (Nat.le_refl _)
theorem fr_0 {w : Int → Int} (hw : wf w) : ∀ f, 0 ≤ f → f < w 0 → p_fr w 0 f := by
  have key : ∀ n : Nat, ∀ f : Int, 0 ≤ f → f < n → f < w 0 → p_fr w 0 f := by
    intro n
    induction n with
    | zero => intro f a b; omega
    | succ n ih =>
      intro f f0 fn f1
      by_cases c : f = 0
      · rw [c]
        exact fr_self
      · have u := wf_u hw (f := f) (by omega) f1
        rw [fr_up hw (by omega) (by omega) f1]
        exact ih _ u.1 (by omega) (by omega)
  exact fun f a b => key (f + 1).toNat f a (by omega) b
theorem gr_L {w L L' T : Int → Int} {mk c E Wd f : Int} (hc : ¬ c = 2) (h : g_row mk c E Wd w L T f) : g_row mk c E Wd w L' T f := by
  intro st wd p q p2 q2
  refine ml_cg (h st wd p q p2 q2) (fun u => ?_)
  unfold s_val v_of r_of
  simp only [if_neg hc]
theorem h_traceWays {L : Int} {S0 : Int → Int} {σ : x_S} (h : iN L S0 σ) : x_Sp 5 106 [xR 0 0] σ (fun r σ' => r = none ∧ tabK σ σ' ∧ (∀ k, ¬ k = 15 → σ' 0 0 k = σ 0 0 k) ∧ x_eqo [(0, 0), (30, 0), (31, 0), (32, 0)] σ σ' ∧ g_wayC (σ 51 0) (σ' 31 0) (σ' 30 0) ∧ iN L S0 σ') := by
  obtain ⟨hW, hT, _⟩ := id h
  obtain ⟨⟨hw, h100, hn, hq⟩, hM, hS⟩ := id hW
  obtain ⟨t1, t2, ⟨t3, t3'⟩, t4⟩ := id hT
  refine x_gen (fun Q hQ => ?_)
  by_cases c : σ 0 0 15 = 1
  · simp (disch := first | omega | (simp only [x_wtI, x_wtJ, x_wtR, x_wtN]; omega) | assumption | (simp (disch := omega) only [x_st_o, x_rd_ne]; first | assumption | omega) | (apply mir_eq; assumption; (intro c h1 h2; simp (disch := omega) only [x_st_o])) | (apply mis_eq; assumption; (intro c h1 h2; simp (disch := omega) only [x_st_o])) | rfl) only [sp_106, bk_106_0, bk_106_1, wp_ald0, wp_geti kd_0, wp_ifne, wr_0_8, wr_0_2, wp_geti kd_20, wk_88, wp_ic, wp_putz kd_0, wp_fall, wp_ret, x_clr_I, x_clr_J, x_clr_R, x_clr_U, ct_some, ct_none, lc_lt, lc_ge, lc_gt, lc_le, lc_eq, lc_r, xI_inj, xJ_inj, Option.some.injEq, eq_self, bi_r, bi_0, bi_1, bi_n, Classical.not_not, and_true, true_and, ite_true, ite_false, ↓reduceIte, ↓x_andl, z_le, z_nle, z_lt, z_nlt, z_eq, z_neq, if_pos, if_neg, x_andl, false_and, and_false, or_true, true_or, or_false, false_or, not_true, not_false_iff, x_rd_eq, x_rd_ne, x_st_o, Int.cast_ofNat_Int, Int.ofNat_zero, Int.ofNat_one, not_true_eq_false, not_false_eq_true, if_true, if_false, ite_self, and_self, Int.ofNat_eq_natCast, Int.tdiv_eq_ediv_of_nonneg, Int.tmod_eq_emod_of_nonneg, x_bm32, c]
    exact hQ _ _ ⟨rfl, tabK_refl, fun _ _ => rfl, eqo_refl, t3' c, h⟩
  · have c0 : σ 0 0 15 = 0 := by omega
    simp (disch := first | omega | (simp only [x_wtI, x_wtJ, x_wtR, x_wtN]; omega) | assumption | (simp (disch := omega) only [x_st_o, x_rd_ne]; first | assumption | omega) | (apply mir_eq; assumption; (intro c h1 h2; simp (disch := omega) only [x_st_o])) | (apply mis_eq; assumption; (intro c h1 h2; simp (disch := omega) only [x_st_o])) | rfl) only [sp_106, bk_106_0, bk_106_1, wp_ald0, wp_geti kd_0, wp_ifne, wr_0_8, wr_0_2, wp_geti kd_20, wk_88, wp_ic, wp_putz kd_0, wp_fall, wp_ret, x_clr_I, x_clr_J, x_clr_R, x_clr_U, ct_some, ct_none, lc_lt, lc_ge, lc_gt, lc_le, lc_eq, lc_r, xI_inj, xJ_inj, Option.some.injEq, eq_self, bi_r, bi_0, bi_1, bi_n, Classical.not_not, and_true, true_and, ite_true, ite_false, ↓reduceIte, ↓x_andl, z_le, z_nle, z_lt, z_nlt, z_eq, z_neq, if_pos, if_neg, x_andl, false_and, and_false, or_true, true_or, or_false, false_or, not_true, not_false_iff, x_rd_eq, x_rd_ne, x_st_o, Int.cast_ofNat_Int, Int.ofNat_zero, Int.ofNat_one, not_true_eq_false, not_false_eq_true, if_true, if_false, ite_self, and_self, Int.ofNat_eq_natCast, Int.tdiv_eq_ediv_of_nonneg, Int.tmod_eq_emod_of_nonneg, x_bm32, c0, hS.1.1, hS.1.2.1, hS.1.2.2.1]
    refine x_use (d := 0) (h_trace hM hw hn) ?_
    rintro r σ1 ⟨rfl, e1, g1⟩
    have n : ∀ c j, (c, j) ∉ [(30, 0), (31, 0), (32, 0)] → σ1 c j = σ c j := e1
    simp (disch := first | omega | (simp only [x_wtI, x_wtJ, x_wtR, x_wtN]; omega) | assumption | (simp (disch := omega) only [x_st_o, x_rd_ne]; first | assumption | omega) | (apply mir_eq; assumption; (intro c h1 h2; simp (disch := omega) only [x_st_o])) | (apply mis_eq; assumption; (intro c h1 h2; simp (disch := omega) only [x_st_o])) | rfl) only [bk_106_0, bk_106_1, wp_ald0, wp_geti kd_0, wp_ifne, wr_0_8, wr_0_2, wp_geti kd_20, wk_88, wp_ic, wp_putz kd_0, wp_fall, wp_ret, x_clr_I, x_clr_J, x_clr_R, x_clr_U, ct_some, ct_none, lc_lt, lc_ge, lc_gt, lc_le, lc_eq, lc_r, xI_inj, xJ_inj, Option.some.injEq, eq_self, bi_r, bi_0, bi_1, bi_n, Classical.not_not, and_true, true_and, ite_true, ite_false, ↓reduceIte, ↓x_andl, z_le, z_nle, z_lt, z_nlt, z_eq, z_neq, if_pos, if_neg, x_andl, false_and, and_false, or_true, true_or, or_false, false_or, not_true, not_false_iff, x_rd_eq, x_rd_ne, x_st_o, Int.cast_ofNat_Int, Int.ofNat_zero, Int.ofNat_one, not_true_eq_false, not_false_eq_true, if_true, if_false, ite_self, and_self, Int.ofNat_eq_natCast, Int.tdiv_eq_ediv_of_nonneg, Int.tmod_eq_emod_of_nonneg, x_bm32]
    have eK : x_eqo [(0, 0), (30, 0), (31, 0), (32, 0)] σ (x_st σ1 0 0 15 1) := eqo_st (by simp) (eqo_mono (by simp) e1)
    have e0 : ∀ k, ¬ k = 15 → x_st σ1 0 0 15 1 0 0 k = σ 0 0 k := fun k hk => by
      rw [x_rd_ne (by omega), n 0 0 (by simp)]
    have tk : tabK σ (x_st σ1 0 0 15 1) := ⟨eqo_mono (by decide) eK, fun k hk => e0 k (by omega), fun j k hj hk => by rw [eK 24 j (by simp)]⟩
    have gw : g_wayC (σ 51 0) (x_st σ1 0 0 15 1 31 0) (x_st σ1 0 0 15 1 30 0) := by
      rw [x_st_o (by omega), x_st_o (by omega)]
      exact g1
    refine hQ _ _ ⟨rfl, tk, e0, eK, gw, iN_tab h tk ?_⟩
    unfold iT
    rw [eK 51 0 (by simp), eK 25 0 (by simp), eK 25 1 (by simp), eK 25 2 (by simp), eK 26 2 (by simp), e0 13 (by omega), e0 14 (by omega), e0 16 (by omega)]
    exact ⟨t1, t2, ⟨Or.inr (by rw [x_rd_eq]), fun _ => gw⟩, t4⟩
theorem h_tab0 {L : Int} {S0 : Int → Int} {σ : x_S} (h : iN L S0 σ) : x_Sp 6 105 [xR 0 0, xI 0] σ (fun r σ' => r = some (xR 24 0) ∧ tabK σ σ' ∧ iN L S0 σ' ∧ σ' 0 0 13 = 1 ∧ cT 0 (σ 51 0) (σ' 25 0) (σ' 26 0)) := by
  obtain ⟨hW, hT, hF, _⟩ := id h
  obtain ⟨⟨hw, h100, hn, hq⟩, hM, hS⟩ := id hW
  obtain ⟨⟨t1, t1'⟩, t2, t3, t4⟩ := id hT
  refine x_gen (fun Q hQ => ?_)
  have n8 := hn.1
  by_cases c : σ 0 0 13 = 1
  · simp (disch := first | omega | (simp only [x_wtI, x_wtJ, x_wtR, x_wtN]; omega) | assumption | (simp (disch := omega) only [x_st_o, x_rd_ne]; first | assumption | omega) | (apply mir_eq; assumption; (intro c h1 h2; simp (disch := omega) only [x_st_o])) | (apply mis_eq; assumption; (intro c h1 h2; simp (disch := omega) only [x_st_o])) | rfl) only [sp_105, bk_105_0, bk_105_1, bk_105_2, bk_105_3, bk_105_4, bk_105_5, wp_ild1, wp_ic, wp_icne, wp_ald0, wp_geti kd_0, wp_ifne, wr_0_5, wk_1, wp_putz kd_0, wp_fall, wp_aret, wk_106, wr_0_6, wr_0_8, wr_29_1, wk_10, wr_0_2, wp_geti kd_20, wr_0_4, x_clr_I, x_clr_J, x_clr_R, x_clr_U, ct_some, ct_none, lc_lt, lc_ge, lc_gt, lc_le, lc_eq, lc_r, xI_inj, xJ_inj, Option.some.injEq, eq_self, bi_r, bi_0, bi_1, bi_n, Classical.not_not, and_true, true_and, ite_true, ite_false, ↓reduceIte, ↓x_andl, z_le, z_nle, z_lt, z_nlt, z_eq, z_neq, if_pos, if_neg, x_andl, false_and, and_false, or_true, true_or, or_false, false_or, not_true, not_false_iff, x_rd_eq, x_rd_ne, x_st_o, Int.cast_ofNat_Int, Int.ofNat_zero, Int.ofNat_one, not_true_eq_false, not_false_eq_true, if_true, if_false, ite_self, and_self, Int.ofNat_eq_natCast, Int.tdiv_eq_ediv_of_nonneg, Int.tmod_eq_emod_of_nonneg, x_bm32, c]
    exact hQ _ _ ⟨rfl, tabK_refl, h, c, gr_bd hw hn (by omega) (fun z => by omega) (fun f f0 f1 _ => gr_L (by omega) (t1' c f (by omega) f1))⟩
  · have c0 : σ 0 0 13 = 0 := by omega
    simp (disch := first | omega | (simp only [x_wtI, x_wtJ, x_wtR, x_wtN]; omega) | assumption | (simp (disch := omega) only [x_st_o, x_rd_ne]; first | assumption | omega) | (apply mir_eq; assumption; (intro c h1 h2; simp (disch := omega) only [x_st_o])) | (apply mis_eq; assumption; (intro c h1 h2; simp (disch := omega) only [x_st_o])) | rfl) only [sp_105, bk_105_0, bk_105_1, bk_105_2, bk_105_3, bk_105_4, bk_105_5, wp_ild1, wp_ic, wp_icne, wp_ald0, wp_geti kd_0, wp_ifne, wr_0_5, wk_1, wp_putz kd_0, wp_fall, wp_aret, wk_106, wr_0_6, wr_0_8, wr_29_1, wk_10, wr_0_2, wp_geti kd_20, wr_0_4, x_clr_I, x_clr_J, x_clr_R, x_clr_U, ct_some, ct_none, lc_lt, lc_ge, lc_gt, lc_le, lc_eq, lc_r, xI_inj, xJ_inj, Option.some.injEq, eq_self, bi_r, bi_0, bi_1, bi_n, Classical.not_not, and_true, true_and, ite_true, ite_false, ↓reduceIte, ↓x_andl, z_le, z_nle, z_lt, z_nlt, z_eq, z_neq, if_pos, if_neg, x_andl, false_and, and_false, or_true, true_or, or_false, false_or, not_true, not_false_iff, x_rd_eq, x_rd_ne, x_st_o, Int.cast_ofNat_Int, Int.ofNat_zero, Int.ofNat_one, not_true_eq_false, not_false_eq_true, if_true, if_false, ite_self, and_self, Int.ofNat_eq_natCast, Int.tdiv_eq_ediv_of_nonneg, Int.tmod_eq_emod_of_nonneg, x_bm32, c0]
    refine x_use (d := 0) (h_fillFrom (j := 0) (c := 0) (E := 5) (Wd := 4) (top := 0) hM (by omega) hw (by omega) (by omega) hF.1.2.2 (by omega) hF.1.1 (by omega) hF.1.2.1 (by omega) rfl (fun f _ _ _ z => by omega)) ?_
    rintro r σ1 ⟨rfl, e1, k1, g1⟩
    simp (disch := first | omega | (simp only [x_wtI, x_wtJ, x_wtR, x_wtN]; omega) | assumption | (simp (disch := omega) only [x_st_o, x_rd_ne]; first | assumption | omega) | (apply mir_eq; assumption; (intro c h1 h2; simp (disch := omega) only [x_st_o])) | (apply mis_eq; assumption; (intro c h1 h2; simp (disch := omega) only [x_st_o])) | rfl) only [bk_105_0, bk_105_1, bk_105_2, bk_105_3, bk_105_4, bk_105_5, wp_ild1, wp_ic, wp_icne, wp_ald0, wp_geti kd_0, wp_ifne, wr_0_5, wk_1, wp_putz kd_0, wp_fall, wp_aret, wk_106, wr_0_6, wr_0_8, wr_29_1, wk_10, wr_0_2, wp_geti kd_20, wr_0_4, x_clr_I, x_clr_J, x_clr_R, x_clr_U, ct_some, ct_none, lc_lt, lc_ge, lc_gt, lc_le, lc_eq, lc_r, xI_inj, xJ_inj, Option.some.injEq, eq_self, bi_r, bi_0, bi_1, bi_n, Classical.not_not, and_true, true_and, ite_true, ite_false, ↓reduceIte, ↓x_andl, z_le, z_nle, z_lt, z_nlt, z_eq, z_neq, if_pos, if_neg, x_andl, false_and, and_false, or_true, true_or, or_false, false_or, not_true, not_false_iff, x_rd_eq, x_rd_ne, x_st_o, Int.cast_ofNat_Int, Int.ofNat_zero, Int.ofNat_one, not_true_eq_false, not_false_eq_true, if_true, if_false, ite_self, and_self, Int.ofNat_eq_natCast, Int.tdiv_eq_ediv_of_nonneg, Int.tmod_eq_emod_of_nonneg, x_bm32]
    have eK : x_eqo [(0, 0), (24, 0), (25, 0), (27, 0), (28, 0)] σ (x_st σ1 0 0 13 1) := eqo_st (by simp) (eqo_mono (by simp) e1)
    have e0 : ∀ k, ¬ k = 13 → x_st σ1 0 0 13 1 0 0 k = σ 0 0 k := fun k hk => by
      rw [x_rd_ne (by omega), e1 0 0 (by simp)]
    have tk : tabK σ (x_st σ1 0 0 13 1) := ⟨eqo_mono (by decide) eK, fun k hk => e0 k (by omega), fun j k hj hk => by
      by_cases cj : j = 0
      · subst cj
        rw [x_st_o (by omega)]
        exact k1 k hk
      · rw [eK 24 j (by simp; omega)]⟩
    have gg : ∀ f, 0 ≤ f → f < σ 51 0 0 → g_row 9223372036854775807 0 5 4 (σ 51 0) (σ 26 0) (x_st σ1 0 0 13 1 25 0) f := by
      intro f f0 f1
      have o := wf_f hw f0 f1
      unfold wf_one at o
      rw [x_st_o (by omega)]
      exact (g1 f f0 f1 (fr_0 hw f f0 f1) (by omega)).1
    have f13 : x_st σ1 0 0 13 1 0 0 13 = 1 := x_rd_eq
    refine hQ _ _ ⟨rfl, tk, iN_tab h tk ?_, f13, gr_bd hw hn (by omega) (fun z => by omega) (fun f f0 f1 _ => gr_L (by omega) (gg f (by omega) f1))⟩
    unfold iT
    rw [f13, eK 51 0 (by simp), eK 25 1 (by simp), eK 25 2 (by simp), eK 26 2 (by simp), eK 30 0 (by simp), eK 31 0 (by simp), e0 14 (by omega), e0 15 (by omega), e0 16 (by omega)]
    exact ⟨⟨Or.inr rfl, fun _ f f0 f1 => gr_L (by omega) (gg f f0 f1)⟩, t2, t3, t4⟩
theorem h_tab1 {L : Int} {S0 : Int → Int} {σ : x_S} (h : iN L S0 σ) : x_Sp 6 105 [xR 0 0, xI 1] σ (fun r σ' => r = some (xR 24 1) ∧ tabK σ σ' ∧ iN L S0 σ' ∧ cT 1 (σ 51 0) (σ' 25 1) (σ' 26 1)) := by
  obtain ⟨hW, hT, hF, _⟩ := id h
  obtain ⟨⟨hw, h100, hn, hq⟩, hM, hS⟩ := id hW
  obtain ⟨t1, ⟨t2, t2'⟩, t3, t4⟩ := id hT
  refine x_gen (fun Q hQ => ?_)
  have n8 := hn.1
  by_cases c : σ 0 0 14 = 1
  · simp (disch := first | omega | (simp only [x_wtI, x_wtJ, x_wtR, x_wtN]; omega) | assumption | (simp (disch := omega) only [x_st_o, x_rd_ne]; first | assumption | omega) | (apply mir_eq; assumption; (intro c h1 h2; simp (disch := omega) only [x_st_o])) | (apply mis_eq; assumption; (intro c h1 h2; simp (disch := omega) only [x_st_o])) | rfl) only [sp_105, bk_105_0, bk_105_1, bk_105_2, bk_105_3, bk_105_4, bk_105_5, wp_ild1, wp_ic, wp_icne, wp_ald0, wp_geti kd_0, wp_ifne, wr_0_5, wk_1, wp_putz kd_0, wp_fall, wp_aret, wk_106, wr_0_6, wr_0_8, wr_29_1, wk_10, wr_0_2, wp_geti kd_20, wr_0_4, x_clr_I, x_clr_J, x_clr_R, x_clr_U, ct_some, ct_none, lc_lt, lc_ge, lc_gt, lc_le, lc_eq, lc_r, xI_inj, xJ_inj, Option.some.injEq, eq_self, bi_r, bi_0, bi_1, bi_n, Classical.not_not, and_true, true_and, ite_true, ite_false, ↓reduceIte, ↓x_andl, z_le, z_nle, z_lt, z_nlt, z_eq, z_neq, if_pos, if_neg, x_andl, false_and, and_false, or_true, true_or, or_false, false_or, not_true, not_false_iff, x_rd_eq, x_rd_ne, x_st_o, Int.cast_ofNat_Int, Int.ofNat_zero, Int.ofNat_one, not_true_eq_false, not_false_eq_true, if_true, if_false, ite_self, and_self, Int.ofNat_eq_natCast, Int.tdiv_eq_ediv_of_nonneg, Int.tmod_eq_emod_of_nonneg, x_bm32, c]
    exact hQ _ _ ⟨rfl, tabK_refl, h, gr_bd hw hn (by omega) (fun z => by omega) (fun f f0 f1 _ => gr_L (by omega) (t2' c f (by omega) f1))⟩
  · have c0 : σ 0 0 14 = 0 := by omega
    simp (disch := first | omega | (simp only [x_wtI, x_wtJ, x_wtR, x_wtN]; omega) | assumption | (simp (disch := omega) only [x_st_o, x_rd_ne]; first | assumption | omega) | (apply mir_eq; assumption; (intro c h1 h2; simp (disch := omega) only [x_st_o])) | (apply mis_eq; assumption; (intro c h1 h2; simp (disch := omega) only [x_st_o])) | rfl) only [sp_105, bk_105_0, bk_105_1, bk_105_2, bk_105_3, bk_105_4, bk_105_5, wp_ild1, wp_ic, wp_icne, wp_ald0, wp_geti kd_0, wp_ifne, wr_0_5, wk_1, wp_putz kd_0, wp_fall, wp_aret, wk_106, wr_0_6, wr_0_8, wr_29_1, wk_10, wr_0_2, wp_geti kd_20, wr_0_4, x_clr_I, x_clr_J, x_clr_R, x_clr_U, ct_some, ct_none, lc_lt, lc_ge, lc_gt, lc_le, lc_eq, lc_r, xI_inj, xJ_inj, Option.some.injEq, eq_self, bi_r, bi_0, bi_1, bi_n, Classical.not_not, and_true, true_and, ite_true, ite_false, ↓reduceIte, ↓x_andl, z_le, z_nle, z_lt, z_nlt, z_eq, z_neq, if_pos, if_neg, x_andl, false_and, and_false, or_true, true_or, or_false, false_or, not_true, not_false_iff, x_rd_eq, x_rd_ne, x_st_o, Int.cast_ofNat_Int, Int.ofNat_zero, Int.ofNat_one, not_true_eq_false, not_false_eq_true, if_true, if_false, ite_self, and_self, Int.ofNat_eq_natCast, Int.tdiv_eq_ediv_of_nonneg, Int.tmod_eq_emod_of_nonneg, x_bm32, c0]
    refine x_use (d := 0) (h_fillFrom (j := 1) (c := 1) (E := 5) (Wd := 4) (top := 0) hM (by omega) hw (by omega) (by omega) hF.2.1.2.2 (by omega) hF.2.1.1 (by omega) hF.2.1.2.1 (by omega) rfl (fun f _ _ _ z => by omega)) ?_
    rintro r σ1 ⟨rfl, e1, k1, g1⟩
    simp (disch := first | omega | (simp only [x_wtI, x_wtJ, x_wtR, x_wtN]; omega) | assumption | (simp (disch := omega) only [x_st_o, x_rd_ne]; first | assumption | omega) | (apply mir_eq; assumption; (intro c h1 h2; simp (disch := omega) only [x_st_o])) | (apply mis_eq; assumption; (intro c h1 h2; simp (disch := omega) only [x_st_o])) | rfl) only [bk_105_0, bk_105_1, bk_105_2, bk_105_3, bk_105_4, bk_105_5, wp_ild1, wp_ic, wp_icne, wp_ald0, wp_geti kd_0, wp_ifne, wr_0_5, wk_1, wp_putz kd_0, wp_fall, wp_aret, wk_106, wr_0_6, wr_0_8, wr_29_1, wk_10, wr_0_2, wp_geti kd_20, wr_0_4, x_clr_I, x_clr_J, x_clr_R, x_clr_U, ct_some, ct_none, lc_lt, lc_ge, lc_gt, lc_le, lc_eq, lc_r, xI_inj, xJ_inj, Option.some.injEq, eq_self, bi_r, bi_0, bi_1, bi_n, Classical.not_not, and_true, true_and, ite_true, ite_false, ↓reduceIte, ↓x_andl, z_le, z_nle, z_lt, z_nlt, z_eq, z_neq, if_pos, if_neg, x_andl, false_and, and_false, or_true, true_or, or_false, false_or, not_true, not_false_iff, x_rd_eq, x_rd_ne, x_st_o, Int.cast_ofNat_Int, Int.ofNat_zero, Int.ofNat_one, not_true_eq_false, not_false_eq_true, if_true, if_false, ite_self, and_self, Int.ofNat_eq_natCast, Int.tdiv_eq_ediv_of_nonneg, Int.tmod_eq_emod_of_nonneg, x_bm32]
    have eK : x_eqo [(0, 0), (24, 1), (25, 1), (27, 1), (28, 1)] σ (x_st σ1 0 0 14 1) := eqo_st (by simp) (eqo_mono (by simp) e1)
    have e0 : ∀ k, ¬ k = 14 → x_st σ1 0 0 14 1 0 0 k = σ 0 0 k := fun k hk => by
      rw [x_rd_ne (by omega), e1 0 0 (by simp)]
    have tk : tabK σ (x_st σ1 0 0 14 1) := ⟨eqo_mono (by decide) eK, fun k hk => e0 k (by omega), fun j k hj hk => by
      by_cases cj : j = 1
      · subst cj
        rw [x_st_o (by omega)]
        exact k1 k hk
      · rw [eK 24 j (by simp; omega)]⟩
    have gg : ∀ f, 0 ≤ f → f < σ 51 0 0 → g_row 9223372036854775807 1 5 4 (σ 51 0) (σ 26 1) (x_st σ1 0 0 14 1 25 1) f := by
      intro f f0 f1
      have o := wf_f hw f0 f1
      unfold wf_one at o
      rw [x_st_o (by omega)]
      exact (g1 f f0 f1 (fr_0 hw f f0 f1) (by omega)).1
    have f14 : x_st σ1 0 0 14 1 0 0 14 = 1 := x_rd_eq
    refine hQ _ _ ⟨rfl, tk, iN_tab h tk ?_, gr_bd hw hn (by omega) (fun z => by omega) (fun f f0 f1 _ => gr_L (by omega) (gg f (by omega) f1))⟩
    unfold iT
    rw [f14, eK 51 0 (by simp), eK 25 0 (by simp), eK 25 2 (by simp), eK 26 2 (by simp), eK 30 0 (by simp), eK 31 0 (by simp), e0 13 (by omega), e0 15 (by omega), e0 16 (by omega)]
    exact ⟨t1, ⟨Or.inr rfl, fun _ f f0 f1 => gr_L (by omega) (gg f f0 f1)⟩, t3, t4⟩
theorem h_tab2 {L : Int} {S0 : Int → Int} {σ : x_S} (h : iN L S0 σ) : x_Sp 6 105 [xR 0 0, xI 2] σ (fun r σ' => r = some (xR 24 2) ∧ tabK σ σ' ∧ iN L S0 σ' ∧ cT 2 (σ 51 0) (σ' 25 2) (σ' 26 2)) := by
  obtain ⟨hW, hT, hF, _⟩ := id h
  obtain ⟨⟨hw, h100, hn, hq⟩, hM, hS⟩ := id hW
  obtain ⟨t1, t2, t3, t4, t4'⟩ := id hT
  refine x_gen (fun Q hQ => ?_)
  have n8 := hn.1
  have a := wf_h hw
  unfold wf_hdr at a
  by_cases c : σ 0 0 16 = 1
  · obtain ⟨Y, gY, gr⟩ := t4' c
    simp (disch := first | omega | (simp only [x_wtI, x_wtJ, x_wtR, x_wtN]; omega) | assumption | (simp (disch := omega) only [x_st_o, x_rd_ne]; first | assumption | omega) | (apply mir_eq; assumption; (intro c h1 h2; simp (disch := omega) only [x_st_o])) | (apply mis_eq; assumption; (intro c h1 h2; simp (disch := omega) only [x_st_o])) | rfl) only [sp_105, bk_105_0, bk_105_1, bk_105_2, bk_105_3, bk_105_4, bk_105_5, wp_ild1, wp_ic, wp_icne, wp_ald0, wp_geti kd_0, wp_ifne, wr_0_5, wk_1, wp_putz kd_0, wp_fall, wp_aret, wk_106, wr_0_6, wr_0_8, wr_29_1, wk_10, wr_0_2, wp_geti kd_20, wr_0_4, x_clr_I, x_clr_J, x_clr_R, x_clr_U, ct_some, ct_none, lc_lt, lc_ge, lc_gt, lc_le, lc_eq, lc_r, xI_inj, xJ_inj, Option.some.injEq, eq_self, bi_r, bi_0, bi_1, bi_n, Classical.not_not, and_true, true_and, ite_true, ite_false, ↓reduceIte, ↓x_andl, z_le, z_nle, z_lt, z_nlt, z_eq, z_neq, if_pos, if_neg, x_andl, false_and, and_false, or_true, true_or, or_false, false_or, not_true, not_false_iff, x_rd_eq, x_rd_ne, x_st_o, Int.cast_ofNat_Int, Int.ofNat_zero, Int.ofNat_one, not_true_eq_false, not_false_eq_true, if_true, if_false, ite_self, and_self, Int.ofNat_eq_natCast, Int.tdiv_eq_ediv_of_nonneg, Int.tmod_eq_emod_of_nonneg, x_bm32, c]
    exact hQ _ _ ⟨rfl, tabK_refl, h, gr_bd hw hn (by omega) (fun z => ⟨Y, gY⟩) (fun f f0 f1 fr => gr f (by omega) f1 fr)⟩
  · have c0 : σ 0 0 16 = 0 := by omega
    simp (disch := first | omega | (simp only [x_wtI, x_wtJ, x_wtR, x_wtN]; omega) | assumption | (simp (disch := omega) only [x_st_o, x_rd_ne]; first | assumption | omega) | (apply mir_eq; assumption; (intro c h1 h2; simp (disch := omega) only [x_st_o])) | (apply mis_eq; assumption; (intro c h1 h2; simp (disch := omega) only [x_st_o])) | rfl) only [sp_105, bk_105_0, bk_105_1, bk_105_2, bk_105_3, bk_105_4, bk_105_5, wp_ild1, wp_ic, wp_icne, wp_ald0, wp_geti kd_0, wp_ifne, wr_0_5, wk_1, wp_putz kd_0, wp_fall, wp_aret, wk_106, wr_0_6, wr_0_8, wr_29_1, wk_10, wr_0_2, wp_geti kd_20, wr_0_4, x_clr_I, x_clr_J, x_clr_R, x_clr_U, ct_some, ct_none, lc_lt, lc_ge, lc_gt, lc_le, lc_eq, lc_r, xI_inj, xJ_inj, Option.some.injEq, eq_self, bi_r, bi_0, bi_1, bi_n, Classical.not_not, and_true, true_and, ite_true, ite_false, ↓reduceIte, ↓x_andl, z_le, z_nle, z_lt, z_nlt, z_eq, z_neq, if_pos, if_neg, x_andl, false_and, and_false, or_true, true_or, or_false, false_or, not_true, not_false_iff, x_rd_eq, x_rd_ne, x_st_o, Int.cast_ofNat_Int, Int.ofNat_zero, Int.ofNat_one, not_true_eq_false, not_false_eq_true, if_true, if_false, ite_self, and_self, Int.ofNat_eq_natCast, Int.tdiv_eq_ediv_of_nonneg, Int.tmod_eq_emod_of_nonneg, x_bm32, c0]
    refine x_use (d := 0) (h_traceWays h) ?_
    rintro r σ1 ⟨rfl, tk1, k1, e1, g1, i1⟩
    have hM1 : mir σ1 1 (σ 51 0) := mir_eq hM (fun c q1 q2 => e1 c 1 (by simp))
    have hS1 : mis σ1 1 (σ 51 0) := mis_eq hS (fun c q1 q2 => e1 c 1 (by simp))
    simp (disch := first | omega | (simp only [x_wtI, x_wtJ, x_wtR, x_wtN]; omega) | assumption | (simp (disch := omega) only [x_st_o, x_rd_ne]; first | assumption | omega) | (apply mir_eq; assumption; (intro c h1 h2; simp (disch := omega) only [x_st_o])) | (apply mis_eq; assumption; (intro c h1 h2; simp (disch := omega) only [x_st_o])) | rfl) only [bk_105_0, bk_105_1, bk_105_2, bk_105_3, bk_105_4, bk_105_5, wp_ild1, wp_ic, wp_icne, wp_ald0, wp_geti kd_0, wp_ifne, wr_0_5, wk_1, wp_putz kd_0, wp_fall, wp_aret, wk_106, wr_0_6, wr_0_8, wr_29_1, wk_10, wr_0_2, wp_geti kd_20, wr_0_4, x_clr_I, x_clr_J, x_clr_R, x_clr_U, ct_some, ct_none, lc_lt, lc_ge, lc_gt, lc_le, lc_eq, lc_r, xI_inj, xJ_inj, Option.some.injEq, eq_self, bi_r, bi_0, bi_1, bi_n, Classical.not_not, and_true, true_and, ite_true, ite_false, ↓reduceIte, ↓x_andl, z_le, z_nle, z_lt, z_nlt, z_eq, z_neq, if_pos, if_neg, x_andl, false_and, and_false, or_true, true_or, or_false, false_or, not_true, not_false_iff, x_rd_eq, x_rd_ne, x_st_o, Int.cast_ofNat_Int, Int.ofNat_zero, Int.ofNat_one, not_true_eq_false, not_false_eq_true, if_true, if_false, ite_self, and_self, Int.ofNat_eq_natCast, Int.tdiv_eq_ediv_of_nonneg, Int.tmod_eq_emod_of_nonneg, x_bm32]
    simp (disch := first | omega | (simp only [x_wtI, x_wtJ, x_wtR, x_wtN]; omega) | assumption | (simp (disch := omega) only [x_st_o, x_rd_ne]; first | assumption | omega) | (apply mir_eq; assumption; (intro c h1 h2; simp (disch := omega) only [x_st_o])) | (apply mis_eq; assumption; (intro c h1 h2; simp (disch := omega) only [x_st_o])) | rfl) only [sp_10, bk_10_0, wp_ald1, wp_ic, wp_ald0, wr_24_5, wp_acpy kd_30 kd_26 (Or.inr rfl), wp_ret, x_clr_I, x_clr_J, x_clr_R, x_clr_U, ct_some, ct_none, lc_lt, lc_ge, lc_gt, lc_le, lc_eq, lc_r, xI_inj, xJ_inj, Option.some.injEq, eq_self, bi_r, bi_0, bi_1, bi_n, Classical.not_not, and_true, true_and, ite_true, ite_false, ↓reduceIte, ↓x_andl, z_le, z_nle, z_lt, z_nlt, z_eq, z_neq, if_pos, if_neg, x_andl, false_and, and_false, or_true, true_or, or_false, false_or, not_true, not_false_iff, x_rd_eq, x_rd_ne, x_st_o, Int.cast_ofNat_Int, Int.ofNat_zero, Int.ofNat_one, not_true_eq_false, not_false_eq_true, if_true, if_false, ite_self, and_self, Int.ofNat_eq_natCast, Int.tdiv_eq_ediv_of_nonneg, Int.tmod_eq_emod_of_nonneg, x_bm32]
    simp (disch := first | omega | (simp only [x_wtI, x_wtJ, x_wtR, x_wtN]; omega) | assumption | (simp (disch := omega) only [x_st_o, x_rd_ne]; first | assumption | omega) | (apply mir_eq; assumption; (intro c h1 h2; simp (disch := omega) only [x_st_o])) | (apply mis_eq; assumption; (intro c h1 h2; simp (disch := omega) only [x_st_o])) | rfl) only [bk_105_0, bk_105_1, bk_105_2, bk_105_3, bk_105_4, bk_105_5, wp_ild1, wp_ic, wp_icne, wp_ald0, wp_geti kd_0, wp_ifne, wr_0_5, wk_1, wp_putz kd_0, wp_fall, wp_aret, wk_106, wr_0_6, wr_0_8, wr_29_1, wk_10, wr_0_2, wp_geti kd_20, wr_0_4, x_clr_I, x_clr_J, x_clr_R, x_clr_U, ct_some, ct_none, lc_lt, lc_ge, lc_gt, lc_le, lc_eq, lc_r, xI_inj, xJ_inj, Option.some.injEq, eq_self, bi_r, bi_0, bi_1, bi_n, Classical.not_not, and_true, true_and, ite_true, ite_false, ↓reduceIte, ↓x_andl, z_le, z_nle, z_lt, z_nlt, z_eq, z_neq, if_pos, if_neg, x_andl, false_and, and_false, or_true, true_or, or_false, false_or, not_true, not_false_iff, x_rd_eq, x_rd_ne, x_st_o, Int.cast_ofNat_Int, Int.ofNat_zero, Int.ofNat_one, not_true_eq_false, not_false_eq_true, if_true, if_false, ite_self, and_self, Int.ofNat_eq_natCast, Int.tdiv_eq_ediv_of_nonneg, Int.tmod_eq_emod_of_nonneg, x_bm32]
    generalize hσ2 : x_cp σ1 30 0 0 26 2 0 40 = σ2
    have e2 : x_eqo [(26, 2)] σ1 σ2 := by
      subst hσ2
      exact eqo_cp (by simp) eqo_refl
    have l2 : ∀ e, 0 ≤ e → e < 40 → σ2 26 2 e = σ1 30 0 e := by
      subst hσ2
      intro e p q
      rw [x_cp_in (by omega), show (0 : Int) + (e - 0) = e by omega]
    have hM2 : mir σ2 1 (σ 51 0) := mir_eq hM1 (fun c q1 q2 => e2 c 1 (by simp))
    have hS2 : mis σ2 1 (σ 51 0) := mis_eq hS1 (fun c q1 q2 => e2 c 1 (by simp))
    have s24 : ∀ k, σ2 24 2 k = σ 24 2 k := fun k => by rw [e2 24 2 (by simp), e1 24 2 (by simp)]
    have gw : g_wayC (σ 51 0) (σ1 31 0) (σ2 26 2) := ⟨g1.1, fun e p q fr ke => by
      obtain ⟨z, mz, ez⟩ := g1.2 e p q fr ke
      exact ⟨z, mz, by rw [l2 e (by omega) (by omega)]; exact ez⟩⟩
    simp (disch := first | omega | (simp only [x_wtI, x_wtJ, x_wtR, x_wtN]; omega) | assumption | (simp (disch := omega) only [x_st_o, x_rd_ne]; first | assumption | omega) | (apply mir_eq; assumption; (intro c h1 h2; simp (disch := omega) only [x_st_o])) | (apply mis_eq; assumption; (intro c h1 h2; simp (disch := omega) only [x_st_o])) | rfl) only [bk_105_0, bk_105_1, bk_105_2, bk_105_3, bk_105_4, bk_105_5, wp_ild1, wp_ic, wp_icne, wp_ald0, wp_geti kd_0, wp_ifne, wr_0_5, wk_1, wp_putz kd_0, wp_fall, wp_aret, wk_106, wr_0_6, wr_0_8, wr_29_1, wk_10, wr_0_2, wp_geti kd_20, wr_0_4, x_clr_I, x_clr_J, x_clr_R, x_clr_U, ct_some, ct_none, lc_lt, lc_ge, lc_gt, lc_le, lc_eq, lc_r, xI_inj, xJ_inj, Option.some.injEq, eq_self, bi_r, bi_0, bi_1, bi_n, Classical.not_not, and_true, true_and, ite_true, ite_false, ↓reduceIte, ↓x_andl, z_le, z_nle, z_lt, z_nlt, z_eq, z_neq, if_pos, if_neg, x_andl, false_and, and_false, or_true, true_or, or_false, false_or, not_true, not_false_iff, x_rd_eq, x_rd_ne, x_st_o, Int.cast_ofNat_Int, Int.ofNat_zero, Int.ofNat_one, not_true_eq_false, not_false_eq_true, if_true, if_false, ite_self, and_self, Int.ofNat_eq_natCast, Int.tdiv_eq_ediv_of_nonneg, Int.tmod_eq_emod_of_nonneg, x_bm32, hS2.1.1]
    refine x_use (d := 0) (h_fillFrom (j := 2) (c := 2) (E := 5) (Wd := 4) (top := σ 51 0 8) hM2 (by omega) hw n8.1 n8.2 (by rw [s24]; exact hF.2.2.2.2) (by omega) (by rw [s24]; exact hF.2.2.1) (by omega) (by rw [s24]; exact hF.2.2.2.1) (by omega) rfl (fun f f0 f1 fr _ pe => by
      have o := wf_f hw f0 f1
      unfold wf_one at o
      have ge : σ 51 0 8 ≤ f := by
        by_cases q : f < σ 51 0 8
        · exact absurd fr (fr_lt q)
        · omega
      have := (wayC_b hw hn gw).2 f ge f1 fr (pe.elim id (fun z => by omega))
      omega)) ?_
    rintro r σ3 ⟨rfl, e3, k3, g3⟩
    simp (disch := first | omega | (simp only [x_wtI, x_wtJ, x_wtR, x_wtN]; omega) | assumption | (simp (disch := omega) only [x_st_o, x_rd_ne]; first | assumption | omega) | (apply mir_eq; assumption; (intro c h1 h2; simp (disch := omega) only [x_st_o])) | (apply mis_eq; assumption; (intro c h1 h2; simp (disch := omega) only [x_st_o])) | rfl) only [bk_105_0, bk_105_1, bk_105_2, bk_105_3, bk_105_4, bk_105_5, wp_ild1, wp_ic, wp_icne, wp_ald0, wp_geti kd_0, wp_ifne, wr_0_5, wk_1, wp_putz kd_0, wp_fall, wp_aret, wk_106, wr_0_6, wr_0_8, wr_29_1, wk_10, wr_0_2, wp_geti kd_20, wr_0_4, x_clr_I, x_clr_J, x_clr_R, x_clr_U, ct_some, ct_none, lc_lt, lc_ge, lc_gt, lc_le, lc_eq, lc_r, xI_inj, xJ_inj, Option.some.injEq, eq_self, bi_r, bi_0, bi_1, bi_n, Classical.not_not, and_true, true_and, ite_true, ite_false, ↓reduceIte, ↓x_andl, z_le, z_nle, z_lt, z_nlt, z_eq, z_neq, if_pos, if_neg, x_andl, false_and, and_false, or_true, true_or, or_false, false_or, not_true, not_false_iff, x_rd_eq, x_rd_ne, x_st_o, Int.cast_ofNat_Int, Int.ofNat_zero, Int.ofNat_one, not_true_eq_false, not_false_eq_true, if_true, if_false, ite_self, and_self, Int.ofNat_eq_natCast, Int.tdiv_eq_ediv_of_nonneg, Int.tmod_eq_emod_of_nonneg, x_bm32]
    have eK : x_eqo [(0, 0), (24, 2), (25, 2), (26, 2), (27, 2), (28, 2), (30, 0), (31, 0), (32, 0)] σ (x_st σ3 0 0 16 1) := eqo_st (by simp) (eqo_trans (eqo_mono (by simp) e1) (eqo_trans (eqo_mono (by simp) e2) (eqo_mono (by simp) e3)))
    have e0 : ∀ k, ¬ k = 16 → x_st σ3 0 0 16 1 0 0 k = σ1 0 0 k := fun k hk => by
      rw [x_rd_ne (by omega), e3 0 0 (by simp), e2 0 0 (by simp)]
    have tk : tabK σ (x_st σ3 0 0 16 1) := ⟨eqo_mono (by decide) eK, fun k hk => by rw [e0 k (by omega), k1 k (by omega)], fun j k hj hk => by
      by_cases cj : j = 2
      · subst cj
        rw [x_st_o (by omega), k3 k hk, s24]
      · rw [eK 24 j (by simp; omega)]⟩
    have l3 : x_st σ3 0 0 16 1 26 2 = σ2 26 2 := by rw [x_st_o (by omega), e3 26 2 (by simp)]
    have y3 : x_st σ3 0 0 16 1 31 0 = σ1 31 0 := by rw [x_st_o (by omega), e3 31 0 (by simp), e2 31 0 (by simp)]
    have z3 : x_st σ3 0 0 16 1 30 0 = σ1 30 0 := by rw [x_st_o (by omega), e3 30 0 (by simp), e2 30 0 (by simp)]
    have gg : ∀ f, 0 ≤ f → f < σ 51 0 0 → p_fr (σ 51 0) (σ 51 0 8) f → g_row 9223372036854775807 2 5 4 (σ 51 0) (x_st σ3 0 0 16 1 26 2) (x_st σ3 0 0 16 1 25 2) f := by
      intro f f0 f1 fr
      have o := wf_f hw f0 f1
      unfold wf_one at o
      have ge : σ 51 0 8 ≤ f := by
        by_cases q : f < σ 51 0 8
        · exact absurd fr (fr_lt q)
        · omega
      rw [l3, x_st_o (by omega)]
      exact (g3 f ge f1 fr (by omega)).1
    have f16 : x_st σ3 0 0 16 1 0 0 16 = 1 := x_rd_eq
    have gw3 : g_wayC (σ 51 0) (σ1 31 0) (x_st σ3 0 0 16 1 26 2) := by rw [l3]; exact gw
    refine hQ _ _ ⟨rfl, tk, iN_tab h tk ?_, gr_bd hw hn (by omega) (fun z => ⟨_, gw3⟩) (fun f f0 f1 fr => gg f (by omega) f1 fr)⟩
    obtain ⟨u1, u2, u3, u4⟩ := i1.2.1
    rw [e1 51 0 (by simp)] at u1 u2 u3
    unfold iT
    rw [f16, eK 51 0 (by simp), eK 25 0 (by simp), eK 25 1 (by simp), y3, z3, e0 13 (by omega), e0 14 (by omega), e0 15 (by omega)]
    rw [e1 25 0 (by simp)] at u1
    rw [e1 25 1 (by simp)] at u2
    exact ⟨u1, u2, u3, Or.inr rfl, fun _ => ⟨_, gw3, fun f f0 f1 fr => gg f f0 f1 fr⟩⟩
theorem h_tab {L : Int} {S0 : Int → Int} {σ : x_S} {j : Nat} {c : Int} (h : iN L S0 σ) (hj : j < 3) (hc : c = j) : x_Sp 6 105 [xR 0 0, xI c] σ (fun r σ' => r = some (xR 24 j) ∧ tabK σ σ' ∧ iN L S0 σ' ∧ (j = 0 → σ' 0 0 13 = 1) ∧ cT c (σ 51 0) (σ' 25 j) (σ' 26 j)) := by
  have : j = 0 ∨ j = 1 ∨ j = 2 := by omega
  rcases this with rfl | rfl | rfl
  · have e : c = 0 := by omega
    subst e
    refine x_use (d := 0) (h_tab0 h) ?_
    rintro r σ' ⟨a, b, c, d, e⟩
    exact ⟨a, b, c, fun _ => d, e⟩
  · have e : c = 1 := by omega
    subst e
    refine x_use (d := 0) (h_tab1 h) ?_
    rintro r σ' ⟨a, b, c, e⟩
    exact ⟨a, b, c, fun z => by omega, e⟩
  · have e : c = 2 := by omega
    subst e
    refine x_use (d := 0) (h_tab2 h) ?_
    rintro r σ' ⟨a, b, c, e⟩
    exact ⟨a, b, c, fun z => by omega, e⟩

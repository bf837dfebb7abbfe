def FN (b : Int → Int) (n : Int) (x' : PS) (fr' wo' : Int → Int) : Int × Int := if ¬ x'.1 = 0 then (x'.1, x'.2.1) else if fr' 0 = 0 then (1, tF b n x'.2.2) else ccR fr' wo' (fr' 0).toNat 0
theorem FN_1 {b : Int → Int} {n : Int} {x' : PS} {fr' wo' : Int → Int} (h : ¬ x'.1 = 0) : FN b n x' fr' wo' = (x'.1, x'.2.1) := if_pos h
theorem FN_2 {b : Int → Int} {n : Int} {x' : PS} {fr' wo' : Int → Int} (h : x'.1 = 0) (h0 : fr' 0 = 0) : FN b n x' fr' wo' = (1, tF b n x'.2.2) := by
  unfold FN
  rw [if_neg (fun z => z h), if_pos h0]
theorem FN_3 {b : Int → Int} {n : Int} {x' : PS} {fr' wo' : Int → Int} (h : x'.1 = 0) (h0 : ¬ fr' 0 = 0) : FN b n x' fr' wo' = ccR fr' wo' (fr' 0).toNat 0 := by
  unfold FN
  rw [if_neg (fun z => z h), if_neg h0]
theorem cc_100 {fr wo : Int → Int} (hw : wf fr) (h : (ccR fr wo (fr 0).toNat 0).1 = 0) : wf_100 fr ∧ (ccR fr wo (fr 0).toNat 0).2 = -1 := by
  have mb := (wf_h hw).1
  rcases ccR_b (fr := fr) (wo := wo) (fr 0).toNat 0 with ⟨_, a2, a3⟩ | a
  · refine ⟨fun f f0 f1 k0 => ?_, a2⟩
    have c := a3 f f0 (by omega)
    by_cases y : w_sum fr f (w_of fr f 7).toNat = 100
    · exact y
    · exact absurd ⟨k0, y⟩ c
  · rw [a] at h
    omega
def rdP (b : Int → Int) (n : Int) (fr td wo : Int → Int) (r : Option x_V) (σ σ' : x_S) : Prop := x_eqo dfS σ σ' ∧ σ' 3 0 1 = 0 ∧ ∃ m x' fr' td' wo', LR b n m 0 fr td wo x' fr' td' wo' ∧ (σ' 3 0 2 = (FN b n x' fr' wo').1 ∧ σ' 3 0 3 = (FN b n x' fr' wo').2) ∧ r = some (xI (if (FN b n x' fr' wo').1 = 0 then 1 else 0)) ∧ (x'.1 = 0 → dW fr' ∧ x'.2.1 = -1) ∧ ((FN b n x' fr' wo').1 = 0 → mir σ' 0 fr' ∧ x'.1 = 0 ∧ wf fr' ∧ wf_100 fr' ∧ (FN b n x' fr' wo').2 = -1)
set_option maxHeartbeats 4000000 in
theorem h_read {σ : x_S} {b : Int → Int} {n : Int} {fr td wo : Int → Int} (hB : rdB σ b n) (hW : dW fr) (h0 : ∀ i, 0 ≤ i → i ≤ 6 → fr i = 0) (ht0 : ∀ k, 0 ≤ k → k ≤ 4 → td k = 0) : x_Sp 9 27 [xR 3 0] σ (fun r σ' => rdP b n fr td wo r σ σ') := by
  refine x_gen (fun Q hQ => ?_)
  have nb := hB.1
  have ht : tdW td := fun k k0 k1 => by
    have := ht0 k k0 k1
    omega
  -- the end
  have tl4 : ∀ (σ4 : x_S) (i c : Int), σ4 3 0 2 = c → (0 ≤ c ∧ c ≤ 4) → Q (some (xI (if c = 0 then 1 else 0))) (x_st σ4 3 0 1 0) → x_Wp 9 27 (x_blk 27 4) [xR 3 0, xI i] [] σ4 Q := by
    intro σ4 i c ec cr F
    rw [bk_27_4]
    by_cases z : c = 0
    · rw [if_pos z] at F
      rw [z] at ec
      simp (disch := first | omega | (simp only [x_wtI, x_wtJ, x_wtR, x_wtN]; omega) | assumption | (simp (disch := omega) only [x_st_o, x_rd_ne]; first | assumption | omega) | (apply mir_eq; assumption; (intro c h1 h2; simp (disch := omega) only [x_st_o])) | (apply mis_eq; assumption; (intro c h1 h2; simp (disch := omega) only [x_st_o])) | rfl) only [bk_27_0, bk_27_1, bk_27_2, bk_27_3, bk_27_4, bk_27_5, bk_27_6, wp_ald0, wr_3_0, wk_58, wp_ic, wp_puti kd_3, wk_28, wp_ist1, wp_fall, wp_ild1, wp_icge, wp_geti kd_3, wp_ifne, wp_ifeq, wk_30, wp_inc1, wp_goto, wp_iand, wk_33, wk_40, wp_zret0 mz_27, wp_zret1 mz_27, wp_zretb mz_27, wp_zret mz_27, x_clr_I, x_clr_J, x_clr_R, x_clr_U, ct_some, ct_none, lc_lt, lc_ge, lc_gt, lc_le, lc_eq, lc_r, xI_inj, xJ_inj, Option.some.injEq, eq_self, bi_r, bi_0, bi_1, bi_n, Classical.not_not, and_true, true_and, ite_true, ite_false, ↓reduceIte, ↓x_andl, z_le, z_nle, z_lt, z_nlt, z_eq, z_neq, if_pos, if_neg, x_andl, false_and, and_false, or_true, true_or, or_false, false_or, not_true, not_false_iff, x_rd_eq, x_rd_ne, x_st_o, Int.cast_ofNat_Int, Int.ofNat_zero, Int.ofNat_one, not_true_eq_false, not_false_eq_true, if_true, if_false, ite_self, and_self, Int.ofNat_eq_natCast, Int.tdiv_eq_ediv_of_nonneg, Int.tmod_eq_emod_of_nonneg, x_bm32, ec]
      exact F
    · rw [if_neg z] at F
      simp (disch := first | omega | (simp only [x_wtI, x_wtJ, x_wtR, x_wtN]; omega) | assumption | (simp (disch := omega) only [x_st_o, x_rd_ne]; first | assumption | omega) | (apply mir_eq; assumption; (intro c h1 h2; simp (disch := omega) only [x_st_o])) | (apply mis_eq; assumption; (intro c h1 h2; simp (disch := omega) only [x_st_o])) | rfl) only [bk_27_0, bk_27_1, bk_27_2, bk_27_3, bk_27_4, bk_27_5, bk_27_6, wp_ald0, wr_3_0, wk_58, wp_ic, wp_puti kd_3, wk_28, wp_ist1, wp_fall, wp_ild1, wp_icge, wp_geti kd_3, wp_ifne, wp_ifeq, wk_30, wp_inc1, wp_goto, wp_iand, wk_33, wk_40, wp_zret0 mz_27, wp_zret1 mz_27, wp_zretb mz_27, wp_zret mz_27, x_clr_I, x_clr_J, x_clr_R, x_clr_U, ct_some, ct_none, lc_lt, lc_ge, lc_gt, lc_le, lc_eq, lc_r, xI_inj, xJ_inj, Option.some.injEq, eq_self, bi_r, bi_0, bi_1, bi_n, Classical.not_not, and_true, true_and, ite_true, ite_false, ↓reduceIte, ↓x_andl, z_le, z_nle, z_lt, z_nlt, z_eq, z_neq, if_pos, if_neg, x_andl, false_and, and_false, or_true, true_or, or_false, false_or, not_true, not_false_iff, x_rd_eq, x_rd_ne, x_st_o, Int.cast_ofNat_Int, Int.ofNat_zero, Int.ofNat_one, not_true_eq_false, not_false_eq_true, if_true, if_false, ite_self, and_self, Int.ofNat_eq_natCast, Int.tdiv_eq_ediv_of_nonneg, Int.tmod_eq_emod_of_nonneg, x_bm32, ec]
      exact F
  generalize hA : x_st (x_st (x_st (x_st (x_st (x_st (x_st (x_st (x_st (x_st (x_st σ 6 0 0 0) 6 0 1 0) 6 0 2 0) 6 0 3 0) 6 0 4 0) 6 0 5 0) 6 0 6 0) 3 0 6 0) 3 0 9 0) 3 0 2 0) 3 0 3 (-1) = A
  have eA : x_eqo dfS σ A := by
    subst hA
    repeat (first | exact eqo_refl | refine eqo_st (by unfold dfS; simp) ?_)
  have a1 : A 3 0 1 = n := by subst hA; simp (disch := omega) only [x_st_o, x_rd_ne, x_rd_eq, s_fl_o, s_fl_in, s_fl_out, x_cp_o, x_cp_in, x_cp_out]; exact hB.2.1
  have a2 : A 3 0 2 = 0 := by subst hA; simp (disch := omega) only [x_st_o, x_rd_ne, x_rd_eq, s_fl_o, s_fl_in, s_fl_out, x_cp_o, x_cp_in, x_cp_out]
  have a3 : A 3 0 3 = -1 := by subst hA; simp (disch := omega) only [x_st_o, x_rd_ne, x_rd_eq, s_fl_o, s_fl_in, s_fl_out, x_cp_o, x_cp_in, x_cp_out]
  have a6 : A 3 0 6 = 0 := by subst hA; simp (disch := omega) only [x_st_o, x_rd_ne, x_rd_eq, s_fl_o, s_fl_in, s_fl_out, x_cp_o, x_cp_in, x_cp_out]
  have a9 : A 3 0 9 = 0 := by subst hA; simp (disch := omega) only [x_st_o, x_rd_ne, x_rd_eq, s_fl_o, s_fl_in, s_fl_out, x_cp_o, x_cp_in, x_cp_out]
  have b0 : A 6 0 0 = 0 := by subst hA; simp (disch := omega) only [x_st_o, x_rd_ne, x_rd_eq, s_fl_o, s_fl_in, s_fl_out, x_cp_o, x_cp_in, x_cp_out]
  have b1 : A 6 0 1 = 0 := by subst hA; simp (disch := omega) only [x_st_o, x_rd_ne, x_rd_eq, s_fl_o, s_fl_in, s_fl_out, x_cp_o, x_cp_in, x_cp_out]
  have b2 : A 6 0 2 = 0 := by subst hA; simp (disch := omega) only [x_st_o, x_rd_ne, x_rd_eq, s_fl_o, s_fl_in, s_fl_out, x_cp_o, x_cp_in, x_cp_out]
  have b3 : A 6 0 3 = 0 := by subst hA; simp (disch := omega) only [x_st_o, x_rd_ne, x_rd_eq, s_fl_o, s_fl_in, s_fl_out, x_cp_o, x_cp_in, x_cp_out]
  have b4 : A 6 0 4 = 0 := by subst hA; simp (disch := omega) only [x_st_o, x_rd_ne, x_rd_eq, s_fl_o, s_fl_in, s_fl_out, x_cp_o, x_cp_in, x_cp_out]
  have b5 : A 6 0 5 = 0 := by subst hA; simp (disch := omega) only [x_st_o, x_rd_ne, x_rd_eq, s_fl_o, s_fl_in, s_fl_out, x_cp_o, x_cp_in, x_cp_out]
  have b6 : A 6 0 6 = 0 := by subst hA; simp (disch := omega) only [x_st_o, x_rd_ne, x_rd_eq, s_fl_o, s_fl_in, s_fl_out, x_cp_o, x_cp_in, x_cp_out]
  have hBA : rdB A b n := ⟨nb, a1, fun i i0 i1 => by rw [eA 4 0 (by unfold dfS; simp)]; exact hB.2.2 i i0 i1⟩
  have hDA : DR A fr td wo := by
    refine ⟨⟨⟨?_, ?_, ?_, ?_, ?_, ?_, ?_⟩, fun g g0 g1 => ?_⟩, ?_, fun g g0 g1 => ?_⟩
    · rw [b0, h0 1 (by omega) (by omega)]
    · rw [b1, h0 2 (by omega) (by omega)]
    · rw [b2, h0 3 (by omega) (by omega)]
    · rw [b3, h0 4 (by omega) (by omega)]
    · rw [b4, h0 5 (by omega) (by omega)]
    · rw [b5, h0 6 (by omega) (by omega)]
    · rw [b6, h0 0 (by omega) (by omega)]
    · rw [h0 0 (by omega) (by omega)] at g1
      omega
    · rw [a9]
      unfold tbv
      rw [ht0 0 (by omega) (by omega), ht0 1 (by omega) (by omega), ht0 2 (by omega) (by omega), ht0 3 (by omega) (by omega), ht0 4 (by omega) (by omega), h0 0 (by omega) (by omega)]
      rfl
    · rw [h0 0 (by omega) (by omega)] at g1
      omega
  obtain ⟨r1, σ1, ⟨hr1, rk, e2, e3, e7, e8, e6⟩, ev1⟩ := x_ex (h_next hBA a2 a6 (by omega))
  subst hr1
  have cs1 : CS σ1 b n (0, -1, tA b n 0) := ⟨rdB_k hBA rk, ⟨by rw [e2]; exact a2, by rw [e3]; exact a3⟩, rdS_t (by omega) (by omega) e7 e8 e6, fun _ => ⟨e6, rfl⟩, by (show (0 : Int) ≤ 0 ∧ (0 : Int) ≤ 4; omega)⟩
  have K := h_cread (Q := Q) n.toNat 0 0 σ1 fr td wo (by omega) (by omega) (by omega) cs1 e7 e8 (DR_k hDA rk) hW ht (fun m' i' σ' x' fr' td' wo' hR eo ce => by
    obtain ⟨⟨c2, c3⟩, cr, cg⟩ := ce
    have eo' : x_eqo dfS σ σ' := eqo_trans eA (eqo_trans (rkp_d rk) eo)
    have ar := x_and_r (x := σ' 3 0 9) (y := 32)
    have f1 : ∀ (σ4 : x_S) (v : Int), x_eqo dfS σ σ4 → x_eqo dfS σ (x_st σ4 3 0 1 v) := fun σ4 v h => eqo_st (by unfold dfS; simp) h
    by_cases g : x'.1 = 0
    · obtain ⟨p1, h7, hD', hW', ht'⟩ := cg g
      have z2 : σ' 3 0 2 = 0 := c2.trans g
      have tk := (tb_k (m := fr' 0) ht').2.1
      have mb := dW_m hW'
      rw [← hD'.2.1] at tk
      by_cases m0 : fr' 0 = 0
      · have fe := FN_2 (b := b) (n := n) (wo' := wo') g m0
        rw [if_neg (by omega)] at tk
        have kf := fun (d' : Nat) (Q' : Option x_V → x_S → Prop) => k_fail (d := d') (σ := σ') (Q := Q') (c := 1) (by omega)
        simp only [if_pos z2, h7] at kf
        have q2 : x_st (x_st σ' 3 0 2 1) 3 0 3 (tF b n x'.2.2) 3 0 2 = 1 := by rw [x_rd_ne (by omega), x_rd_eq]
        have F := tl4 _ i' 1 q2 (by omega) (hQ _ _ ⟨f1 _ _ (eqo_st (by unfold dfS; simp) (eqo_st (by unfold dfS; simp) eo')), x_rd_eq, m', x', fr', td', wo', hR, ⟨by rw [fe, x_rd_ne (by omega)]; exact q2, by rw [fe, x_rd_ne (by omega), x_rd_eq]⟩, by rw [fe], fun _ => ⟨hW', p1⟩, fun z => by (rw [fe] at z; exfalso; have : (1 : Int) = 0 := z; omega)⟩)
        clear hR hD' hW' ht' cg
        generalize tF b n x'.2.2 = tf at kf F q2
        rw [bk_27_2]
        simp (disch := first | omega | (simp only [x_wtI, x_wtJ, x_wtR, x_wtN]; omega) | assumption | (simp (disch := omega) only [x_st_o, x_rd_ne]; first | assumption | omega) | (apply mir_eq; assumption; (intro c h1 h2; simp (disch := omega) only [x_st_o])) | (apply mis_eq; assumption; (intro c h1 h2; simp (disch := omega) only [x_st_o])) | rfl) only [bk_27_0, bk_27_1, bk_27_2, bk_27_3, bk_27_5, bk_27_6, wp_ald0, wr_3_0, wk_58, wp_ic, wp_puti kd_3, wk_28, wp_ist1, wp_fall, wp_ild1, wp_icge, wp_geti kd_3, wp_ifne, wp_ifeq, wk_30, wp_inc1, wp_goto, wp_iand, wk_33, wk_40, wp_zret0 mz_27, wp_zret1 mz_27, wp_zretb mz_27, wp_zret mz_27, x_clr_I, x_clr_J, x_clr_R, x_clr_U, ct_some, ct_none, lc_lt, lc_ge, lc_gt, lc_le, lc_eq, lc_r, xI_inj, xJ_inj, Option.some.injEq, eq_self, bi_r, bi_0, bi_1, bi_n, Classical.not_not, and_true, true_and, ite_true, ite_false, ↓reduceIte, ↓x_andl, z_le, z_nle, z_lt, z_nlt, z_eq, z_neq, if_pos, if_neg, x_andl, false_and, and_false, or_true, true_or, or_false, false_or, not_true, not_false_iff, x_rd_eq, x_rd_ne, x_st_o, Int.cast_ofNat_Int, Int.ofNat_zero, Int.ofNat_one, not_true_eq_false, not_false_eq_true, if_true, if_false, ite_self, and_self, Int.ofNat_eq_natCast, Int.tdiv_eq_ediv_of_nonneg, Int.tmod_eq_emod_of_nonneg, x_bm32, tk, kf]
        exact F
      · have fe := FN_3 (b := b) (n := n) (wo' := wo') g m0
        rw [if_pos (by omega)] at tk
        have hw : wf fr' := (hW'.2.2.resolve_left (fun z => m0 z.1)).1
        have cc : x_Sp 4 40 [xR 3 0] σ' (fun r σ2 => r = none ∧ rcp σ' σ2 ∧ σ2 3 0 2 = (ccR fr' wo' (fr' 0).toNat 0).1 ∧ σ2 3 0 3 = (ccR fr' wo' (fr' 0).toNat 0).2) := by
          refine x_gen (fun Q2 hQ2 => ?_)
          have K := h_cchk (Q := Q2) hD'.1 hw hD'.2.2 z2 (c3.trans p1) (fr' 0).toNat 0 xU xU (by omega) (by omega) (fun σ2 q1 q2 q3 => hQ2 _ _ ⟨rfl, q1, q2, q3⟩)
          simp (disch := first | omega | (simp only [x_wtI, x_wtJ, x_wtR, x_wtN]; omega) | assumption | (simp (disch := omega) only [x_st_o, x_rd_ne]; first | assumption | omega) | (apply mir_eq; assumption; (intro c h1 h2; simp (disch := omega) only [x_st_o])) | (apply mis_eq; assumption; (intro c h1 h2; simp (disch := omega) only [x_st_o])) | rfl) only [sp_40, bk_40_0, bk_40_2, bk_40_3, bk_40_4, bk_40_5, wp_ic, wp_ist1, wp_fall, wp_ild1, wp_ald0, wr_3_0, wp_geti kd_6, wp_icge, wp_geti kd_3, wp_ifne, wp_ist2, wp_ist3, wp_ild3, wr_6_14, wl_5, wl_8, wl_14, wp_cald, wp_ild2, wr_6_8, wk_61, wp_iadd, wp_inc3, wp_goto, wp_ifle, wp_iceq, wr_3_5, wp_puti kd_3, wk_33, wp_inc1, wp_ret, x_clr_I, x_clr_J, x_clr_R, x_clr_U, ct_some, ct_none, lc_lt, lc_ge, lc_gt, lc_le, lc_eq, lc_r, xI_inj, xJ_inj, Option.some.injEq, eq_self, bi_r, bi_0, bi_1, bi_n, Classical.not_not, and_true, true_and, ite_true, ite_false, ↓reduceIte, ↓x_andl, z_le, z_nle, z_lt, z_nlt, z_eq, z_neq, if_pos, if_neg, x_andl, false_and, and_false, or_true, true_or, or_false, false_or, not_true, not_false_iff, x_rd_eq, x_rd_ne, x_st_o, Int.cast_ofNat_Int, Int.ofNat_zero, Int.ofNat_one, not_true_eq_false, not_false_eq_true, if_true, if_false, ite_self, and_self, Int.ofNat_eq_natCast, Int.tdiv_eq_ediv_of_nonneg, Int.tmod_eq_emod_of_nonneg, x_bm32]
          exact K
        obtain ⟨r2, σ2, ⟨hr2, q1, q2, q3⟩, ev2⟩ := x_ex cc
        subst hr2
        have crb : 0 ≤ (ccR fr' wo' (fr' 0).toNat 0).1 ∧ (ccR fr' wo' (fr' 0).toNat 0).1 ≤ 4 := by
          rcases ccR_b (fr := fr') (wo := wo') (fr' 0).toNat 0 with z | z
          · omega
          · omega
        have F := tl4 σ2 i' _ q2 crb (hQ _ _ ⟨f1 _ _ (eqo_trans eo' (eqo_mono (by unfold dfS; simp) q1.1)), x_rd_eq, m', x', fr', td', wo', hR, ⟨by rw [fe, x_rd_ne (by omega)]; exact q2, by rw [fe, x_rd_ne (by omega)]; exact q3⟩, by rw [fe], fun _ => ⟨hW', p1⟩, fun z => by
          rw [fe] at z
          have h1 := cc_100 hw z
          exact ⟨mir_eq hD'.1 (fun c y1 y2 => by rw [x_st_o (by omega)]; exact q1.1 c 0 (by simp; omega)), g, hw, h1.1, by rw [fe]; exact h1.2⟩⟩)
        clear hR hD' hW' ht' cg
        rw [bk_27_2]
        simp (disch := first | omega | (simp only [x_wtI, x_wtJ, x_wtR, x_wtN]; omega) | assumption | (simp (disch := omega) only [x_st_o, x_rd_ne]; first | assumption | omega) | (apply mir_eq; assumption; (intro c h1 h2; simp (disch := omega) only [x_st_o])) | (apply mis_eq; assumption; (intro c h1 h2; simp (disch := omega) only [x_st_o])) | rfl) only [bk_27_0, bk_27_1, bk_27_2, bk_27_3, bk_27_5, bk_27_6, wp_ald0, wr_3_0, wk_58, wp_ic, wp_puti kd_3, wk_28, wp_ist1, wp_fall, wp_ild1, wp_icge, wp_geti kd_3, wp_ifne, wp_ifeq, wk_30, wp_inc1, wp_goto, wp_iand, wk_33, wk_40, wp_zret0 mz_27, wp_zret1 mz_27, wp_zretb mz_27, wp_zret mz_27, x_clr_I, x_clr_J, x_clr_R, x_clr_U, ct_some, ct_none, lc_lt, lc_ge, lc_gt, lc_le, lc_eq, lc_r, xI_inj, xJ_inj, Option.some.injEq, eq_self, bi_r, bi_0, bi_1, bi_n, Classical.not_not, and_true, true_and, ite_true, ite_false, ↓reduceIte, ↓x_andl, z_le, z_nle, z_lt, z_nlt, z_eq, z_neq, if_pos, if_neg, x_andl, false_and, and_false, or_true, true_or, or_false, false_or, not_true, not_false_iff, x_rd_eq, x_rd_ne, x_st_o, Int.cast_ofNat_Int, Int.ofNat_zero, Int.ofNat_one, not_true_eq_false, not_false_eq_true, if_true, if_false, ite_self, and_self, Int.ofNat_eq_natCast, Int.tdiv_eq_ediv_of_nonneg, Int.tmod_eq_emod_of_nonneg, x_bm32, tk, z2]
        refine (ev2 4 _).mpr ?_
        simp (disch := first | omega | (simp only [x_wtI, x_wtJ, x_wtR, x_wtN]; omega) | assumption | (simp (disch := omega) only [x_st_o, x_rd_ne]; first | assumption | omega) | (apply mir_eq; assumption; (intro c h1 h2; simp (disch := omega) only [x_st_o])) | (apply mis_eq; assumption; (intro c h1 h2; simp (disch := omega) only [x_st_o])) | rfl) only [bk_27_0, bk_27_1, bk_27_2, bk_27_3, bk_27_5, bk_27_6, wp_ald0, wr_3_0, wk_58, wp_ic, wp_puti kd_3, wk_28, wp_ist1, wp_fall, wp_ild1, wp_icge, wp_geti kd_3, wp_ifne, wp_ifeq, wk_30, wp_inc1, wp_goto, wp_iand, wk_33, wk_40, wp_zret0 mz_27, wp_zret1 mz_27, wp_zretb mz_27, wp_zret mz_27, x_clr_I, x_clr_J, x_clr_R, x_clr_U, ct_some, ct_none, lc_lt, lc_ge, lc_gt, lc_le, lc_eq, lc_r, xI_inj, xJ_inj, Option.some.injEq, eq_self, bi_r, bi_0, bi_1, bi_n, Classical.not_not, and_true, true_and, ite_true, ite_false, ↓reduceIte, ↓x_andl, z_le, z_nle, z_lt, z_nlt, z_eq, z_neq, if_pos, if_neg, x_andl, false_and, and_false, or_true, true_or, or_false, false_or, not_true, not_false_iff, x_rd_eq, x_rd_ne, x_st_o, Int.cast_ofNat_Int, Int.ofNat_zero, Int.ofNat_one, not_true_eq_false, not_false_eq_true, if_true, if_false, ite_self, and_self, Int.ofNat_eq_natCast, Int.tdiv_eq_ediv_of_nonneg, Int.tmod_eq_emod_of_nonneg, x_bm32]
        exact F
    · have fe := FN_1 (b := b) (n := n) (fr' := fr') (wo' := wo') g
      have n2 : ¬ σ' 3 0 2 = 0 := by rw [c2]; exact g
      have kf := fun (d' : Nat) (Q' : Option x_V → x_S → Prop) => k_fail (d := d') (σ := σ') (Q := Q') (c := 1) (by omega)
      simp only [if_neg n2] at kf
      have F := tl4 σ' i' _ c2 cr (hQ _ _ ⟨f1 _ _ eo', x_rd_eq, m', x', fr', td', wo', hR, ⟨by rw [fe, x_rd_ne (by omega)]; exact c2, by rw [fe, x_rd_ne (by omega)]; exact c3⟩, by rw [fe], fun z => absurd z g, fun z => by (rw [fe] at z; exact absurd z g)⟩)
      have n2r : 0 ≤ σ' 3 0 2 ∧ σ' 3 0 2 ≤ 4 := by rw [c2]; exact cr
      clear hR cg fe
      generalize ht9 : x_and (σ' 3 0 9) 32 = t at ar
      rw [bk_27_2]
      by_cases tz : t = 0
      · simp (disch := first | omega | (simp only [x_wtI, x_wtJ, x_wtR, x_wtN]; omega) | assumption | (simp (disch := omega) only [x_st_o, x_rd_ne]; first | assumption | omega) | (apply mir_eq; assumption; (intro c h1 h2; simp (disch := omega) only [x_st_o])) | (apply mis_eq; assumption; (intro c h1 h2; simp (disch := omega) only [x_st_o])) | rfl) only [bk_27_0, bk_27_1, bk_27_2, bk_27_3, bk_27_5, bk_27_6, wp_ald0, wr_3_0, wk_58, wp_ic, wp_puti kd_3, wk_28, wp_ist1, wp_fall, wp_ild1, wp_icge, wp_geti kd_3, wp_ifne, wp_ifeq, wk_30, wp_inc1, wp_goto, wp_iand, wk_33, wk_40, wp_zret0 mz_27, wp_zret1 mz_27, wp_zretb mz_27, wp_zret mz_27, x_clr_I, x_clr_J, x_clr_R, x_clr_U, ct_some, ct_none, lc_lt, lc_ge, lc_gt, lc_le, lc_eq, lc_r, xI_inj, xJ_inj, Option.some.injEq, eq_self, bi_r, bi_0, bi_1, bi_n, Classical.not_not, and_true, true_and, ite_true, ite_false, ↓reduceIte, ↓x_andl, z_le, z_nle, z_lt, z_nlt, z_eq, z_neq, if_pos, if_neg, x_andl, false_and, and_false, or_true, true_or, or_false, false_or, not_true, not_false_iff, x_rd_eq, x_rd_ne, x_st_o, Int.cast_ofNat_Int, Int.ofNat_zero, Int.ofNat_one, not_true_eq_false, not_false_eq_true, if_true, if_false, ite_self, and_self, Int.ofNat_eq_natCast, Int.tdiv_eq_ediv_of_nonneg, Int.tmod_eq_emod_of_nonneg, x_bm32, ht9, kf]
        exact F
      · simp (disch := first | omega | (simp only [x_wtI, x_wtJ, x_wtR, x_wtN]; omega) | assumption | (simp (disch := omega) only [x_st_o, x_rd_ne]; first | assumption | omega) | (apply mir_eq; assumption; (intro c h1 h2; simp (disch := omega) only [x_st_o])) | (apply mis_eq; assumption; (intro c h1 h2; simp (disch := omega) only [x_st_o])) | rfl) only [bk_27_0, bk_27_1, bk_27_2, bk_27_3, bk_27_5, bk_27_6, wp_ald0, wr_3_0, wk_58, wp_ic, wp_puti kd_3, wk_28, wp_ist1, wp_fall, wp_ild1, wp_icge, wp_geti kd_3, wp_ifne, wp_ifeq, wk_30, wp_inc1, wp_goto, wp_iand, wk_33, wk_40, wp_zret0 mz_27, wp_zret1 mz_27, wp_zretb mz_27, wp_zret mz_27, x_clr_I, x_clr_J, x_clr_R, x_clr_U, ct_some, ct_none, lc_lt, lc_ge, lc_gt, lc_le, lc_eq, lc_r, xI_inj, xJ_inj, Option.some.injEq, eq_self, bi_r, bi_0, bi_1, bi_n, Classical.not_not, and_true, true_and, ite_true, ite_false, ↓reduceIte, ↓x_andl, z_le, z_nle, z_lt, z_nlt, z_eq, z_neq, if_pos, if_neg, x_andl, false_and, and_false, or_true, true_or, or_false, false_or, not_true, not_false_iff, x_rd_eq, x_rd_ne, x_st_o, Int.cast_ofNat_Int, Int.ofNat_zero, Int.ofNat_one, not_true_eq_false, not_false_eq_true, if_true, if_false, ite_self, and_self, Int.ofNat_eq_natCast, Int.tdiv_eq_ediv_of_nonneg, Int.tmod_eq_emod_of_nonneg, x_bm32, ht9]
        exact F)
  simp (disch := first | omega | (simp only [x_wtI, x_wtJ, x_wtR, x_wtN]; omega) | assumption | (simp (disch := omega) only [x_st_o, x_rd_ne]; first | assumption | omega) | (apply mir_eq; assumption; (intro c h1 h2; simp (disch := omega) only [x_st_o])) | (apply mis_eq; assumption; (intro c h1 h2; simp (disch := omega) only [x_st_o])) | rfl) only [sp_27, bk_27_0, bk_27_2, bk_27_3, bk_27_4, bk_27_5, bk_27_6, wp_ald0, wr_3_0, wk_58, wp_ic, wp_puti kd_3, wk_28, wp_ist1, wp_fall, wp_ild1, wp_icge, wp_geti kd_3, wp_ifne, wp_ifeq, wk_30, wp_inc1, wp_goto, wp_iand, wk_33, wk_40, wp_zret0 mz_27, wp_zret1 mz_27, wp_zretb mz_27, wp_zret mz_27, sp_58, bk_58_0, wp_puti kd_6, wp_ret, x_clr_I, x_clr_J, x_clr_R, x_clr_U, ct_some, ct_none, lc_lt, lc_ge, lc_gt, lc_le, lc_eq, lc_r, xI_inj, xJ_inj, Option.some.injEq, eq_self, bi_r, bi_0, bi_1, bi_n, Classical.not_not, and_true, true_and, ite_true, ite_false, ↓reduceIte, ↓x_andl, z_le, z_nle, z_lt, z_nlt, z_eq, z_neq, if_pos, if_neg, x_andl, false_and, and_false, or_true, true_or, or_false, false_or, not_true, not_false_iff, x_rd_eq, x_rd_ne, x_st_o, Int.cast_ofNat_Int, Int.ofNat_zero, Int.ofNat_one, not_true_eq_false, not_false_eq_true, if_true, if_false, ite_self, and_self, Int.ofNat_eq_natCast, Int.tdiv_eq_ediv_of_nonneg, Int.tmod_eq_emod_of_nonneg, x_bm32, hA]
  refine (ev1 7 _).mpr ?_
  simp (disch := first | omega | (simp only [x_wtI, x_wtJ, x_wtR, x_wtN]; omega) | assumption | (simp (disch := omega) only [x_st_o, x_rd_ne]; first | assumption | omega) | (apply mir_eq; assumption; (intro c h1 h2; simp (disch := omega) only [x_st_o])) | (apply mis_eq; assumption; (intro c h1 h2; simp (disch := omega) only [x_st_o])) | rfl) only [bk_27_0, bk_27_2, bk_27_3, bk_27_4, bk_27_5, bk_27_6, wp_ald0, wr_3_0, wk_58, wp_ic, wp_puti kd_3, wk_28, wp_ist1, wp_fall, wp_ild1, wp_icge, wp_geti kd_3, wp_ifne, wp_ifeq, wk_30, wp_inc1, wp_goto, wp_iand, wk_33, wk_40, wp_zret0 mz_27, wp_zret1 mz_27, wp_zretb mz_27, wp_zret mz_27, x_clr_I, x_clr_J, x_clr_R, x_clr_U, ct_some, ct_none, lc_lt, lc_ge, lc_gt, lc_le, lc_eq, lc_r, xI_inj, xJ_inj, Option.some.injEq, eq_self, bi_r, bi_0, bi_1, bi_n, Classical.not_not, and_true, true_and, ite_true, ite_false, ↓reduceIte, ↓x_andl, z_le, z_nle, z_lt, z_nlt, z_eq, z_neq, if_pos, if_neg, x_andl, false_and, and_false, or_true, true_or, or_false, false_or, not_true, not_false_iff, x_rd_eq, x_rd_ne, x_st_o, Int.cast_ofNat_Int, Int.ofNat_zero, Int.ofNat_one, not_true_eq_false, not_false_eq_true, if_true, if_false, ite_self, and_self, Int.ofNat_eq_natCast, Int.tdiv_eq_ediv_of_nonneg, Int.tmod_eq_emod_of_nonneg, x_bm32]
  exact K

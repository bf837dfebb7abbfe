def dfS : List (Nat × Nat) := [(3, 0), (5, 0), (6, 0), (7, 0), (8, 0), (9, 0), (10, 0), (11, 0), (12, 0), (13, 0), (14, 0), (15, 0)]
set_option maxHeartbeats 4000000 in
theorem h_root {σ : x_S} {b : Int → Int} {n p f : Int} {fr td wo : Int → Int} (h : CS σ b n (0, -1, p)) (h7 : σ 3 0 7 = f) (hD : DR σ fr td wo) (hW : dW fr) (ht : tdW td) : x_Sp 7 36 [xR 3 0] σ (fun r σ' => r = none ∧ x_eqo dfS σ σ' ∧ ((0 < fr 0 ∧ CS σ' b n (3, f, p)) ∨ (fr 0 = 0 ∧ CS σ' b n (psD b n (0, -1, p)) ∧ ((psD b n (0, -1, p)).1 = 0 → ∃ d0 d1 d2 d3, dvs b n (0, -1, p) d0 d1 d2 d3 ∧ DR σ' (frR fr d0 d1 d2 d3) td wo)))) := by
  obtain ⟨hB, ⟨h2, h3⟩, hS, hx, hc⟩ := id h
  have h2' : σ 3 0 2 = 0 := h2
  obtain ⟨hM, h9, h5⟩ := id hD
  have tk := tb_k (m := fr 0) ht
  have mb := dW_m hW
  refine x_gen (fun Q hQ => ?_)
  by_cases c : 0 < fr 0
  · obtain ⟨rk, cs⟩ := CS_f (c := 3) hB hS h2' (by omega)
    have kf := fun (d' : Nat) (Q' : Option x_V → x_S → Prop) => k_fail (d := d') (σ := σ) (Q := Q') (c := 3) (by omega)
    rw [if_pos h2'] at kf
    have F := hQ none _ ⟨rfl, eqo_mono (by unfold dfS; simp) rk.1, Or.inl ⟨c, by rw [← h7]; exact cs p⟩⟩
    have a32 := tk.2.1
    rw [if_pos c] at a32
    generalize tbv td (fr 0) = t at h9 a32
    simp (disch := first | omega | (simp only [x_wtI, x_wtJ, x_wtR, x_wtN]; omega) | assumption | (simp (disch := omega) only [x_st_o, x_rd_ne]; first | assumption | omega) | (apply mir_eq; assumption; (intro c h1 h2; simp (disch := omega) only [x_st_o])) | (apply mis_eq; assumption; (intro c h1 h2; simp (disch := omega) only [x_st_o])) | rfl) only [sp_36, bk_36_0, bk_36_1, wp_ald0, wp_geti kd_3, wp_ic, wp_iand, wp_ifeq, wk_33, wp_ret, wp_dupi, wp_dupr, wp_ior, wp_puti kd_3, wr_3_0, wk_57, wk_37, x_clr_I, x_clr_J, x_clr_R, x_clr_U, ct_some, ct_none, lc_lt, lc_ge, lc_gt, lc_le, lc_eq, lc_r, xI_inj, xJ_inj, Option.some.injEq, eq_self, bi_r, bi_0, bi_1, bi_n, Classical.not_not, and_true, true_and, ite_true, ite_false, ↓reduceIte, ↓x_andl, z_le, z_nle, z_lt, z_nlt, z_eq, z_neq, if_pos, if_neg, x_andl, false_and, and_false, or_true, true_or, or_false, false_or, not_true, not_false_iff, x_rd_eq, x_rd_ne, x_st_o, Int.cast_ofNat_Int, Int.ofNat_zero, Int.ofNat_one, not_true_eq_false, not_false_eq_true, if_true, if_false, ite_self, and_self, Int.ofNat_eq_natCast, Int.tdiv_eq_ediv_of_nonneg, Int.tmod_eq_emod_of_nonneg, x_bm32, h9, a32, kf]
    exact F
  · have m0 : fr 0 = 0 := by omega
    have a32 := tk.2.1
    rw [if_neg c] at a32
    have o32 := tk.2.2.2.2.2.2.2 m0
    have h66 : σ 6 0 6 = 0 := (mi_size hM).trans m0
    generalize hA : x_st (x_st (x_st (x_st (x_st (x_st (x_st (x_st (x_st (x_st σ 3 0 9 (tbv td 1)) 6 0 6 1) 7 0 0 (-1)) 8 0 0 0) 9 0 0 0) 10 0 0 0) 11 0 0 0) 12 0 0 0) 14 0 0 0) 13 0 0 0 = A
    have eA : x_eqo dfS σ A := by
      subst hA
      repeat (first | exact eqo_refl | refine eqo_st (by unfold dfS; simp) ?_)
    have csA : CS A b n (0, -1, p) := by
      subst hA
      exact CS_e (CS_9 (v := tbv td 1) h) (by rw [x_st_o (by omega), x_st_o (by omega), x_st_o (by omega), x_st_o (by omega), x_st_o (by omega), x_st_o (by omega), x_st_o (by omega), x_st_o (by omega), x_st_o (by omega)]) (by rw [x_st_o (by omega), x_st_o (by omega), x_st_o (by omega), x_st_o (by omega), x_st_o (by omega), x_st_o (by omega), x_st_o (by omega), x_st_o (by omega), x_st_o (by omega)])
    have A9 : A 3 0 9 = tbv td 1 := by subst hA; simp (disch := omega) only [x_st_o, x_rd_ne, x_rd_eq, s_fl_o, s_fl_in, s_fl_out, x_cp_o, x_cp_in, x_cp_out]
    have A66 : A 6 0 6 = 1 := by subst hA; simp (disch := omega) only [x_st_o, x_rd_ne, x_rd_eq, s_fl_o, s_fl_in, s_fl_out, x_cp_o, x_cp_in, x_cp_out]
    have A6 : ∀ k, ¬ k = 6 → A 6 0 k = σ 6 0 k := by
      intro k hk
      subst hA
      simp (disch := omega) only [x_st_o, x_rd_ne, x_rd_eq, s_fl_o, s_fl_in, s_fl_out, x_cp_o, x_cp_in, x_cp_out]
    have A7 : A 7 0 0 = -1 := by subst hA; simp (disch := omega) only [x_st_o, x_rd_ne, x_rd_eq, s_fl_o, s_fl_in, s_fl_out, x_cp_o, x_cp_in, x_cp_out]
    have A8 : A 8 0 0 = 0 := by subst hA; simp (disch := omega) only [x_st_o, x_rd_ne, x_rd_eq, s_fl_o, s_fl_in, s_fl_out, x_cp_o, x_cp_in, x_cp_out]
    have A13 : A 13 0 0 = 0 := by subst hA; simp (disch := omega) only [x_st_o, x_rd_ne, x_rd_eq, s_fl_o, s_fl_in, s_fl_out, x_cp_o, x_cp_in, x_cp_out]
    have A14 : A 14 0 0 = 0 := by subst hA; simp (disch := omega) only [x_st_o, x_rd_ne, x_rd_eq, s_fl_o, s_fl_in, s_fl_out, x_cp_o, x_cp_in, x_cp_out]
    obtain ⟨r, σ2, ⟨hr, c2, e2, k2, g2, v2⟩, ev⟩ := x_ex (h_does (f := 0) (by omega) csA)
    subst hr
    have F := hQ none σ2 ⟨rfl, eqo_trans eA (eqo_mono (by unfold dfS; simp) e2), Or.inr ⟨m0, c2, fun z => ?_⟩⟩
    · have h9' : σ 3 0 9 = tbv td 0 := by rw [h9, m0]
      have z0 : (0 : Int) + 1 = 1 := rfl
      rw [m0] at a32 o32
      generalize tbv td 0 = t at h9' a32 o32
      simp (disch := first | omega | (simp only [x_wtI, x_wtJ, x_wtR, x_wtN]; omega) | assumption | (simp (disch := omega) only [x_st_o, x_rd_ne]; first | assumption | omega) | (apply mir_eq; assumption; (intro c h1 h2; simp (disch := omega) only [x_st_o])) | (apply mis_eq; assumption; (intro c h1 h2; simp (disch := omega) only [x_st_o])) | rfl) only [sp_36, bk_36_0, bk_36_1, wp_ald0, wp_geti kd_3, wp_ic, wp_iand, wp_ifeq, wk_33, wp_ret, wp_dupi, wp_dupr, wp_ior, wp_puti kd_3, wr_3_0, wk_57, wk_37, sp_57, bk_57_0, bk_57_1, wp_geti kd_6, wp_ist3, wp_iadd, wp_puti kd_6, wr_6_7, wp_ild3, wp_ild1, ws_7, ws_8, ws_9, ws_10, ws_11, ws_12, ws_13, ws_14, ws_15, wr_6_8, wp_ild2, wr_6_9, wr_6_10, wr_6_11, wr_6_12, wr_6_14, wr_6_13, wp_iceq, wl_7, wl_8, wl_9, wl_10, wl_11, wl_12, wl_13, wl_14, wl_15, wp_cald, wr_6_15, wp_imul, wp_dup2, wp_fall, wp_iret mz_57, x_clr_I, x_clr_J, x_clr_R, x_clr_U, ct_some, ct_none, lc_lt, lc_ge, lc_gt, lc_le, lc_eq, lc_r, xI_inj, xJ_inj, Option.some.injEq, eq_self, bi_r, bi_0, bi_1, bi_n, Classical.not_not, and_true, true_and, ite_true, ite_false, ↓reduceIte, ↓x_andl, z_le, z_nle, z_lt, z_nlt, z_eq, z_neq, if_pos, if_neg, x_andl, false_and, and_false, or_true, true_or, or_false, false_or, not_true, not_false_iff, x_rd_eq, x_rd_ne, x_st_o, Int.cast_ofNat_Int, Int.ofNat_zero, Int.ofNat_one, not_true_eq_false, not_false_eq_true, if_true, if_false, ite_self, and_self, Int.ofNat_eq_natCast, Int.tdiv_eq_ediv_of_nonneg, Int.tmod_eq_emod_of_nonneg, x_bm32, h9', a32, o32, h66, z0, hA]
      refine (ev 0 _).mpr ?_
      simp (disch := first | omega | (simp only [x_wtI, x_wtJ, x_wtR, x_wtN]; omega) | assumption | (simp (disch := omega) only [x_st_o, x_rd_ne]; first | assumption | omega) | (apply mir_eq; assumption; (intro c h1 h2; simp (disch := omega) only [x_st_o])) | (apply mis_eq; assumption; (intro c h1 h2; simp (disch := omega) only [x_st_o])) | rfl) only [bk_36_0, bk_36_1, wp_ald0, wp_geti kd_3, wp_ic, wp_iand, wp_ifeq, wk_33, wp_ret, wp_dupi, wp_dupr, wp_ior, wp_puti kd_3, wr_3_0, wk_57, wk_37, x_clr_I, x_clr_J, x_clr_R, x_clr_U, ct_some, ct_none, lc_lt, lc_ge, lc_gt, lc_le, lc_eq, lc_r, xI_inj, xJ_inj, Option.some.injEq, eq_self, bi_r, bi_0, bi_1, bi_n, Classical.not_not, and_true, true_and, ite_true, ite_false, ↓reduceIte, ↓x_andl, z_le, z_nle, z_lt, z_nlt, z_eq, z_neq, if_pos, if_neg, x_andl, false_and, and_false, or_true, true_or, or_false, false_or, not_true, not_false_iff, x_rd_eq, x_rd_ne, x_st_o, Int.cast_ofNat_Int, Int.ofNat_zero, Int.ofNat_one, not_true_eq_false, not_false_eq_true, if_true, if_false, ite_self, and_self, Int.ofNat_eq_natCast, Int.tdiv_eq_ediv_of_nonneg, Int.tmod_eq_emod_of_nonneg, x_bm32]
      exact F
    · have v := v2 z
      have rg := (psD_c z).2 _ _ _ _ v
      obtain ⟨w1, w2, w3, q0, q1, q2, q3, q4, q5, q6, q7⟩ := frR_w hW m0 rg.1 rg.2.1 rg.2.2.1 rg.2.2.2
      refine ⟨_, _, _, _, v, ⟨?_, fun g g0 g1 => ?_⟩, ?_, fun g g0 g1 => ?_⟩
      · have s6 : ∀ k, σ2 6 0 k = A 6 0 k := fun k => by rw [e2 6 0 (by simp)]
        have hh := hM.1
        rw [s6, s6, s6, s6, s6, s6, s6, A6 0 (by omega), A6 1 (by omega), A6 2 (by omega), A6 3 (by omega), A6 4 (by omega), A6 5 (by omega), A66, w2, w3 1 (by omega) (by omega), w3 2 (by omega) (by omega), w3 3 (by omega) (by omega), w3 4 (by omega) (by omega), w3 5 (by omega) (by omega), w3 6 (by omega) (by omega)]
        exact ⟨hh.1, hh.2.1, hh.2.2.1, hh.2.2.2.1, hh.2.2.2.2.1, hh.2.2.2.2.2.1, rfl⟩
      · rw [w2] at g1
        have z0 : g = 0 := by omega
        rw [z0, q0, q1, q2, q3, q4, q5, q6, q7, e2 7 0 (by simp), e2 8 0 (by simp), e2 13 0 (by simp), e2 14 0 (by simp)]
        exact ⟨⟨A7, A8, rfl, rfl, rfl, rfl, A13, A14⟩, fun i i0 i1 => by omega⟩
      · rw [k2 9 (by omega), A9, w2]
      · rw [w2] at g1
        omega

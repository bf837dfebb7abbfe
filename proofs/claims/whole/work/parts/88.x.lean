def lbk (w : Int → Int) (sc kp : Int) (R : Int → Int) (σ : x_S) (j : Nat) (f : Int) : Prop := (σ 24 j 7 = w_of w f 2 * sc ∧ σ 24 j 8 = w_of w f 4 * sc ∧ σ 24 j 9 = w 4 * sc) ∧ ∀ s, 0 ≤ s → s < 42 → σ 27 j s = if R s = 9223372036854775807 then 9223372036854775807 else R s + kp * (s % 21) * sc
def rbd (R : Int → Int) : Prop := ∀ s, 0 ≤ s → s < 42 → R s = 9223372036854775807 ∨ (-600000000000000000 ≤ R s ∧ R s ≤ 600000000000000000)
theorem kp_b {kp t sc : Int} (hk : -99 ≤ kp ∧ kp ≤ 99) (ht : 0 ≤ t ∧ t ≤ 20) (hs : 1 ≤ sc ∧ sc ≤ 100000000) : (-1980 ≤ kp * t ∧ kp * t ≤ 1980) ∧ (-198000000000 ≤ kp * t * sc ∧ kp * t * sc ≤ 198000000000) := by
  have m := mulb (a := kp) (b := t) (A := 99) (B := 20) hk ht
  have m2 := mulb (a := kp * t) (b := sc) (A := 1980) (B := 100000000) (by omega) (by omega)
  exact ⟨by omega, by omega⟩
theorem h_keep {σ : x_S} {w : Int → Int} {j : Nat} {f sc kp : Int} (hM : mir σ 1 w) (hj : j < 4) (hw : wf w) (h0 : 0 ≤ f) (h1 : f < w 0) (hs : 1 ≤ sc ∧ sc ≤ 100000000) (hk : -99 ≤ kp ∧ kp ≤ 99) (hR : rbd (σ 27 j)) : x_Sp 1 6 [xR 24 j, xI f, xJ sc, xI kp] σ (fun r σ' => r = none ∧ x_eqo [(24, j), (27, j)] σ σ' ∧ (∀ k, ¬ (7 ≤ k ∧ k ≤ 9) → σ' 24 j k = σ 24 j k) ∧ lbk w sc kp (σ 27 j) σ' j f) := by
  have a := wf_h hw
  unfold wf_hdr at a
  have o := wf_f hw h0 h1
  unfold wf_one at o
  refine x_gen (fun Q hQ => ?_)
  simp (disch := first | omega | (simp only [x_wtI, x_wtJ, x_wtR, x_wtN]; omega) | assumption | (simp (disch := omega) only [x_st_o, x_rd_ne]; first | assumption | omega) | (apply mir_eq; assumption; (intro c h1 h2; simp (disch := omega) only [x_st_o])) | (apply mis_eq; assumption; (intro c h1 h2; simp (disch := omega) only [x_st_o])) | rfl) only [sp_6, bk_6_0, bk_6_2, bk_6_3, bk_6_4, wp_ald0, wr_24_0, wr_6_9, wp_ild1, wl_9, wl_11, wp_cald, wp_i2l, wp_lld2, wp_lmul, wp_putj kd_24, wr_6_11, wp_geti kd_6, wp_ic, wp_ist5, wp_fall, wp_ild5, wp_icge, wp_ild4, wp_imul, wp_lst6, wr_24_6, wl_27, wp_pald, wp_lc, wp_lcmp, wp_ifeq, wp_dup2, wp_lld6, wp_ladd, ws_27, wp_iadd, wp_inc5, wp_goto, wp_ret, x_clr_I, x_clr_J, x_clr_R, x_clr_U, ct_some, ct_none, lc_lt, lc_ge, lc_gt, lc_le, lc_eq, lc_r, xI_inj, xJ_inj, Option.some.injEq, eq_self, bi_r, bi_0, bi_1, bi_n, Classical.not_not, and_true, true_and, ite_true, ite_false, ↓reduceIte, ↓x_andl, z_le, z_nle, z_lt, z_nlt, z_eq, z_neq, if_pos, if_neg, x_andl, false_and, and_false, or_true, true_or, or_false, false_or, not_true, not_false_iff, x_rd_eq, x_rd_ne, x_st_o, Int.cast_ofNat_Int, Int.ofNat_zero, Int.ofNat_one, not_true_eq_false, not_false_eq_true, if_true, if_false, ite_self, and_self, Int.ofNat_eq_natCast, Int.tdiv_eq_ediv_of_nonneg, Int.tmod_eq_emod_of_nonneg, x_bm32, mi_price hM, mi_sell hM, mi_wing hM]
  generalize hσ0 : x_st (x_st (x_st σ 24 j 7 (w_of w f 2 * sc)) 24 j 8 (w_of w f 4 * sc)) 24 j 9 (w 4 * sc) = σ0
  have e0 : x_eqo [(24, j), (27, j)] σ σ0 := by
    subst hσ0
    repeat (first | exact eqo_refl | refine eqo_st (by simp) ?_)
  have f7 : σ0 24 j 7 = w_of w f 2 * sc ∧ σ0 24 j 8 = w_of w f 4 * sc ∧ σ0 24 j 9 = w 4 * sc := by
    subst hσ0
    refine ⟨?_, ?_, ?_⟩ <;> simp (disch := omega) only [x_st_o, x_rd_ne, x_rd_eq, s_fl_o, s_fl_in, s_fl_out, x_cp_o, x_cp_in, x_cp_out]
  have fo : ∀ k, ¬ (7 ≤ k ∧ k ≤ 9) → σ0 24 j k = σ 24 j k := by
    subst hσ0
    intro k hk
    simp (disch := omega) only [x_st_o, x_rd_ne, x_rd_eq, s_fl_o, s_fl_in, s_fl_out, x_cp_o, x_cp_in, x_cp_out]
  have f27 : σ0 27 j = σ 27 j := by subst hσ0; simp (disch := omega) only [x_st_o, x_rd_ne, x_rd_eq, s_fl_o, s_fl_in, s_fl_out, x_cp_o, x_cp_in, x_cp_out]
  refine x_lpJ (α := x_S × x_V) (fun i q => x_eqo [(27, j)] σ0 q.1 ∧ ∀ s, 0 ≤ s → s < 42 → (s % 21 < i → q.1 27 j s = if σ 27 j s = 9223372036854775807 then 9223372036854775807 else σ 27 j s + kp * (s % 21) * sc) ∧ (¬ s % 21 < i → q.1 27 j s = σ 27 j s)) (fun i q => x_Wp 1 6 (x_blk 6 1) [xR 24 j, xI f, xJ sc, xU, xI kp, xI i, q.2, xU] [] q.1 Q) (lo := 0) (hi := 21) (by omega) (a0 := (σ0, xU)) ⟨eqo_refl, fun s s0 s1 => ⟨fun z => by omega, fun _ => congrFun f27 s⟩⟩ ?_ ?_
  · intro i ⟨σi, u⟩ i0 i1 ⟨j1, j2⟩
    simp only at j1 j2 ⊢
    have kb := kp_b hk (t := i) (by omega) hs
    have v0 := (j2 i i0 (by omega)).2 (by omega)
    have v1 := (j2 (21 + i) (by omega) (by omega)).2 (by omega)
    have r0 := hR i i0 (by omega)
    have r1 := hR (21 + i) (by omega) (by omega)
    have fin : ∀ σe : x_S, x_eqo [(27, j)] σi σe → (∀ s, 0 ≤ s → s < 42 → ¬ s = i → ¬ s = 21 + i → σe 27 j s = σi 27 j s) → σe 27 j i = (if σ 27 j i = 9223372036854775807 then 9223372036854775807 else σ 27 j i + kp * i * sc) → σe 27 j (21 + i) = (if σ 27 j (21 + i) = 9223372036854775807 then 9223372036854775807 else σ 27 j (21 + i) + kp * i * sc) → (x_Wp 1 6 (x_blk 6 1) [xR 24 j, xI f, xJ sc, xU, xI kp, xI (i + 1), xJ (kp * i * sc), xU] [] σe Q → x_Wp 1 6 (x_blk 6 1) [xR 24 j, xI f, xJ sc, xU, xI kp, xI i, u, xU] [] σi Q) → ∃ a' : x_S × x_V, (x_eqo [(27, j)] σ0 a'.1 ∧ ∀ s, 0 ≤ s → s < 42 → (s % 21 < i + 1 → a'.1 27 j s = if σ 27 j s = 9223372036854775807 then 9223372036854775807 else σ 27 j s + kp * (s % 21) * sc) ∧ (¬ s % 21 < i + 1 → a'.1 27 j s = σ 27 j s)) ∧ (x_Wp 1 6 (x_blk 6 1) [xR 24 j, xI f, xJ sc, xU, xI kp, xI (i + 1), a'.2, xU] [] a'.1 Q → x_Wp 1 6 (x_blk 6 1) [xR 24 j, xI f, xJ sc, xU, xI kp, xI i, u, xU] [] σi Q) := by
      intro σe q1 q2 q3 q4 H
      refine ⟨(σe, xJ (kp * i * sc)), ⟨eqo_trans j1 q1, ?_⟩, H⟩
      intro s s0 s1
      simp only
      by_cases c1 : s = i
      · subst c1
        refine ⟨fun _ => ?_, fun z => by omega⟩
        rw [show s % 21 = s by omega]
        exact q3
      · by_cases c2 : s = 21 + i
        · subst c2
          refine ⟨fun _ => ?_, fun z => by omega⟩
          rw [show (21 + i) % 21 = i by omega]
          exact q4
        · rw [q2 s s0 s1 c1 c2]
          exact ⟨fun z => (j2 s s0 s1).1 (by omega), fun z => (j2 s s0 s1).2 (by omega)⟩
    by_cases c0 : σ 27 j i = 9223372036854775807
    · by_cases c1 : σ 27 j (21 + i) = 9223372036854775807
      · rw [c0] at v0
        rw [c1] at v1
        refine fin σi eqo_refl (fun _ _ _ _ _ => rfl) (by rw [v0, if_pos c0]) (by rw [v1, if_pos c1]) (fun H => ?_)
        rw [bk_6_1]
        simp (disch := first | omega | (simp only [x_wtI, x_wtJ, x_wtR, x_wtN]; omega) | assumption | (simp (disch := omega) only [x_st_o, x_rd_ne]; first | assumption | omega) | (apply mir_eq; assumption; (intro c h1 h2; simp (disch := omega) only [x_st_o])) | (apply mis_eq; assumption; (intro c h1 h2; simp (disch := omega) only [x_st_o])) | rfl) only [bk_6_0, bk_6_2, bk_6_3, bk_6_4, wp_ald0, wr_24_0, wr_6_9, wp_ild1, wl_9, wl_11, wp_cald, wp_i2l, wp_lld2, wp_lmul, wp_putj kd_24, wr_6_11, wp_geti kd_6, wp_ic, wp_ist5, wp_fall, wp_ild5, wp_icge, wp_ild4, wp_imul, wp_lst6, wr_24_6, wl_27, wp_pald, wp_lc, wp_lcmp, wp_ifeq, wp_dup2, wp_lld6, wp_ladd, ws_27, wp_iadd, wp_inc5, wp_goto, wp_ret, x_clr_I, x_clr_J, x_clr_R, x_clr_U, ct_some, ct_none, lc_lt, lc_ge, lc_gt, lc_le, lc_eq, lc_r, xI_inj, xJ_inj, Option.some.injEq, eq_self, bi_r, bi_0, bi_1, bi_n, Classical.not_not, and_true, true_and, ite_true, ite_false, ↓reduceIte, ↓x_andl, z_le, z_nle, z_lt, z_nlt, z_eq, z_neq, if_pos, if_neg, x_andl, false_and, and_false, or_true, true_or, or_false, false_or, not_true, not_false_iff, x_rd_eq, x_rd_ne, x_st_o, Int.cast_ofNat_Int, Int.ofNat_zero, Int.ofNat_one, not_true_eq_false, not_false_eq_true, if_true, if_false, ite_self, and_self, Int.ofNat_eq_natCast, Int.tdiv_eq_ediv_of_nonneg, Int.tmod_eq_emod_of_nonneg, x_bm32, v0, v1]
        exact H
      · rw [c0] at v0
        refine fin (x_st σi 27 j (21 + i) (σ 27 j (21 + i) + kp * i * sc)) (eqo_st (by simp) eqo_refl) (fun s _ _ _ _ => by rw [x_rd_ne (by omega)]) (by rw [x_rd_ne (by omega), v0, if_pos c0]) (by rw [x_rd_eq, if_neg c1]) (fun H => ?_)
        rw [bk_6_1]
        simp (disch := first | omega | (simp only [x_wtI, x_wtJ, x_wtR, x_wtN]; omega) | assumption | (simp (disch := omega) only [x_st_o, x_rd_ne]; first | assumption | omega) | (apply mir_eq; assumption; (intro c h1 h2; simp (disch := omega) only [x_st_o])) | (apply mis_eq; assumption; (intro c h1 h2; simp (disch := omega) only [x_st_o])) | rfl) only [bk_6_0, bk_6_2, bk_6_3, bk_6_4, wp_ald0, wr_24_0, wr_6_9, wp_ild1, wl_9, wl_11, wp_cald, wp_i2l, wp_lld2, wp_lmul, wp_putj kd_24, wr_6_11, wp_geti kd_6, wp_ic, wp_ist5, wp_fall, wp_ild5, wp_icge, wp_ild4, wp_imul, wp_lst6, wr_24_6, wl_27, wp_pald, wp_lc, wp_lcmp, wp_ifeq, wp_dup2, wp_lld6, wp_ladd, ws_27, wp_iadd, wp_inc5, wp_goto, wp_ret, x_clr_I, x_clr_J, x_clr_R, x_clr_U, ct_some, ct_none, lc_lt, lc_ge, lc_gt, lc_le, lc_eq, lc_r, xI_inj, xJ_inj, Option.some.injEq, eq_self, bi_r, bi_0, bi_1, bi_n, Classical.not_not, and_true, true_and, ite_true, ite_false, ↓reduceIte, ↓x_andl, z_le, z_nle, z_lt, z_nlt, z_eq, z_neq, if_pos, if_neg, x_andl, false_and, and_false, or_true, true_or, or_false, false_or, not_true, not_false_iff, x_rd_eq, x_rd_ne, x_st_o, Int.cast_ofNat_Int, Int.ofNat_zero, Int.ofNat_one, not_true_eq_false, not_false_eq_true, if_true, if_false, ite_self, and_self, Int.ofNat_eq_natCast, Int.tdiv_eq_ediv_of_nonneg, Int.tmod_eq_emod_of_nonneg, x_bm32, v0, v1]
        exact H
    · by_cases c1 : σ 27 j (21 + i) = 9223372036854775807
      · rw [c1] at v1
        refine fin (x_st σi 27 j i (σ 27 j i + kp * i * sc)) (eqo_st (by simp) eqo_refl) (fun s _ _ _ _ => by rw [x_rd_ne (by omega)]) (by rw [x_rd_eq, if_neg c0]) (by rw [x_rd_ne (by omega), v1, if_pos c1]) (fun H => ?_)
        rw [bk_6_1]
        simp (disch := first | omega | (simp only [x_wtI, x_wtJ, x_wtR, x_wtN]; omega) | assumption | (simp (disch := omega) only [x_st_o, x_rd_ne]; first | assumption | omega) | (apply mir_eq; assumption; (intro c h1 h2; simp (disch := omega) only [x_st_o])) | (apply mis_eq; assumption; (intro c h1 h2; simp (disch := omega) only [x_st_o])) | rfl) only [bk_6_0, bk_6_2, bk_6_3, bk_6_4, wp_ald0, wr_24_0, wr_6_9, wp_ild1, wl_9, wl_11, wp_cald, wp_i2l, wp_lld2, wp_lmul, wp_putj kd_24, wr_6_11, wp_geti kd_6, wp_ic, wp_ist5, wp_fall, wp_ild5, wp_icge, wp_ild4, wp_imul, wp_lst6, wr_24_6, wl_27, wp_pald, wp_lc, wp_lcmp, wp_ifeq, wp_dup2, wp_lld6, wp_ladd, ws_27, wp_iadd, wp_inc5, wp_goto, wp_ret, x_clr_I, x_clr_J, x_clr_R, x_clr_U, ct_some, ct_none, lc_lt, lc_ge, lc_gt, lc_le, lc_eq, lc_r, xI_inj, xJ_inj, Option.some.injEq, eq_self, bi_r, bi_0, bi_1, bi_n, Classical.not_not, and_true, true_and, ite_true, ite_false, ↓reduceIte, ↓x_andl, z_le, z_nle, z_lt, z_nlt, z_eq, z_neq, if_pos, if_neg, x_andl, false_and, and_false, or_true, true_or, or_false, false_or, not_true, not_false_iff, x_rd_eq, x_rd_ne, x_st_o, Int.cast_ofNat_Int, Int.ofNat_zero, Int.ofNat_one, not_true_eq_false, not_false_eq_true, if_true, if_false, ite_self, and_self, Int.ofNat_eq_natCast, Int.tdiv_eq_ediv_of_nonneg, Int.tmod_eq_emod_of_nonneg, x_bm32, v0, v1]
        exact H
      · refine fin (x_st (x_st σi 27 j i (σ 27 j i + kp * i * sc)) 27 j (21 + i) (σ 27 j (21 + i) + kp * i * sc)) (eqo_st (by simp) (eqo_st (by simp) eqo_refl)) (fun s _ _ _ _ => by rw [x_rd_ne (by omega), x_rd_ne (by omega)]) (by rw [x_rd_ne (by omega), x_rd_eq, if_neg c0]) (by rw [x_rd_eq, if_neg c1]) (fun H => ?_)
        rw [bk_6_1]
        simp (disch := first | omega | (simp only [x_wtI, x_wtJ, x_wtR, x_wtN]; omega) | assumption | (simp (disch := omega) only [x_st_o, x_rd_ne]; first | assumption | omega) | (apply mir_eq; assumption; (intro c h1 h2; simp (disch := omega) only [x_st_o])) | (apply mis_eq; assumption; (intro c h1 h2; simp (disch := omega) only [x_st_o])) | rfl) only [bk_6_0, bk_6_2, bk_6_3, bk_6_4, wp_ald0, wr_24_0, wr_6_9, wp_ild1, wl_9, wl_11, wp_cald, wp_i2l, wp_lld2, wp_lmul, wp_putj kd_24, wr_6_11, wp_geti kd_6, wp_ic, wp_ist5, wp_fall, wp_ild5, wp_icge, wp_ild4, wp_imul, wp_lst6, wr_24_6, wl_27, wp_pald, wp_lc, wp_lcmp, wp_ifeq, wp_dup2, wp_lld6, wp_ladd, ws_27, wp_iadd, wp_inc5, wp_goto, wp_ret, x_clr_I, x_clr_J, x_clr_R, x_clr_U, ct_some, ct_none, lc_lt, lc_ge, lc_gt, lc_le, lc_eq, lc_r, xI_inj, xJ_inj, Option.some.injEq, eq_self, bi_r, bi_0, bi_1, bi_n, Classical.not_not, and_true, true_and, ite_true, ite_false, ↓reduceIte, ↓x_andl, z_le, z_nle, z_lt, z_nlt, z_eq, z_neq, if_pos, if_neg, x_andl, false_and, and_false, or_true, true_or, or_false, false_or, not_true, not_false_iff, x_rd_eq, x_rd_ne, x_st_o, Int.cast_ofNat_Int, Int.ofNat_zero, Int.ofNat_one, not_true_eq_false, not_false_eq_true, if_true, if_false, ite_self, and_self, Int.ofNat_eq_natCast, Int.tdiv_eq_ediv_of_nonneg, Int.tmod_eq_emod_of_nonneg, x_bm32, v0, v1]
        exact H
  · intro ⟨σi, u⟩ ⟨j1, j2⟩
    simp only at j1 j2 ⊢
    rw [bk_6_1]
    simp (disch := first | omega | (simp only [x_wtI, x_wtJ, x_wtR, x_wtN]; omega) | assumption | (simp (disch := omega) only [x_st_o, x_rd_ne]; first | assumption | omega) | (apply mir_eq; assumption; (intro c h1 h2; simp (disch := omega) only [x_st_o])) | (apply mis_eq; assumption; (intro c h1 h2; simp (disch := omega) only [x_st_o])) | rfl) only [bk_6_0, bk_6_2, bk_6_3, bk_6_4, wp_ald0, wr_24_0, wr_6_9, wp_ild1, wl_9, wl_11, wp_cald, wp_i2l, wp_lld2, wp_lmul, wp_putj kd_24, wr_6_11, wp_geti kd_6, wp_ic, wp_ist5, wp_fall, wp_ild5, wp_icge, wp_ild4, wp_imul, wp_lst6, wr_24_6, wl_27, wp_pald, wp_lc, wp_lcmp, wp_ifeq, wp_dup2, wp_lld6, wp_ladd, ws_27, wp_iadd, wp_inc5, wp_goto, wp_ret, x_clr_I, x_clr_J, x_clr_R, x_clr_U, ct_some, ct_none, lc_lt, lc_ge, lc_gt, lc_le, lc_eq, lc_r, xI_inj, xJ_inj, Option.some.injEq, eq_self, bi_r, bi_0, bi_1, bi_n, Classical.not_not, and_true, true_and, ite_true, ite_false, ↓reduceIte, ↓x_andl, z_le, z_nle, z_lt, z_nlt, z_eq, z_neq, if_pos, if_neg, x_andl, false_and, and_false, or_true, true_or, or_false, false_or, not_true, not_false_iff, x_rd_eq, x_rd_ne, x_st_o, Int.cast_ofNat_Int, Int.ofNat_zero, Int.ofNat_one, not_true_eq_false, not_false_eq_true, if_true, if_false, ite_self, and_self, Int.ofNat_eq_natCast, Int.tdiv_eq_ediv_of_nonneg, Int.tmod_eq_emod_of_nonneg, x_bm32]
    refine hQ _ _ ⟨rfl, eqo_trans e0 (eqo_mono (by simp) j1), ?_, ?_, ?_⟩
    · intro k hk
      rw [j1 24 j (by simp)]
      exact fo k hk
    · rw [j1 24 j (by simp)]
      exact f7
    · intro s s0 s1
      exact (j2 s s0 s1).1 (by omega)
def rok (c E : Int) (w L T : Int → Int) (f : Int) (R : Int → Int) : Prop := ∀ s, 0 ≤ s → s < 42 → (¬ r_ok 9223372036854775807 E w T f s ∧ R s = 9223372036854775807) ∨ (r_ok 9223372036854775807 E w T f s ∧ R s = r_of c E w L T f s ∧ -600000000000000000 ≤ R s ∧ R s ≤ 600000000000000000)
def kpE (w : Int → Int) (E f : Int) : Int := if p_end w E f then w 5 - w 6 else w 5
theorem rok_b {c E : Int} {w L T R : Int → Int} {f : Int} (h : rok c E w L T f R) : rbd R := by
  intro s s0 s1
  rcases h s s0 s1 with ⟨_, z⟩ | ⟨_, _, z⟩
  · exact Or.inl z
  · exact Or.inr z
theorem vsc_b {c : Int} {w : Int → Int} {f : Int} : 1 ≤ v_sc c w f ∧ v_sc c w f ≤ 100000000 := by
  have := pay_b (m := w_of w f 6)
  unfold v_sc
  split <;> omega
theorem kpE_b {w : Int → Int} (hw : wf w) {E f : Int} : -99 ≤ kpE w E f ∧ kpE w E f ≤ 99 := by
  have a := wf_h hw
  unfold wf_hdr at a
  unfold kpE
  split <;> omega
theorem h_look {σ : x_S} {w T L : Int → Int} {j : Nat} {c E f : Int} (hM : mir σ 1 w) (hj : j < 4) (hw : wf w) (h0 : 0 ≤ f) (h1 : f < w 0) (hm : σ 24 j 3 = c) (hc : 0 ≤ c ∧ c ≤ 3) (hE : σ 24 j 2 = E) (hE2 : 0 ≤ E ∧ E ≤ 100) (hV : σ 25 j = T) (hL0 : σ 26 j = L) (hT : ¬ p_end w E f → ∀ i, 0 ≤ i → i < w_of w f 7 → t_bd 9223372036854775807 w T (w_of w f (8 + i))) (hL : c = 2 → p_end w E f → -170000 ≤ L f ∧ L f ≤ 170000) : x_Sp 3 3 [xR 24 j, xI f] σ (fun r σ' => r = none ∧ x_eqo [(24, j), (27, j)] σ σ' ∧ (∀ k, ¬ (7 ≤ k ∧ k ≤ 9) → σ' 24 j k = σ 24 j k) ∧ ∃ R, rok c E w L T f R ∧ lbk w (v_sc c w f) (kpE w E f) R σ' j f) := by
  have a := wf_h hw
  unfold wf_hdr at a
  have o := wf_f hw h0 h1
  unfold wf_one at o
  refine x_gen (fun Q hQ => ?_)
  have sb := vsc_b (c := c) (w := w) (f := f)
  have kb := kpE_b hw (E := E) (f := f)
  -- the last part
  have last : ∀ (σ1 : x_S) (u : Int), x_eqo [(27, j)] σ σ1 → rok c E w L T f (σ1 27 j) → (u = x_bi (p_end w E f)) → x_Wp 3 3 (x_blk 3 7) [xR 24 j, xI f, xJ (v_sc c w f), xU, xI u] [] σ1 Q := by
    intro σ1 u e1 hr hu
    have hM1 : mir σ1 1 w := mir_eq hM (fun c q1 q2 => e1 c 1 (by simp; omega))
    rw [bk_3_7]
    by_cases ce : p_end w E f
    · rw [bi_t ce] at hu
      subst hu
      have ek : kpE w E f = w 5 - w 6 := if_pos ce
      simp (disch := first | omega | (simp only [x_wtI, x_wtJ, x_wtR, x_wtN]; omega) | assumption | (simp (disch := omega) only [x_st_o, x_rd_ne]; first | assumption | omega) | (apply mir_eq; assumption; (intro c h1 h2; simp (disch := omega) only [x_st_o])) | (apply mis_eq; assumption; (intro c h1 h2; simp (disch := omega) only [x_st_o])) | rfl) only [bk_3_0, bk_3_1, bk_3_2, bk_3_3, bk_3_4, bk_3_5, bk_3_6, bk_3_8, bk_3_9, wp_ald0, wp_geti kd_24, wp_ifne, wp_parts, wr_24_0, wr_6_13, wp_ild1, wl_13, wp_cald, wl_25, wl_26, wl_27, wp_pald, wp_goto, wp_lc, wp_fall, wp_lst2, wk_4, wp_ist4, wp_ild4, wp_ifeq, wr_24_6, wp_ic, wp_icne, wr_24_5, wp_lneg, wk_278, wr_24_4, wk_66, wp_imul, wp_acpy kd_25 kd_27 (Or.inr rfl), wk_5, wp_lld2, wp_geti kd_6, wp_isub, wk_6, wp_ret, x_clr_I, x_clr_J, x_clr_R, x_clr_U, ct_some, ct_none, lc_lt, lc_ge, lc_gt, lc_le, lc_eq, lc_r, xI_inj, xJ_inj, Option.some.injEq, eq_self, bi_r, bi_0, bi_1, bi_n, Classical.not_not, and_true, true_and, ite_true, ite_false, ↓reduceIte, ↓x_andl, z_le, z_nle, z_lt, z_nlt, z_eq, z_neq, if_pos, if_neg, x_andl, false_and, and_false, or_true, true_or, or_false, false_or, not_true, not_false_iff, x_rd_eq, x_rd_ne, x_st_o, Int.cast_ofNat_Int, Int.ofNat_zero, Int.ofNat_one, not_true_eq_false, not_false_eq_true, if_true, if_false, ite_self, and_self, Int.ofNat_eq_natCast, Int.tdiv_eq_ediv_of_nonneg, Int.tmod_eq_emod_of_nonneg, x_bm32, mi_hold hM1, mi_left hM1]
      rw [← ek]
      refine x_use (d := 1) (h_keep hM1 hj hw h0 h1 sb kb (rok_b hr)) ?_
      rintro r σ2 ⟨rfl, q1, q2, q3⟩
      simp (disch := first | omega | (simp only [x_wtI, x_wtJ, x_wtR, x_wtN]; omega) | assumption | (simp (disch := omega) only [x_st_o, x_rd_ne]; first | assumption | omega) | (apply mir_eq; assumption; (intro c h1 h2; simp (disch := omega) only [x_st_o])) | (apply mis_eq; assumption; (intro c h1 h2; simp (disch := omega) only [x_st_o])) | rfl) only [bk_3_0, bk_3_1, bk_3_2, bk_3_3, bk_3_4, bk_3_5, bk_3_6, bk_3_8, bk_3_9, wp_ald0, wp_geti kd_24, wp_ifne, wp_parts, wr_24_0, wr_6_13, wp_ild1, wl_13, wp_cald, wl_25, wl_26, wl_27, wp_pald, wp_goto, wp_lc, wp_fall, wp_lst2, wk_4, wp_ist4, wp_ild4, wp_ifeq, wr_24_6, wp_ic, wp_icne, wr_24_5, wp_lneg, wk_278, wr_24_4, wk_66, wp_imul, wp_acpy kd_25 kd_27 (Or.inr rfl), wk_5, wp_lld2, wp_geti kd_6, wp_isub, wk_6, wp_ret, x_clr_I, x_clr_J, x_clr_R, x_clr_U, ct_some, ct_none, lc_lt, lc_ge, lc_gt, lc_le, lc_eq, lc_r, xI_inj, xJ_inj, Option.some.injEq, eq_self, bi_r, bi_0, bi_1, bi_n, Classical.not_not, and_true, true_and, ite_true, ite_false, ↓reduceIte, ↓x_andl, z_le, z_nle, z_lt, z_nlt, z_eq, z_neq, if_pos, if_neg, x_andl, false_and, and_false, or_true, true_or, or_false, false_or, not_true, not_false_iff, x_rd_eq, x_rd_ne, x_st_o, Int.cast_ofNat_Int, Int.ofNat_zero, Int.ofNat_one, not_true_eq_false, not_false_eq_true, if_true, if_false, ite_self, and_self, Int.ofNat_eq_natCast, Int.tdiv_eq_ediv_of_nonneg, Int.tmod_eq_emod_of_nonneg, x_bm32]
      exact hQ _ _ ⟨rfl, eqo_trans (eqo_mono (by simp) e1) q1, fun k hk => by rw [q2 k hk, e1 24 j (by simp)], σ1 27 j, hr, q3⟩
    · rw [bi_f ce] at hu
      subst hu
      have ek : kpE w E f = w 5 := if_neg ce
      simp (disch := first | omega | (simp only [x_wtI, x_wtJ, x_wtR, x_wtN]; omega) | assumption | (simp (disch := omega) only [x_st_o, x_rd_ne]; first | assumption | omega) | (apply mir_eq; assumption; (intro c h1 h2; simp (disch := omega) only [x_st_o])) | (apply mis_eq; assumption; (intro c h1 h2; simp (disch := omega) only [x_st_o])) | rfl) only [bk_3_0, bk_3_1, bk_3_2, bk_3_3, bk_3_4, bk_3_5, bk_3_6, bk_3_8, bk_3_9, wp_ald0, wp_geti kd_24, wp_ifne, wp_parts, wr_24_0, wr_6_13, wp_ild1, wl_13, wp_cald, wl_25, wl_26, wl_27, wp_pald, wp_goto, wp_lc, wp_fall, wp_lst2, wk_4, wp_ist4, wp_ild4, wp_ifeq, wr_24_6, wp_ic, wp_icne, wr_24_5, wp_lneg, wk_278, wr_24_4, wk_66, wp_imul, wp_acpy kd_25 kd_27 (Or.inr rfl), wk_5, wp_lld2, wp_geti kd_6, wp_isub, wk_6, wp_ret, x_clr_I, x_clr_J, x_clr_R, x_clr_U, ct_some, ct_none, lc_lt, lc_ge, lc_gt, lc_le, lc_eq, lc_r, xI_inj, xJ_inj, Option.some.injEq, eq_self, bi_r, bi_0, bi_1, bi_n, Classical.not_not, and_true, true_and, ite_true, ite_false, ↓reduceIte, ↓x_andl, z_le, z_nle, z_lt, z_nlt, z_eq, z_neq, if_pos, if_neg, x_andl, false_and, and_false, or_true, true_or, or_false, false_or, not_true, not_false_iff, x_rd_eq, x_rd_ne, x_st_o, Int.cast_ofNat_Int, Int.ofNat_zero, Int.ofNat_one, not_true_eq_false, not_false_eq_true, if_true, if_false, ite_self, and_self, Int.ofNat_eq_natCast, Int.tdiv_eq_ediv_of_nonneg, Int.tmod_eq_emod_of_nonneg, x_bm32, mi_hold hM1, mi_left hM1]
      rw [← ek]
      refine x_use (d := 1) (h_keep hM1 hj hw h0 h1 sb kb (rok_b hr)) ?_
      rintro r σ2 ⟨rfl, q1, q2, q3⟩
      simp (disch := first | omega | (simp only [x_wtI, x_wtJ, x_wtR, x_wtN]; omega) | assumption | (simp (disch := omega) only [x_st_o, x_rd_ne]; first | assumption | omega) | (apply mir_eq; assumption; (intro c h1 h2; simp (disch := omega) only [x_st_o])) | (apply mis_eq; assumption; (intro c h1 h2; simp (disch := omega) only [x_st_o])) | rfl) only [bk_3_0, bk_3_1, bk_3_2, bk_3_3, bk_3_4, bk_3_5, bk_3_6, bk_3_8, bk_3_9, wp_ald0, wp_geti kd_24, wp_ifne, wp_parts, wr_24_0, wr_6_13, wp_ild1, wl_13, wp_cald, wl_25, wl_26, wl_27, wp_pald, wp_goto, wp_lc, wp_fall, wp_lst2, wk_4, wp_ist4, wp_ild4, wp_ifeq, wr_24_6, wp_ic, wp_icne, wr_24_5, wp_lneg, wk_278, wr_24_4, wk_66, wp_imul, wp_acpy kd_25 kd_27 (Or.inr rfl), wk_5, wp_lld2, wp_geti kd_6, wp_isub, wk_6, wp_ret, x_clr_I, x_clr_J, x_clr_R, x_clr_U, ct_some, ct_none, lc_lt, lc_ge, lc_gt, lc_le, lc_eq, lc_r, xI_inj, xJ_inj, Option.some.injEq, eq_self, bi_r, bi_0, bi_1, bi_n, Classical.not_not, and_true, true_and, ite_true, ite_false, ↓reduceIte, ↓x_andl, z_le, z_nle, z_lt, z_nlt, z_eq, z_neq, if_pos, if_neg, x_andl, false_and, and_false, or_true, true_or, or_false, false_or, not_true, not_false_iff, x_rd_eq, x_rd_ne, x_st_o, Int.cast_ofNat_Int, Int.ofNat_zero, Int.ofNat_one, not_true_eq_false, not_false_eq_true, if_true, if_false, ite_self, and_self, Int.ofNat_eq_natCast, Int.tdiv_eq_ediv_of_nonneg, Int.tmod_eq_emod_of_nonneg, x_bm32]
      exact hQ _ _ ⟨rfl, eqo_trans (eqo_mono (by simp) e1) q1, fun k hk => by rw [q2 k hk, e1 24 j (by simp)], σ1 27 j, hr, q3⟩
  have go : x_Sp 3 3 [xR 24 j, xI f] σ Q ↔ x_Wp 3 3 (x_blk 3 2) [xR 24 j, xI f, xU, xU, xU] [xJ (v_sc c w f)] σ Q := by
    by_cases z : c = 0
    · rw [show v_sc c w f = x_pay (w_of w f 6) from if_pos z]
      simp (disch := first | omega | (simp only [x_wtI, x_wtJ, x_wtR, x_wtN]; omega) | assumption | (simp (disch := omega) only [x_st_o, x_rd_ne]; first | assumption | omega) | (apply mir_eq; assumption; (intro c h1 h2; simp (disch := omega) only [x_st_o])) | (apply mis_eq; assumption; (intro c h1 h2; simp (disch := omega) only [x_st_o])) | rfl) only [sp_3, bk_3_0, bk_3_1, bk_3_3, bk_3_4, bk_3_5, bk_3_6, bk_3_7, bk_3_8, bk_3_9, wp_ald0, wp_geti kd_24, wp_ifne, wp_parts, wr_24_0, wr_6_13, wp_ild1, wl_13, wp_cald, wl_25, wl_26, wl_27, wp_pald, wp_goto, wp_lc, wp_fall, wp_lst2, wk_4, wp_ist4, wp_ild4, wp_ifeq, wr_24_6, wp_ic, wp_icne, wr_24_5, wp_lneg, wk_278, wr_24_4, wk_66, wp_imul, wp_acpy kd_25 kd_27 (Or.inr rfl), wk_5, wp_lld2, wp_geti kd_6, wp_isub, wk_6, wp_ret, x_clr_I, x_clr_J, x_clr_R, x_clr_U, ct_some, ct_none, lc_lt, lc_ge, lc_gt, lc_le, lc_eq, lc_r, xI_inj, xJ_inj, Option.some.injEq, eq_self, bi_r, bi_0, bi_1, bi_n, Classical.not_not, and_true, true_and, ite_true, ite_false, ↓reduceIte, ↓x_andl, z_le, z_nle, z_lt, z_nlt, z_eq, z_neq, if_pos, if_neg, x_andl, false_and, and_false, or_true, true_or, or_false, false_or, not_true, not_false_iff, x_rd_eq, x_rd_ne, x_st_o, Int.cast_ofNat_Int, Int.ofNat_zero, Int.ofNat_one, not_true_eq_false, not_false_eq_true, if_true, if_false, ite_self, and_self, Int.ofNat_eq_natCast, Int.tdiv_eq_ediv_of_nonneg, Int.tmod_eq_emod_of_nonneg, x_bm32, hm, mi_far hM]
    · rw [show v_sc c w f = 1 from if_neg z]
      simp (disch := first | omega | (simp only [x_wtI, x_wtJ, x_wtR, x_wtN]; omega) | assumption | (simp (disch := omega) only [x_st_o, x_rd_ne]; first | assumption | omega) | (apply mir_eq; assumption; (intro c h1 h2; simp (disch := omega) only [x_st_o])) | (apply mis_eq; assumption; (intro c h1 h2; simp (disch := omega) only [x_st_o])) | rfl) only [sp_3, bk_3_0, bk_3_1, bk_3_3, bk_3_4, bk_3_5, bk_3_6, bk_3_7, bk_3_8, bk_3_9, wp_ald0, wp_geti kd_24, wp_ifne, wp_parts, wr_24_0, wr_6_13, wp_ild1, wl_13, wp_cald, wl_25, wl_26, wl_27, wp_pald, wp_goto, wp_lc, wp_fall, wp_lst2, wk_4, wp_ist4, wp_ild4, wp_ifeq, wr_24_6, wp_ic, wp_icne, wr_24_5, wp_lneg, wk_278, wr_24_4, wk_66, wp_imul, wp_acpy kd_25 kd_27 (Or.inr rfl), wk_5, wp_lld2, wp_geti kd_6, wp_isub, wk_6, wp_ret, x_clr_I, x_clr_J, x_clr_R, x_clr_U, ct_some, ct_none, lc_lt, lc_ge, lc_gt, lc_le, lc_eq, lc_r, xI_inj, xJ_inj, Option.some.injEq, eq_self, bi_r, bi_0, bi_1, bi_n, Classical.not_not, and_true, true_and, ite_true, ite_false, ↓reduceIte, ↓x_andl, z_le, z_nle, z_lt, z_nlt, z_eq, z_neq, if_pos, if_neg, x_andl, false_and, and_false, or_true, true_or, or_false, false_or, not_true, not_false_iff, x_rd_eq, x_rd_ne, x_st_o, Int.cast_ofNat_Int, Int.ofNat_zero, Int.ofNat_one, not_true_eq_false, not_false_eq_true, if_true, if_false, ite_self, and_self, Int.ofNat_eq_natCast, Int.tdiv_eq_ediv_of_nonneg, Int.tmod_eq_emod_of_nonneg, x_bm32, hm, mi_far hM]
  rw [go, bk_3_2]
  by_cases ce : p_end w E f
  · have lst := fun (R : Int) (hR : R = if c = 2 then - L f else 0) => last (s_fl σ 27 j 0 42 R) 1 (eqo_fl (by simp) eqo_refl) (fun s s0 s1 => Or.inr ⟨Or.inl ce, by (rw [s_fl_in ⟨s0, s1⟩, hR]; unfold r_of; rw [if_pos ce]), by (rw [s_fl_in ⟨s0, s1⟩, hR]; by_cases z : c = 2; rw [if_pos z]; have := hL z ce; omega; rw [if_neg z]; omega), by (rw [s_fl_in ⟨s0, s1⟩, hR]; by_cases z : c = 2; rw [if_pos z]; have := hL z ce; omega; rw [if_neg z]; omega)⟩) (bi_t ce).symm
    by_cases c2 : c = 2
    · have l2 := lst (- L f) (by rw [if_pos c2])
      simp (disch := first | omega | (simp only [x_wtI, x_wtJ, x_wtR, x_wtN]; omega) | assumption | (simp (disch := omega) only [x_st_o, x_rd_ne]; first | assumption | omega) | (apply mir_eq; assumption; (intro c h1 h2; simp (disch := omega) only [x_st_o])) | (apply mis_eq; assumption; (intro c h1 h2; simp (disch := omega) only [x_st_o])) | rfl) only [bk_3_0, bk_3_1, bk_3_3, bk_3_4, bk_3_5, bk_3_6, bk_3_8, bk_3_9, wp_ald0, wp_geti kd_24, wp_ifne, wp_parts, wr_24_0, wr_6_13, wp_ild1, wl_13, wp_cald, wl_25, wl_26, wl_27, wp_pald, wp_goto, wp_lc, wp_fall, wp_lst2, wk_4, wp_ist4, wp_ild4, wp_ifeq, wr_24_6, wp_ic, wp_icne, wr_24_5, wp_lneg, wk_278, wr_24_4, wk_66, wp_imul, wp_acpy kd_25 kd_27 (Or.inr rfl), wk_5, wp_lld2, wp_geti kd_6, wp_isub, wk_6, wp_ret, x_clr_I, x_clr_J, x_clr_R, x_clr_U, ct_some, ct_none, lc_lt, lc_ge, lc_gt, lc_le, lc_eq, lc_r, xI_inj, xJ_inj, Option.some.injEq, eq_self, bi_r, bi_0, bi_1, bi_n, Classical.not_not, and_true, true_and, ite_true, ite_false, ↓reduceIte, ↓x_andl, z_le, z_nle, z_lt, z_nlt, z_eq, z_neq, if_pos, if_neg, x_andl, false_and, and_false, or_true, true_or, or_false, false_or, not_true, not_false_iff, x_rd_eq, x_rd_ne, x_st_o, Int.cast_ofNat_Int, Int.ofNat_zero, Int.ofNat_one, not_true_eq_false, not_false_eq_true, if_true, if_false, ite_self, and_self, Int.ofNat_eq_natCast, Int.tdiv_eq_ediv_of_nonneg, Int.tmod_eq_emod_of_nonneg, x_bm32, k_isEndC, bi_t, hm, hL0, k_fill27]
      exact l2
    · have l2 := lst 0 (by rw [if_neg c2])
      simp (disch := first | omega | (simp only [x_wtI, x_wtJ, x_wtR, x_wtN]; omega) | assumption | (simp (disch := omega) only [x_st_o, x_rd_ne]; first | assumption | omega) | (apply mir_eq; assumption; (intro c h1 h2; simp (disch := omega) only [x_st_o])) | (apply mis_eq; assumption; (intro c h1 h2; simp (disch := omega) only [x_st_o])) | rfl) only [bk_3_0, bk_3_1, bk_3_3, bk_3_4, bk_3_5, bk_3_6, bk_3_8, bk_3_9, wp_ald0, wp_geti kd_24, wp_ifne, wp_parts, wr_24_0, wr_6_13, wp_ild1, wl_13, wp_cald, wl_25, wl_26, wl_27, wp_pald, wp_goto, wp_lc, wp_fall, wp_lst2, wk_4, wp_ist4, wp_ild4, wp_ifeq, wr_24_6, wp_ic, wp_icne, wr_24_5, wp_lneg, wk_278, wr_24_4, wk_66, wp_imul, wp_acpy kd_25 kd_27 (Or.inr rfl), wk_5, wp_lld2, wp_geti kd_6, wp_isub, wk_6, wp_ret, x_clr_I, x_clr_J, x_clr_R, x_clr_U, ct_some, ct_none, lc_lt, lc_ge, lc_gt, lc_le, lc_eq, lc_r, xI_inj, xJ_inj, Option.some.injEq, eq_self, bi_r, bi_0, bi_1, bi_n, Classical.not_not, and_true, true_and, ite_true, ite_false, ↓reduceIte, ↓x_andl, z_le, z_nle, z_lt, z_nlt, z_eq, z_neq, if_pos, if_neg, x_andl, false_and, and_false, or_true, true_or, or_false, false_or, not_true, not_false_iff, x_rd_eq, x_rd_ne, x_st_o, Int.cast_ofNat_Int, Int.ofNat_zero, Int.ofNat_one, not_true_eq_false, not_false_eq_true, if_true, if_false, ite_self, and_self, Int.ofNat_eq_natCast, Int.tdiv_eq_ediv_of_nonneg, Int.tmod_eq_emod_of_nonneg, x_bm32, k_isEndC, bi_t, hm, k_fill27]
      exact l2
  · have hT' := hT ce
    have hk : 0 < w_of w f 7 := by
      by_cases z : w_of w f 7 = 0
      · exact absurd (Or.inl z) ce
      · omega
    simp (disch := first | omega | (simp only [x_wtI, x_wtJ, x_wtR, x_wtN]; omega) | assumption | (simp (disch := omega) only [x_st_o, x_rd_ne]; first | assumption | omega) | (apply mir_eq; assumption; (intro c h1 h2; simp (disch := omega) only [x_st_o])) | (apply mis_eq; assumption; (intro c h1 h2; simp (disch := omega) only [x_st_o])) | rfl) only [bk_3_0, bk_3_1, bk_3_3, bk_3_4, bk_3_5, bk_3_6, bk_3_8, bk_3_9, wp_ald0, wp_geti kd_24, wp_ifne, wp_parts, wr_24_0, wr_6_13, wp_ild1, wl_13, wp_cald, wl_25, wl_26, wl_27, wp_pald, wp_goto, wp_lc, wp_fall, wp_lst2, wk_4, wp_ist4, wp_ild4, wp_ifeq, wr_24_6, wp_ic, wp_icne, wr_24_5, wp_lneg, wk_278, wr_24_4, wk_66, wp_imul, wp_acpy kd_25 kd_27 (Or.inr rfl), wk_5, wp_lld2, wp_geti kd_6, wp_isub, wk_6, wp_ret, x_clr_I, x_clr_J, x_clr_R, x_clr_U, ct_some, ct_none, lc_lt, lc_ge, lc_gt, lc_le, lc_eq, lc_r, xI_inj, xJ_inj, Option.some.injEq, eq_self, bi_r, bi_0, bi_1, bi_n, Classical.not_not, and_true, true_and, ite_true, ite_false, ↓reduceIte, ↓x_andl, z_le, z_nle, z_lt, z_nlt, z_eq, z_neq, if_pos, if_neg, x_andl, false_and, and_false, or_true, true_or, or_false, false_or, not_true, not_false_iff, x_rd_eq, x_rd_ne, x_st_o, Int.cast_ofNat_Int, Int.ofNat_zero, Int.ofNat_one, not_true_eq_false, not_false_eq_true, if_true, if_false, ite_self, and_self, Int.ofNat_eq_natCast, Int.tdiv_eq_ediv_of_nonneg, Int.tmod_eq_emod_of_nonneg, x_bm32, k_isEndC, bi_f, hm]
    refine x_use (d := 0) (h_gather hM hj hw h0 h1 hm hc hV hT') ?_
    rintro r σ1 ⟨rfl, e1, r1⟩
    simp (disch := first | omega | (simp only [x_wtI, x_wtJ, x_wtR, x_wtN]; omega) | assumption | (simp (disch := omega) only [x_st_o, x_rd_ne]; first | assumption | omega) | (apply mir_eq; assumption; (intro c h1 h2; simp (disch := omega) only [x_st_o])) | (apply mis_eq; assumption; (intro c h1 h2; simp (disch := omega) only [x_st_o])) | rfl) only [bk_3_0, bk_3_1, bk_3_3, bk_3_4, bk_3_5, bk_3_6, bk_3_8, bk_3_9, wp_ald0, wp_geti kd_24, wp_ifne, wp_parts, wr_24_0, wr_6_13, wp_ild1, wl_13, wp_cald, wl_25, wl_26, wl_27, wp_pald, wp_goto, wp_lc, wp_fall, wp_lst2, wk_4, wp_ist4, wp_ild4, wp_ifeq, wr_24_6, wp_ic, wp_icne, wr_24_5, wp_lneg, wk_278, wr_24_4, wk_66, wp_imul, wp_acpy kd_25 kd_27 (Or.inr rfl), wk_5, wp_lld2, wp_geti kd_6, wp_isub, wk_6, wp_ret, x_clr_I, x_clr_J, x_clr_R, x_clr_U, ct_some, ct_none, lc_lt, lc_ge, lc_gt, lc_le, lc_eq, lc_r, xI_inj, xJ_inj, Option.some.injEq, eq_self, bi_r, bi_0, bi_1, bi_n, Classical.not_not, and_true, true_and, ite_true, ite_false, ↓reduceIte, ↓x_andl, z_le, z_nle, z_lt, z_nlt, z_eq, z_neq, if_pos, if_neg, x_andl, false_and, and_false, or_true, true_or, or_false, false_or, not_true, not_false_iff, x_rd_eq, x_rd_ne, x_st_o, Int.cast_ofNat_Int, Int.ofNat_zero, Int.ofNat_one, not_true_eq_false, not_false_eq_true, if_true, if_false, ite_self, and_self, Int.ofNat_eq_natCast, Int.tdiv_eq_ediv_of_nonneg, Int.tmod_eq_emod_of_nonneg, x_bm32]
    refine last σ1 0 e1 ?_ (bi_f ce).symm
    intro s s0 s1
    have gs := gb_s (k := w_of w f 6) (by
      have k0 := wf_k hw (i := 0) h0 h1 (by omega) hk
      have ok := wf_f hw (f := w_of w f (8 + 0)) (by omega) (by omega)
      unfold wf_one at ok
      omega)
    have gz := gb_pos (k := w_of w f 6)
    have gz1 := gb_pos (k := w_of w f 6 + 1)
    have pz := pay_b (m := w_of w f 6)
    rcases r1 s s0 s1 with ⟨z, zv⟩ | ⟨z, zv⟩
    · exact Or.inl ⟨fun y => y.elim ce (fun q => q z), zv⟩
    · refine Or.inr ⟨Or.inr (fun ⟨k, k0, k1, ke⟩ => z k k0 k1 ke), ?_, ?_⟩
      · rw [zv]
        unfold r_of
        rw [if_neg ce]
      · rw [zv]
        by_cases c0 : c = 0
        · rw [if_pos c0]
          have rb := rsum_b hw h0 h1 hT' s0 s1 (w_of w f 7).toNat (by omega) (fun k p q => z k p (by omega))
          have m5 := mulb (a := ((w_of w f 7).toNat : Int)) (b := 200 * g_b (w_of w f 6 + 1)) (A := 5) (B := 200 * g_b (w_of w f 6 + 1)) (by omega) (by omega)
          omega
        · rw [if_neg c0]
          rcases rmax_b hw h0 h1 hT' s0 s1 (w_of w f 7).toNat (by omega) (fun k p q => z k p (by omega)) with ⟨q, _⟩ | q <;> omega

theorem h_isW {σ : x_S} {b : Int → Int} {n f k a : Int} {j : Nat} (hB : rdB σ b n) (hj : j < 28) (h7 : σ 3 0 7 = f) (h8 : σ 3 0 8 = k) (h6 : σ 3 0 6 = a) (hr : 0 ≤ f ∧ f ≤ a ∧ a ≤ n) (hk : 0 ≤ k ∧ k ≤ 4) : x_Sp 4 31 [xR 3 0, xR 101 j] σ (fun r σ' => σ' = σ ∧ r = some (xI (if isW b (xst j) f k a then 1 else 0))) := by
  obtain ⟨nb, h1, hby⟩ := id hB
  have l := xst_l hj
  refine x_gen (fun Q hQ => ?_)
  by_cases c1 : k = 1
  · by_cases c2 : a - f = x_sln j
    · have ch : ∀ i, 0 ≤ i → i < x_sln j → x_chr j i = (xst j).getD i.toNat 0 := fun _ _ _ => rfl
      have chb : ∀ i, 0 ≤ i → i < x_sln j → 0 ≤ x_chr j i ∧ x_chr j i < 128 := by
        intro i i0 i1
        have e := (ch_0 ⟨j, hj⟩ ⟨i.toNat, by omega⟩).2
        have e2 : (((⟨i.toNat, by omega⟩ : Fin 6).val : Nat) : Int) = i := Int.toNat_of_nonneg i0
        rw [e2] at e
        exact e
      have lp : x_Wp 4 31 (x_blk 31 3) [xR 3 0, xR 101 j, xI (x_sln j), xI 0] [] σ Q := by
        refine x_lpX (α := Unit) (fun i _ => ∀ q, 0 ≤ q → q < i → b (f + q) = x_chr j q) (fun i _ => x_Wp 4 31 (x_blk 31 3) [xR 3 0, xR 101 j, xI (x_sln j), xI i] [] σ Q) (lo := 0) (hi := x_sln j) (by omega) (a0 := ()) (fun q a b => by omega) ?_ ?_
        · intro i _ i0 i1 hJ
          have bb := hby (f + i) (by omega) (by omega)
          have b1 := bb.1
          have cb := chb i i0 i1
          have hx : 0 ≤ i ∧ i < x_sln j := ⟨i0, i1⟩
          have kc := fun (d' : Nat) (Q' : Option x_V → x_S → Prop) => k_chr (d := d') (σ := σ) (Q := Q') hj hx
          by_cases c : b (f + i) = x_chr j i
          · refine Or.inr ⟨(), fun q q0 q1 => ?_, fun H => ?_⟩
            · by_cases z : q = i
              · rw [z]
                exact c
              · exact hJ q q0 (by omega)
            · generalize x_chr j i = xc at c cb kc
              generalize hbb : b (f + i) = bf at c bb b1
              rw [bk_31_3]
              simp (disch := first | omega | (simp only [x_wtI, x_wtJ, x_wtR, x_wtN]; omega) | assumption | (simp (disch := omega) only [x_st_o, x_rd_ne]; first | assumption | omega) | (apply mir_eq; assumption; (intro c h1 h2; simp (disch := omega) only [x_st_o])) | (apply mis_eq; assumption; (intro c h1 h2; simp (disch := omega) only [x_st_o])) | rfl) only [bk_31_0, bk_31_1, bk_31_2, bk_31_4, bk_31_5, wp_ald1, wk_279, wp_ist2, wp_ald0, wp_geti kd_3, wp_ic, wp_icne, wp_isub, wp_ild2, wp_iceq, wp_fall, wp_zret0 mz_31, wp_zret1 mz_31, wp_zretb mz_31, wp_zret mz_31, wp_ist3, wp_ild3, wp_icge, wr_3_4, wp_iadd, wl_4, wp_sbal, wk_281, wp_inc3, wp_goto, x_clr_I, x_clr_J, x_clr_R, x_clr_U, ct_some, ct_none, lc_lt, lc_ge, lc_gt, lc_le, lc_eq, lc_r, xI_inj, xJ_inj, Option.some.injEq, eq_self, bi_r, bi_0, bi_1, bi_n, Classical.not_not, and_true, true_and, ite_true, ite_false, ↓reduceIte, ↓x_andl, z_le, z_nle, z_lt, z_nlt, z_eq, z_neq, if_pos, if_neg, x_andl, false_and, and_false, or_true, true_or, or_false, false_or, not_true, not_false_iff, x_rd_eq, x_rd_ne, x_st_o, Int.cast_ofNat_Int, Int.ofNat_zero, Int.ofNat_one, not_true_eq_false, not_false_eq_true, if_true, if_false, ite_self, and_self, Int.ofNat_eq_natCast, Int.tdiv_eq_ediv_of_nonneg, Int.tmod_eq_emod_of_nonneg, x_bm32, h7, b1, kc]
              exact H
          · have F := hQ (some (xI 0)) σ ⟨rfl, by
              rw [if_neg (fun z => c ?_)]
              rw [ch i i0 i1]
              exact (weq_iff (xst j) f).mp z.2.2 i i0 (by rw [← l.1]; exact i1)⟩
            refine Or.inl ?_
            generalize x_chr j i = xc at c cb kc
            generalize hbb : b (f + i) = bf at c bb b1
            rw [bk_31_3]
            simp (disch := first | omega | (simp only [x_wtI, x_wtJ, x_wtR, x_wtN]; omega) | assumption | (simp (disch := omega) only [x_st_o, x_rd_ne]; first | assumption | omega) | (apply mir_eq; assumption; (intro c h1 h2; simp (disch := omega) only [x_st_o])) | (apply mis_eq; assumption; (intro c h1 h2; simp (disch := omega) only [x_st_o])) | rfl) only [bk_31_0, bk_31_1, bk_31_2, bk_31_4, bk_31_5, wp_ald1, wk_279, wp_ist2, wp_ald0, wp_geti kd_3, wp_ic, wp_icne, wp_isub, wp_ild2, wp_iceq, wp_fall, wp_zret0 mz_31, wp_zret1 mz_31, wp_zretb mz_31, wp_zret mz_31, wp_ist3, wp_ild3, wp_icge, wr_3_4, wp_iadd, wl_4, wp_sbal, wk_281, wp_inc3, wp_goto, x_clr_I, x_clr_J, x_clr_R, x_clr_U, ct_some, ct_none, lc_lt, lc_ge, lc_gt, lc_le, lc_eq, lc_r, xI_inj, xJ_inj, Option.some.injEq, eq_self, bi_r, bi_0, bi_1, bi_n, Classical.not_not, and_true, true_and, ite_true, ite_false, ↓reduceIte, ↓x_andl, z_le, z_nle, z_lt, z_nlt, z_eq, z_neq, if_pos, if_neg, x_andl, false_and, and_false, or_true, true_or, or_false, false_or, not_true, not_false_iff, x_rd_eq, x_rd_ne, x_st_o, Int.cast_ofNat_Int, Int.ofNat_zero, Int.ofNat_one, not_true_eq_false, not_false_eq_true, if_true, if_false, ite_self, and_self, Int.ofNat_eq_natCast, Int.tdiv_eq_ediv_of_nonneg, Int.tmod_eq_emod_of_nonneg, x_bm32, h7, b1, kc]
            exact F
        · intro _ hJ
          have F := hQ (some (xI 1)) σ ⟨rfl, by
            rw [if_pos ⟨c1, by rw [c2, l.1], (weq_iff (xst j) f).mpr (fun i i0 i1 => hJ i i0 (by rw [l.1]; exact i1))⟩]⟩
          rw [bk_31_3]
          simp (disch := first | omega | (simp only [x_wtI, x_wtJ, x_wtR, x_wtN]; omega) | assumption | (simp (disch := omega) only [x_st_o, x_rd_ne]; first | assumption | omega) | (apply mir_eq; assumption; (intro c h1 h2; simp (disch := omega) only [x_st_o])) | (apply mis_eq; assumption; (intro c h1 h2; simp (disch := omega) only [x_st_o])) | rfl) only [bk_31_0, bk_31_1, bk_31_2, bk_31_4, bk_31_5, wp_ald1, wk_279, wp_ist2, wp_ald0, wp_geti kd_3, wp_ic, wp_icne, wp_isub, wp_ild2, wp_iceq, wp_fall, wp_zret0 mz_31, wp_zret1 mz_31, wp_zretb mz_31, wp_zret mz_31, wp_ist3, wp_ild3, wp_icge, wr_3_4, wp_iadd, wl_4, wp_sbal, wk_281, wp_inc3, wp_goto, x_clr_I, x_clr_J, x_clr_R, x_clr_U, ct_some, ct_none, lc_lt, lc_ge, lc_gt, lc_le, lc_eq, lc_r, xI_inj, xJ_inj, Option.some.injEq, eq_self, bi_r, bi_0, bi_1, bi_n, Classical.not_not, and_true, true_and, ite_true, ite_false, ↓reduceIte, ↓x_andl, z_le, z_nle, z_lt, z_nlt, z_eq, z_neq, if_pos, if_neg, x_andl, false_and, and_false, or_true, true_or, or_false, false_or, not_true, not_false_iff, x_rd_eq, x_rd_ne, x_st_o, Int.cast_ofNat_Int, Int.ofNat_zero, Int.ofNat_one, not_true_eq_false, not_false_eq_true, if_true, if_false, ite_self, and_self, Int.ofNat_eq_natCast, Int.tdiv_eq_ediv_of_nonneg, Int.tmod_eq_emod_of_nonneg, x_bm32]
          exact F
      have kl := fun (d' : Nat) (Q' : Option x_V → x_S → Prop) => k_len (d := d') (σ := σ) (Q := Q') hj
      generalize x_sln j = sl at lp l c2 kl
      simp (disch := first | omega | (simp only [x_wtI, x_wtJ, x_wtR, x_wtN]; omega) | assumption | (simp (disch := omega) only [x_st_o, x_rd_ne]; first | assumption | omega) | (apply mir_eq; assumption; (intro c h1 h2; simp (disch := omega) only [x_st_o])) | (apply mis_eq; assumption; (intro c h1 h2; simp (disch := omega) only [x_st_o])) | rfl) only [sp_31, bk_31_0, bk_31_1, bk_31_2, bk_31_4, bk_31_5, wp_ald1, wk_279, wp_ist2, wp_ald0, wp_geti kd_3, wp_ic, wp_icne, wp_isub, wp_ild2, wp_iceq, wp_fall, wp_zret0 mz_31, wp_zret1 mz_31, wp_zretb mz_31, wp_zret mz_31, wp_ist3, wp_ild3, wp_icge, wr_3_4, wp_iadd, wl_4, wp_sbal, wk_281, wp_inc3, wp_goto, x_clr_I, x_clr_J, x_clr_R, x_clr_U, ct_some, ct_none, lc_lt, lc_ge, lc_gt, lc_le, lc_eq, lc_r, xI_inj, xJ_inj, Option.some.injEq, eq_self, bi_r, bi_0, bi_1, bi_n, Classical.not_not, and_true, true_and, ite_true, ite_false, ↓reduceIte, ↓x_andl, z_le, z_nle, z_lt, z_nlt, z_eq, z_neq, if_pos, if_neg, x_andl, false_and, and_false, or_true, true_or, or_false, false_or, not_true, not_false_iff, x_rd_eq, x_rd_ne, x_st_o, Int.cast_ofNat_Int, Int.ofNat_zero, Int.ofNat_one, not_true_eq_false, not_false_eq_true, if_true, if_false, ite_self, and_self, Int.ofNat_eq_natCast, Int.tdiv_eq_ediv_of_nonneg, Int.tmod_eq_emod_of_nonneg, x_bm32, kl, h8, h7, h6]
      exact lp
    · have F := hQ (some (xI 0)) σ ⟨rfl, by rw [if_neg (fun z => c2 (by rw [z.2.1, l.1]))]⟩
      have kl := fun (d' : Nat) (Q' : Option x_V → x_S → Prop) => k_len (d := d') (σ := σ) (Q := Q') hj
      generalize x_sln j = sl at l c2 kl
      simp (disch := first | omega | (simp only [x_wtI, x_wtJ, x_wtR, x_wtN]; omega) | assumption | (simp (disch := omega) only [x_st_o, x_rd_ne]; first | assumption | omega) | (apply mir_eq; assumption; (intro c h1 h2; simp (disch := omega) only [x_st_o])) | (apply mis_eq; assumption; (intro c h1 h2; simp (disch := omega) only [x_st_o])) | rfl) only [sp_31, bk_31_0, bk_31_1, bk_31_2, bk_31_4, bk_31_5, wp_ald1, wk_279, wp_ist2, wp_ald0, wp_geti kd_3, wp_ic, wp_icne, wp_isub, wp_ild2, wp_iceq, wp_fall, wp_zret0 mz_31, wp_zret1 mz_31, wp_zretb mz_31, wp_zret mz_31, wp_ist3, wp_ild3, wp_icge, wr_3_4, wp_iadd, wl_4, wp_sbal, wk_281, wp_inc3, wp_goto, x_clr_I, x_clr_J, x_clr_R, x_clr_U, ct_some, ct_none, lc_lt, lc_ge, lc_gt, lc_le, lc_eq, lc_r, xI_inj, xJ_inj, Option.some.injEq, eq_self, bi_r, bi_0, bi_1, bi_n, Classical.not_not, and_true, true_and, ite_true, ite_false, ↓reduceIte, ↓x_andl, z_le, z_nle, z_lt, z_nlt, z_eq, z_neq, if_pos, if_neg, x_andl, false_and, and_false, or_true, true_or, or_false, false_or, not_true, not_false_iff, x_rd_eq, x_rd_ne, x_st_o, Int.cast_ofNat_Int, Int.ofNat_zero, Int.ofNat_one, not_true_eq_false, not_false_eq_true, if_true, if_false, ite_self, and_self, Int.ofNat_eq_natCast, Int.tdiv_eq_ediv_of_nonneg, Int.tmod_eq_emod_of_nonneg, x_bm32, kl, h8, h7, h6]
      exact F
  · have F := hQ (some (xI 0)) σ ⟨rfl, by rw [if_neg (fun z => c1 z.1)]⟩
    have kl := fun (d' : Nat) (Q' : Option x_V → x_S → Prop) => k_len (d := d') (σ := σ) (Q := Q') hj
    generalize x_sln j = sl at l kl
    simp (disch := first | omega | (simp only [x_wtI, x_wtJ, x_wtR, x_wtN]; omega) | assumption | (simp (disch := omega) only [x_st_o, x_rd_ne]; first | assumption | omega) | (apply mir_eq; assumption; (intro c h1 h2; simp (disch := omega) only [x_st_o])) | (apply mis_eq; assumption; (intro c h1 h2; simp (disch := omega) only [x_st_o])) | rfl) only [sp_31, bk_31_0, bk_31_1, bk_31_2, bk_31_4, bk_31_5, wp_ald1, wk_279, wp_ist2, wp_ald0, wp_geti kd_3, wp_ic, wp_icne, wp_isub, wp_ild2, wp_iceq, wp_fall, wp_zret0 mz_31, wp_zret1 mz_31, wp_zretb mz_31, wp_zret mz_31, wp_ist3, wp_ild3, wp_icge, wr_3_4, wp_iadd, wl_4, wp_sbal, wk_281, wp_inc3, wp_goto, x_clr_I, x_clr_J, x_clr_R, x_clr_U, ct_some, ct_none, lc_lt, lc_ge, lc_gt, lc_le, lc_eq, lc_r, xI_inj, xJ_inj, Option.some.injEq, eq_self, bi_r, bi_0, bi_1, bi_n, Classical.not_not, and_true, true_and, ite_true, ite_false, ↓reduceIte, ↓x_andl, z_le, z_nle, z_lt, z_nlt, z_eq, z_neq, if_pos, if_neg, x_andl, false_and, and_false, or_true, true_or, or_false, false_or, not_true, not_false_iff, x_rd_eq, x_rd_ne, x_st_o, Int.cast_ofNat_Int, Int.ofNat_zero, Int.ofNat_one, not_true_eq_false, not_false_eq_true, if_true, if_false, ite_self, and_self, Int.ofNat_eq_natCast, Int.tdiv_eq_ediv_of_nonneg, Int.tmod_eq_emod_of_nonneg, x_bm32, kl, h8]
    exact F
/-! what fail and next leave -/
theorem rdS_t {σ : x_S} {b : Int → Int} {n p : Int} (h0 : 0 ≤ p) (hp : p ≤ n) (h7 : σ 3 0 7 = tF b n p) (h8 : σ 3 0 8 = tK b n p) (h6 : σ 3 0 6 = tA b n p) : rdS σ b n := by
  have fb := tF_b (b := b) hp
  have kb := tK_b (b := b) hp
  have ab := tA_b (b := b) hp
  unfold rdS
  rw [h7, h8, h6]
  exact ⟨by omega, by omega, fun z => dig hp z⟩
theorem CS_f {σ : x_S} {b : Int → Int} {n c : Int} (hB : rdB σ b n) (hS : rdS σ b n) (h2 : σ 3 0 2 = 0) (hc : 1 ≤ c ∧ c ≤ 4) : rkp σ (x_st (x_st σ 3 0 2 c) 3 0 3 (σ 3 0 7)) ∧ ∀ p, CS (x_st (x_st σ 3 0 2 c) 3 0 3 (σ 3 0 7)) b n (c, σ 3 0 7, p) := by
  have rk : rkp σ (x_st (x_st σ 3 0 2 c) 3 0 3 (σ 3 0 7)) := ⟨eqo_st (by simp) (eqo_st (by simp) eqo_refl), fun k hk => by rw [x_rd_ne (by omega), x_rd_ne (by omega)]⟩
  refine ⟨rk, fun p => ⟨rdB_k hB rk, ⟨?_, ?_⟩, ?_, fun z => ?_, ?_⟩⟩
  · simp (disch := omega) only [x_st_o, x_rd_ne, x_rd_eq, s_fl_o, s_fl_in, s_fl_out, x_cp_o, x_cp_in, x_cp_out]
  · simp (disch := omega) only [x_st_o, x_rd_ne, x_rd_eq, s_fl_o, s_fl_in, s_fl_out, x_cp_o, x_cp_in, x_cp_out]
  · unfold rdS at hS ⊢
    have e6 : x_st (x_st σ 3 0 2 c) 3 0 3 (σ 3 0 7) 3 0 6 = σ 3 0 6 := by simp (disch := omega) only [x_st_o, x_rd_ne, x_rd_eq, s_fl_o, s_fl_in, s_fl_out, x_cp_o, x_cp_in, x_cp_out]
    have e7 : x_st (x_st σ 3 0 2 c) 3 0 3 (σ 3 0 7) 3 0 7 = σ 3 0 7 := by simp (disch := omega) only [x_st_o, x_rd_ne, x_rd_eq, s_fl_o, s_fl_in, s_fl_out, x_cp_o, x_cp_in, x_cp_out]
    have e8 : x_st (x_st σ 3 0 2 c) 3 0 3 (σ 3 0 7) 3 0 8 = σ 3 0 8 := by simp (disch := omega) only [x_st_o, x_rd_ne, x_rd_eq, s_fl_o, s_fl_in, s_fl_out, x_cp_o, x_cp_in, x_cp_out]
    rw [e6, e7, e8]
    exact hS
  · have z' : c = 0 := z
    omega
  · show 0 ≤ c ∧ c ≤ 4
    omega
theorem h_dW {σ : x_S} {b : Int → Int} {n : Int} {j : Nat} {x : PS} (hj : j < 28) (h : CS σ b n x) : x_Sp 5 35 [xR 3 0, xR 101 j] σ (fun r σ' => r = none ∧ rkp σ σ' ∧ CS σ' b n (psW b n (xst j) x)) := by
  obtain ⟨hB, ⟨h2, h3⟩, hS, hx, hc⟩ := id h
  refine x_gen (fun Q hQ => ?_)
  by_cases c : x.1 = 0
  · obtain ⟨h6, hm⟩ := hx c
    have p0 : 0 ≤ x.2.2 ∧ x.2.2 ≤ n := by
      have := hS.1
      omega
    obtain ⟨r, σ1, ⟨hr, rk, e2, e3, e7, e8, e6⟩, ev⟩ := x_ex (h_next hB (by rw [h2]; exact c) h6 p0)
    subst hr
    have fb := tF_b (b := b) p0.2
    have kb := tK_b (b := b) p0.2
    have ab := tA_b (b := b) p0.2
    have hB1 := rdB_k hB rk
    have hS1 := rdS_t p0.1 p0.2 e7 e8 e6
    obtain ⟨r, σ2, ⟨hσ2, hr⟩, ev2⟩ := x_ex (h_isW (j := j) hB1 hj e7 e8 e6 (by omega) (by omega))
    subst hσ2
    have z2 : σ2 3 0 2 = 0 := by rw [e2, h2]; exact c
    have ps : psW b n (xst j) x = if isW b (xst j) (tF b n x.2.2) (tK b n x.2.2) (tA b n x.2.2) then (0, -1, tA b n x.2.2) else (1, tF b n x.2.2, x.2.2) := by
      unfold psW
      rw [if_neg (fun z => z c)]
    by_cases cw : isW b (xst j) (tF b n x.2.2) (tK b n x.2.2) (tA b n x.2.2)
    · rw [if_pos cw] at hr ps
      subst hr
      have F := hQ none σ2 ⟨rfl, rk, by
        rw [ps]
        exact ⟨hB1, ⟨z2, by rw [e3, h3]; exact hm⟩, hS1, fun _ => ⟨e6, rfl⟩, by (show (0 : Int) ≤ 0 ∧ (0 : Int) ≤ 4; omega)⟩⟩
      simp (disch := first | omega | (simp only [x_wtI, x_wtJ, x_wtR, x_wtN]; omega) | assumption | (simp (disch := omega) only [x_st_o, x_rd_ne]; first | assumption | omega) | (apply mir_eq; assumption; (intro c h1 h2; simp (disch := omega) only [x_st_o])) | (apply mis_eq; assumption; (intro c h1 h2; simp (disch := omega) only [x_st_o])) | rfl) only [sp_35, bk_35_0, bk_35_1, wp_ald0, wk_28, wp_ald1, wk_31, wp_ifne, wp_ic, wk_33, wp_fall, wp_ret, x_clr_I, x_clr_J, x_clr_R, x_clr_U, ct_some, ct_none, lc_lt, lc_ge, lc_gt, lc_le, lc_eq, lc_r, xI_inj, xJ_inj, Option.some.injEq, eq_self, bi_r, bi_0, bi_1, bi_n, Classical.not_not, and_true, true_and, ite_true, ite_false, ↓reduceIte, ↓x_andl, z_le, z_nle, z_lt, z_nlt, z_eq, z_neq, if_pos, if_neg, x_andl, false_and, and_false, or_true, true_or, or_false, false_or, not_true, not_false_iff, x_rd_eq, x_rd_ne, x_st_o, Int.cast_ofNat_Int, Int.ofNat_zero, Int.ofNat_one, not_true_eq_false, not_false_eq_true, if_true, if_false, ite_self, and_self, Int.ofNat_eq_natCast, Int.tdiv_eq_ediv_of_nonneg, Int.tmod_eq_emod_of_nonneg, x_bm32]
      refine (ev 3 _).mpr ?_
      simp (disch := first | omega | (simp only [x_wtI, x_wtJ, x_wtR, x_wtN]; omega) | assumption | (simp (disch := omega) only [x_st_o, x_rd_ne]; first | assumption | omega) | (apply mir_eq; assumption; (intro c h1 h2; simp (disch := omega) only [x_st_o])) | (apply mis_eq; assumption; (intro c h1 h2; simp (disch := omega) only [x_st_o])) | rfl) only [bk_35_0, bk_35_1, wp_ald0, wk_28, wp_ald1, wk_31, wp_ifne, wp_ic, wk_33, wp_fall, wp_ret, x_clr_I, x_clr_J, x_clr_R, x_clr_U, ct_some, ct_none, lc_lt, lc_ge, lc_gt, lc_le, lc_eq, lc_r, xI_inj, xJ_inj, Option.some.injEq, eq_self, bi_r, bi_0, bi_1, bi_n, Classical.not_not, and_true, true_and, ite_true, ite_false, ↓reduceIte, ↓x_andl, z_le, z_nle, z_lt, z_nlt, z_eq, z_neq, if_pos, if_neg, x_andl, false_and, and_false, or_true, true_or, or_false, false_or, not_true, not_false_iff, x_rd_eq, x_rd_ne, x_st_o, Int.cast_ofNat_Int, Int.ofNat_zero, Int.ofNat_one, not_true_eq_false, not_false_eq_true, if_true, if_false, ite_self, and_self, Int.ofNat_eq_natCast, Int.tdiv_eq_ediv_of_nonneg, Int.tmod_eq_emod_of_nonneg, x_bm32]
      refine (ev2 0 _).mpr ?_
      simp (disch := first | omega | (simp only [x_wtI, x_wtJ, x_wtR, x_wtN]; omega) | assumption | (simp (disch := omega) only [x_st_o, x_rd_ne]; first | assumption | omega) | (apply mir_eq; assumption; (intro c h1 h2; simp (disch := omega) only [x_st_o])) | (apply mis_eq; assumption; (intro c h1 h2; simp (disch := omega) only [x_st_o])) | rfl) only [bk_35_0, bk_35_1, wp_ald0, wk_28, wp_ald1, wk_31, wp_ifne, wp_ic, wk_33, wp_fall, wp_ret, x_clr_I, x_clr_J, x_clr_R, x_clr_U, ct_some, ct_none, lc_lt, lc_ge, lc_gt, lc_le, lc_eq, lc_r, xI_inj, xJ_inj, Option.some.injEq, eq_self, bi_r, bi_0, bi_1, bi_n, Classical.not_not, and_true, true_and, ite_true, ite_false, ↓reduceIte, ↓x_andl, z_le, z_nle, z_lt, z_nlt, z_eq, z_neq, if_pos, if_neg, x_andl, false_and, and_false, or_true, true_or, or_false, false_or, not_true, not_false_iff, x_rd_eq, x_rd_ne, x_st_o, Int.cast_ofNat_Int, Int.ofNat_zero, Int.ofNat_one, not_true_eq_false, not_false_eq_true, if_true, if_false, ite_self, and_self, Int.ofNat_eq_natCast, Int.tdiv_eq_ediv_of_nonneg, Int.tmod_eq_emod_of_nonneg, x_bm32]
      exact F
    · rw [if_neg cw] at hr ps
      subst hr
      obtain ⟨rk2, cs2⟩ := CS_f (c := 1) hB1 hS1 z2 (by omega)
      have F := hQ none _ ⟨rfl, rkp_t rk rk2, by
        rw [ps, ← e7]
        exact cs2 x.2.2⟩
      have kf := fun (d' : Nat) (Q' : Option x_V → x_S → Prop) => k_fail (d := d') (σ := σ2) (Q := Q') (c := 1) (by omega)
      rw [if_pos z2] at kf
      simp (disch := first | omega | (simp only [x_wtI, x_wtJ, x_wtR, x_wtN]; omega) | assumption | (simp (disch := omega) only [x_st_o, x_rd_ne]; first | assumption | omega) | (apply mir_eq; assumption; (intro c h1 h2; simp (disch := omega) only [x_st_o])) | (apply mis_eq; assumption; (intro c h1 h2; simp (disch := omega) only [x_st_o])) | rfl) only [sp_35, bk_35_0, bk_35_1, wp_ald0, wk_28, wp_ald1, wk_31, wp_ifne, wp_ic, wk_33, wp_fall, wp_ret, x_clr_I, x_clr_J, x_clr_R, x_clr_U, ct_some, ct_none, lc_lt, lc_ge, lc_gt, lc_le, lc_eq, lc_r, xI_inj, xJ_inj, Option.some.injEq, eq_self, bi_r, bi_0, bi_1, bi_n, Classical.not_not, and_true, true_and, ite_true, ite_false, ↓reduceIte, ↓x_andl, z_le, z_nle, z_lt, z_nlt, z_eq, z_neq, if_pos, if_neg, x_andl, false_and, and_false, or_true, true_or, or_false, false_or, not_true, not_false_iff, x_rd_eq, x_rd_ne, x_st_o, Int.cast_ofNat_Int, Int.ofNat_zero, Int.ofNat_one, not_true_eq_false, not_false_eq_true, if_true, if_false, ite_self, and_self, Int.ofNat_eq_natCast, Int.tdiv_eq_ediv_of_nonneg, Int.tmod_eq_emod_of_nonneg, x_bm32]
      refine (ev 3 _).mpr ?_
      simp (disch := first | omega | (simp only [x_wtI, x_wtJ, x_wtR, x_wtN]; omega) | assumption | (simp (disch := omega) only [x_st_o, x_rd_ne]; first | assumption | omega) | (apply mir_eq; assumption; (intro c h1 h2; simp (disch := omega) only [x_st_o])) | (apply mis_eq; assumption; (intro c h1 h2; simp (disch := omega) only [x_st_o])) | rfl) only [bk_35_0, bk_35_1, wp_ald0, wk_28, wp_ald1, wk_31, wp_ifne, wp_ic, wk_33, wp_fall, wp_ret, x_clr_I, x_clr_J, x_clr_R, x_clr_U, ct_some, ct_none, lc_lt, lc_ge, lc_gt, lc_le, lc_eq, lc_r, xI_inj, xJ_inj, Option.some.injEq, eq_self, bi_r, bi_0, bi_1, bi_n, Classical.not_not, and_true, true_and, ite_true, ite_false, ↓reduceIte, ↓x_andl, z_le, z_nle, z_lt, z_nlt, z_eq, z_neq, if_pos, if_neg, x_andl, false_and, and_false, or_true, true_or, or_false, false_or, not_true, not_false_iff, x_rd_eq, x_rd_ne, x_st_o, Int.cast_ofNat_Int, Int.ofNat_zero, Int.ofNat_one, not_true_eq_false, not_false_eq_true, if_true, if_false, ite_self, and_self, Int.ofNat_eq_natCast, Int.tdiv_eq_ediv_of_nonneg, Int.tmod_eq_emod_of_nonneg, x_bm32]
      refine (ev2 0 _).mpr ?_
      simp (disch := first | omega | (simp only [x_wtI, x_wtJ, x_wtR, x_wtN]; omega) | assumption | (simp (disch := omega) only [x_st_o, x_rd_ne]; first | assumption | omega) | (apply mir_eq; assumption; (intro c h1 h2; simp (disch := omega) only [x_st_o])) | (apply mis_eq; assumption; (intro c h1 h2; simp (disch := omega) only [x_st_o])) | rfl) only [bk_35_0, bk_35_1, wp_ald0, wk_28, wp_ald1, wk_31, wp_ifne, wp_ic, wk_33, wp_fall, wp_ret, x_clr_I, x_clr_J, x_clr_R, x_clr_U, ct_some, ct_none, lc_lt, lc_ge, lc_gt, lc_le, lc_eq, lc_r, xI_inj, xJ_inj, Option.some.injEq, eq_self, bi_r, bi_0, bi_1, bi_n, Classical.not_not, and_true, true_and, ite_true, ite_false, ↓reduceIte, ↓x_andl, z_le, z_nle, z_lt, z_nlt, z_eq, z_neq, if_pos, if_neg, x_andl, false_and, and_false, or_true, true_or, or_false, false_or, not_true, not_false_iff, x_rd_eq, x_rd_ne, x_st_o, Int.cast_ofNat_Int, Int.ofNat_zero, Int.ofNat_one, not_true_eq_false, not_false_eq_true, if_true, if_false, ite_self, and_self, Int.ofNat_eq_natCast, Int.tdiv_eq_ediv_of_nonneg, Int.tmod_eq_emod_of_nonneg, x_bm32, kf]
      exact F
  · have ps : psW b n (xst j) x = x := if_pos c
    have ne : ¬ σ 3 0 2 = 0 := by rw [h2]; exact c
    have F := hQ none σ ⟨rfl, rkp_r, by rw [ps]; exact h⟩
    obtain ⟨r, σ2, ⟨hσ2, hr⟩, ev2⟩ := x_ex (h_isW (j := j) (f := σ 3 0 7) (k := σ 3 0 8) (a := σ 3 0 6) hB hj rfl rfl rfl hS.1 hS.2.1)
    subst hσ2
    have kf := fun (d' : Nat) (Q' : Option x_V → x_S → Prop) => k_fail (d := d') (σ := σ2) (Q := Q') (c := 1) (by omega)
    rw [if_neg ne] at kf
    have kn := fun (d' : Nat) (Q' : Option x_V → x_S → Prop) => k_next1 (d := d') (σ := σ2) (Q := Q') (by omega) ne
    by_cases cw : isW b (xst j) (σ2 3 0 7) (σ2 3 0 8) (σ2 3 0 6)
    · rw [if_pos cw] at hr
      subst hr
      simp (disch := first | omega | (simp only [x_wtI, x_wtJ, x_wtR, x_wtN]; omega) | assumption | (simp (disch := omega) only [x_st_o, x_rd_ne]; first | assumption | omega) | (apply mir_eq; assumption; (intro c h1 h2; simp (disch := omega) only [x_st_o])) | (apply mis_eq; assumption; (intro c h1 h2; simp (disch := omega) only [x_st_o])) | rfl) only [sp_35, bk_35_0, bk_35_1, wp_ald0, wk_28, wp_ald1, wk_31, wp_ifne, wp_ic, wk_33, wp_fall, wp_ret, x_clr_I, x_clr_J, x_clr_R, x_clr_U, ct_some, ct_none, lc_lt, lc_ge, lc_gt, lc_le, lc_eq, lc_r, xI_inj, xJ_inj, Option.some.injEq, eq_self, bi_r, bi_0, bi_1, bi_n, Classical.not_not, and_true, true_and, ite_true, ite_false, ↓reduceIte, ↓x_andl, z_le, z_nle, z_lt, z_nlt, z_eq, z_neq, if_pos, if_neg, x_andl, false_and, and_false, or_true, true_or, or_false, false_or, not_true, not_false_iff, x_rd_eq, x_rd_ne, x_st_o, Int.cast_ofNat_Int, Int.ofNat_zero, Int.ofNat_one, not_true_eq_false, not_false_eq_true, if_true, if_false, ite_self, and_self, Int.ofNat_eq_natCast, Int.tdiv_eq_ediv_of_nonneg, Int.tmod_eq_emod_of_nonneg, x_bm32, kn]
      refine (ev2 0 _).mpr ?_
      simp (disch := first | omega | (simp only [x_wtI, x_wtJ, x_wtR, x_wtN]; omega) | assumption | (simp (disch := omega) only [x_st_o, x_rd_ne]; first | assumption | omega) | (apply mir_eq; assumption; (intro c h1 h2; simp (disch := omega) only [x_st_o])) | (apply mis_eq; assumption; (intro c h1 h2; simp (disch := omega) only [x_st_o])) | rfl) only [bk_35_0, bk_35_1, wp_ald0, wk_28, wp_ald1, wk_31, wp_ifne, wp_ic, wk_33, wp_fall, wp_ret, x_clr_I, x_clr_J, x_clr_R, x_clr_U, ct_some, ct_none, lc_lt, lc_ge, lc_gt, lc_le, lc_eq, lc_r, xI_inj, xJ_inj, Option.some.injEq, eq_self, bi_r, bi_0, bi_1, bi_n, Classical.not_not, and_true, true_and, ite_true, ite_false, ↓reduceIte, ↓x_andl, z_le, z_nle, z_lt, z_nlt, z_eq, z_neq, if_pos, if_neg, x_andl, false_and, and_false, or_true, true_or, or_false, false_or, not_true, not_false_iff, x_rd_eq, x_rd_ne, x_st_o, Int.cast_ofNat_Int, Int.ofNat_zero, Int.ofNat_one, not_true_eq_false, not_false_eq_true, if_true, if_false, ite_self, and_self, Int.ofNat_eq_natCast, Int.tdiv_eq_ediv_of_nonneg, Int.tmod_eq_emod_of_nonneg, x_bm32]
      exact F
    · rw [if_neg cw] at hr
      subst hr
      simp (disch := first | omega | (simp only [x_wtI, x_wtJ, x_wtR, x_wtN]; omega) | assumption | (simp (disch := omega) only [x_st_o, x_rd_ne]; first | assumption | omega) | (apply mir_eq; assumption; (intro c h1 h2; simp (disch := omega) only [x_st_o])) | (apply mis_eq; assumption; (intro c h1 h2; simp (disch := omega) only [x_st_o])) | rfl) only [sp_35, bk_35_0, bk_35_1, wp_ald0, wk_28, wp_ald1, wk_31, wp_ifne, wp_ic, wk_33, wp_fall, wp_ret, x_clr_I, x_clr_J, x_clr_R, x_clr_U, ct_some, ct_none, lc_lt, lc_ge, lc_gt, lc_le, lc_eq, lc_r, xI_inj, xJ_inj, Option.some.injEq, eq_self, bi_r, bi_0, bi_1, bi_n, Classical.not_not, and_true, true_and, ite_true, ite_false, ↓reduceIte, ↓x_andl, z_le, z_nle, z_lt, z_nlt, z_eq, z_neq, if_pos, if_neg, x_andl, false_and, and_false, or_true, true_or, or_false, false_or, not_true, not_false_iff, x_rd_eq, x_rd_ne, x_st_o, Int.cast_ofNat_Int, Int.ofNat_zero, Int.ofNat_one, not_true_eq_false, not_false_eq_true, if_true, if_false, ite_self, and_self, Int.ofNat_eq_natCast, Int.tdiv_eq_ediv_of_nonneg, Int.tmod_eq_emod_of_nonneg, x_bm32, kn]
      refine (ev2 0 _).mpr ?_
      simp (disch := first | omega | (simp only [x_wtI, x_wtJ, x_wtR, x_wtN]; omega) | assumption | (simp (disch := omega) only [x_st_o, x_rd_ne]; first | assumption | omega) | (apply mir_eq; assumption; (intro c h1 h2; simp (disch := omega) only [x_st_o])) | (apply mis_eq; assumption; (intro c h1 h2; simp (disch := omega) only [x_st_o])) | rfl) only [bk_35_0, bk_35_1, wp_ald0, wk_28, wp_ald1, wk_31, wp_ifne, wp_ic, wk_33, wp_fall, wp_ret, x_clr_I, x_clr_J, x_clr_R, x_clr_U, ct_some, ct_none, lc_lt, lc_ge, lc_gt, lc_le, lc_eq, lc_r, xI_inj, xJ_inj, Option.some.injEq, eq_self, bi_r, bi_0, bi_1, bi_n, Classical.not_not, and_true, true_and, ite_true, ite_false, ↓reduceIte, ↓x_andl, z_le, z_nle, z_lt, z_nlt, z_eq, z_neq, if_pos, if_neg, x_andl, false_and, and_false, or_true, true_or, or_false, false_or, not_true, not_false_iff, x_rd_eq, x_rd_ne, x_st_o, Int.cast_ofNat_Int, Int.ofNat_zero, Int.ofNat_one, not_true_eq_false, not_false_eq_true, if_true, if_false, ite_self, and_self, Int.ofNat_eq_natCast, Int.tdiv_eq_ediv_of_nonneg, Int.tmod_eq_emod_of_nonneg, x_bm32, kf]
      exact F
theorem h_dS {σ : x_S} {b : Int → Int} {n : Int} {x : PS} (h : CS σ b n x) : x_Sp 2 39 [xR 3 0] σ (fun r σ' => r = none ∧ rkp σ σ' ∧ CS σ' b n (psS b n x)) := by
  obtain ⟨hB, ⟨h2, h3⟩, hS, hx, hc⟩ := id h
  refine x_gen (fun Q hQ => ?_)
  by_cases c : x.1 = 0
  · obtain ⟨h6, hm⟩ := hx c
    have p0 : 0 ≤ x.2.2 ∧ x.2.2 ≤ n := by
      have := hS.1
      omega
    obtain ⟨r, σ1, ⟨hr, rk, e2, e3, e7, e8, e6⟩, ev⟩ := x_ex (h_next hB (by rw [h2]; exact c) h6 p0)
    subst hr
    have kb := tK_b (b := b) p0.2
    have hB1 := rdB_k hB rk
    have hS1 := rdS_t p0.1 p0.2 e7 e8 e6
    have z2 : σ1 3 0 2 = 0 := by rw [e2, h2]; exact c
    have ps : psS b n x = if tK b n x.2.2 = 3 then (0, -1, tA b n x.2.2) else (1, tF b n x.2.2, x.2.2) := by
      unfold psS
      rw [if_neg (fun z => z c)]
    by_cases cw : tK b n x.2.2 = 3
    · rw [if_pos cw] at ps
      have F := hQ none σ1 ⟨rfl, rk, by
        rw [ps]
        exact ⟨hB1, ⟨z2, by rw [e3, h3]; exact hm⟩, hS1, fun _ => ⟨e6, rfl⟩, by (show (0 : Int) ≤ 0 ∧ (0 : Int) ≤ 4; omega)⟩⟩
      rw [cw] at e8
      simp (disch := first | omega | (simp only [x_wtI, x_wtJ, x_wtR, x_wtN]; omega) | assumption | (simp (disch := omega) only [x_st_o, x_rd_ne]; first | assumption | omega) | (apply mir_eq; assumption; (intro c h1 h2; simp (disch := omega) only [x_st_o])) | (apply mis_eq; assumption; (intro c h1 h2; simp (disch := omega) only [x_st_o])) | rfl) only [sp_39, bk_39_0, bk_39_1, wp_ald0, wk_28, wp_geti kd_3, wp_ic, wp_iceq, wk_33, wp_fall, wp_ret, x_clr_I, x_clr_J, x_clr_R, x_clr_U, ct_some, ct_none, lc_lt, lc_ge, lc_gt, lc_le, lc_eq, lc_r, xI_inj, xJ_inj, Option.some.injEq, eq_self, bi_r, bi_0, bi_1, bi_n, Classical.not_not, and_true, true_and, ite_true, ite_false, ↓reduceIte, ↓x_andl, z_le, z_nle, z_lt, z_nlt, z_eq, z_neq, if_pos, if_neg, x_andl, false_and, and_false, or_true, true_or, or_false, false_or, not_true, not_false_iff, x_rd_eq, x_rd_ne, x_st_o, Int.cast_ofNat_Int, Int.ofNat_zero, Int.ofNat_one, not_true_eq_false, not_false_eq_true, if_true, if_false, ite_self, and_self, Int.ofNat_eq_natCast, Int.tdiv_eq_ediv_of_nonneg, Int.tmod_eq_emod_of_nonneg, x_bm32]
      refine (ev 0 _).mpr ?_
      simp (disch := first | omega | (simp only [x_wtI, x_wtJ, x_wtR, x_wtN]; omega) | assumption | (simp (disch := omega) only [x_st_o, x_rd_ne]; first | assumption | omega) | (apply mir_eq; assumption; (intro c h1 h2; simp (disch := omega) only [x_st_o])) | (apply mis_eq; assumption; (intro c h1 h2; simp (disch := omega) only [x_st_o])) | rfl) only [bk_39_0, bk_39_1, wp_ald0, wk_28, wp_geti kd_3, wp_ic, wp_iceq, wk_33, wp_fall, wp_ret, x_clr_I, x_clr_J, x_clr_R, x_clr_U, ct_some, ct_none, lc_lt, lc_ge, lc_gt, lc_le, lc_eq, lc_r, xI_inj, xJ_inj, Option.some.injEq, eq_self, bi_r, bi_0, bi_1, bi_n, Classical.not_not, and_true, true_and, ite_true, ite_false, ↓reduceIte, ↓x_andl, z_le, z_nle, z_lt, z_nlt, z_eq, z_neq, if_pos, if_neg, x_andl, false_and, and_false, or_true, true_or, or_false, false_or, not_true, not_false_iff, x_rd_eq, x_rd_ne, x_st_o, Int.cast_ofNat_Int, Int.ofNat_zero, Int.ofNat_one, not_true_eq_false, not_false_eq_true, if_true, if_false, ite_self, and_self, Int.ofNat_eq_natCast, Int.tdiv_eq_ediv_of_nonneg, Int.tmod_eq_emod_of_nonneg, x_bm32, e8]
      exact F
    · rw [if_neg cw] at ps
      obtain ⟨rk2, cs2⟩ := CS_f (c := 1) hB1 hS1 z2 (by omega)
      have F := hQ none _ ⟨rfl, rkp_t rk rk2, by
        rw [ps, ← e7]
        exact cs2 x.2.2⟩
      have kf := fun (d' : Nat) (Q' : Option x_V → x_S → Prop) => k_fail (d := d') (σ := σ1) (Q := Q') (c := 1) (by omega)
      rw [if_pos z2] at kf
      generalize tK b n x.2.2 = tk at e8 cw kb
      simp (disch := first | omega | (simp only [x_wtI, x_wtJ, x_wtR, x_wtN]; omega) | assumption | (simp (disch := omega) only [x_st_o, x_rd_ne]; first | assumption | omega) | (apply mir_eq; assumption; (intro c h1 h2; simp (disch := omega) only [x_st_o])) | (apply mis_eq; assumption; (intro c h1 h2; simp (disch := omega) only [x_st_o])) | rfl) only [sp_39, bk_39_0, bk_39_1, wp_ald0, wk_28, wp_geti kd_3, wp_ic, wp_iceq, wk_33, wp_fall, wp_ret, x_clr_I, x_clr_J, x_clr_R, x_clr_U, ct_some, ct_none, lc_lt, lc_ge, lc_gt, lc_le, lc_eq, lc_r, xI_inj, xJ_inj, Option.some.injEq, eq_self, bi_r, bi_0, bi_1, bi_n, Classical.not_not, and_true, true_and, ite_true, ite_false, ↓reduceIte, ↓x_andl, z_le, z_nle, z_lt, z_nlt, z_eq, z_neq, if_pos, if_neg, x_andl, false_and, and_false, or_true, true_or, or_false, false_or, not_true, not_false_iff, x_rd_eq, x_rd_ne, x_st_o, Int.cast_ofNat_Int, Int.ofNat_zero, Int.ofNat_one, not_true_eq_false, not_false_eq_true, if_true, if_false, ite_self, and_self, Int.ofNat_eq_natCast, Int.tdiv_eq_ediv_of_nonneg, Int.tmod_eq_emod_of_nonneg, x_bm32]
      refine (ev 0 _).mpr ?_
      simp (disch := first | omega | (simp only [x_wtI, x_wtJ, x_wtR, x_wtN]; omega) | assumption | (simp (disch := omega) only [x_st_o, x_rd_ne]; first | assumption | omega) | (apply mir_eq; assumption; (intro c h1 h2; simp (disch := omega) only [x_st_o])) | (apply mis_eq; assumption; (intro c h1 h2; simp (disch := omega) only [x_st_o])) | rfl) only [bk_39_0, bk_39_1, wp_ald0, wk_28, wp_geti kd_3, wp_ic, wp_iceq, wk_33, wp_fall, wp_ret, x_clr_I, x_clr_J, x_clr_R, x_clr_U, ct_some, ct_none, lc_lt, lc_ge, lc_gt, lc_le, lc_eq, lc_r, xI_inj, xJ_inj, Option.some.injEq, eq_self, bi_r, bi_0, bi_1, bi_n, Classical.not_not, and_true, true_and, ite_true, ite_false, ↓reduceIte, ↓x_andl, z_le, z_nle, z_lt, z_nlt, z_eq, z_neq, if_pos, if_neg, x_andl, false_and, and_false, or_true, true_or, or_false, false_or, not_true, not_false_iff, x_rd_eq, x_rd_ne, x_st_o, Int.cast_ofNat_Int, Int.ofNat_zero, Int.ofNat_one, not_true_eq_false, not_false_eq_true, if_true, if_false, ite_self, and_self, Int.ofNat_eq_natCast, Int.tdiv_eq_ediv_of_nonneg, Int.tmod_eq_emod_of_nonneg, x_bm32, e8, kf]
      exact F
  · have ps : psS b n x = x := if_pos c
    have ne : ¬ σ 3 0 2 = 0 := by rw [h2]; exact c
    have F := hQ none σ ⟨rfl, rkp_r, by rw [ps]; exact h⟩
    have kf := fun (d' : Nat) (Q' : Option x_V → x_S → Prop) => k_fail (d := d') (σ := σ) (Q := Q') (c := 1) (by omega)
    rw [if_neg ne] at kf
    have kn := fun (d' : Nat) (Q' : Option x_V → x_S → Prop) => k_next1 (d := d') (σ := σ) (Q := Q') (by omega) ne
    have k8 := hS.2.1
    by_cases cw : σ 3 0 8 = 3
    · simp (disch := first | omega | (simp only [x_wtI, x_wtJ, x_wtR, x_wtN]; omega) | assumption | (simp (disch := omega) only [x_st_o, x_rd_ne]; first | assumption | omega) | (apply mir_eq; assumption; (intro c h1 h2; simp (disch := omega) only [x_st_o])) | (apply mis_eq; assumption; (intro c h1 h2; simp (disch := omega) only [x_st_o])) | rfl) only [sp_39, bk_39_0, bk_39_1, wp_ald0, wk_28, wp_geti kd_3, wp_ic, wp_iceq, wk_33, wp_fall, wp_ret, x_clr_I, x_clr_J, x_clr_R, x_clr_U, ct_some, ct_none, lc_lt, lc_ge, lc_gt, lc_le, lc_eq, lc_r, xI_inj, xJ_inj, Option.some.injEq, eq_self, bi_r, bi_0, bi_1, bi_n, Classical.not_not, and_true, true_and, ite_true, ite_false, ↓reduceIte, ↓x_andl, z_le, z_nle, z_lt, z_nlt, z_eq, z_neq, if_pos, if_neg, x_andl, false_and, and_false, or_true, true_or, or_false, false_or, not_true, not_false_iff, x_rd_eq, x_rd_ne, x_st_o, Int.cast_ofNat_Int, Int.ofNat_zero, Int.ofNat_one, not_true_eq_false, not_false_eq_true, if_true, if_false, ite_self, and_self, Int.ofNat_eq_natCast, Int.tdiv_eq_ediv_of_nonneg, Int.tmod_eq_emod_of_nonneg, x_bm32, kn, cw]
      exact F
    · simp (disch := first | omega | (simp only [x_wtI, x_wtJ, x_wtR, x_wtN]; omega) | assumption | (simp (disch := omega) only [x_st_o, x_rd_ne]; first | assumption | omega) | (apply mir_eq; assumption; (intro c h1 h2; simp (disch := omega) only [x_st_o])) | (apply mis_eq; assumption; (intro c h1 h2; simp (disch := omega) only [x_st_o])) | rfl) only [sp_39, bk_39_0, bk_39_1, wp_ald0, wk_28, wp_geti kd_3, wp_ic, wp_iceq, wk_33, wp_fall, wp_ret, x_clr_I, x_clr_J, x_clr_R, x_clr_U, ct_some, ct_none, lc_lt, lc_ge, lc_gt, lc_le, lc_eq, lc_r, xI_inj, xJ_inj, Option.some.injEq, eq_self, bi_r, bi_0, bi_1, bi_n, Classical.not_not, and_true, true_and, ite_true, ite_false, ↓reduceIte, ↓x_andl, z_le, z_nle, z_lt, z_nlt, z_eq, z_neq, if_pos, if_neg, x_andl, false_and, and_false, or_true, true_or, or_false, false_or, not_true, not_false_iff, x_rd_eq, x_rd_ne, x_st_o, Int.cast_ofNat_Int, Int.ofNat_zero, Int.ofNat_one, not_true_eq_false, not_false_eq_true, if_true, if_false, ite_self, and_self, Int.ofNat_eq_natCast, Int.tdiv_eq_ediv_of_nonneg, Int.tmod_eq_emod_of_nonneg, x_bm32, kn, kf]
      exact F
/-! the value of the number at hand -/
theorem h_amt {σ : x_S} {b : Int → Int} {n lo hi : Int} {Q : Option x_V → x_S → Prop} (hB : rdB σ b n) (hr : 0 ≤ σ 3 0 7 ∧ σ 3 0 7 ≤ σ 3 0 6 ∧ σ 3 0 6 ≤ n) (hd : ∀ i, σ 3 0 7 ≤ i → i < σ 3 0 6 → 48 ≤ b i ∧ b i ≤ 57) : ∀ (m : Nat) (i a : Int), σ 3 0 6 - i = m → σ 3 0 7 ≤ i → (0 ≤ a ∧ a ≤ 100000) → x_Wp 2 34 (x_blk 34 3) [xR 3 0, xI lo, xI hi, xI (nvl 100000 b m i a), xI (σ 3 0 6)] [] σ Q → x_Wp 2 34 (x_blk 34 2) [xR 3 0, xI lo, xI hi, xI a, xI i] [] σ Q := by
  intro m
  induction m with
  | zero =>
    intro i a hm hii ha H
    have e : i = σ 3 0 6 := by omega
    have hnb := hB.1
    have H2 : x_Wp 2 34 (x_blk 34 3) [xR 3 0, xI lo, xI hi, xI a, xI (σ 3 0 6)] [] σ Q := H
    rw [e]
    generalize hat : σ 3 0 6 = at6 at H2 hr
    rw [bk_34_2]
    simp (disch := first | omega | (simp only [x_wtI, x_wtJ, x_wtR, x_wtN]; omega) | assumption | (simp (disch := omega) only [x_st_o, x_rd_ne]; first | assumption | omega) | (apply mir_eq; assumption; (intro c h1 h2; simp (disch := omega) only [x_st_o])) | (apply mis_eq; assumption; (intro c h1 h2; simp (disch := omega) only [x_st_o])) | rfl) only [bk_34_0, bk_34_1, bk_34_4, bk_34_5, wp_ald0, wk_28, wp_ic, wp_ist3, wp_geti kd_3, wp_iceq, wk_33, wp_ild3, wp_iret mz_34, wp_ist4, wp_fall, wp_ild4, wp_icge, wp_imul, wr_3_4, wl_4, wp_sbal, wp_isub, wp_iadd, wk_273, c_mini, wp_inc4, wp_goto, wp_ild1, wp_iclt, wp_ild2, wp_icle, x_clr_I, x_clr_J, x_clr_R, x_clr_U, ct_some, ct_none, lc_lt, lc_ge, lc_gt, lc_le, lc_eq, lc_r, xI_inj, xJ_inj, Option.some.injEq, eq_self, bi_r, bi_0, bi_1, bi_n, Classical.not_not, and_true, true_and, ite_true, ite_false, ↓reduceIte, ↓x_andl, z_le, z_nle, z_lt, z_nlt, z_eq, z_neq, if_pos, if_neg, x_andl, false_and, and_false, or_true, true_or, or_false, false_or, not_true, not_false_iff, x_rd_eq, x_rd_ne, x_st_o, Int.cast_ofNat_Int, Int.ofNat_zero, Int.ofNat_one, not_true_eq_false, not_false_eq_true, if_true, if_false, ite_self, and_self, Int.ofNat_eq_natCast, Int.tdiv_eq_ediv_of_nonneg, Int.tmod_eq_emod_of_nonneg, x_bm32, hat]
    exact H2
  | succ m ih =>
    intro i a hm hii ha H
    have d := hd i hii (by omega)
    have bb := (hB.2.2 i (by omega) (by omega)).1
    have hnb := hB.1
    have K := ih (i + 1) (min 100000 (a * 10 + (b i - 48))) (by omega) (by omega) (by omega) H
    generalize hat : σ 3 0 6 = at6 at hr hm
    generalize b i = bi at d bb K
    rw [bk_34_2]
    simp (disch := first | omega | (simp only [x_wtI, x_wtJ, x_wtR, x_wtN]; omega) | assumption | (simp (disch := omega) only [x_st_o, x_rd_ne]; first | assumption | omega) | (apply mir_eq; assumption; (intro c h1 h2; simp (disch := omega) only [x_st_o])) | (apply mis_eq; assumption; (intro c h1 h2; simp (disch := omega) only [x_st_o])) | rfl) only [bk_34_0, bk_34_1, bk_34_4, bk_34_5, wp_ald0, wk_28, wp_ic, wp_ist3, wp_geti kd_3, wp_iceq, wk_33, wp_ild3, wp_iret mz_34, wp_ist4, wp_fall, wp_ild4, wp_icge, wp_imul, wr_3_4, wl_4, wp_sbal, wp_isub, wp_iadd, wk_273, c_mini, wp_inc4, wp_goto, wp_ild1, wp_iclt, wp_ild2, wp_icle, x_clr_I, x_clr_J, x_clr_R, x_clr_U, ct_some, ct_none, lc_lt, lc_ge, lc_gt, lc_le, lc_eq, lc_r, xI_inj, xJ_inj, Option.some.injEq, eq_self, bi_r, bi_0, bi_1, bi_n, Classical.not_not, and_true, true_and, ite_true, ite_false, ↓reduceIte, ↓x_andl, z_le, z_nle, z_lt, z_nlt, z_eq, z_neq, if_pos, if_neg, x_andl, false_and, and_false, or_true, true_or, or_false, false_or, not_true, not_false_iff, x_rd_eq, x_rd_ne, x_st_o, Int.cast_ofNat_Int, Int.ofNat_zero, Int.ofNat_one, not_true_eq_false, not_false_eq_true, if_true, if_false, ite_self, and_self, Int.ofNat_eq_natCast, Int.tdiv_eq_ediv_of_nonneg, Int.tmod_eq_emod_of_nonneg, x_bm32, hat, bb, c_mini]
    exact K

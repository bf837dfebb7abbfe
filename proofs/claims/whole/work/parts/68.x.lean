theorem tq_acc {w w' : Int → Int} {f x b : Int} (e : tq w w') (hw : wf w) : a_acc w' f x b ↔ a_acc w f x b := by
  have a := wf_h hw
  unfold wf_hdr at a
  unfold a_acc
  rw [e.1 0 (by omega) (by omega)]
  constructor
  · rintro ⟨q1, q2, q3, q4⟩
    rw [tq_mayb e q1.1 (by omega)] at q4
    exact ⟨q1, q2, q3, q4⟩
  · rintro ⟨q1, q2, q3, q4⟩
    rw [← tq_mayb e q1.1 (by omega)] at q4
    exact ⟨q1, q2, q3, q4⟩
theorem h_plansM {σ : x_S} {w N : Int → Int} {s m : Int} (h51 : σ 51 0 = w) (hw : wf w) (hs : 0 ≤ s ∧ s ≤ 3) (hm : 0 ≤ m ∧ m ≤ 60) (h70 : σ 70 0 s = m) (h72 : σ 72 0 = N) (hr : ∀ i, 0 ≤ i → i < 240 → -9223372036854775808 ≤ N i ∧ N i ≤ 9223372036854775807) :
    x_Wp 999 217 (x_blk 217 3) [xR 50 0, xI s, xI 0, xI 0, xU, xU, xU, xU] [] σ (fun r σ' => r = some (xI (a_cnt w N s (m / 2).toNat)) ∧ x_eqo [(51, 0)] σ σ' ∧ (∀ i, i < 536 → σ' 51 0 i = w i) ∧ (∀ z, 0 ≤ z → σ' 51 0 (536 + 2 * z) = if (0 ≤ z ∧ z < m / 2) ∧ a_acc w z (N (60 * s + 2 * z)) (N (60 * s + 2 * z + 1)) then N (60 * s + 2 * z) else w (536 + 2 * z)) ∧ (∀ z, 0 ≤ z → σ' 51 0 (536 + 2 * z + 1) = if (0 ≤ z ∧ z < m / 2) ∧ a_acc w z (N (60 * s + 2 * z)) (N (60 * s + 2 * z + 1)) then N (60 * s + 2 * z + 1) else w (536 + 2 * z + 1))) := by
  have a := wf_h hw
  unfold wf_hdr at a
  refine w_gen (fun Q hQ => ?_)
  refine x_lpJ (α := Int × x_S × x_V × x_V) (fun i q => q.1 = a_cnt w N s i.toNat ∧ x_eqo [(51, 0)] σ q.2.1 ∧ (∀ i, i < 536 → q.2.1 51 0 i = w i) ∧ (∀ z, 0 ≤ z → q.2.1 51 0 (536 + 2 * z) = if (0 ≤ z ∧ z < i) ∧ a_acc w z (N (60 * s + 2 * z)) (N (60 * s + 2 * z + 1)) then N (60 * s + 2 * z) else w (536 + 2 * z)) ∧ (∀ z, 0 ≤ z → q.2.1 51 0 (536 + 2 * z + 1) = if (0 ≤ z ∧ z < i) ∧ a_acc w z (N (60 * s + 2 * z)) (N (60 * s + 2 * z + 1)) then N (60 * s + 2 * z + 1) else w (536 + 2 * z + 1))) (fun i q => x_Wp 999 217 (x_blk 217 3) [xR 50 0, xI s, xI q.1, xI i, q.2.2.1, xU, q.2.2.2, xU] [] q.2.1 _) (lo := 0) (hi := m / 2) (by omega) (a0 := (0, σ, xU, xU)) ⟨rfl, eqo_refl, fun i _ => congrFun h51 i, fun z _ => by rw [if_neg (by omega)]; exact congrFun h51 _, fun z _ => by rw [if_neg (by omega)]; exact congrFun h51 _⟩ ?_ ?_
  · intro i ⟨n, σi, u, v⟩ i0 i1 ⟨j1, j2, j3, j4, j5⟩
    simp only at j1 j2 j3 j4 j5 ⊢
    subst j1
    have g70 : σi 70 0 = σ 70 0 := j2 70 0 (by decide)
    have g72 : σi 72 0 = N := (j2 72 0 (by decide)).trans h72
    have t : tq w (σi 51 0) := ⟨fun i _ b => j3 i (by omega), fun i _ b => j3 i b⟩
    have hwi : wf (σi 51 0) := tq_wf t hw
    have r1 := hr (60 * s + 2 * i) (by omega) (by omega)
    have r2 := hr (60 * s + 2 * i + 1) (by omega) (by omega)
    by_cases c : a_acc w i (N (60 * s + 2 * i)) (N (60 * s + 2 * i + 1))
    · have ci : a_acc (σi 51 0) i (N (60 * s + 2 * i)) (N (60 * s + 2 * i + 1)) := (tq_acc t hw).mpr c
      have c1 := c.1
      have c2 := c.2.1
      have c3 := c.2.2.1
      refine ⟨(a_cnt w N s i.toNat + 1, x_st (x_st σi 51 0 (536 + 2 * i) (N (60 * s + 2 * i))) 51 0 (536 + 2 * i + 1) (N (60 * s + 2 * i + 1)), xJ (N (60 * s + 2 * i)), xJ (N (60 * s + 2 * i + 1))), ⟨?_, ?_, ?_, ?_, ?_⟩, ?_⟩
      · rw [acnt_s i0, if_pos c]
      · exact eqo_st (by decide) (eqo_st (by decide) j2)
      · intro k hk
        simp (disch := omega) only [x_st_o, x_rd_ne, x_rd_eq, s_fl_o, s_fl_in, s_fl_out, x_cp_o, x_cp_in, x_cp_out]
        exact j3 k hk
      · intro z z0
        by_cases cz : z = i
        · subst cz
          simp (disch := omega) only [x_st_o, x_rd_ne, x_rd_eq, s_fl_o, s_fl_in, s_fl_out, x_cp_o, x_cp_in, x_cp_out]
          rw [if_pos ⟨by omega, c⟩]
        · simp (disch := omega) only [x_st_o, x_rd_ne, x_rd_eq, s_fl_o, s_fl_in, s_fl_out, x_cp_o, x_cp_in, x_cp_out]
          rw [j4 z z0]
          by_cases c2 : (0 ≤ z ∧ z < i) ∧ a_acc w z (N (60 * s + 2 * z)) (N (60 * s + 2 * z + 1))
          · rw [if_pos c2, if_pos ⟨by omega, c2.2⟩]
          · rw [if_neg c2, if_neg (fun q => c2 ⟨by omega, q.2⟩)]
      · intro z z0
        by_cases cz : z = i
        · subst cz
          simp (disch := omega) only [x_st_o, x_rd_ne, x_rd_eq, s_fl_o, s_fl_in, s_fl_out, x_cp_o, x_cp_in, x_cp_out]
          rw [if_pos ⟨by omega, c⟩]
        · simp (disch := omega) only [x_st_o, x_rd_ne, x_rd_eq, s_fl_o, s_fl_in, s_fl_out, x_cp_o, x_cp_in, x_cp_out]
          rw [j5 z z0]
          by_cases c2 : (0 ≤ z ∧ z < i) ∧ a_acc w z (N (60 * s + 2 * z)) (N (60 * s + 2 * z + 1))
          · rw [if_pos c2, if_pos ⟨by omega, c2.2⟩]
          · rw [if_neg c2, if_neg (fun q => c2 ⟨by omega, q.2⟩)]
      · intro H
        rw [bk_217_3]
        simp (disch := first | omega | (simp only [x_wtI, x_wtJ, x_wtR, x_wtN]; omega) | assumption | (simp (disch := omega) only [x_st_o, x_rd_ne]; first | assumption | omega) | (refine mir_eq ?_ ?_; assumption; (intro c h1 h2; simp (disch := omega) only [x_st_o])) | (refine mis_eq ?_ ?_; assumption; (intro c h1 h2; simp (disch := omega) only [x_st_o])) | rfl) only [bk_217_0, bk_217_1, bk_217_2, bk_217_4, bk_217_5, wp_ild1, wk_218, wp_ifne, wp_ic, wp_iret mz_217, wp_ald0, wr_50_34, wl_70, wp_cald, wp_icne, wp_ist2, wp_ist3, wp_fall, wp_ild3, wp_imul, wp_iadd, wp_icge, wr_50_36, wl_72, wp_pald, wp_lst4, wp_lst6, wp_lld4, wp_lc, wk_169, wp_ifeq, wp_lld6, wp_l2i, wk_215, wp_inc2, wp_inc3, wp_goto, wp_ild2, x_clr_I, x_clr_J, x_clr_R, x_clr_U, ct_some, ct_none, lc_lt, lc_ge, lc_gt, lc_le, lc_eq, lc_r, xI_inj, xJ_inj, Option.some.injEq, eq_self, bi_r, bi_0, bi_1, bi_n, Classical.not_not, and_true, true_and, ite_true, ite_false, ↓reduceIte, ↓x_andl, z_le, z_nle, z_lt, z_nlt, z_eq, z_neq, if_pos, if_neg, x_andl, false_and, and_false, or_true, true_or, or_false, false_or, not_true, not_false_iff, x_rd_eq, x_rd_ne, x_st_o, Int.cast_ofNat_Int, Int.ofNat_zero, Int.ofNat_one, not_true_eq_false, not_false_eq_true, if_true, if_false, ite_self, and_self, Int.ofNat_eq_natCast, Int.tdiv_eq_ediv_of_nonneg, Int.tmod_eq_emod_of_nonneg, x_bm32, g70, g72, h70, c_in, bi_t, bi_f, k_planM1 rfl hwi ci]
        exact H
    · have ci : ¬ a_acc (σi 51 0) i (N (60 * s + 2 * i)) (N (60 * s + 2 * i + 1)) := fun z => c ((tq_acc t hw).mp z)
      refine ⟨(a_cnt w N s i.toNat, σi, xJ (N (60 * s + 2 * i)), xJ (N (60 * s + 2 * i + 1))), ⟨?_, j2, j3, ?_, ?_⟩, ?_⟩
      · rw [acnt_s i0, if_neg c, Int.add_zero]
      · intro z z0
        refine (j4 z z0).trans ?_
        by_cases c2 : (0 ≤ z ∧ z < i) ∧ a_acc w z (N (60 * s + 2 * z)) (N (60 * s + 2 * z + 1))
        · rw [if_pos c2, if_pos ⟨by omega, c2.2⟩]
        · rw [if_neg c2, if_neg (fun q => c2 ⟨⟨q.1.1, by have : ¬ z = i := fun y => c (y ▸ q.2); omega⟩, q.2⟩)]
      · intro z z0
        refine (j5 z z0).trans ?_
        by_cases c2 : (0 ≤ z ∧ z < i) ∧ a_acc w z (N (60 * s + 2 * z)) (N (60 * s + 2 * z + 1))
        · rw [if_pos c2, if_pos ⟨by omega, c2.2⟩]
        · rw [if_neg c2, if_neg (fun q => c2 ⟨⟨q.1.1, by have : ¬ z = i := fun y => c (y ▸ q.2); omega⟩, q.2⟩)]
      · intro H
        rw [bk_217_3]
        by_cases d1 : -20 ≤ N (60 * s + 2 * i) ∧ N (60 * s + 2 * i) ≤ 20
        · by_cases d2 : 0 ≤ N (60 * s + 2 * i + 1) ∧ N (60 * s + 2 * i + 1) ≤ 1
          · simp (disch := first | omega | (simp only [x_wtI, x_wtJ, x_wtR, x_wtN]; omega) | assumption | (simp (disch := omega) only [x_st_o, x_rd_ne]; first | assumption | omega) | (refine mir_eq ?_ ?_; assumption; (intro c h1 h2; simp (disch := omega) only [x_st_o])) | (refine mis_eq ?_ ?_; assumption; (intro c h1 h2; simp (disch := omega) only [x_st_o])) | rfl) only [bk_217_0, bk_217_1, bk_217_2, bk_217_4, bk_217_5, wp_ild1, wk_218, wp_ifne, wp_ic, wp_iret mz_217, wp_ald0, wr_50_34, wl_70, wp_cald, wp_icne, wp_ist2, wp_ist3, wp_fall, wp_ild3, wp_imul, wp_iadd, wp_icge, wr_50_36, wl_72, wp_pald, wp_lst4, wp_lst6, wp_lld4, wp_lc, wk_169, wp_ifeq, wp_lld6, wp_l2i, wk_215, wp_inc2, wp_inc3, wp_goto, wp_ild2, x_clr_I, x_clr_J, x_clr_R, x_clr_U, ct_some, ct_none, lc_lt, lc_ge, lc_gt, lc_le, lc_eq, lc_r, xI_inj, xJ_inj, Option.some.injEq, eq_self, bi_r, bi_0, bi_1, bi_n, Classical.not_not, and_true, true_and, ite_true, ite_false, ↓reduceIte, ↓x_andl, z_le, z_nle, z_lt, z_nlt, z_eq, z_neq, if_pos, if_neg, x_andl, false_and, and_false, or_true, true_or, or_false, false_or, not_true, not_false_iff, x_rd_eq, x_rd_ne, x_st_o, Int.cast_ofNat_Int, Int.ofNat_zero, Int.ofNat_one, not_true_eq_false, not_false_eq_true, if_true, if_false, ite_self, and_self, Int.ofNat_eq_natCast, Int.tdiv_eq_ediv_of_nonneg, Int.tmod_eq_emod_of_nonneg, x_bm32, g70, g72, h70, c_in, bi_t, bi_f, k_planM0 rfl hwi (show -2147483648 ≤ i ∧ i ≤ 2147483647 by omega) (show -2147483648 ≤ N (60 * s + 2 * i) ∧ N (60 * s + 2 * i) ≤ 2147483647 by omega) (show -2147483648 ≤ N (60 * s + 2 * i + 1) ∧ N (60 * s + 2 * i + 1) ≤ 2147483647 by omega) ci]
            exact H
          · simp (disch := first | omega | (simp only [x_wtI, x_wtJ, x_wtR, x_wtN]; omega) | assumption | (simp (disch := omega) only [x_st_o, x_rd_ne]; first | assumption | omega) | (refine mir_eq ?_ ?_; assumption; (intro c h1 h2; simp (disch := omega) only [x_st_o])) | (refine mis_eq ?_ ?_; assumption; (intro c h1 h2; simp (disch := omega) only [x_st_o])) | rfl) only [bk_217_0, bk_217_1, bk_217_2, bk_217_4, bk_217_5, wp_ild1, wk_218, wp_ifne, wp_ic, wp_iret mz_217, wp_ald0, wr_50_34, wl_70, wp_cald, wp_icne, wp_ist2, wp_ist3, wp_fall, wp_ild3, wp_imul, wp_iadd, wp_icge, wr_50_36, wl_72, wp_pald, wp_lst4, wp_lst6, wp_lld4, wp_lc, wk_169, wp_ifeq, wp_lld6, wp_l2i, wk_215, wp_inc2, wp_inc3, wp_goto, wp_ild2, x_clr_I, x_clr_J, x_clr_R, x_clr_U, ct_some, ct_none, lc_lt, lc_ge, lc_gt, lc_le, lc_eq, lc_r, xI_inj, xJ_inj, Option.some.injEq, eq_self, bi_r, bi_0, bi_1, bi_n, Classical.not_not, and_true, true_and, ite_true, ite_false, ↓reduceIte, ↓x_andl, z_le, z_nle, z_lt, z_nlt, z_eq, z_neq, if_pos, if_neg, x_andl, false_and, and_false, or_true, true_or, or_false, false_or, not_true, not_false_iff, x_rd_eq, x_rd_ne, x_st_o, Int.cast_ofNat_Int, Int.ofNat_zero, Int.ofNat_one, not_true_eq_false, not_false_eq_true, if_true, if_false, ite_self, and_self, Int.ofNat_eq_natCast, Int.tdiv_eq_ediv_of_nonneg, Int.tmod_eq_emod_of_nonneg, x_bm32, g70, g72, h70, c_in, bi_t, bi_f]
            exact H
        · simp (disch := first | omega | (simp only [x_wtI, x_wtJ, x_wtR, x_wtN]; omega) | assumption | (simp (disch := omega) only [x_st_o, x_rd_ne]; first | assumption | omega) | (refine mir_eq ?_ ?_; assumption; (intro c h1 h2; simp (disch := omega) only [x_st_o])) | (refine mis_eq ?_ ?_; assumption; (intro c h1 h2; simp (disch := omega) only [x_st_o])) | rfl) only [bk_217_0, bk_217_1, bk_217_2, bk_217_4, bk_217_5, wp_ild1, wk_218, wp_ifne, wp_ic, wp_iret mz_217, wp_ald0, wr_50_34, wl_70, wp_cald, wp_icne, wp_ist2, wp_ist3, wp_fall, wp_ild3, wp_imul, wp_iadd, wp_icge, wr_50_36, wl_72, wp_pald, wp_lst4, wp_lst6, wp_lld4, wp_lc, wk_169, wp_ifeq, wp_lld6, wp_l2i, wk_215, wp_inc2, wp_inc3, wp_goto, wp_ild2, x_clr_I, x_clr_J, x_clr_R, x_clr_U, ct_some, ct_none, lc_lt, lc_ge, lc_gt, lc_le, lc_eq, lc_r, xI_inj, xJ_inj, Option.some.injEq, eq_self, bi_r, bi_0, bi_1, bi_n, Classical.not_not, and_true, true_and, ite_true, ite_false, ↓reduceIte, ↓x_andl, z_le, z_nle, z_lt, z_nlt, z_eq, z_neq, if_pos, if_neg, x_andl, false_and, and_false, or_true, true_or, or_false, false_or, not_true, not_false_iff, x_rd_eq, x_rd_ne, x_st_o, Int.cast_ofNat_Int, Int.ofNat_zero, Int.ofNat_one, not_true_eq_false, not_false_eq_true, if_true, if_false, ite_self, and_self, Int.ofNat_eq_natCast, Int.tdiv_eq_ediv_of_nonneg, Int.tmod_eq_emod_of_nonneg, x_bm32, g70, g72, h70, c_in, bi_t, bi_f]
          exact H
  · intro ⟨n, σi, u, v⟩ ⟨j1, j2, j3, j4, j5⟩
    simp only at j1 j2 j3 j4 j5 ⊢
    have g70 : σi 70 0 = σ 70 0 := j2 70 0 (by decide)
    rw [bk_217_3]
    subst j1
    simp (disch := first | omega | (simp only [x_wtI, x_wtJ, x_wtR, x_wtN]; omega) | assumption | (simp (disch := omega) only [x_st_o, x_rd_ne]; first | assumption | omega) | (refine mir_eq ?_ ?_; assumption; (intro c h1 h2; simp (disch := omega) only [x_st_o])) | (refine mis_eq ?_ ?_; assumption; (intro c h1 h2; simp (disch := omega) only [x_st_o])) | rfl) only [bk_217_0, bk_217_1, bk_217_2, bk_217_4, bk_217_5, wp_ild1, wk_218, wp_ifne, wp_ic, wp_iret mz_217, wp_ald0, wr_50_34, wl_70, wp_cald, wp_icne, wp_ist2, wp_ist3, wp_fall, wp_ild3, wp_imul, wp_iadd, wp_icge, wr_50_36, wl_72, wp_pald, wp_lst4, wp_lst6, wp_lld4, wp_lc, wk_169, wp_ifeq, wp_lld6, wp_l2i, wk_215, wp_inc2, wp_inc3, wp_goto, wp_ild2, x_clr_I, x_clr_J, x_clr_R, x_clr_U, ct_some, ct_none, lc_lt, lc_ge, lc_gt, lc_le, lc_eq, lc_r, xI_inj, xJ_inj, Option.some.injEq, eq_self, bi_r, bi_0, bi_1, bi_n, Classical.not_not, and_true, true_and, ite_true, ite_false, ↓reduceIte, ↓x_andl, z_le, z_nle, z_lt, z_nlt, z_eq, z_neq, if_pos, if_neg, x_andl, false_and, and_false, or_true, true_or, or_false, false_or, not_true, not_false_iff, x_rd_eq, x_rd_ne, x_st_o, Int.cast_ofNat_Int, Int.ofNat_zero, Int.ofNat_one, not_true_eq_false, not_false_eq_true, if_true, if_false, ite_self, and_self, Int.ofNat_eq_natCast, Int.tdiv_eq_ediv_of_nonneg, Int.tmod_eq_emod_of_nonneg, x_bm32, g70, h70]
    exact hQ _ _ ⟨rfl, j2, j3, j4, j5⟩
theorem acnt_cg {w N N' : Int → Int} {s : Int} (hs : 0 ≤ s ∧ s ≤ 3) : ∀ n : Nat, (n : Int) ≤ 30 → (∀ i, 0 ≤ i → i < 240 → N' i = N i) → a_cnt w N' s n = a_cnt w N s n := by
  intro n
  induction n with
  | zero => intro _ _; rfl
  | succ n ih =>
    intro hn h
    show a_cnt w N' s n + (if a_acc w n (N' (60 * s + 2 * n)) (N' (60 * s + 2 * n + 1)) then 1 else 0) = a_cnt w N s n + (if a_acc w n (N (60 * s + 2 * n)) (N (60 * s + 2 * n + 1)) then 1 else 0)
    rw [ih (by omega) h, h _ (by omega) (by omega), h _ (by omega) (by omega)]
section O9
variable {L : Int} {S0 : Int → Int}
theorem o_plans : x_o14 (iN L S0) := by
  intro σ hh s hs
  refine ag_I ?_
  obtain ⟨w, h51, hw, h100, hn, hq, hM, hS⟩ := iN_w hh
  have hSl := hh.2.2.2.2.1
  have a := wf_h hw
  unfold wf_hdr at a
  by_cases c : 0 ≤ s ∧ s ≤ 3
  · have r := iS_r hSl c.1 c.2
    rcases hSl.1 s c.1 (by omega) with z | z
    · simp (disch := first | omega | (simp only [x_wtI, x_wtJ, x_wtR, x_wtN]; omega) | assumption | (simp (disch := omega) only [x_st_o, x_rd_ne]; first | assumption | omega) | (refine mir_eq ?_ ?_; assumption; (intro c h1 h2; simp (disch := omega) only [x_st_o])) | (refine mis_eq ?_ ?_; assumption; (intro c h1 h2; simp (disch := omega) only [x_st_o])) | rfl) only [sp_119, bk_119_0, bk_119_1, bk_119_2, bk_119_4, bk_119_5, wp_ald0, wr_0_1, wp_ild1, wk_49, wp_ifne, wp_ic, wp_iret mz_119, wk_48, wp_ist2, wp_ist3, wp_fall, wp_ild3, wr_16_1, wl_18, wp_cald, wp_idiv, wp_icge, wp_imul, wk_50, wp_iadd, wk_118, wp_ifeq, wp_inc2, wp_inc3, wp_goto, wp_ild2, x_clr_I, x_clr_J, x_clr_R, x_clr_U, ct_some, ct_none, lc_lt, lc_ge, lc_gt, lc_le, lc_eq, lc_r, xI_inj, xJ_inj, Option.some.injEq, eq_self, bi_r, bi_0, bi_1, bi_n, Classical.not_not, and_true, true_and, ite_true, ite_false, ↓reduceIte, ↓x_andl, z_le, z_nle, z_lt, z_nlt, z_eq, z_neq, if_pos, if_neg, x_andl, false_and, and_false, or_true, true_or, or_false, false_or, not_true, not_false_iff, x_rd_eq, x_rd_ne, x_st_o, Int.cast_ofNat_Int, Int.ofNat_zero, Int.ofNat_one, not_true_eq_false, not_false_eq_true, if_true, if_false, ite_self, and_self, Int.ofNat_eq_natCast, Int.tdiv_eq_ediv_of_nonneg, Int.tmod_eq_emod_of_nonneg, x_bm32, k_shas, k_hasRow, bi_t, bi_f, z.1]
      refine ⟨-6, rfl, fun _ _ => rfl, ?_⟩
      simp (disch := first | omega | (simp only [x_wtI, x_wtJ, x_wtR, x_wtN]; omega) | assumption | (simp (disch := omega) only [x_st_o, x_rd_ne]; first | assumption | omega) | (refine mir_eq ?_ ?_; assumption; (intro c h1 h2; simp (disch := omega) only [x_st_o])) | (refine mis_eq ?_ ?_; assumption; (intro c h1 h2; simp (disch := omega) only [x_st_o])) | rfl) only [sp_217, bk_217_0, bk_217_1, bk_217_2, bk_217_4, bk_217_5, wp_ild1, wk_218, wp_ifne, wp_ic, wp_iret mz_217, wp_ald0, wr_50_34, wl_70, wp_cald, wp_icne, wp_ist2, wp_ist3, wp_fall, wp_ild3, wp_imul, wp_iadd, wp_icge, wr_50_36, wl_72, wp_pald, wp_lst4, wp_lst6, wp_lld4, wp_lc, wk_169, wp_ifeq, wp_lld6, wp_l2i, wk_215, wp_inc2, wp_inc3, wp_goto, wp_ild2, x_clr_I, x_clr_J, x_clr_R, x_clr_U, ct_some, ct_none, lc_lt, lc_ge, lc_gt, lc_le, lc_eq, lc_r, xI_inj, xJ_inj, Option.some.injEq, eq_self, bi_r, bi_0, bi_1, bi_n, Classical.not_not, and_true, true_and, ite_true, ite_false, ↓reduceIte, ↓x_andl, z_le, z_nle, z_lt, z_nlt, z_eq, z_neq, if_pos, if_neg, x_andl, false_and, and_false, or_true, true_or, or_false, false_or, not_true, not_false_iff, x_rd_eq, x_rd_ne, x_st_o, Int.cast_ofNat_Int, Int.ofNat_zero, Int.ofNat_one, not_true_eq_false, not_false_eq_true, if_true, if_false, ite_self, and_self, Int.ofNat_eq_natCast, Int.tdiv_eq_ediv_of_nonneg, Int.tmod_eq_emod_of_nonneg, x_bm32, k_isSlot, bi_t, bi_f, z.2]
      exact hh
    · simp (disch := first | omega | (simp only [x_wtI, x_wtJ, x_wtR, x_wtN]; omega) | assumption | (simp (disch := omega) only [x_st_o, x_rd_ne]; first | assumption | omega) | (refine mir_eq ?_ ?_; assumption; (intro c h1 h2; simp (disch := omega) only [x_st_o])) | (refine mis_eq ?_ ?_; assumption; (intro c h1 h2; simp (disch := omega) only [x_st_o])) | rfl) only [sp_119, bk_119_0, bk_119_1, bk_119_2, bk_119_4, bk_119_5, wp_ald0, wr_0_1, wp_ild1, wk_49, wp_ifne, wp_ic, wp_iret mz_119, wk_48, wp_ist2, wp_ist3, wp_fall, wp_ild3, wr_16_1, wl_18, wp_cald, wp_idiv, wp_icge, wp_imul, wk_50, wp_iadd, wk_118, wp_ifeq, wp_inc2, wp_inc3, wp_goto, wp_ild2, x_clr_I, x_clr_J, x_clr_R, x_clr_U, ct_some, ct_none, lc_lt, lc_ge, lc_gt, lc_le, lc_eq, lc_r, xI_inj, xJ_inj, Option.some.injEq, eq_self, bi_r, bi_0, bi_1, bi_n, Classical.not_not, and_true, true_and, ite_true, ite_false, ↓reduceIte, ↓x_andl, z_le, z_nle, z_lt, z_nlt, z_eq, z_neq, if_pos, if_neg, x_andl, false_and, and_false, or_true, true_or, or_false, false_or, not_true, not_false_iff, x_rd_eq, x_rd_ne, x_st_o, Int.cast_ofNat_Int, Int.ofNat_zero, Int.ofNat_one, not_true_eq_false, not_false_eq_true, if_true, if_false, ite_self, and_self, Int.ofNat_eq_natCast, Int.tdiv_eq_ediv_of_nonneg, Int.tmod_eq_emod_of_nonneg, x_bm32, k_shas, k_hasRow, bi_t, bi_f]
      refine x_mono (h_plansC hM hw c (m := σ 70 0 s) z.2.2.1 z.2.2.2 (fun i i0 i1 => by rw [(hSl.2 i i0 i1).1]; exact (hSl.2 i i0 i1).2)) ?_
      rintro r σ1 ⟨rfl, e1, x1, b1⟩
      refine ⟨_, rfl, fun j i => by rw [e1 100 j (by simp)], ?_⟩
      have f51 : σ1 51 0 = w := (e1 51 0 (by decide)).trans h51
      have f70 : σ1 70 0 = σ 70 0 := e1 70 0 (by decide)
      have f72 : σ1 72 0 = σ 72 0 := e1 72 0 (by decide)
      simp (disch := first | omega | (simp only [x_wtI, x_wtJ, x_wtR, x_wtN]; omega) | assumption | (simp (disch := omega) only [x_st_o, x_rd_ne]; first | assumption | omega) | (refine mir_eq ?_ ?_; assumption; (intro c h1 h2; simp (disch := omega) only [x_st_o])) | (refine mis_eq ?_ ?_; assumption; (intro c h1 h2; simp (disch := omega) only [x_st_o])) | rfl) only [sp_217, bk_217_0, bk_217_1, bk_217_2, bk_217_4, bk_217_5, wp_ild1, wk_218, wp_ifne, wp_ic, wp_iret mz_217, wp_ald0, wr_50_34, wl_70, wp_cald, wp_icne, wp_ist2, wp_ist3, wp_fall, wp_ild3, wp_imul, wp_iadd, wp_icge, wr_50_36, wl_72, wp_pald, wp_lst4, wp_lst6, wp_lld4, wp_lc, wk_169, wp_ifeq, wp_lld6, wp_l2i, wk_215, wp_inc2, wp_inc3, wp_goto, wp_ild2, x_clr_I, x_clr_J, x_clr_R, x_clr_U, ct_some, ct_none, lc_lt, lc_ge, lc_gt, lc_le, lc_eq, lc_r, xI_inj, xJ_inj, Option.some.injEq, eq_self, bi_r, bi_0, bi_1, bi_n, Classical.not_not, and_true, true_and, ite_true, ite_false, ↓reduceIte, ↓x_andl, z_le, z_nle, z_lt, z_nlt, z_eq, z_neq, if_pos, if_neg, x_andl, false_and, and_false, or_true, true_or, or_false, false_or, not_true, not_false_iff, x_rd_eq, x_rd_ne, x_st_o, Int.cast_ofNat_Int, Int.ofNat_zero, Int.ofNat_one, not_true_eq_false, not_false_eq_true, if_true, if_false, ite_self, and_self, Int.ofNat_eq_natCast, Int.tdiv_eq_ediv_of_nonneg, Int.tmod_eq_emod_of_nonneg, x_bm32, k_isSlot, bi_t, bi_f, f70]
      refine x_mono (h_plansM f51 hw c (m := σ 70 0 s) z.2.2.1 (by rw [f70]) f72 (fun i i0 i1 => (hSl.2 i i0 i1).2)) ?_
      rintro r σ2 ⟨rfl, e2, w2, x2, b2⟩
      refine ⟨?_, ?_⟩
      · rw [acnt_cg c _ (by omega) (fun i i0 i1 => (hSl.2 i i0 i1).1)]
      · refine iN_plan hh (eqo_trans (eqo_mono (by simp) e1) (eqo_mono (by simp) e2)) ?_ ?_
        · intro i hi
          rw [w2 i hi, h51]
        · intro f f0 f1
          rw [h51] at f1
          rw [e2 21 1 (by decide), e2 22 1 (by decide), x1 f, b1 f, x2 f f0, b2 f f0]
          by_cases cf : 0 ≤ f ∧ f < σ 70 0 s / 2
          · rw [(hSl.2 (60 * s + 2 * f) (by omega) (by omega)).1, (hSl.2 (60 * s + 2 * f + 1) (by omega) (by omega)).1]
            by_cases ca : (0 ≤ f ∧ f < σ 70 0 s / 2) ∧ a_acc w f (σ 72 0 (60 * s + 2 * f)) (σ 72 0 (60 * s + 2 * f + 1))
            · rw [if_pos ca, if_pos ca, if_pos ca, if_pos ca]
              exact ⟨rfl, rfl, ca.2.2.1, ca.2.2.2.1⟩
            · rw [if_neg ca, if_neg ca, if_neg ca, if_neg ca]
              exact ⟨(hS.2 f f0 f1).1, (hS.2 f f0 f1).2, (hq f f0 f1).2.1, (hq f f0 f1).2.2⟩
          · rw [if_neg (fun q => cf q.1), if_neg (fun q => cf q.1), if_neg (fun q => cf q.1), if_neg (fun q => cf q.1)]
            exact ⟨(hS.2 f f0 f1).1, (hS.2 f f0 f1).2, (hq f f0 f1).2.1, (hq f f0 f1).2.2⟩
  · simp (disch := first | omega | (simp only [x_wtI, x_wtJ, x_wtR, x_wtN]; omega) | assumption | (simp (disch := omega) only [x_st_o, x_rd_ne]; first | assumption | omega) | (refine mir_eq ?_ ?_; assumption; (intro c h1 h2; simp (disch := omega) only [x_st_o])) | (refine mis_eq ?_ ?_; assumption; (intro c h1 h2; simp (disch := omega) only [x_st_o])) | rfl) only [sp_119, bk_119_0, bk_119_1, bk_119_2, bk_119_4, bk_119_5, wp_ald0, wr_0_1, wp_ild1, wk_49, wp_ifne, wp_ic, wp_iret mz_119, wk_48, wp_ist2, wp_ist3, wp_fall, wp_ild3, wr_16_1, wl_18, wp_cald, wp_idiv, wp_icge, wp_imul, wk_50, wp_iadd, wk_118, wp_ifeq, wp_inc2, wp_inc3, wp_goto, wp_ild2, x_clr_I, x_clr_J, x_clr_R, x_clr_U, ct_some, ct_none, lc_lt, lc_ge, lc_gt, lc_le, lc_eq, lc_r, xI_inj, xJ_inj, Option.some.injEq, eq_self, bi_r, bi_0, bi_1, bi_n, Classical.not_not, and_true, true_and, ite_true, ite_false, ↓reduceIte, ↓x_andl, z_le, z_nle, z_lt, z_nlt, z_eq, z_neq, if_pos, if_neg, x_andl, false_and, and_false, or_true, true_or, or_false, false_or, not_true, not_false_iff, x_rd_eq, x_rd_ne, x_st_o, Int.cast_ofNat_Int, Int.ofNat_zero, Int.ofNat_one, not_true_eq_false, not_false_eq_true, if_true, if_false, ite_self, and_self, Int.ofNat_eq_natCast, Int.tdiv_eq_ediv_of_nonneg, Int.tmod_eq_emod_of_nonneg, x_bm32, k_shas, bi_t, bi_f]
    refine ⟨-2, rfl, fun _ _ => rfl, ?_⟩
    simp (disch := first | omega | (simp only [x_wtI, x_wtJ, x_wtR, x_wtN]; omega) | assumption | (simp (disch := omega) only [x_st_o, x_rd_ne]; first | assumption | omega) | (refine mir_eq ?_ ?_; assumption; (intro c h1 h2; simp (disch := omega) only [x_st_o])) | (refine mis_eq ?_ ?_; assumption; (intro c h1 h2; simp (disch := omega) only [x_st_o])) | rfl) only [sp_217, bk_217_0, bk_217_1, bk_217_2, bk_217_4, bk_217_5, wp_ild1, wk_218, wp_ifne, wp_ic, wp_iret mz_217, wp_ald0, wr_50_34, wl_70, wp_cald, wp_icne, wp_ist2, wp_ist3, wp_fall, wp_ild3, wp_imul, wp_iadd, wp_icge, wr_50_36, wl_72, wp_pald, wp_lst4, wp_lst6, wp_lld4, wp_lc, wk_169, wp_ifeq, wp_lld6, wp_l2i, wk_215, wp_inc2, wp_inc3, wp_goto, wp_ild2, x_clr_I, x_clr_J, x_clr_R, x_clr_U, ct_some, ct_none, lc_lt, lc_ge, lc_gt, lc_le, lc_eq, lc_r, xI_inj, xJ_inj, Option.some.injEq, eq_self, bi_r, bi_0, bi_1, bi_n, Classical.not_not, and_true, true_and, ite_true, ite_false, ↓reduceIte, ↓x_andl, z_le, z_nle, z_lt, z_nlt, z_eq, z_neq, if_pos, if_neg, x_andl, false_and, and_false, or_true, true_or, or_false, false_or, not_true, not_false_iff, x_rd_eq, x_rd_ne, x_st_o, Int.cast_ofNat_Int, Int.ofNat_zero, Int.ofNat_one, not_true_eq_false, not_false_eq_true, if_true, if_false, ite_self, and_self, Int.ofNat_eq_natCast, Int.tdiv_eq_ediv_of_nonneg, Int.tmod_eq_emod_of_nonneg, x_bm32, k_isSlot, bi_t, bi_f]
    exact hh
end O9

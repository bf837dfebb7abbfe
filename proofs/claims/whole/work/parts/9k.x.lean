theorem ocn_ex {V : Int → Int} {i : Int} (h0 : 0 ≤ i) : ∀ n : Nat, i < ocn V n → ∃ p : Int, (0 ≤ p ∧ p < n) ∧ ¬ V p = 9223372036854775807 ∧ ocn V p.toNat = i
  | 0, h => by
    have : ocn V 0 = 0 := rfl
    omega
  | n + 1, h => by
    have e : ocn V (n + 1) = ocn V n + (if V n = 9223372036854775807 then 0 else 1) := rfl
    by_cases c : i < ocn V n
    · obtain ⟨p, q, r⟩ := ocn_ex h0 n c
      exact ⟨p, by omega, r⟩
    · by_cases cd : V n = 9223372036854775807
      · rw [if_pos cd] at e
        omega
      · rw [if_neg cd] at e
        exact ⟨n, by omega, cd, by rw [show ((n : Int)).toNat = n by omega]; omega⟩
theorem ocn_in {V : Int → Int} {p q : Int} (p0 : 0 ≤ p) (q0 : 0 ≤ q) (hp : ¬ V p = 9223372036854775807) (hq : ¬ V q = 9223372036854775807) (h : ocn V p.toNat = ocn V q.toNat) : p = q := by
  by_cases a : p < q
  · have := ocn_lt p0 a hp
    omega
  · by_cases b : q < p
    · have := ocn_lt q0 b hq
      omega
    · omega
theorem al_ag {w T T2 L L2 : Int → Int} {c c2 : Int} (hw : wf w) (hn : wn w) (hc : 0 ≤ c ∧ c ≤ 3) (h2 : ¬ c = 2) (hc' : 0 ≤ c2 ∧ c2 ≤ 2) (h2' : ¬ c2 = 2) (hG : gT c 5 4 (-1) w L T (w 8)) (hC : cT c2 w T2 L2) {f st wd : Int} (f0 : w 8 ≤ f) (f1 : f < w 0) (fr : p_fr w (w 8) f) (hs : 0 ≤ st ∧ st ≤ 20) (b t : Int) : (∀ u, ¬ zst 9223372036854775807 c2 5 4 w L2 T2 f st wd b t u) ↔ ∀ u, ¬ zst (-9223372036854775808) c 5 4 w L T f st wd b t u := by
  have n8 := hn.1
  have key : s_law w 4 f st wd b t → (r_ok (-9223372036854775808) 5 w T f (21 * p_or wd b + t) ↔ r_ok 9223372036854775807 5 w T2 f (21 * p_or wd b + t)) := by
    intro l
    have sb := sl_b hw (by omega) f1 hs l
    have po := p_or_01 (a := wd) (b := b)
    have d : ∀ i, 0 ≤ i → i < w_of w f 7 → (T (42 * w_of w f (8 + i) + (21 * p_or wd b + t)) = (-9223372036854775808) ↔ T2 (42 * w_of w f (8 + i) + (21 * p_or wd b + t)) = 9223372036854775807) := by
      intro i i0 i1
      have kk := wf_k hw (f := f) (i := i) (by omega) f1 i0 i1
      exact dead_ag hw hn hc h2 hc' h2' hG hC _ (by omega) kk.2.1 (fr_kid hw n8.1 fr (by omega) f1 i0 i1) t (p_or wd b) (by omega) (by omega) (by omega) (by omega)
    unfold r_ok r_dead
    constructor
    · rintro (z | z)
      · exact Or.inl z
      · exact Or.inr (fun ⟨i, i0, i1, e⟩ => z ⟨i, i0, i1, (d i i0 i1).mpr e⟩)
    · rintro (z | z)
      · exact Or.inl z
      · exact Or.inr (fun ⟨i, i0, i1, e⟩ => z ⟨i, i0, i1, (d i i0 i1).mp e⟩)
  constructor
  · intro h u z
    exact h _ ⟨⟨z.1.1, (key z.1.1).mp z.1.2⟩, rfl⟩
  · intro h u z
    exact h _ ⟨⟨z.1.1, (key z.1.1).mpr z.1.2⟩, rfl⟩
theorem vZ_d {Z : Int → Int → Int → Prop} {V : Int → Int} (h : vZ Z V) {b t : Int} (b0 : 0 ≤ b) (b1 : b ≤ 1) (t0 : 0 ≤ t) (t1 : t ≤ 20) : V (21 * b + t) = 9223372036854775807 ↔ ∀ u, ¬ Z b t u := by
  rcases h b t b0 b1 t0 t1 with ⟨z, y⟩ | ⟨z, _, y, _⟩
  · exact ⟨fun _ => y, fun _ => z⟩
  · exact ⟨fun q => absurd q z, fun q => absurd y (q _)⟩
section OF
variable {L : Int} {S0 : Int → Int}
theorem o_steps : x_o9 (iN L S0) := by
  intro σ hh
  refine ag_I ?_
  obtain ⟨w, h51, hw, h100, hn, hq, hM, hS⟩ := iN_w hh
  obtain ⟨n8, n9, n10, _⟩ := id hn
  simp (disch := first | omega | (simp only [x_wtI, x_wtJ, x_wtR, x_wtN]; omega) | assumption | (simp (disch := omega) only [x_st_o, x_rd_ne]; first | assumption | omega) | (apply mir_eq; assumption; (intro c h1 h2; simp (disch := omega) only [x_st_o])) | (apply mis_eq; assumption; (intro c h1 h2; simp (disch := omega) only [x_st_o])) | rfl) only [sp_112, bk_112_0, wp_ald0, wp_ic, wk_113, wp_iret mz_112, x_clr_I, x_clr_J, x_clr_R, x_clr_U, ct_some, ct_none, lc_lt, lc_ge, lc_gt, lc_le, lc_eq, lc_r, xI_inj, xJ_inj, Option.some.injEq, eq_self, bi_r, bi_0, bi_1, bi_n, Classical.not_not, and_true, true_and, ite_true, ite_false, ↓reduceIte, ↓x_andl, z_le, z_nle, z_lt, z_nlt, z_eq, z_neq, if_pos, if_neg, x_andl, false_and, and_false, or_true, true_or, or_false, false_or, not_true, not_false_iff, x_rd_eq, x_rd_ne, x_st_o, Int.cast_ofNat_Int, Int.ofNat_zero, Int.ofNat_one, not_true_eq_false, not_false_eq_true, if_true, if_false, ite_self, and_self, Int.ofNat_eq_natCast, Int.tdiv_eq_ediv_of_nonneg, Int.tmod_eq_emod_of_nonneg, x_bm32]
  refine x_use (d := 991) (h_list (j := 0) hh (by omega) rfl) ?_
  rintro r σ1 ⟨tk, hh1, ct, V, vz, rfl, of⟩
  rw [h51] at ct vz
  have g51 : σ1 51 0 = w := (tk.1 51 0 (by decide)).trans h51
  have cb := ocn_b (V := V) 42
  generalize hN : ocn V 42 = N at cb
  simp (disch := first | omega | (simp only [x_wtI, x_wtJ, x_wtR, x_wtN]; omega) | assumption | (simp (disch := omega) only [x_st_o, x_rd_ne]; first | assumption | omega) | (apply mir_eq; assumption; (intro c h1 h2; simp (disch := omega) only [x_st_o])) | (apply mis_eq; assumption; (intro c h1 h2; simp (disch := omega) only [x_st_o])) | rfl) only [bk_112_0, wp_ald0, wp_ic, wk_113, wp_iret mz_112, x_clr_I, x_clr_J, x_clr_R, x_clr_U, ct_some, ct_none, lc_lt, lc_ge, lc_gt, lc_le, lc_eq, lc_r, xI_inj, xJ_inj, Option.some.injEq, eq_self, bi_r, bi_0, bi_1, bi_n, Classical.not_not, and_true, true_and, ite_true, ite_false, ↓reduceIte, ↓x_andl, z_le, z_nle, z_lt, z_nlt, z_eq, z_neq, if_pos, if_neg, x_andl, false_and, and_false, or_true, true_or, or_false, false_or, not_true, not_false_iff, x_rd_eq, x_rd_ne, x_st_o, Int.cast_ofNat_Int, Int.ofNat_zero, Int.ofNat_one, not_true_eq_false, not_false_eq_true, if_true, if_false, ite_self, and_self, Int.ofNat_eq_natCast, Int.tdiv_eq_ediv_of_nonneg, Int.tmod_eq_emod_of_nonneg, x_bm32]
  refine ⟨N, rfl, tk2_100 tk, ?_⟩
  simp (disch := first | omega | (simp only [x_wtI, x_wtJ, x_wtR, x_wtN]; omega) | assumption | (simp (disch := omega) only [x_st_o, x_rd_ne]; first | assumption | omega) | (apply mir_eq; assumption; (intro c h1 h2; simp (disch := omega) only [x_st_o])) | (apply mis_eq; assumption; (intro c h1 h2; simp (disch := omega) only [x_st_o])) | rfl) only [sp_210, bk_210_0, wp_ald0, wp_ic, wk_211, wp_iret mz_210, x_clr_I, x_clr_J, x_clr_R, x_clr_U, ct_some, ct_none, lc_lt, lc_ge, lc_gt, lc_le, lc_eq, lc_r, xI_inj, xJ_inj, Option.some.injEq, eq_self, bi_r, bi_0, bi_1, bi_n, Classical.not_not, and_true, true_and, ite_true, ite_false, ↓reduceIte, ↓x_andl, z_le, z_nle, z_lt, z_nlt, z_eq, z_neq, if_pos, if_neg, x_andl, false_and, and_false, or_true, true_or, or_false, false_or, not_true, not_false_iff, x_rd_eq, x_rd_ne, x_st_o, Int.cast_ofNat_Int, Int.ofNat_zero, Int.ofNat_one, not_true_eq_false, not_false_eq_true, if_true, if_false, ite_self, and_self, Int.ofNat_eq_natCast, Int.tdiv_eq_ediv_of_nonneg, Int.tmod_eq_emod_of_nonneg, x_bm32]
  refine x_use (d := 990) (h_nth (V := V) hh1 g51 (by omega) (by omega) (fun T L' Ym gt gm b t p q p2 q2 => (vZ_d vz p q p2 q2).trans (al_ag hw hn (by omega) (by omega) (by omega) (by omega) gt ct (Int.le_refl _) n8.2 fr_self n9 b t))) ?_
  rintro r σ2 ⟨rfl, e2, hh2, _⟩
  rw [hN]
  simp (disch := first | omega | (simp only [x_wtI, x_wtJ, x_wtR, x_wtN]; omega) | assumption | (simp (disch := omega) only [x_st_o, x_rd_ne]; first | assumption | omega) | (apply mir_eq; assumption; (intro c h1 h2; simp (disch := omega) only [x_st_o])) | (apply mis_eq; assumption; (intro c h1 h2; simp (disch := omega) only [x_st_o])) | rfl) only [bk_210_0, wp_ald0, wp_ic, wk_211, wp_iret mz_210, x_clr_I, x_clr_J, x_clr_R, x_clr_U, ct_some, ct_none, lc_lt, lc_ge, lc_gt, lc_le, lc_eq, lc_r, xI_inj, xJ_inj, Option.some.injEq, eq_self, bi_r, bi_0, bi_1, bi_n, Classical.not_not, and_true, true_and, ite_true, ite_false, ↓reduceIte, ↓x_andl, z_le, z_nle, z_lt, z_nlt, z_eq, z_neq, if_pos, if_neg, x_andl, false_and, and_false, or_true, true_or, or_false, false_or, not_true, not_false_iff, x_rd_eq, x_rd_ne, x_st_o, Int.cast_ofNat_Int, Int.ofNat_zero, Int.ofNat_one, not_true_eq_false, not_false_eq_true, if_true, if_false, ite_self, and_self, Int.ofNat_eq_natCast, Int.tdiv_eq_ediv_of_nonneg, Int.tmod_eq_emod_of_nonneg, x_bm32]
  exact hh2
theorem o_first : x_o10 (iN L S0) := by
  intro σ hh i what hi hwh
  refine ag_I ?_
  obtain ⟨w, h51, hw, h100, hn, hq, hM, hS⟩ := iN_w hh
  obtain ⟨n8, n9, n10, _⟩ := id hn
  have o := wf_f hw (f := w 8) (by omega) (by omega)
  unfold wf_one at o
  simp (disch := first | omega | (simp only [x_wtI, x_wtJ, x_wtR, x_wtN]; omega) | assumption | (simp (disch := omega) only [x_st_o, x_rd_ne]; first | assumption | omega) | (apply mir_eq; assumption; (intro c h1 h2; simp (disch := omega) only [x_st_o])) | (apply mis_eq; assumption; (intro c h1 h2; simp (disch := omega) only [x_st_o])) | rfl) only [sp_114, bk_114_0, bk_114_1, bk_114_2, wp_ald0, wp_ic, wk_113, wp_ist3, wp_ild1, wp_iflt, wp_ild3, wp_icge, wr_0_11, wl_1, wp_cald, wp_ild2, wk_110, wp_goto, wp_fall, wp_iret mz_114, x_clr_I, x_clr_J, x_clr_R, x_clr_U, ct_some, ct_none, lc_lt, lc_ge, lc_gt, lc_le, lc_eq, lc_r, xI_inj, xJ_inj, Option.some.injEq, eq_self, bi_r, bi_0, bi_1, bi_n, Classical.not_not, and_true, true_and, ite_true, ite_false, ↓reduceIte, ↓x_andl, z_le, z_nle, z_lt, z_nlt, z_eq, z_neq, if_pos, if_neg, x_andl, false_and, and_false, or_true, true_or, or_false, false_or, not_true, not_false_iff, x_rd_eq, x_rd_ne, x_st_o, Int.cast_ofNat_Int, Int.ofNat_zero, Int.ofNat_one, not_true_eq_false, not_false_eq_true, if_true, if_false, ite_self, and_self, Int.ofNat_eq_natCast, Int.tdiv_eq_ediv_of_nonneg, Int.tmod_eq_emod_of_nonneg, x_bm32]
  refine x_use (d := 991) (h_list (j := 0) hh (by omega) rfl) ?_
  rintro r σ1 ⟨tk, hh1, ct, V, vz, rfl, of⟩
  rw [h51] at ct vz
  have g51 : σ1 51 0 = w := (tk.1 51 0 (by decide)).trans h51
  obtain ⟨w1, h511, _, _, _, _, hM1, hS1⟩ := iN_w hh1
  have ew : w1 = w := h511.symm.trans g51
  subst ew
  have cb := ocn_b (V := V) 42
  have nth : ∀ k, -2147483648 ≤ k ∧ k ≤ 2147483647 → _ := fun k hk => h_nth (V := V) (i := k) (c := 1) hh1 g51 (by omega) hk (fun T L' Ym gt gm b t p q p2 q2 => (vZ_d vz p q p2 q2).trans (al_ag hw hn (by omega) (by omega) (by omega) (by omega) gt ct (Int.le_refl _) n8.2 fr_self n9 b t))
  by_cases ci : 0 ≤ i ∧ i < ocn V 42
  · obtain ⟨p, pb, pv, pi⟩ := ocn_ex (V := V) ci.1 42 ci.2
    have po := (of p pb.1 pb.2 pv).1
    rw [pi] at po
    have nt := nth i hi
    generalize hN : ocn V 42 = N at cb ci nt
    by_cases cw : 0 ≤ what ∧ what ≤ 1
    · have fin : ∀ v, (v = if what = 0 then p % 21 + w_of w1 (w1 8) 5 - w1 9 else p / 21) → x_Sp 999 212 [xR 50 0, xI i, xI what] σ1 (fun r2 σ2 => r2 = some (xI v) ∧ iN L S0 σ2) := by
        intro v hv
        simp (disch := first | omega | (simp only [x_wtI, x_wtJ, x_wtR, x_wtN]; omega) | assumption | (simp (disch := omega) only [x_st_o, x_rd_ne]; first | assumption | omega) | (apply mir_eq; assumption; (intro c h1 h2; simp (disch := omega) only [x_st_o])) | (apply mis_eq; assumption; (intro c h1 h2; simp (disch := omega) only [x_st_o])) | rfl) only [sp_212, bk_212_0, bk_212_1, bk_212_2, bk_212_3, bk_212_4, wp_ild1, wp_iflt, wp_ald0, wp_ic, wk_211, wp_icle, wp_ild2, wp_i2l, wp_lc, wk_169, wp_ifne, wp_fall, wp_iret mz_212, wp_geti kd_50, wp_goto, x_clr_I, x_clr_J, x_clr_R, x_clr_U, ct_some, ct_none, lc_lt, lc_ge, lc_gt, lc_le, lc_eq, lc_r, xI_inj, xJ_inj, Option.some.injEq, eq_self, bi_r, bi_0, bi_1, bi_n, Classical.not_not, and_true, true_and, ite_true, ite_false, ↓reduceIte, ↓x_andl, z_le, z_nle, z_lt, z_nlt, z_eq, z_neq, if_pos, if_neg, x_andl, false_and, and_false, or_true, true_or, or_false, false_or, not_true, not_false_iff, x_rd_eq, x_rd_ne, x_st_o, Int.cast_ofNat_Int, Int.ofNat_zero, Int.ofNat_one, not_true_eq_false, not_false_eq_true, if_true, if_false, ite_self, and_self, Int.ofNat_eq_natCast, Int.tdiv_eq_ediv_of_nonneg, Int.tmod_eq_emod_of_nonneg, x_bm32]
        refine x_use (d := 990) nt ?_
        rintro r σ2 ⟨rfl, e2, hh2, _, _, y⟩
        obtain ⟨p2, pb2, pv2, pi2, x2, b2⟩ := y ci.1 ci.2
        have ep : p2 = p := ocn_in pb2.1 pb.1 pv2 pv (by rw [pi2, pi])
        subst ep
        by_cases w0 : what = 0
        · rw [if_pos w0] at hv
          subst hv
          simp (disch := first | omega | (simp only [x_wtI, x_wtJ, x_wtR, x_wtN]; omega) | assumption | (simp (disch := omega) only [x_st_o, x_rd_ne]; first | assumption | omega) | (apply mir_eq; assumption; (intro c h1 h2; simp (disch := omega) only [x_st_o])) | (apply mis_eq; assumption; (intro c h1 h2; simp (disch := omega) only [x_st_o])) | rfl) only [bk_212_0, bk_212_1, bk_212_2, bk_212_3, bk_212_4, wp_ild1, wp_iflt, wp_ald0, wp_ic, wk_211, wp_icle, wp_ild2, wp_i2l, wp_lc, wk_169, wp_ifne, wp_fall, wp_iret mz_212, wp_geti kd_50, wp_goto, x_clr_I, x_clr_J, x_clr_R, x_clr_U, ct_some, ct_none, lc_lt, lc_ge, lc_gt, lc_le, lc_eq, lc_r, xI_inj, xJ_inj, Option.some.injEq, eq_self, bi_r, bi_0, bi_1, bi_n, Classical.not_not, and_true, true_and, ite_true, ite_false, ↓reduceIte, ↓x_andl, z_le, z_nle, z_lt, z_nlt, z_eq, z_neq, if_pos, if_neg, x_andl, false_and, and_false, or_true, true_or, or_false, false_or, not_true, not_false_iff, x_rd_eq, x_rd_ne, x_st_o, Int.cast_ofNat_Int, Int.ofNat_zero, Int.ofNat_one, not_true_eq_false, not_false_eq_true, if_true, if_false, ite_self, and_self, Int.ofNat_eq_natCast, Int.tdiv_eq_ediv_of_nonneg, Int.tmod_eq_emod_of_nonneg, x_bm32, c_in, bi_t, x2]
          exact hh2
        · rw [if_neg w0] at hv
          subst hv
          simp (disch := first | omega | (simp only [x_wtI, x_wtJ, x_wtR, x_wtN]; omega) | assumption | (simp (disch := omega) only [x_st_o, x_rd_ne]; first | assumption | omega) | (apply mir_eq; assumption; (intro c h1 h2; simp (disch := omega) only [x_st_o])) | (apply mis_eq; assumption; (intro c h1 h2; simp (disch := omega) only [x_st_o])) | rfl) only [bk_212_0, bk_212_1, bk_212_2, bk_212_3, bk_212_4, wp_ild1, wp_iflt, wp_ald0, wp_ic, wk_211, wp_icle, wp_ild2, wp_i2l, wp_lc, wk_169, wp_ifne, wp_fall, wp_iret mz_212, wp_geti kd_50, wp_goto, x_clr_I, x_clr_J, x_clr_R, x_clr_U, ct_some, ct_none, lc_lt, lc_ge, lc_gt, lc_le, lc_eq, lc_r, xI_inj, xJ_inj, Option.some.injEq, eq_self, bi_r, bi_0, bi_1, bi_n, Classical.not_not, and_true, true_and, ite_true, ite_false, ↓reduceIte, ↓x_andl, z_le, z_nle, z_lt, z_nlt, z_eq, z_neq, if_pos, if_neg, x_andl, false_and, and_false, or_true, true_or, or_false, false_or, not_true, not_false_iff, x_rd_eq, x_rd_ne, x_st_o, Int.cast_ofNat_Int, Int.ofNat_zero, Int.ofNat_one, not_true_eq_false, not_false_eq_true, if_true, if_false, ite_self, and_self, Int.ofNat_eq_natCast, Int.tdiv_eq_ediv_of_nonneg, Int.tmod_eq_emod_of_nonneg, x_bm32, c_in, bi_t, b2]
          exact hh2
      by_cases w0 : what = 0
      · simp (disch := first | omega | (simp only [x_wtI, x_wtJ, x_wtR, x_wtN]; omega) | assumption | (simp (disch := omega) only [x_st_o, x_rd_ne]; first | assumption | omega) | (apply mir_eq; assumption; (intro c h1 h2; simp (disch := omega) only [x_st_o])) | (apply mis_eq; assumption; (intro c h1 h2; simp (disch := omega) only [x_st_o])) | rfl) only [bk_114_0, bk_114_1, bk_114_2, wp_ald0, wp_ic, wk_113, wp_ist3, wp_ild1, wp_iflt, wp_ild3, wp_icge, wr_0_11, wl_1, wp_cald, wp_ild2, wk_110, wp_goto, wp_fall, wp_iret mz_114, bk_110_0, bk_110_1, bk_110_2, bk_110_3, bk_110_4, wp_iceq, wk_111, wp_ifne, wp_iret mz_110, wr_0_2, wr_20_0, wp_geti kd_20, wp_irem, wk_69, wp_idiv, x_clr_I, x_clr_J, x_clr_R, x_clr_U, ct_some, ct_none, lc_lt, lc_ge, lc_gt, lc_le, lc_eq, lc_r, xI_inj, xJ_inj, Option.some.injEq, eq_self, bi_r, bi_0, bi_1, bi_n, Classical.not_not, and_true, true_and, ite_true, ite_false, ↓reduceIte, ↓x_andl, z_le, z_nle, z_lt, z_nlt, z_eq, z_neq, if_pos, if_neg, x_andl, false_and, and_false, or_true, true_or, or_false, false_or, not_true, not_false_iff, x_rd_eq, x_rd_ne, x_st_o, Int.cast_ofNat_Int, Int.ofNat_zero, Int.ofNat_one, not_true_eq_false, not_false_eq_true, if_true, if_false, ite_self, and_self, Int.ofNat_eq_natCast, Int.tdiv_eq_ediv_of_nonneg, Int.tmod_eq_emod_of_nonneg, x_bm32, sp_110, po, k_isFlag, bi_t, hS1.1.1, hS1.1.2.1, k_boughtFor hM1 hw]
        exact ⟨_, rfl, tk2_100 tk, fin _ (by rw [if_pos w0])⟩
      · simp (disch := first | omega | (simp only [x_wtI, x_wtJ, x_wtR, x_wtN]; omega) | assumption | (simp (disch := omega) only [x_st_o, x_rd_ne]; first | assumption | omega) | (apply mir_eq; assumption; (intro c h1 h2; simp (disch := omega) only [x_st_o])) | (apply mis_eq; assumption; (intro c h1 h2; simp (disch := omega) only [x_st_o])) | rfl) only [bk_114_0, bk_114_1, bk_114_2, wp_ald0, wp_ic, wk_113, wp_ist3, wp_ild1, wp_iflt, wp_ild3, wp_icge, wr_0_11, wl_1, wp_cald, wp_ild2, wk_110, wp_goto, wp_fall, wp_iret mz_114, bk_110_0, bk_110_1, bk_110_2, bk_110_3, bk_110_4, wp_iceq, wk_111, wp_ifne, wp_iret mz_110, wr_0_2, wr_20_0, wp_geti kd_20, wp_irem, wk_69, wp_idiv, x_clr_I, x_clr_J, x_clr_R, x_clr_U, ct_some, ct_none, lc_lt, lc_ge, lc_gt, lc_le, lc_eq, lc_r, xI_inj, xJ_inj, Option.some.injEq, eq_self, bi_r, bi_0, bi_1, bi_n, Classical.not_not, and_true, true_and, ite_true, ite_false, ↓reduceIte, ↓x_andl, z_le, z_nle, z_lt, z_nlt, z_eq, z_neq, if_pos, if_neg, x_andl, false_and, and_false, or_true, true_or, or_false, false_or, not_true, not_false_iff, x_rd_eq, x_rd_ne, x_st_o, Int.cast_ofNat_Int, Int.ofNat_zero, Int.ofNat_one, not_true_eq_false, not_false_eq_true, if_true, if_false, ite_self, and_self, Int.ofNat_eq_natCast, Int.tdiv_eq_ediv_of_nonneg, Int.tmod_eq_emod_of_nonneg, x_bm32, sp_110, po, k_isFlag, bi_t]
        exact ⟨_, rfl, tk2_100 tk, fin _ (by rw [if_neg w0])⟩
    · simp (disch := first | omega | (simp only [x_wtI, x_wtJ, x_wtR, x_wtN]; omega) | assumption | (simp (disch := omega) only [x_st_o, x_rd_ne]; first | assumption | omega) | (apply mir_eq; assumption; (intro c h1 h2; simp (disch := omega) only [x_st_o])) | (apply mis_eq; assumption; (intro c h1 h2; simp (disch := omega) only [x_st_o])) | rfl) only [bk_114_0, bk_114_1, bk_114_2, wp_ald0, wp_ic, wk_113, wp_ist3, wp_ild1, wp_iflt, wp_ild3, wp_icge, wr_0_11, wl_1, wp_cald, wp_ild2, wk_110, wp_goto, wp_fall, wp_iret mz_114, bk_110_0, bk_110_1, bk_110_2, bk_110_3, bk_110_4, wp_iceq, wk_111, wp_ifne, wp_iret mz_110, wr_0_2, wr_20_0, wp_geti kd_20, wp_irem, wk_69, wp_idiv, x_clr_I, x_clr_J, x_clr_R, x_clr_U, ct_some, ct_none, lc_lt, lc_ge, lc_gt, lc_le, lc_eq, lc_r, xI_inj, xJ_inj, Option.some.injEq, eq_self, bi_r, bi_0, bi_1, bi_n, Classical.not_not, and_true, true_and, ite_true, ite_false, ↓reduceIte, ↓x_andl, z_le, z_nle, z_lt, z_nlt, z_eq, z_neq, if_pos, if_neg, x_andl, false_and, and_false, or_true, true_or, or_false, false_or, not_true, not_false_iff, x_rd_eq, x_rd_ne, x_st_o, Int.cast_ofNat_Int, Int.ofNat_zero, Int.ofNat_one, not_true_eq_false, not_false_eq_true, if_true, if_false, ite_self, and_self, Int.ofNat_eq_natCast, Int.tdiv_eq_ediv_of_nonneg, Int.tmod_eq_emod_of_nonneg, x_bm32, sp_110, po, k_isFlag, bi_f]
      refine ⟨-2000000000, rfl, tk2_100 tk, ?_⟩
      simp (disch := first | omega | (simp only [x_wtI, x_wtJ, x_wtR, x_wtN]; omega) | assumption | (simp (disch := omega) only [x_st_o, x_rd_ne]; first | assumption | omega) | (apply mir_eq; assumption; (intro c h1 h2; simp (disch := omega) only [x_st_o])) | (apply mis_eq; assumption; (intro c h1 h2; simp (disch := omega) only [x_st_o])) | rfl) only [sp_212, bk_212_0, bk_212_1, bk_212_2, bk_212_3, bk_212_4, wp_ild1, wp_iflt, wp_ald0, wp_ic, wk_211, wp_icle, wp_ild2, wp_i2l, wp_lc, wk_169, wp_ifne, wp_fall, wp_iret mz_212, wp_geti kd_50, wp_goto, x_clr_I, x_clr_J, x_clr_R, x_clr_U, ct_some, ct_none, lc_lt, lc_ge, lc_gt, lc_le, lc_eq, lc_r, xI_inj, xJ_inj, Option.some.injEq, eq_self, bi_r, bi_0, bi_1, bi_n, Classical.not_not, and_true, true_and, ite_true, ite_false, ↓reduceIte, ↓x_andl, z_le, z_nle, z_lt, z_nlt, z_eq, z_neq, if_pos, if_neg, x_andl, false_and, and_false, or_true, true_or, or_false, false_or, not_true, not_false_iff, x_rd_eq, x_rd_ne, x_st_o, Int.cast_ofNat_Int, Int.ofNat_zero, Int.ofNat_one, not_true_eq_false, not_false_eq_true, if_true, if_false, ite_self, and_self, Int.ofNat_eq_natCast, Int.tdiv_eq_ediv_of_nonneg, Int.tmod_eq_emod_of_nonneg, x_bm32]
      refine x_use (d := 990) nt ?_
      rintro r σ2 ⟨rfl, e2, hh2, _⟩
      simp (disch := first | omega | (simp only [x_wtI, x_wtJ, x_wtR, x_wtN]; omega) | assumption | (simp (disch := omega) only [x_st_o, x_rd_ne]; first | assumption | omega) | (apply mir_eq; assumption; (intro c h1 h2; simp (disch := omega) only [x_st_o])) | (apply mis_eq; assumption; (intro c h1 h2; simp (disch := omega) only [x_st_o])) | rfl) only [bk_212_0, bk_212_1, bk_212_2, bk_212_3, bk_212_4, wp_ild1, wp_iflt, wp_ald0, wp_ic, wk_211, wp_icle, wp_ild2, wp_i2l, wp_lc, wk_169, wp_ifne, wp_fall, wp_iret mz_212, wp_geti kd_50, wp_goto, x_clr_I, x_clr_J, x_clr_R, x_clr_U, ct_some, ct_none, lc_lt, lc_ge, lc_gt, lc_le, lc_eq, lc_r, xI_inj, xJ_inj, Option.some.injEq, eq_self, bi_r, bi_0, bi_1, bi_n, Classical.not_not, and_true, true_and, ite_true, ite_false, ↓reduceIte, ↓x_andl, z_le, z_nle, z_lt, z_nlt, z_eq, z_neq, if_pos, if_neg, x_andl, false_and, and_false, or_true, true_or, or_false, false_or, not_true, not_false_iff, x_rd_eq, x_rd_ne, x_st_o, Int.cast_ofNat_Int, Int.ofNat_zero, Int.ofNat_one, not_true_eq_false, not_false_eq_true, if_true, if_false, ite_self, and_self, Int.ofNat_eq_natCast, Int.tdiv_eq_ediv_of_nonneg, Int.tmod_eq_emod_of_nonneg, x_bm32, c_in, bi_f]
      exact hh2
  · by_cases c0 : i < 0
    · generalize hN : ocn V 42 = N at cb
      simp (disch := first | omega | (simp only [x_wtI, x_wtJ, x_wtR, x_wtN]; omega) | assumption | (simp (disch := omega) only [x_st_o, x_rd_ne]; first | assumption | omega) | (apply mir_eq; assumption; (intro c h1 h2; simp (disch := omega) only [x_st_o])) | (apply mis_eq; assumption; (intro c h1 h2; simp (disch := omega) only [x_st_o])) | rfl) only [bk_114_0, bk_114_1, bk_114_2, wp_ald0, wp_ic, wk_113, wp_ist3, wp_ild1, wp_iflt, wp_ild3, wp_icge, wr_0_11, wl_1, wp_cald, wp_ild2, wk_110, wp_goto, wp_fall, wp_iret mz_114, x_clr_I, x_clr_J, x_clr_R, x_clr_U, ct_some, ct_none, lc_lt, lc_ge, lc_gt, lc_le, lc_eq, lc_r, xI_inj, xJ_inj, Option.some.injEq, eq_self, bi_r, bi_0, bi_1, bi_n, Classical.not_not, and_true, true_and, ite_true, ite_false, ↓reduceIte, ↓x_andl, z_le, z_nle, z_lt, z_nlt, z_eq, z_neq, if_pos, if_neg, x_andl, false_and, and_false, or_true, true_or, or_false, false_or, not_true, not_false_iff, x_rd_eq, x_rd_ne, x_st_o, Int.cast_ofNat_Int, Int.ofNat_zero, Int.ofNat_one, not_true_eq_false, not_false_eq_true, if_true, if_false, ite_self, and_self, Int.ofNat_eq_natCast, Int.tdiv_eq_ediv_of_nonneg, Int.tmod_eq_emod_of_nonneg, x_bm32]
      refine ⟨-2000000000, rfl, tk2_100 tk, ?_⟩
      simp (disch := first | omega | (simp only [x_wtI, x_wtJ, x_wtR, x_wtN]; omega) | assumption | (simp (disch := omega) only [x_st_o, x_rd_ne]; first | assumption | omega) | (apply mir_eq; assumption; (intro c h1 h2; simp (disch := omega) only [x_st_o])) | (apply mis_eq; assumption; (intro c h1 h2; simp (disch := omega) only [x_st_o])) | rfl) only [sp_212, bk_212_0, bk_212_1, bk_212_2, bk_212_3, bk_212_4, wp_ild1, wp_iflt, wp_ald0, wp_ic, wk_211, wp_icle, wp_ild2, wp_i2l, wp_lc, wk_169, wp_ifne, wp_fall, wp_iret mz_212, wp_geti kd_50, wp_goto, x_clr_I, x_clr_J, x_clr_R, x_clr_U, ct_some, ct_none, lc_lt, lc_ge, lc_gt, lc_le, lc_eq, lc_r, xI_inj, xJ_inj, Option.some.injEq, eq_self, bi_r, bi_0, bi_1, bi_n, Classical.not_not, and_true, true_and, ite_true, ite_false, ↓reduceIte, ↓x_andl, z_le, z_nle, z_lt, z_nlt, z_eq, z_neq, if_pos, if_neg, x_andl, false_and, and_false, or_true, true_or, or_false, false_or, not_true, not_false_iff, x_rd_eq, x_rd_ne, x_st_o, Int.cast_ofNat_Int, Int.ofNat_zero, Int.ofNat_one, not_true_eq_false, not_false_eq_true, if_true, if_false, ite_self, and_self, Int.ofNat_eq_natCast, Int.tdiv_eq_ediv_of_nonneg, Int.tmod_eq_emod_of_nonneg, x_bm32]
      exact hh1
    · have nt := nth i hi
      generalize hN : ocn V 42 = N at cb ci nt
      simp (disch := first | omega | (simp only [x_wtI, x_wtJ, x_wtR, x_wtN]; omega) | assumption | (simp (disch := omega) only [x_st_o, x_rd_ne]; first | assumption | omega) | (apply mir_eq; assumption; (intro c h1 h2; simp (disch := omega) only [x_st_o])) | (apply mis_eq; assumption; (intro c h1 h2; simp (disch := omega) only [x_st_o])) | rfl) only [bk_114_0, bk_114_1, bk_114_2, wp_ald0, wp_ic, wk_113, wp_ist3, wp_ild1, wp_iflt, wp_ild3, wp_icge, wr_0_11, wl_1, wp_cald, wp_ild2, wk_110, wp_goto, wp_fall, wp_iret mz_114, x_clr_I, x_clr_J, x_clr_R, x_clr_U, ct_some, ct_none, lc_lt, lc_ge, lc_gt, lc_le, lc_eq, lc_r, xI_inj, xJ_inj, Option.some.injEq, eq_self, bi_r, bi_0, bi_1, bi_n, Classical.not_not, and_true, true_and, ite_true, ite_false, ↓reduceIte, ↓x_andl, z_le, z_nle, z_lt, z_nlt, z_eq, z_neq, if_pos, if_neg, x_andl, false_and, and_false, or_true, true_or, or_false, false_or, not_true, not_false_iff, x_rd_eq, x_rd_ne, x_st_o, Int.cast_ofNat_Int, Int.ofNat_zero, Int.ofNat_one, not_true_eq_false, not_false_eq_true, if_true, if_false, ite_self, and_self, Int.ofNat_eq_natCast, Int.tdiv_eq_ediv_of_nonneg, Int.tmod_eq_emod_of_nonneg, x_bm32]
      refine ⟨-2000000000, rfl, tk2_100 tk, ?_⟩
      simp (disch := first | omega | (simp only [x_wtI, x_wtJ, x_wtR, x_wtN]; omega) | assumption | (simp (disch := omega) only [x_st_o, x_rd_ne]; first | assumption | omega) | (apply mir_eq; assumption; (intro c h1 h2; simp (disch := omega) only [x_st_o])) | (apply mis_eq; assumption; (intro c h1 h2; simp (disch := omega) only [x_st_o])) | rfl) only [sp_212, bk_212_0, bk_212_1, bk_212_2, bk_212_3, bk_212_4, wp_ild1, wp_iflt, wp_ald0, wp_ic, wk_211, wp_icle, wp_ild2, wp_i2l, wp_lc, wk_169, wp_ifne, wp_fall, wp_iret mz_212, wp_geti kd_50, wp_goto, x_clr_I, x_clr_J, x_clr_R, x_clr_U, ct_some, ct_none, lc_lt, lc_ge, lc_gt, lc_le, lc_eq, lc_r, xI_inj, xJ_inj, Option.some.injEq, eq_self, bi_r, bi_0, bi_1, bi_n, Classical.not_not, and_true, true_and, ite_true, ite_false, ↓reduceIte, ↓x_andl, z_le, z_nle, z_lt, z_nlt, z_eq, z_neq, if_pos, if_neg, x_andl, false_and, and_false, or_true, true_or, or_false, false_or, not_true, not_false_iff, x_rd_eq, x_rd_ne, x_st_o, Int.cast_ofNat_Int, Int.ofNat_zero, Int.ofNat_one, not_true_eq_false, not_false_eq_true, if_true, if_false, ite_self, and_self, Int.ofNat_eq_natCast, Int.tdiv_eq_ediv_of_nonneg, Int.tmod_eq_emod_of_nonneg, x_bm32]
      refine x_use (d := 990) nt ?_
      rintro r σ2 ⟨rfl, e2, hh2, _⟩
      simp (disch := first | omega | (simp only [x_wtI, x_wtJ, x_wtR, x_wtN]; omega) | assumption | (simp (disch := omega) only [x_st_o, x_rd_ne]; first | assumption | omega) | (apply mir_eq; assumption; (intro c h1 h2; simp (disch := omega) only [x_st_o])) | (apply mis_eq; assumption; (intro c h1 h2; simp (disch := omega) only [x_st_o])) | rfl) only [bk_212_0, bk_212_1, bk_212_2, bk_212_3, bk_212_4, wp_ild1, wp_iflt, wp_ald0, wp_ic, wk_211, wp_icle, wp_ild2, wp_i2l, wp_lc, wk_169, wp_ifne, wp_fall, wp_iret mz_212, wp_geti kd_50, wp_goto, x_clr_I, x_clr_J, x_clr_R, x_clr_U, ct_some, ct_none, lc_lt, lc_ge, lc_gt, lc_le, lc_eq, lc_r, xI_inj, xJ_inj, Option.some.injEq, eq_self, bi_r, bi_0, bi_1, bi_n, Classical.not_not, and_true, true_and, ite_true, ite_false, ↓reduceIte, ↓x_andl, z_le, z_nle, z_lt, z_nlt, z_eq, z_neq, if_pos, if_neg, x_andl, false_and, and_false, or_true, true_or, or_false, false_or, not_true, not_false_iff, x_rd_eq, x_rd_ne, x_st_o, Int.cast_ofNat_Int, Int.ofNat_zero, Int.ofNat_one, not_true_eq_false, not_false_eq_true, if_true, if_false, ite_self, and_self, Int.ofNat_eq_natCast, Int.tdiv_eq_ediv_of_nonneg, Int.tmod_eq_emod_of_nonneg, x_bm32]
      exact hh2
end OF

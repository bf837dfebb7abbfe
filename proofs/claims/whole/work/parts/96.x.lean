/-! ways, row by row -/
def gwn (mk : Int) (w Y : Int → Int) (n : Int) : Prop := (∀ s, 0 ≤ s → s < 42 → Y (42 * w 8 + s) = if s = 21 * w 10 + w 9 then 0 else mk) ∧ ∀ k, w 8 < k → k < w 0 → p_fr w (w 8) k → w_of w k 0 < n → ∀ t, 0 ≤ t → t < 42 → x_ml mk (y_set mk w Y (w_of w k 0) t) (Y (42 * k + t))
def ybg (mk : Int) (w Y : Int → Int) (f : Int) : Prop := ∀ s, 0 ≤ s → s < 42 → Y (42 * f + s) = mk ∨ (-(30000 * w_of w f 6) ≤ Y (42 * f + s) ∧ Y (42 * f + s) ≤ 30000 * w_of w f 6)
section GWN
variable {w Y Y' : Int → Int} {mk n f : Int}
theorem ys_cg (e : ∀ s, 0 ≤ s → s < 42 → Y' (42 * f + s) = Y (42 * f + s)) (t u : Int) : y_set mk w Y' f t u ↔ y_set mk w Y f t u := by
  unfold y_set
  constructor
  · rintro ⟨st, wd, b, z, p1, p2, p3, p4, p5, p6⟩
    rw [e (21 * wd + st) (by omega) (by omega)] at p3 p6
    exact ⟨st, wd, b, z, p1, p2, p3, p4, p5, p6⟩
  · rintro ⟨st, wd, b, z, p1, p2, p3, p4, p5, p6⟩
    rw [← e (21 * wd + st) (by omega) (by omega)] at p3 p6
    exact ⟨st, wd, b, z, p1, p2, p3, p4, p5, p6⟩
theorem ye_cg (e : ∀ s, 0 ≤ s → s < 42 → Y' (42 * f + s) = Y (42 * f + s)) (u : Int) : y_end mk w Y' f u ↔ y_end mk w Y f u := by
  unfold y_end
  constructor
  · rintro ⟨t, p, q⟩
    exact ⟨t, p, (ys_cg e t u).mp q⟩
  · rintro ⟨t, p, q⟩
    exact ⟨t, p, (ys_cg e t u).mpr q⟩
theorem ys_b (hw : wf w) (h0 : 0 ≤ f) (h1 : f < w 0) (hY : ybg mk w Y f) {s u : Int} (h : y_set mk w Y f s u) : -(30000 * (w_of w f 6 + 1)) ≤ u ∧ u ≤ 30000 * (w_of w f 6 + 1) := by
  have o := wf_f hw h0 h1
  unfold wf_one at o
  obtain ⟨st, wd, b, z, ps, pw, q, l, es, e⟩ := h
  have sb := sl_b hw h0 h1 ps l
  have y := (hY (21 * wd + st) (by omega) (by omega)).resolve_left q
  have cb := cost_b hw (E := 5) (x := z + w_of w f 5 - st) (b := b) (t := z) h0 h1 (by omega) (by omega) (by omega)
  omega
theorem gwn_b (hw : wf w) (hn : wn w) (h : gwn mk w Y n) : ∀ f, w 8 ≤ f → f < w 0 → p_fr w (w 8) f → (f = w 8 ∨ w_of w f 0 < n) → ybg mk w Y f := by
  have n8 := hn.1
  have key : ∀ m : Nat, ∀ f, f - w 8 < m → w 8 ≤ f → f < w 0 → p_fr w (w 8) f → (f = w 8 ∨ w_of w f 0 < n) → ybg mk w Y f := by
    intro m
    induction m with
    | zero => intro f p q; omega
    | succ m ih =>
      intro f hm f0 f1 fr hu s s0 s1
      have o := wf_f hw (f := f) (by omega) f1
      unfold wf_one at o
      by_cases c : f = w 8
      · rw [c, h.1 s s0 s1]
        rw [c] at o
        split
        · exact Or.inr ⟨by omega, by omega⟩
        · exact Or.inl rfl
      · have p := fr_par hw n8.1 fr c f1
        have u := wf_u hw (f := f) (by omega) f1
        have ul := hu.resolve_left c
        have pu := wf_f hw (f := w_of w f 0) (by omega) (by omega)
        unfold wf_one at pu
        rcases h.2 f (by omega) f1 fr ul s s0 s1 with ⟨z, _⟩ | ⟨z, _⟩
        · exact Or.inl z
        · have b := ys_b hw (by omega) (by omega) (ih (w_of w f 0) (by omega) (by omega) (by omega) p.1 (by omega)) z
          rw [u.2.2]
          exact Or.inr b
  exact fun f a b => key (f - w 8 + 1).toNat f (by omega) a b
theorem gwn_skip (hw : wf w) (hn : wn w) (h : gwn mk w Y n) (nf : ¬ p_fr w (w 8) n) : gwn mk w Y (n + 1) := by
  refine ⟨h.1, fun k k0 k1 fr u => ?_⟩
  have p := fr_par hw hn.1.1 fr (by omega) k1
  by_cases c : w_of w k 0 = n
  · rw [c] at p
    exact absurd p.1 nf
  · exact h.2 k k0 k1 fr (by omega)
theorem gwn_s (hw : wf w) (hn : wn w) (h : gwn mk w Y n) (n0 : w 8 ≤ n) (n1 : n < w 0) (ho : ∀ i, (∀ k, 0 ≤ k → k < w_of w n 7 → ¬ (42 * w_of w n (8 + k) ≤ i ∧ i < 42 * w_of w n (8 + k) + 42)) → Y' i = Y i) (hk : ∀ k, 0 ≤ k → k < w_of w n 7 → ∀ t, 0 ≤ t → t < 42 → x_ml mk (y_set mk w Y n t) (Y' (42 * w_of w n (8 + k) + t))) : gwn mk w Y' (n + 1) ∧ ∀ f, 0 ≤ f → f ≤ n → ∀ s, 0 ≤ s → s < 42 → Y' (42 * f + s) = Y (42 * f + s) := by
  have n8 := hn.1
  have low : ∀ f, 0 ≤ f → f ≤ n → ∀ s, 0 ≤ s → s < 42 → Y' (42 * f + s) = Y (42 * f + s) := by
    intro f p q s s0 s1
    refine ho _ (fun k k0 k1 => ?_)
    have kk := wf_k hw (by omega) n1 k0 k1
    omega
  refine ⟨⟨fun s s0 s1 => by rw [low (w 8) (by omega) n0 s s0 s1]; exact h.1 s s0 s1, fun k k0 k1 fr u t t0 t1 => ?_⟩, low⟩
  have p := fr_par hw n8.1 fr (by omega) k1
  by_cases c : w_of w k 0 = n
  · obtain ⟨i, i0, i1, e⟩ := wf_p hw (f := k) (by omega) k1
    rw [c] at i1 e ⊢
    have z := hk i i0 i1 t t0 t1
    rw [e] at z
    exact ml_cg z (fun u => (ys_cg (low n (by omega) (by omega)) t u).symm)
  · have z := h.2 k k0 k1 fr (by omega) t t0 t1
    have er : Y' (42 * k + t) = Y (42 * k + t) := by
      refine ho _ (fun q q0 q1 => ?_)
      have kk := wf_k hw (f := n) (i := q) (by omega) n1 q0 q1
      have : ¬ w_of w n (8 + q) = k := fun y => c (by rw [← y]; exact kk.2.2.1)
      omega
    rw [er]
    exact ml_cg z (fun u => (ys_cg (low (w_of w k 0) (by omega) (by omega)) t u).symm)
end GWN
theorem h_trace {σ : x_S} {w : Int → Int} (hM : mir σ 1 w) (hw : wf w) (hn : wn w) : x_Sp 4 88 [xR 29 0, xI (w 8), xI (w 9), xI (w 10)] σ (fun r σ' => r = none ∧ x_eqo [(30, 0), (31, 0), (32, 0)] σ σ' ∧ g_wayC w (σ' 31 0) (σ' 30 0)) := by
  have a := wf_h hw
  unfold wf_hdr at a
  obtain ⟨n8, n9, n10, _⟩ := id hn
  refine x_gen (fun Q hQ => ?_)
  simp (disch := first | omega | (simp only [x_wtI, x_wtJ, x_wtR, x_wtN]; omega) | assumption | (simp (disch := omega) only [x_st_o, x_rd_ne]; first | assumption | omega) | (apply mir_eq; assumption; (intro c h1 h2; simp (disch := omega) only [x_st_o])) | (apply mis_eq; assumption; (intro c h1 h2; simp (disch := omega) only [x_st_o])) | rfl) only [sp_88, bk_88_0, bk_88_2, bk_88_3, wp_ald0, wr_29_2, wp_ic, wk_277, wr_29_1, wp_lc, wk_278, wp_ild1, wp_imul, wp_ild3, wp_iadd, wp_ild2, ws_31, wp_ist4, wp_fall, wp_ild4, wr_29_0, wp_geti kd_6, wp_icge, wk_65, wp_ifeq, wk_89, wp_inc4, wp_goto, wp_ret, x_clr_I, x_clr_J, x_clr_R, x_clr_U, ct_some, ct_none, lc_lt, lc_ge, lc_gt, lc_le, lc_eq, lc_r, xI_inj, xJ_inj, Option.some.injEq, eq_self, bi_r, bi_0, bi_1, bi_n, Classical.not_not, and_true, true_and, ite_true, ite_false, ↓reduceIte, ↓x_andl, z_le, z_nle, z_lt, z_nlt, z_eq, z_neq, if_pos, if_neg, x_andl, false_and, and_false, or_true, true_or, or_false, false_or, not_true, not_false_iff, x_rd_eq, x_rd_ne, x_st_o, Int.cast_ofNat_Int, Int.ofNat_zero, Int.ofNat_one, not_true_eq_false, not_false_eq_true, if_true, if_false, ite_self, and_self, Int.ofNat_eq_natCast, Int.tdiv_eq_ediv_of_nonneg, Int.tmod_eq_emod_of_nonneg, x_bm32, k_fill30, k_fill31]
  generalize hσ0 : x_st (s_fl (s_fl σ 31 0 0 1680 2147483647) 30 0 0 40 0) 31 0 (w 8 * 42 + w 10 * 21 + w 9) 0 = σ0
  have e0 : x_eqo [(30, 0), (31, 0), (32, 0)] σ σ0 := by
    subst hσ0
    exact eqo_st (by simp) (eqo_fl (by simp) (eqo_fl (by simp) eqo_refl))
  have g0 : gwn 2147483647 w (σ0 31 0) (w 8) := by
    subst hσ0
    refine ⟨fun s s0 s1 => ?_, fun k k0 k1 fr u => ?_⟩
    · by_cases c : s = 21 * w 10 + w 9
      · rw [if_pos c, show 42 * w 8 + s = w 8 * 42 + w 10 * 21 + w 9 by omega, x_rd_eq]
      · rw [if_neg c, x_rd_ne (by omega)]
        simp (disch := omega) only [x_st_o, x_rd_ne, x_rd_eq, s_fl_o, s_fl_in, s_fl_out, x_cp_o, x_cp_in, x_cp_out]
    · have p := fr_par hw n8.1 fr (by omega) k1
      omega
  refine x_lpJ (α := x_S) (fun i σi => x_eqo [(30, 0), (31, 0), (32, 0)] σ σi ∧ gwn 2147483647 w (σi 31 0) i ∧ ∀ e, w 8 ≤ e → e < i → p_fr w (w 8) e → w_of w e 7 = 0 → ∃ z, x_ml 2147483647 (y_end 2147483647 w (σi 31 0) e) z ∧ σi 30 0 e = if z = 2147483647 then 0 else z) (fun i σi => x_Wp 4 88 (x_blk 88 1) [xR 29 0, xI (w 8), xI (w 9), xI (w 10), xI i] [] σi Q) (lo := w 8) (hi := w 0) (by omega) (a0 := σ0) ⟨e0, g0, fun e p q => by omega⟩ ?_ ?_
  · intro i σi i0 i1 ⟨j1, j2, j3⟩
    have hMi : mir σi 1 w := mir_eq hM (fun c q1 q2 => j1 c 1 (by simp))
    by_cases fr : p_fr w (w 8) i
    · have hb : ybg 2147483647 w (σi 31 0) i := gwn_b hw hn j2 i i0 i1 fr (by
        by_cases c : i = w 8
        · exact Or.inl c
        · exact Or.inr (fr_par hw n8.1 fr c i1).2.2.1)
      obtain ⟨r, σ', ⟨hr, e, oo, kk, le, lz⟩, x⟩ := x_ex (h_traceFork hMi hw (by omega) i1 rfl hb)
      subst hr
      obtain ⟨g1, low⟩ := gwn_s hw hn j2 i0 i1 oo kk
      refine ⟨σ', ⟨eqo_trans j1 e, g1, ?_⟩, fun H => ?_⟩
      · intro q p2 q2 fq kq
        by_cases c : q = i
        · subst c
          obtain ⟨z, mz, ez⟩ := lz kq
          exact ⟨z, ml_cg mz (fun u => (ye_cg (low q (by omega) (by omega)) u).symm), ez⟩
        · obtain ⟨z, mz, ez⟩ := j3 q p2 (by omega) fq kq
          exact ⟨z, ml_cg mz (fun u => (ye_cg (low q (by omega) (by omega)) u).symm), by rw [le q c]; exact ez⟩
      · rw [bk_88_1]
        simp (disch := first | omega | (simp only [x_wtI, x_wtJ, x_wtR, x_wtN]; omega) | assumption | (simp (disch := omega) only [x_st_o, x_rd_ne]; first | assumption | omega) | (apply mir_eq; assumption; (intro c h1 h2; simp (disch := omega) only [x_st_o])) | (apply mis_eq; assumption; (intro c h1 h2; simp (disch := omega) only [x_st_o])) | rfl) only [bk_88_0, bk_88_2, bk_88_3, wp_ald0, wr_29_2, wp_ic, wk_277, wr_29_1, wp_lc, wk_278, wp_ild1, wp_imul, wp_ild3, wp_iadd, wp_ild2, ws_31, wp_ist4, wp_fall, wp_ild4, wr_29_0, wp_geti kd_6, wp_icge, wk_65, wp_ifeq, wk_89, wp_inc4, wp_goto, wp_ret, x_clr_I, x_clr_J, x_clr_R, x_clr_U, ct_some, ct_none, lc_lt, lc_ge, lc_gt, lc_le, lc_eq, lc_r, xI_inj, xJ_inj, Option.some.injEq, eq_self, bi_r, bi_0, bi_1, bi_n, Classical.not_not, and_true, true_and, ite_true, ite_false, ↓reduceIte, ↓x_andl, z_le, z_nle, z_lt, z_nlt, z_eq, z_neq, if_pos, if_neg, x_andl, false_and, and_false, or_true, true_or, or_false, false_or, not_true, not_false_iff, x_rd_eq, x_rd_ne, x_st_o, Int.cast_ofNat_Int, Int.ofNat_zero, Int.ofNat_one, not_true_eq_false, not_false_eq_true, if_true, if_false, ite_self, and_self, Int.ofNat_eq_natCast, Int.tdiv_eq_ediv_of_nonneg, Int.tmod_eq_emod_of_nonneg, x_bm32, mi_size hMi, k_isFrom hMi hw, bi_t]
        refine (x 0 _).mpr ?_
        simp (disch := first | omega | (simp only [x_wtI, x_wtJ, x_wtR, x_wtN]; omega) | assumption | (simp (disch := omega) only [x_st_o, x_rd_ne]; first | assumption | omega) | (apply mir_eq; assumption; (intro c h1 h2; simp (disch := omega) only [x_st_o])) | (apply mis_eq; assumption; (intro c h1 h2; simp (disch := omega) only [x_st_o])) | rfl) only [bk_88_0, bk_88_2, bk_88_3, wp_ald0, wr_29_2, wp_ic, wk_277, wr_29_1, wp_lc, wk_278, wp_ild1, wp_imul, wp_ild3, wp_iadd, wp_ild2, ws_31, wp_ist4, wp_fall, wp_ild4, wr_29_0, wp_geti kd_6, wp_icge, wk_65, wp_ifeq, wk_89, wp_inc4, wp_goto, wp_ret, x_clr_I, x_clr_J, x_clr_R, x_clr_U, ct_some, ct_none, lc_lt, lc_ge, lc_gt, lc_le, lc_eq, lc_r, xI_inj, xJ_inj, Option.some.injEq, eq_self, bi_r, bi_0, bi_1, bi_n, Classical.not_not, and_true, true_and, ite_true, ite_false, ↓reduceIte, ↓x_andl, z_le, z_nle, z_lt, z_nlt, z_eq, z_neq, if_pos, if_neg, x_andl, false_and, and_false, or_true, true_or, or_false, false_or, not_true, not_false_iff, x_rd_eq, x_rd_ne, x_st_o, Int.cast_ofNat_Int, Int.ofNat_zero, Int.ofNat_one, not_true_eq_false, not_false_eq_true, if_true, if_false, ite_self, and_self, Int.ofNat_eq_natCast, Int.tdiv_eq_ediv_of_nonneg, Int.tmod_eq_emod_of_nonneg, x_bm32]
        exact H
    · refine ⟨σi, ⟨j1, gwn_skip hw hn j2 fr, ?_⟩, fun H => ?_⟩
      · intro q p2 q2 fq kq
        by_cases c : q = i
        · subst c
          exact absurd fq fr
        · exact j3 q p2 (by omega) fq kq
      · rw [bk_88_1]
        simp (disch := first | omega | (simp only [x_wtI, x_wtJ, x_wtR, x_wtN]; omega) | assumption | (simp (disch := omega) only [x_st_o, x_rd_ne]; first | assumption | omega) | (apply mir_eq; assumption; (intro c h1 h2; simp (disch := omega) only [x_st_o])) | (apply mis_eq; assumption; (intro c h1 h2; simp (disch := omega) only [x_st_o])) | rfl) only [bk_88_0, bk_88_2, bk_88_3, wp_ald0, wr_29_2, wp_ic, wk_277, wr_29_1, wp_lc, wk_278, wp_ild1, wp_imul, wp_ild3, wp_iadd, wp_ild2, ws_31, wp_ist4, wp_fall, wp_ild4, wr_29_0, wp_geti kd_6, wp_icge, wk_65, wp_ifeq, wk_89, wp_inc4, wp_goto, wp_ret, x_clr_I, x_clr_J, x_clr_R, x_clr_U, ct_some, ct_none, lc_lt, lc_ge, lc_gt, lc_le, lc_eq, lc_r, xI_inj, xJ_inj, Option.some.injEq, eq_self, bi_r, bi_0, bi_1, bi_n, Classical.not_not, and_true, true_and, ite_true, ite_false, ↓reduceIte, ↓x_andl, z_le, z_nle, z_lt, z_nlt, z_eq, z_neq, if_pos, if_neg, x_andl, false_and, and_false, or_true, true_or, or_false, false_or, not_true, not_false_iff, x_rd_eq, x_rd_ne, x_st_o, Int.cast_ofNat_Int, Int.ofNat_zero, Int.ofNat_one, not_true_eq_false, not_false_eq_true, if_true, if_false, ite_self, and_self, Int.ofNat_eq_natCast, Int.tdiv_eq_ediv_of_nonneg, Int.tmod_eq_emod_of_nonneg, x_bm32, mi_size hMi, k_isFrom hMi hw, bi_f]
        exact H
  · intro σi ⟨j1, j2, j3⟩
    have hMi : mir σi 1 w := mir_eq hM (fun c q1 q2 => j1 c 1 (by simp))
    rw [bk_88_1]
    simp (disch := first | omega | (simp only [x_wtI, x_wtJ, x_wtR, x_wtN]; omega) | assumption | (simp (disch := omega) only [x_st_o, x_rd_ne]; first | assumption | omega) | (apply mir_eq; assumption; (intro c h1 h2; simp (disch := omega) only [x_st_o])) | (apply mis_eq; assumption; (intro c h1 h2; simp (disch := omega) only [x_st_o])) | rfl) only [bk_88_0, bk_88_2, bk_88_3, wp_ald0, wr_29_2, wp_ic, wk_277, wr_29_1, wp_lc, wk_278, wp_ild1, wp_imul, wp_ild3, wp_iadd, wp_ild2, ws_31, wp_ist4, wp_fall, wp_ild4, wr_29_0, wp_geti kd_6, wp_icge, wk_65, wp_ifeq, wk_89, wp_inc4, wp_goto, wp_ret, x_clr_I, x_clr_J, x_clr_R, x_clr_U, ct_some, ct_none, lc_lt, lc_ge, lc_gt, lc_le, lc_eq, lc_r, xI_inj, xJ_inj, Option.some.injEq, eq_self, bi_r, bi_0, bi_1, bi_n, Classical.not_not, and_true, true_and, ite_true, ite_false, ↓reduceIte, ↓x_andl, z_le, z_nle, z_lt, z_nlt, z_eq, z_neq, if_pos, if_neg, x_andl, false_and, and_false, or_true, true_or, or_false, false_or, not_true, not_false_iff, x_rd_eq, x_rd_ne, x_st_o, Int.cast_ofNat_Int, Int.ofNat_zero, Int.ofNat_one, not_true_eq_false, not_false_eq_true, if_true, if_false, ite_self, and_self, Int.ofNat_eq_natCast, Int.tdiv_eq_ediv_of_nonneg, Int.tmod_eq_emod_of_nonneg, x_bm32, mi_size hMi]
    refine hQ _ _ ⟨rfl, j1, ⟨j2.1, fun k k0 k1 fr => j2.2 k k0 k1 fr (by
      have p := fr_par hw n8.1 fr (by omega) k1
      omega)⟩, j3⟩
theorem wayC_b {w Y Lc : Int → Int} (hw : wf w) (hn : wn w) (h : g_wayC w Y Lc) : (∀ f, w 8 ≤ f → f < w 0 → p_fr w (w 8) f → ybg 2147483647 w Y f) ∧ ∀ f, w 8 ≤ f → f < w 0 → p_fr w (w 8) f → w_of w f 7 = 0 → -150000 ≤ Lc f ∧ Lc f ≤ 150000 := by
  have g : gwn 2147483647 w Y (w 0) := ⟨h.1.1, fun k k0 k1 fr _ => h.1.2 k k0 k1 fr⟩
  have b : ∀ f, w 8 ≤ f → f < w 0 → p_fr w (w 8) f → ybg 2147483647 w Y f := fun f f0 f1 fr => gwn_b hw hn g f f0 f1 fr (by
    by_cases c : f = w 8
    · exact Or.inl c
    · have := (fr_par hw hn.1.1 fr c f1).2.2.1
      exact Or.inr (by omega))
  refine ⟨b, fun f f0 f1 fr kz => ?_⟩
  obtain ⟨z, mz, ez⟩ := h.2 f f0 f1 fr kz
  have h8 := hn.1.1
  have o := wf_f hw (f := f) (by omega) f1
  unfold wf_one at o
  rw [ez]
  rcases mz with ⟨c, _⟩ | ⟨⟨t, p, q⟩, _⟩
  · rw [if_pos c]
    omega
  · have := ys_b hw (by omega) f1 (b f f0 f1 fr) q
    split <;> omega

/-! the walk of the class -/
def p_pr (w : Int → Int) (top : Int) : Nat → Int → Int
  | 0, _ => 1
  | n + 1, f => if top < f then w_of w f 1 * p_pr w top n (w_of w f 0) else 1
section PR
variable {w : Int → Int} {top f : Int}
theorem pr_le (h : f ≤ top) : ∀ n, p_pr w top n f = 1 := by
  intro n
  cases n with
  | zero => rfl
  | succ n => exact if_neg (by omega)
theorem pr_s (hw : wf w) (ht : 0 ≤ top) : ∀ (n : Nat) (f : Int), 0 ≤ f → f < w 0 → w_of w f 6 ≤ n → p_pr w top (n + 1) f = p_pr w top n f := by
  intro n
  induction n with
  | zero =>
    intro f h0 h1 h2
    have a := wf_f hw h0 h1
    unfold wf_one at a
    by_cases h : f = 0
    · rw [pr_le (by omega), pr_le (by omega)]
    · have u := wf_u hw (f := f) (by omega) h1
      have b := wf_f hw (f := w_of w f 0) (by omega) (by omega)
      unfold wf_one at b
      omega
  | succ n ih =>
    intro f h0 h1 h2
    by_cases h : top < f
    · have u := wf_u hw (f := f) (by omega) h1
      show (if top < f then w_of w f 1 * p_pr w top (n + 1) (w_of w f 0) else 1) = (if top < f then w_of w f 1 * p_pr w top n (w_of w f 0) else 1)
      rw [if_pos h, if_pos h, ih _ (by omega) (by omega) (by omega)]
    · rw [pr_le (by omega), pr_le (by omega)]
theorem pr_up (hw : wf w) (ht : 0 ≤ top) (h : top < f) (h1 : f < w 0) : p_pr w top 4 f = w_of w f 1 * p_pr w top 4 (w_of w f 0) := by
  have u := wf_u hw (f := f) (by omega) h1
  have a := wf_f hw (f := f) (by omega) h1
  unfold wf_one at a
  rw [pr_s hw ht 3 (w_of w f 0) (by omega) (by omega) (by omega)]
  exact if_pos h
theorem ch_f (hw : wf w) (h100 : wf_100 w) (h0 : 0 < f) (h1 : f < w 0) : 0 ≤ w_of w f 1 ∧ w_of w f 1 ≤ 100 := by
  obtain ⟨i, i0, i1, e⟩ := wf_p hw h0 h1
  have u := wf_u hw h0 h1
  have := ch_100 hw h100 (f := w_of w f 0) u.1 (by omega) i0 i1
  rwa [e] at this
theorem far_fr (hw : wf w) (ht : 0 ≤ top) : ∀ n : Nat, ∀ f : Int, f < n → 0 ≤ f → f < w 0 → p_fr w top f → w_of w top 6 ≤ w_of w f 6 ∧ (¬ f = top → w_of w top 6 < w_of w f 6) := by
  intro n
  induction n with
  | zero => intro f a b; omega
  | succ n ih =>
    intro f fn f0 f1 h
    by_cases c : f = top
    · subst c
      exact ⟨Int.le_refl _, fun z => absurd rfl z⟩
    · have p := fr_par hw ht h c f1
      have u := wf_u hw (f := f) (by omega) f1
      have i := ih _ (by omega) p.2.1 (by omega) p.1
      exact ⟨by omega, fun _ => by omega⟩
theorem far_ge (hw : wf w) (ht : 0 ≤ top) (f0 : 0 ≤ f) (f1 : f < w 0) (h : p_fr w top f) : w_of w top 6 ≤ w_of w f 6 := (far_fr hw ht (f + 1).toNat f (by omega) f0 f1 h).1
theorem pay_s {m : Int} (h : 0 ≤ m ∧ m ≤ 3) : x_pay m = 100 * x_pay (m + 1) := by
  have : m = 0 ∨ m = 1 ∨ m = 2 ∨ m = 3 := by omega
  rcases this with rfl | rfl | rfl | rfl <;> rfl
theorem pay_b {m : Int} : 1 ≤ x_pay m ∧ x_pay m ≤ 100000000 := by
  unfold x_pay
  split
  · omega
  · split
    · omega
    · split
      · omega
      · split <;> omega
/-! what part of 10^8 comes to a fork -/
def p_part (w : Int → Int) (f : Int) : Int := if p_fr w (w 8) f then x_pay (w_of w f 6 - w_of w (w 8) 6) * p_pr w (w 8) 4 f else 0
theorem part_now (hn : 0 ≤ w 8) : p_part w (w 8) = 100000000 := by
  unfold p_part
  rw [if_pos fr_self, Int.sub_self, pr_le (Int.le_refl _)]
  rfl
theorem part_up (hw : wf w) (h100 : wf_100 w) (hn : 0 ≤ w 8 ∧ w 8 < w 0) (h0 : 0 < f) (h1 : f < w 0) (hb : 0 ≤ p_part w (w_of w f 0) ∧ p_part w (w_of w f 0) ≤ 100000000) (hc : ¬ f = w 8) : p_part w f = p_part w (w_of w f 0) / 100 * w_of w f 1 ∧ 0 ≤ p_part w f ∧ p_part w f ≤ 100000000 := by
  have u := wf_u hw h0 h1
  have c := ch_f hw h100 h0 h1
  have o := wf_f hw (f := f) (by omega) h1
  unfold wf_one at o
  have e : p_part w f = p_part w (w_of w f 0) / 100 * w_of w f 1 := by
    by_cases g : p_fr w (w 8) f
    · have p := fr_par hw hn.1 g hc h1
      have fg := fr_gt g hc
      have ff := far_ge hw hn.1 p.2.1 (by omega) p.1
      unfold p_part
      rw [if_pos g, if_pos p.1, pr_up hw hn.1 fg h1, pay_s (m := w_of w (w_of w f 0) 6 - w_of w (w 8) 6) (by
        have on := wf_f hw hn.1 hn.2
        unfold wf_one at on
        omega), show w_of w (w_of w f 0) 6 - w_of w (w 8) 6 + 1 = w_of w f 6 - w_of w (w 8) 6 by omega, Int.mul_assoc, Int.mul_ediv_cancel_left _ (by omega), Int.mul_assoc, Int.mul_comm (w_of w f 1)]
    · unfold p_part
      rw [if_neg g]
      by_cases g2 : w 8 < f
      · rw [if_neg (fun z => g ((fr_up hw hn.1 g2 h1).mpr z)), Int.zero_ediv, Int.zero_mul]
      · rw [if_neg (fr_lt (by omega)), Int.zero_ediv, Int.zero_mul]
  have m := mulb (a := p_part w (w_of w f 0) / 100) (b := w_of w f 1) (A := 1000000) (B := 100) (by omega) c
  have m2 : 0 ≤ p_part w (w_of w f 0) / 100 * w_of w f 1 := Int.mul_nonneg (by omega) c.1
  exact ⟨e, by omega, by omega⟩
theorem part_b (hw : wf w) (h100 : wf_100 w) (hn : 0 ≤ w 8 ∧ w 8 < w 0) : ∀ n : Nat, ∀ f : Int, 0 ≤ f → f < n → f < w 0 → 0 ≤ p_part w f ∧ p_part w f ≤ 100000000 := by
  intro n
  induction n with
  | zero => intro f a b; omega
  | succ n ih =>
    intro f f0 fn f1
    by_cases c : f = w 8
    · rw [c, part_now hn.1]
      omega
    · by_cases c0 : f = 0
      · unfold p_part
        rw [if_neg (fr_lt (by omega))]
        omega
      · have u := wf_u hw (f := f) (by omega) f1
        exact (part_up hw h100 hn (by omega) f1 (ih _ u.1 (by omega) (by omega)) c).2
theorem part_r (hw : wf w) (h100 : wf_100 w) (hn : 0 ≤ w 8 ∧ w 8 < w 0) (f0 : 0 ≤ f) (f1 : f < w 0) : 0 ≤ p_part w f ∧ p_part w f ≤ 100000000 := part_b hw h100 hn (f + 1).toNat f f0 (by omega) f1
end PR
theorem h_spread {σ : x_S} {w : Int → Int} (hM : mir σ 1 w) (hS : mis σ 1 w) (hw : wf w) (h100 : wf_100 w) (hn : wn w) : x_Sp 2 78 [xR 33 0] σ (fun r σ' => r = none ∧ x_eqo [(42, 0)] σ σ' ∧ ∀ f, 0 ≤ f → f < w 0 → σ' 42 0 f = p_part w f) := by
  have a := wf_h hw
  unfold wf_hdr at a
  have hn8 := hn.1
  refine x_gen (fun Q hQ => ?_)
  simp (disch := first | omega | (simp only [x_wtI, x_wtJ, x_wtR, x_wtN]; omega) | assumption | (simp (disch := omega) only [x_st_o, x_rd_ne]; first | assumption | omega) | (apply mir_eq; assumption; (intro c h1 h2; simp (disch := omega) only [x_st_o])) | (apply mis_eq; assumption; (intro c h1 h2; simp (disch := omega) only [x_st_o])) | rfl) only [sp_78, bk_78_0, bk_78_2, bk_78_3, bk_78_4, bk_78_5, wp_ald0, wr_33_0, wr_20_0, wp_ast1, wp_ic, wp_ist2, wp_fall, wp_ild2, wp_ald1, wp_geti kd_6, wp_icge, wr_6_7, wl_7, wl_8, wp_cald, wp_ist3, wr_33_9, wp_ild3, wp_icne, wp_lc, wp_goto, wl_42, wp_pald, wp_ldiv, wr_6_8, wp_i2l, wp_lmul, ws_42, wp_geti kd_20, wp_inc2, wp_ret, x_clr_I, x_clr_J, x_clr_R, x_clr_U, ct_some, ct_none, lc_lt, lc_ge, lc_gt, lc_le, lc_eq, lc_r, xI_inj, xJ_inj, Option.some.injEq, eq_self, bi_r, bi_0, bi_1, bi_n, Classical.not_not, and_true, true_and, ite_true, ite_false, ↓reduceIte, ↓x_andl, z_le, z_nle, z_lt, z_nlt, z_eq, z_neq, if_pos, if_neg, x_andl, false_and, and_false, or_true, true_or, or_false, false_or, not_true, not_false_iff, x_rd_eq, x_rd_ne, x_st_o, Int.cast_ofNat_Int, Int.ofNat_zero, Int.ofNat_one, not_true_eq_false, not_false_eq_true, if_true, if_false, ite_self, and_self, Int.ofNat_eq_natCast, Int.tdiv_eq_ediv_of_nonneg, Int.tmod_eq_emod_of_nonneg, x_bm32]
  refine x_lpJ (α := x_S × x_V) (fun i q => x_eqo [(42, 0)] σ q.1 ∧ ∀ f, 0 ≤ f → f < i → q.1 42 0 f = p_part w f) (fun i q => x_Wp 2 78 (x_blk 78 1) [xR 33 0, xR 6 1, xI i, q.2] [] q.1 Q) (lo := 0) (hi := w 0) (by omega) (a0 := (σ, xU)) ⟨eqo_refl, fun f p q => by omega⟩ ?_ ?_
  · intro i ⟨σi, u⟩ i0 i1 ⟨j1, j2⟩
    simp only at j1 j2 ⊢
    have hMi : mir σi 1 w := mir_eq hM (fun c q1 q2 => j1 c 1 (by simp))
    have hSi : mis σi 1 w := mis_eq hS (fun c q1 q2 => j1 c 1 (by simp))
    have o := wf_f hw i0 i1
    unfold wf_one at o
    refine ⟨(x_st σi 42 0 i (p_part w i), xI (w_of w i 0)), ⟨eqo_st (by decide) j1, ?_⟩, ?_⟩
    · intro f f0 f1
      show x_st σi 42 0 i (p_part w i) 42 0 f = p_part w f
      by_cases c : f = i
      · subst c
        rw [x_rd_eq]
      · rw [x_rd_ne (by omega)]
        exact j2 f f0 (by omega)
    · intro H
      rw [bk_78_1]
      by_cases c0 : i = 0
      · by_cases cn : i = w 8
        · rw [cn, part_now hn8.1, ← cn] at H
          have ov : ∀ v v' : Int, x_st (x_st σi 42 0 i v) 42 0 i v' = x_st σi 42 0 i v' := by
            intro v v'
            funext c j k
            unfold x_st
            by_cases z : c = 42 ∧ j = 0 ∧ k = i
            · rw [if_pos z, if_pos z]
            · rw [if_neg z, if_neg z, if_neg z]
          simp (disch := first | omega | (simp only [x_wtI, x_wtJ, x_wtR, x_wtN]; omega) | assumption | (simp (disch := omega) only [x_st_o, x_rd_ne]; first | assumption | omega) | (apply mir_eq; assumption; (intro c h1 h2; simp (disch := omega) only [x_st_o])) | (apply mis_eq; assumption; (intro c h1 h2; simp (disch := omega) only [x_st_o])) | rfl) only [bk_78_0, bk_78_2, bk_78_3, bk_78_4, bk_78_5, wp_ald0, wr_33_0, wr_20_0, wp_ast1, wp_ic, wp_ist2, wp_fall, wp_ild2, wp_ald1, wp_geti kd_6, wp_icge, wr_6_7, wl_7, wl_8, wp_cald, wp_ist3, wr_33_9, wp_ild3, wp_icne, wp_lc, wp_goto, wl_42, wp_pald, wp_ldiv, wr_6_8, wp_i2l, wp_lmul, ws_42, wp_geti kd_20, wp_inc2, wp_ret, x_clr_I, x_clr_J, x_clr_R, x_clr_U, ct_some, ct_none, lc_lt, lc_ge, lc_gt, lc_le, lc_eq, lc_r, xI_inj, xJ_inj, Option.some.injEq, eq_self, bi_r, bi_0, bi_1, bi_n, Classical.not_not, and_true, true_and, ite_true, ite_false, ↓reduceIte, ↓x_andl, z_le, z_nle, z_lt, z_nlt, z_eq, z_neq, if_pos, if_neg, x_andl, false_and, and_false, or_true, true_or, or_false, false_or, not_true, not_false_iff, x_rd_eq, x_rd_ne, x_st_o, Int.cast_ofNat_Int, Int.ofNat_zero, Int.ofNat_one, not_true_eq_false, not_false_eq_true, if_true, if_false, ite_self, and_self, Int.ofNat_eq_natCast, Int.tdiv_eq_ediv_of_nonneg, Int.tmod_eq_emod_of_nonneg, x_bm32, mi_size hMi, mi_under hMi, mi_chance hMi, ms_fork hSi, ov]
          exact H
        · have e : p_part w i = 0 := by
            unfold p_part
            rw [if_neg (fr_lt (by omega))]
          rw [e] at H
          simp (disch := first | omega | (simp only [x_wtI, x_wtJ, x_wtR, x_wtN]; omega) | assumption | (simp (disch := omega) only [x_st_o, x_rd_ne]; first | assumption | omega) | (apply mir_eq; assumption; (intro c h1 h2; simp (disch := omega) only [x_st_o])) | (apply mis_eq; assumption; (intro c h1 h2; simp (disch := omega) only [x_st_o])) | rfl) only [bk_78_0, bk_78_2, bk_78_3, bk_78_4, bk_78_5, wp_ald0, wr_33_0, wr_20_0, wp_ast1, wp_ic, wp_ist2, wp_fall, wp_ild2, wp_ald1, wp_geti kd_6, wp_icge, wr_6_7, wl_7, wl_8, wp_cald, wp_ist3, wr_33_9, wp_ild3, wp_icne, wp_lc, wp_goto, wl_42, wp_pald, wp_ldiv, wr_6_8, wp_i2l, wp_lmul, ws_42, wp_geti kd_20, wp_inc2, wp_ret, x_clr_I, x_clr_J, x_clr_R, x_clr_U, ct_some, ct_none, lc_lt, lc_ge, lc_gt, lc_le, lc_eq, lc_r, xI_inj, xJ_inj, Option.some.injEq, eq_self, bi_r, bi_0, bi_1, bi_n, Classical.not_not, and_true, true_and, ite_true, ite_false, ↓reduceIte, ↓x_andl, z_le, z_nle, z_lt, z_nlt, z_eq, z_neq, if_pos, if_neg, x_andl, false_and, and_false, or_true, true_or, or_false, false_or, not_true, not_false_iff, x_rd_eq, x_rd_ne, x_st_o, Int.cast_ofNat_Int, Int.ofNat_zero, Int.ofNat_one, not_true_eq_false, not_false_eq_true, if_true, if_false, ite_self, and_self, Int.ofNat_eq_natCast, Int.tdiv_eq_ediv_of_nonneg, Int.tmod_eq_emod_of_nonneg, x_bm32, mi_size hMi, mi_under hMi, mi_chance hMi, ms_fork hSi]
          exact H
      · have uu := wf_u hw (f := i) (by omega) i1
        have pp := part_r hw h100 hn8 (f := w_of w i 0) uu.1 (by omega)
        have jp := j2 (w_of w i 0) uu.1 (by omega)
        by_cases cn : i = w 8
        · rw [cn, part_now hn8.1, ← cn] at H
          have ov : ∀ v v' : Int, x_st (x_st σi 42 0 i v) 42 0 i v' = x_st σi 42 0 i v' := by
            intro v v'
            funext c j k
            unfold x_st
            by_cases z : c = 42 ∧ j = 0 ∧ k = i
            · rw [if_pos z, if_pos z]
            · rw [if_neg z, if_neg z, if_neg z]
          simp (disch := first | omega | (simp only [x_wtI, x_wtJ, x_wtR, x_wtN]; omega) | assumption | (simp (disch := omega) only [x_st_o, x_rd_ne]; first | assumption | omega) | (apply mir_eq; assumption; (intro c h1 h2; simp (disch := omega) only [x_st_o])) | (apply mis_eq; assumption; (intro c h1 h2; simp (disch := omega) only [x_st_o])) | rfl) only [bk_78_0, bk_78_2, bk_78_3, bk_78_4, bk_78_5, wp_ald0, wr_33_0, wr_20_0, wp_ast1, wp_ic, wp_ist2, wp_fall, wp_ild2, wp_ald1, wp_geti kd_6, wp_icge, wr_6_7, wl_7, wl_8, wp_cald, wp_ist3, wr_33_9, wp_ild3, wp_icne, wp_lc, wp_goto, wl_42, wp_pald, wp_ldiv, wr_6_8, wp_i2l, wp_lmul, ws_42, wp_geti kd_20, wp_inc2, wp_ret, x_clr_I, x_clr_J, x_clr_R, x_clr_U, ct_some, ct_none, lc_lt, lc_ge, lc_gt, lc_le, lc_eq, lc_r, xI_inj, xJ_inj, Option.some.injEq, eq_self, bi_r, bi_0, bi_1, bi_n, Classical.not_not, and_true, true_and, ite_true, ite_false, ↓reduceIte, ↓x_andl, z_le, z_nle, z_lt, z_nlt, z_eq, z_neq, if_pos, if_neg, x_andl, false_and, and_false, or_true, true_or, or_false, false_or, not_true, not_false_iff, x_rd_eq, x_rd_ne, x_st_o, Int.cast_ofNat_Int, Int.ofNat_zero, Int.ofNat_one, not_true_eq_false, not_false_eq_true, if_true, if_false, ite_self, and_self, Int.ofNat_eq_natCast, Int.tdiv_eq_ediv_of_nonneg, Int.tmod_eq_emod_of_nonneg, x_bm32, mi_size hMi, mi_under hMi, mi_chance hMi, ms_fork hSi, jp, ov]
          exact H
        · have e := (part_up hw h100 hn8 (by omega) i1 pp cn).1
          rw [e] at H
          simp (disch := first | omega | (simp only [x_wtI, x_wtJ, x_wtR, x_wtN]; omega) | assumption | (simp (disch := omega) only [x_st_o, x_rd_ne]; first | assumption | omega) | (apply mir_eq; assumption; (intro c h1 h2; simp (disch := omega) only [x_st_o])) | (apply mis_eq; assumption; (intro c h1 h2; simp (disch := omega) only [x_st_o])) | rfl) only [bk_78_0, bk_78_2, bk_78_3, bk_78_4, bk_78_5, wp_ald0, wr_33_0, wr_20_0, wp_ast1, wp_ic, wp_ist2, wp_fall, wp_ild2, wp_ald1, wp_geti kd_6, wp_icge, wr_6_7, wl_7, wl_8, wp_cald, wp_ist3, wr_33_9, wp_ild3, wp_icne, wp_lc, wp_goto, wl_42, wp_pald, wp_ldiv, wr_6_8, wp_i2l, wp_lmul, ws_42, wp_geti kd_20, wp_inc2, wp_ret, x_clr_I, x_clr_J, x_clr_R, x_clr_U, ct_some, ct_none, lc_lt, lc_ge, lc_gt, lc_le, lc_eq, lc_r, xI_inj, xJ_inj, Option.some.injEq, eq_self, bi_r, bi_0, bi_1, bi_n, Classical.not_not, and_true, true_and, ite_true, ite_false, ↓reduceIte, ↓x_andl, z_le, z_nle, z_lt, z_nlt, z_eq, z_neq, if_pos, if_neg, x_andl, false_and, and_false, or_true, true_or, or_false, false_or, not_true, not_false_iff, x_rd_eq, x_rd_ne, x_st_o, Int.cast_ofNat_Int, Int.ofNat_zero, Int.ofNat_one, not_true_eq_false, not_false_eq_true, if_true, if_false, ite_self, and_self, Int.ofNat_eq_natCast, Int.tdiv_eq_ediv_of_nonneg, Int.tmod_eq_emod_of_nonneg, x_bm32, mi_size hMi, mi_under hMi, mi_chance hMi, ms_fork hSi, jp]
          exact H
  · intro ⟨σi, u⟩ ⟨j1, j2⟩
    simp only at j1 j2 ⊢
    have hMi : mir σi 1 w := mir_eq hM (fun c q1 q2 => j1 c 1 (by simp))
    rw [bk_78_1]
    simp (disch := first | omega | (simp only [x_wtI, x_wtJ, x_wtR, x_wtN]; omega) | assumption | (simp (disch := omega) only [x_st_o, x_rd_ne]; first | assumption | omega) | (apply mir_eq; assumption; (intro c h1 h2; simp (disch := omega) only [x_st_o])) | (apply mis_eq; assumption; (intro c h1 h2; simp (disch := omega) only [x_st_o])) | rfl) only [bk_78_0, bk_78_2, bk_78_3, bk_78_4, bk_78_5, wp_ald0, wr_33_0, wr_20_0, wp_ast1, wp_ic, wp_ist2, wp_fall, wp_ild2, wp_ald1, wp_geti kd_6, wp_icge, wr_6_7, wl_7, wl_8, wp_cald, wp_ist3, wr_33_9, wp_ild3, wp_icne, wp_lc, wp_goto, wl_42, wp_pald, wp_ldiv, wr_6_8, wp_i2l, wp_lmul, ws_42, wp_geti kd_20, wp_inc2, wp_ret, x_clr_I, x_clr_J, x_clr_R, x_clr_U, ct_some, ct_none, lc_lt, lc_ge, lc_gt, lc_le, lc_eq, lc_r, xI_inj, xJ_inj, Option.some.injEq, eq_self, bi_r, bi_0, bi_1, bi_n, Classical.not_not, and_true, true_and, ite_true, ite_false, ↓reduceIte, ↓x_andl, z_le, z_nle, z_lt, z_nlt, z_eq, z_neq, if_pos, if_neg, x_andl, false_and, and_false, or_true, true_or, or_false, false_or, not_true, not_false_iff, x_rd_eq, x_rd_ne, x_st_o, Int.cast_ofNat_Int, Int.ofNat_zero, Int.ofNat_one, not_true_eq_false, not_false_eq_true, if_true, if_false, ite_self, and_self, Int.ofNat_eq_natCast, Int.tdiv_eq_ediv_of_nonneg, Int.tmod_eq_emod_of_nonneg, x_bm32, mi_size hMi]
    exact hQ _ _ ⟨rfl, j1, j2⟩
section KW
variable {d : Nat} {σ : x_S} {Q : Option x_V → x_S → Prop} {w : Int → Int} {f : Int}
theorem k_enter1 (hM : mir σ 1 w) (hS : mis σ 1 w) (hw : wf w) (hn : wn w) (h0 : 0 ≤ f) (h1 : f < w 0) (e : f = w 8) : x_Sp (d + 1) 79 [xR 33 0, xI f] σ Q ↔ Q none (x_st (x_st (x_st (x_st (x_st σ 34 0 f 1) 36 0 f (w 9)) 37 0 f (w 10)) 40 0 f 0) 41 0 f 0) := by
  have a := wf_h hw
  unfold wf_hdr at a
  have hn8 := hn.1
  refine x_sp_of ?_
  simp (disch := first | omega | (simp only [x_wtI, x_wtJ, x_wtR, x_wtN]; omega) | assumption | (simp (disch := omega) only [x_st_o, x_rd_ne]; first | assumption | omega) | (apply mir_eq; assumption; (intro c h1 h2; simp (disch := omega) only [x_st_o])) | (apply mis_eq; assumption; (intro c h1 h2; simp (disch := omega) only [x_st_o])) | rfl) only [sp_79, bk_79_0, bk_79_1, bk_79_2, bk_79_3, wp_ald0, wr_33_0, wr_20_0, wr_6_7, wp_ild1, wl_7, wl_38, wl_39, wl_40, wl_41, wp_cald, wp_ist2, wp_geti kd_20, wp_icne, wr_33_1, wp_ic, ws_34, ws_35, wk_80, wp_goto, wp_icle, wp_ild2, wp_iceq, wr_33_2, wl_34, wl_35, wp_sbal, wp_ifeq, wr_33_5, wr_33_6, wr_33_7, wr_33_8, wp_fall, wp_ret, sp_80, bk_80_0, wr_33_3, ws_36, ws_37, ws_40, ws_41, wr_33_4, wp_ild3, wp_ild4, wp_ild5, x_clr_I, x_clr_J, x_clr_R, x_clr_U, ct_some, ct_none, lc_lt, lc_ge, lc_gt, lc_le, lc_eq, lc_r, xI_inj, xJ_inj, Option.some.injEq, eq_self, bi_r, bi_0, bi_1, bi_n, Classical.not_not, and_true, true_and, ite_true, ite_false, ↓reduceIte, ↓x_andl, z_le, z_nle, z_lt, z_nlt, z_eq, z_neq, if_pos, if_neg, x_andl, false_and, and_false, or_true, true_or, or_false, false_or, not_true, not_false_iff, x_rd_eq, x_rd_ne, x_st_o, Int.cast_ofNat_Int, Int.ofNat_zero, Int.ofNat_one, not_true_eq_false, not_false_eq_true, if_true, if_false, ite_self, and_self, Int.ofNat_eq_natCast, Int.tdiv_eq_ediv_of_nonneg, Int.tmod_eq_emod_of_nonneg, x_bm32, mi_under hM, ms_fork hS, ms_stock hS, ms_wide hS]
theorem k_enter2 (hM : mir σ 1 w) (hS : mis σ 1 w) (hw : wf w) (hn : wn w) (h1 : f < w 0) (e : w 8 < f) (el : σ 35 0 (w_of w f 0) = 1) : x_Sp (d + 1) 79 [xR 33 0, xI f] σ Q ↔ Q none (x_st (x_st (x_st (x_st (x_st σ 34 0 f 1) 36 0 f (σ 38 0 (w_of w f 0))) 37 0 f (σ 39 0 (w_of w f 0))) 40 0 f (σ 40 0 (w_of w f 0))) 41 0 f (σ 41 0 (w_of w f 0))) := by
  have a := wf_h hw
  unfold wf_hdr at a
  have hn8 := hn.1
  have u := wf_u hw (f := f) (by omega) h1
  refine x_sp_of ?_
  simp (disch := first | omega | (simp only [x_wtI, x_wtJ, x_wtR, x_wtN]; omega) | assumption | (simp (disch := omega) only [x_st_o, x_rd_ne]; first | assumption | omega) | (apply mir_eq; assumption; (intro c h1 h2; simp (disch := omega) only [x_st_o])) | (apply mis_eq; assumption; (intro c h1 h2; simp (disch := omega) only [x_st_o])) | rfl) only [sp_79, bk_79_0, bk_79_1, bk_79_2, bk_79_3, wp_ald0, wr_33_0, wr_20_0, wr_6_7, wp_ild1, wl_7, wl_38, wl_39, wl_40, wl_41, wp_cald, wp_ist2, wp_geti kd_20, wp_icne, wr_33_1, wp_ic, ws_34, ws_35, wk_80, wp_goto, wp_icle, wp_ild2, wp_iceq, wr_33_2, wl_34, wl_35, wp_sbal, wp_ifeq, wr_33_5, wr_33_6, wr_33_7, wr_33_8, wp_fall, wp_ret, sp_80, bk_80_0, wr_33_3, ws_36, ws_37, ws_40, ws_41, wr_33_4, wp_ild3, wp_ild4, wp_ild5, x_clr_I, x_clr_J, x_clr_R, x_clr_U, ct_some, ct_none, lc_lt, lc_ge, lc_gt, lc_le, lc_eq, lc_r, xI_inj, xJ_inj, Option.some.injEq, eq_self, bi_r, bi_0, bi_1, bi_n, Classical.not_not, and_true, true_and, ite_true, ite_false, ↓reduceIte, ↓x_andl, z_le, z_nle, z_lt, z_nlt, z_eq, z_neq, if_pos, if_neg, x_andl, false_and, and_false, or_true, true_or, or_false, false_or, not_true, not_false_iff, x_rd_eq, x_rd_ne, x_st_o, Int.cast_ofNat_Int, Int.ofNat_zero, Int.ofNat_one, not_true_eq_false, not_false_eq_true, if_true, if_false, ite_self, and_self, Int.ofNat_eq_natCast, Int.tdiv_eq_ediv_of_nonneg, Int.tmod_eq_emod_of_nonneg, x_bm32, mi_under hM, ms_fork hS, ms_stock hS, ms_wide hS, el]
theorem k_enter3 (hM : mir σ 1 w) (hS : mis σ 1 w) (hw : wf w) (hn : wn w) (h0 : 0 ≤ f) (h1 : f < w 0) (e : ¬ f = w 8) (el : f < w 8 ∨ σ 35 0 (w_of w f 0) = 0) : x_Sp (d + 1) 79 [xR 33 0, xI f] σ Q ↔ Q none (x_st (x_st (x_st (x_st (x_st σ 34 0 f 0) 36 0 f 0) 37 0 f 0) 40 0 f 0) 41 0 f 0) := by
  have a := wf_h hw
  unfold wf_hdr at a
  have hn8 := hn.1
  have o := wf_f hw h0 h1
  unfold wf_one at o
  refine x_sp_of ?_
  by_cases c : f < w 8
  · simp (disch := first | omega | (simp only [x_wtI, x_wtJ, x_wtR, x_wtN]; omega) | assumption | (simp (disch := omega) only [x_st_o, x_rd_ne]; first | assumption | omega) | (apply mir_eq; assumption; (intro c h1 h2; simp (disch := omega) only [x_st_o])) | (apply mis_eq; assumption; (intro c h1 h2; simp (disch := omega) only [x_st_o])) | rfl) only [sp_79, bk_79_0, bk_79_1, bk_79_2, bk_79_3, wp_ald0, wr_33_0, wr_20_0, wr_6_7, wp_ild1, wl_7, wl_38, wl_39, wl_40, wl_41, wp_cald, wp_ist2, wp_geti kd_20, wp_icne, wr_33_1, wp_ic, ws_34, ws_35, wk_80, wp_goto, wp_icle, wp_ild2, wp_iceq, wr_33_2, wl_34, wl_35, wp_sbal, wp_ifeq, wr_33_5, wr_33_6, wr_33_7, wr_33_8, wp_fall, wp_ret, sp_80, bk_80_0, wr_33_3, ws_36, ws_37, ws_40, ws_41, wr_33_4, wp_ild3, wp_ild4, wp_ild5, x_clr_I, x_clr_J, x_clr_R, x_clr_U, ct_some, ct_none, lc_lt, lc_ge, lc_gt, lc_le, lc_eq, lc_r, xI_inj, xJ_inj, Option.some.injEq, eq_self, bi_r, bi_0, bi_1, bi_n, Classical.not_not, and_true, true_and, ite_true, ite_false, ↓reduceIte, ↓x_andl, z_le, z_nle, z_lt, z_nlt, z_eq, z_neq, if_pos, if_neg, x_andl, false_and, and_false, or_true, true_or, or_false, false_or, not_true, not_false_iff, x_rd_eq, x_rd_ne, x_st_o, Int.cast_ofNat_Int, Int.ofNat_zero, Int.ofNat_one, not_true_eq_false, not_false_eq_true, if_true, if_false, ite_self, and_self, Int.ofNat_eq_natCast, Int.tdiv_eq_ediv_of_nonneg, Int.tmod_eq_emod_of_nonneg, x_bm32, mi_under hM, ms_fork hS, ms_stock hS, ms_wide hS]
  · have el' : σ 35 0 (w_of w f 0) = 0 := el.elim (fun z => absurd z c) id
    have u := wf_u hw (f := f) (by omega) h1
    simp (disch := first | omega | (simp only [x_wtI, x_wtJ, x_wtR, x_wtN]; omega) | assumption | (simp (disch := omega) only [x_st_o, x_rd_ne]; first | assumption | omega) | (apply mir_eq; assumption; (intro c h1 h2; simp (disch := omega) only [x_st_o])) | (apply mis_eq; assumption; (intro c h1 h2; simp (disch := omega) only [x_st_o])) | rfl) only [sp_79, bk_79_0, bk_79_1, bk_79_2, bk_79_3, wp_ald0, wr_33_0, wr_20_0, wr_6_7, wp_ild1, wl_7, wl_38, wl_39, wl_40, wl_41, wp_cald, wp_ist2, wp_geti kd_20, wp_icne, wr_33_1, wp_ic, ws_34, ws_35, wk_80, wp_goto, wp_icle, wp_ild2, wp_iceq, wr_33_2, wl_34, wl_35, wp_sbal, wp_ifeq, wr_33_5, wr_33_6, wr_33_7, wr_33_8, wp_fall, wp_ret, sp_80, bk_80_0, wr_33_3, ws_36, ws_37, ws_40, ws_41, wr_33_4, wp_ild3, wp_ild4, wp_ild5, x_clr_I, x_clr_J, x_clr_R, x_clr_U, ct_some, ct_none, lc_lt, lc_ge, lc_gt, lc_le, lc_eq, lc_r, xI_inj, xJ_inj, Option.some.injEq, eq_self, bi_r, bi_0, bi_1, bi_n, Classical.not_not, and_true, true_and, ite_true, ite_false, ↓reduceIte, ↓x_andl, z_le, z_nle, z_lt, z_nlt, z_eq, z_neq, if_pos, if_neg, x_andl, false_and, and_false, or_true, true_or, or_false, false_or, not_true, not_false_iff, x_rd_eq, x_rd_ne, x_st_o, Int.cast_ofNat_Int, Int.ofNat_zero, Int.ofNat_one, not_true_eq_false, not_false_eq_true, if_true, if_false, ite_self, and_self, Int.ofNat_eq_natCast, Int.tdiv_eq_ediv_of_nonneg, Int.tmod_eq_emod_of_nonneg, x_bm32, mi_under hM, ms_fork hS, ms_stock hS, ms_wide hS, el']
theorem k_leave0 (hM : mir σ 1 w) (hS : mis σ 1 w) (hw : wf w) (hq : wq w) (h0 : 0 ≤ f) (h1 : f < w 0) (hc : σ 34 0 f = 0 ∨ (σ 34 0 f = 1 ∧ (0 ≤ σ 36 0 f ∧ σ 36 0 f ≤ 20) ∧ (0 ≤ σ 37 0 f ∧ σ 37 0 f ≤ 1) ∧ ¬ p_law w f (σ 36 0 f) (σ 37 0 f) (w (536 + 2 * f)) (w (536 + 2 * f + 1)))) : x_Sp (d + 2) 81 [xR 33 0, xI f] σ Q ↔ Q none (x_st σ 35 0 f 0) := by
  have a := wf_h hw
  unfold wf_hdr at a
  have q := hq f h0 h1
  refine x_sp_of ?_
  rcases hc with hc | ⟨hc, hs, hd, hl⟩
  · simp (disch := first | omega | (simp only [x_wtI, x_wtJ, x_wtR, x_wtN]; omega) | assumption | (simp (disch := omega) only [x_st_o, x_rd_ne]; first | assumption | omega) | (apply mir_eq; assumption; (intro c h1 h2; simp (disch := omega) only [x_st_o])) | (apply mis_eq; assumption; (intro c h1 h2; simp (disch := omega) only [x_st_o])) | rfl) only [sp_81, bk_81_0, bk_81_1, bk_81_2, bk_81_3, wp_ald0, wr_33_0, wr_20_0, wp_ast2, wr_20_1, wp_ild1, wl_12, wl_21, wl_22, wl_36, wl_37, wl_38, wl_39, wl_40, wl_41, wp_cald, wp_ist3, wr_20_2, wp_ist4, wr_33_2, wr_33_1, wl_34, wl_35, wp_sbal, wp_ifeq, wp_ald2, wr_33_3, wr_33_4, wp_ild3, wp_ild4, wk_72, wp_ic, wp_goto, wp_fall, ws_34, ws_35, wr_33_5, wp_iadd, wr_6_12, wp_isub, ws_12, ws_21, ws_22, ws_36, ws_37, ws_38, ws_39, ws_40, ws_41, wr_33_6, wp_ior, wr_33_7, wp_dup2, wk_70, wr_33_8, wk_274, c_maxi, wp_ret, x_clr_I, x_clr_J, x_clr_R, x_clr_U, ct_some, ct_none, lc_lt, lc_ge, lc_gt, lc_le, lc_eq, lc_r, xI_inj, xJ_inj, Option.some.injEq, eq_self, bi_r, bi_0, bi_1, bi_n, Classical.not_not, and_true, true_and, ite_true, ite_false, ↓reduceIte, ↓x_andl, z_le, z_nle, z_lt, z_nlt, z_eq, z_neq, if_pos, if_neg, x_andl, false_and, and_false, or_true, true_or, or_false, false_or, not_true, not_false_iff, x_rd_eq, x_rd_ne, x_st_o, Int.cast_ofNat_Int, Int.ofNat_zero, Int.ofNat_one, not_true_eq_false, not_false_eq_true, if_true, if_false, ite_self, and_self, Int.ofNat_eq_natCast, Int.tdiv_eq_ediv_of_nonneg, Int.tmod_eq_emod_of_nonneg, x_bm32, ms_x hS, ms_b hS, hc]
  · simp (disch := first | omega | (simp only [x_wtI, x_wtJ, x_wtR, x_wtN]; omega) | assumption | (simp (disch := omega) only [x_st_o, x_rd_ne]; first | assumption | omega) | (apply mir_eq; assumption; (intro c h1 h2; simp (disch := omega) only [x_st_o])) | (apply mis_eq; assumption; (intro c h1 h2; simp (disch := omega) only [x_st_o])) | rfl) only [sp_81, bk_81_0, bk_81_1, bk_81_2, bk_81_3, wp_ald0, wr_33_0, wr_20_0, wp_ast2, wr_20_1, wp_ild1, wl_12, wl_21, wl_22, wl_36, wl_37, wl_38, wl_39, wl_40, wl_41, wp_cald, wp_ist3, wr_20_2, wp_ist4, wr_33_2, wr_33_1, wl_34, wl_35, wp_sbal, wp_ifeq, wp_ald2, wr_33_3, wr_33_4, wp_ild3, wp_ild4, wk_72, wp_ic, wp_goto, wp_fall, ws_34, ws_35, wr_33_5, wp_iadd, wr_6_12, wp_isub, ws_12, ws_21, ws_22, ws_36, ws_37, ws_38, ws_39, ws_40, ws_41, wr_33_6, wp_ior, wr_33_7, wp_dup2, wk_70, wr_33_8, wk_274, c_maxi, wp_ret, x_clr_I, x_clr_J, x_clr_R, x_clr_U, ct_some, ct_none, lc_lt, lc_ge, lc_gt, lc_le, lc_eq, lc_r, xI_inj, xJ_inj, Option.some.injEq, eq_self, bi_r, bi_0, bi_1, bi_n, Classical.not_not, and_true, true_and, ite_true, ite_false, ↓reduceIte, ↓x_andl, z_le, z_nle, z_lt, z_nlt, z_eq, z_neq, if_pos, if_neg, x_andl, false_and, and_false, or_true, true_or, or_false, false_or, not_true, not_false_iff, x_rd_eq, x_rd_ne, x_st_o, Int.cast_ofNat_Int, Int.ofNat_zero, Int.ofNat_one, not_true_eq_false, not_false_eq_true, if_true, if_false, ite_self, and_self, Int.ofNat_eq_natCast, Int.tdiv_eq_ediv_of_nonneg, Int.tmod_eq_emod_of_nonneg, x_bm32, ms_x hS, ms_b hS, hc, k_isLawful, bi_f]
theorem k_leave1 (hM : mir σ 1 w) (hS : mis σ 1 w) (hw : wf w) (hq : wq w) (h0 : 0 ≤ f) (h1 : f < w 0) (hc : σ 34 0 f = 1) (hs : 0 ≤ σ 36 0 f ∧ σ 36 0 f ≤ 20) (hd : 0 ≤ σ 37 0 f ∧ σ 37 0 f ≤ 1) (ht : -1000000 ≤ σ 40 0 f ∧ σ 40 0 f ≤ 1000000) (hp : -1000000 ≤ σ 41 0 f ∧ σ 41 0 f ≤ 1000000) (hl : p_law w f (σ 36 0 f) (σ 37 0 f) (w (536 + 2 * f)) (w (536 + 2 * f + 1))) : x_Sp (d + 2) 81 [xR 33 0, xI f] σ Q ↔ Q none (x_st (x_st (x_st (x_st (x_st σ 35 0 f 1) 38 0 f (σ 36 0 f + w (536 + 2 * f) - w_of w f 5)) 39 0 f (p_or (σ 37 0 f) (w (536 + 2 * f + 1)))) 40 0 f (σ 40 0 f + p_cost w 5 f (w (536 + 2 * f)) (w (536 + 2 * f + 1)) (σ 36 0 f + w (536 + 2 * f) - w_of w f 5))) 41 0 f (max (σ 41 0 f) (σ 40 0 f + p_cost w 5 f (w (536 + 2 * f)) (w (536 + 2 * f + 1)) (σ 36 0 f + w (536 + 2 * f) - w_of w f 5)))) := by
  have a := wf_h hw
  unfold wf_hdr at a
  have q := hq f h0 h1
  have r := room_b hw (l := p_or (σ 37 0 f) (w (536 + 2 * f + 1)))
  have l4 := hl.2.2.2.1
  have l5 := hl.2.2.2.2
  have cb := cost_b hw (E := 5) (x := w (536 + 2 * f)) (b := w (536 + 2 * f + 1)) (t := σ 36 0 f + w (536 + 2 * f) - w_of w f 5) h0 h1 q.2.1 q.2.2 (by omega)
  refine x_sp_of ?_
  simp (disch := first | omega | (simp only [x_wtI, x_wtJ, x_wtR, x_wtN]; omega) | assumption | (simp (disch := omega) only [x_st_o, x_rd_ne]; first | assumption | omega) | (apply mir_eq; assumption; (intro c h1 h2; simp (disch := omega) only [x_st_o])) | (apply mis_eq; assumption; (intro c h1 h2; simp (disch := omega) only [x_st_o])) | rfl) only [sp_81, bk_81_0, bk_81_1, bk_81_2, bk_81_3, wp_ald0, wr_33_0, wr_20_0, wp_ast2, wr_20_1, wp_ild1, wl_12, wl_21, wl_22, wl_36, wl_37, wl_38, wl_39, wl_40, wl_41, wp_cald, wp_ist3, wr_20_2, wp_ist4, wr_33_2, wr_33_1, wl_34, wl_35, wp_sbal, wp_ifeq, wp_ald2, wr_33_3, wr_33_4, wp_ild3, wp_ild4, wk_72, wp_ic, wp_goto, wp_fall, ws_34, ws_35, wr_33_5, wp_iadd, wr_6_12, wp_isub, ws_12, ws_21, ws_22, ws_36, ws_37, ws_38, ws_39, ws_40, ws_41, wr_33_6, wp_ior, wr_33_7, wp_dup2, wk_70, wr_33_8, wk_274, c_maxi, wp_ret, x_clr_I, x_clr_J, x_clr_R, x_clr_U, ct_some, ct_none, lc_lt, lc_ge, lc_gt, lc_le, lc_eq, lc_r, xI_inj, xJ_inj, Option.some.injEq, eq_self, bi_r, bi_0, bi_1, bi_n, Classical.not_not, and_true, true_and, ite_true, ite_false, ↓reduceIte, ↓x_andl, z_le, z_nle, z_lt, z_nlt, z_eq, z_neq, if_pos, if_neg, x_andl, false_and, and_false, or_true, true_or, or_false, false_or, not_true, not_false_iff, x_rd_eq, x_rd_ne, x_st_o, Int.cast_ofNat_Int, Int.ofNat_zero, Int.ofNat_one, not_true_eq_false, not_false_eq_true, if_true, if_false, ite_self, and_self, Int.ofNat_eq_natCast, Int.tdiv_eq_ediv_of_nonneg, Int.tmod_eq_emod_of_nonneg, x_bm32, ms_x hS, ms_b hS, hc, k_isLawful, bi_t, mi_need hM, x_or_p, k_outlay]
end KW

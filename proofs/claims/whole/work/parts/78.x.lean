abbrev p_ed (w : Int → Int) (f : Int) : Prop := p_fr w (w 8) f ∧ w_of w f 7 = 0
def sumE (w g : Int → Int) : Nat → Int
  | 0 => 0
  | n + 1 => sumE w g n + (if p_ed w n then g n else 0)
section SE
variable {w g g' : Int → Int}
theorem sumE_s {i : Int} (i0 : 0 ≤ i) : sumE w g (i + 1).toNat = sumE w g i.toNat + (if p_ed w i then g i else 0) := by
  rw [show (i + 1).toNat = i.toNat + 1 by omega]
  show sumE w g i.toNat + (if p_ed w (i.toNat : Int) then g (i.toNat : Int) else 0) = _
  rw [Int.toNat_of_nonneg i0]
theorem sumE_0 : ∀ n : Nat, (n : Int) ≤ w 8 → sumE w g n = 0 := by
  intro n
  induction n with
  | zero => intro _; rfl
  | succ n ih =>
    intro h
    show sumE w g n + (if p_ed w n then g n else 0) = 0
    rw [ih (by omega), if_neg (fun z => fr_lt (by omega) z.1)]
    rfl
theorem sumE_cg {N : Int} (h : ∀ f, 0 ≤ f → f < N → p_ed w f → g' f = g f) : ∀ n : Nat, (n : Int) ≤ N → sumE w g' n = sumE w g n := by
  intro n
  induction n with
  | zero => intro _; rfl
  | succ n ih =>
    intro hn
    show sumE w g' n + (if p_ed w n then g' n else 0) = sumE w g n + (if p_ed w n then g n else 0)
    rw [ih (by omega)]
    by_cases c : p_ed w n
    · rw [if_pos c, if_pos c, h n (by omega) (by omega) c]
    · rw [if_neg c, if_neg c]
theorem sumE_b {N B : Int} (hB : 0 ≤ B) (h : ∀ f, 0 ≤ f → f < N → p_ed w f → -B ≤ g f ∧ g f ≤ B) : ∀ n : Nat, (n : Int) ≤ N → -(B * n) ≤ sumE w g n ∧ sumE w g n ≤ B * n := by
  intro n
  induction n with
  | zero => intro _; show -(B * ((0 : Nat) : Int)) ≤ 0 ∧ (0 : Int) ≤ B * ((0 : Nat) : Int); omega
  | succ n ih =>
    intro hn
    have i := ih (by omega)
    have e : B * ((n + 1 : Nat) : Int) = B * n + B := by
      rw [show ((n + 1 : Nat) : Int) = (n : Int) + 1 by omega, Int.mul_add, Int.mul_one]
    rw [e]
    show -(B * n + B) ≤ sumE w g n + (if p_ed w n then g n else 0) ∧ sumE w g n + (if p_ed w n then g n else 0) ≤ B * n + B
    by_cases c : p_ed w n
    · rw [if_pos c]
      have := h n (by omega) (by omega) c
      omega
    · rw [if_neg c]
      omega
theorem all_law {C V S : Int → Int} (hw : wf w) (hn : wn w) (h : wk w (w 0) C V S) (ns : ∀ g, 0 ≤ g → g < w 0 → ¬ (¬ C g = -1 ∧ V g = -1)) : ∀ n : Nat, ∀ f : Int, 0 ≤ f → f < n → f < w 0 → p_fr w (w 8) f → ¬ V f = -1 := by
  have hn' := hn
  unfold wn at hn'
  intro n
  induction n with
  | zero => intro f a b; omega
  | succ n ih =>
    intro f f0 fn f1 g hv
    have e := (h f f0 f1).1
    have nc : ¬ C f = -1 := by
      rw [e]
      by_cases c : f = w 8
      · rw [if_pos c]
        omega
      · rw [if_neg c, if_pos g]
        have u := fr_par hw hn.1.1 g c f1
        exact ih _ u.2.1 (by omega) (by omega) u.1
    exact ns f f0 f1 ⟨nc, hv⟩
end SE
theorem k_chanceOf {d : Nat} {σ : x_S} {Q : Option x_V → x_S → Prop} {w : Int → Int} {f : Int} (h51 : σ 51 0 = w) (hw : wf w) (h100 : wf_100 w) (hn : wn w) (h0 : 0 ≤ f) (h1 : f < w 0) (hf : p_fr w (w 8) f) : x_Sp (d + 1) 242 [xR 50 0, xI f] σ Q ↔ Q (some (xJ (p_part w f))) σ := by
  have a := wf_h hw
  unfold wf_hdr at a
  have hn8 := hn.1
  have of := wf_f hw h0 h1
  unfold wf_one at of
  have ep : p_part w f = x_pay (w_of w f 6 - w_of w (w 8) 6) * p_pr w (w 8) 4 f := if_pos hf
  refine x_sp_of ?_
  rw [ep]
  simp (disch := first | omega | (simp only [x_wtI, x_wtJ, x_wtR, x_wtN]; omega) | assumption | (simp (disch := omega) only [x_st_o, x_rd_ne]; first | assumption | omega) | (apply mir_eq; assumption; (intro c h1 h2; simp (disch := omega) only [x_st_o])) | (apply mis_eq; assumption; (intro c h1 h2; simp (disch := omega) only [x_st_o])) | rfl) only [sp_242, bk_242_0, bk_242_2, wp_lc, wp_lst2, wp_ild1, wp_ist4, wp_fall, wp_ild4, wp_ald0, wr_50_1, wp_ic, wl_51, wp_cald, wp_iceq, wp_lld2, wp_ldiv, wk_192, wp_i2l, wp_lmul, wp_goto, wp_lret, x_clr_I, x_clr_J, x_clr_R, x_clr_U, ct_some, ct_none, lc_lt, lc_ge, lc_gt, lc_le, lc_eq, lc_r, xI_inj, xJ_inj, Option.some.injEq, eq_self, bi_r, bi_0, bi_1, bi_n, Classical.not_not, and_true, true_and, ite_true, ite_false, ↓reduceIte, ↓x_andl, z_le, z_nle, z_lt, z_nlt, z_eq, z_neq, if_pos, if_neg, x_andl, false_and, and_false, or_true, true_or, or_false, false_or, not_true, not_false_iff, x_rd_eq, x_rd_ne, x_st_o, Int.cast_ofNat_Int, Int.ofNat_zero, Int.ofNat_one, not_true_eq_false, not_false_eq_true, if_true, if_false, ite_self, and_self, Int.ofNat_eq_natCast, Int.tdiv_eq_ediv_of_nonneg, Int.tmod_eq_emod_of_nonneg, x_bm32]
  refine x_lpV (α := Int × Int) (fun q => (0 ≤ q.1 ∧ q.1 < w 0) ∧ p_fr w (w 8) q.1 ∧ w_of w q.1 6 ≤ w_of w f 6 ∧ (0 ≤ q.2 ∧ q.2 ≤ 100000000) ∧ ∃ P, q.2 = x_pay (w_of w f 6 - w_of w q.1 6) * P ∧ P * p_pr w (w 8) 4 q.1 = p_pr w (w 8) 4 f) (fun q => x_Wp (d + 1) 242 (x_blk 242 1) [xR 50 0, xI f, xJ q.2, xU, xI q.1] [] σ (fun r2 σ2 => r2 = some (xJ (x_pay (w_of w f 6 - w_of w (w 8) 6) * p_pr w (w 8) 4 f)) ∧ σ2 = σ)) (fun q => q.1) (a0 := (f, 100000000)) ⟨⟨h0, h1⟩, hf, Int.le_refl _, ⟨show (0 : Int) ≤ 100000000 by decide, Int.le_refl _⟩, 1, ?_, Int.one_mul _⟩ ?_
  · show (100000000 : Int) = x_pay (w_of w f 6 - w_of w f 6) * 1
    rw [Int.sub_self]
    rfl
  · intro ⟨k, p⟩ ⟨⟨k0, k1⟩, kf, kl, pb, P, p1, p2⟩
    simp only at k0 k1 kf kl pb p1 p2 ⊢
    have o := wf_f hw k0 k1
    unfold wf_one at o
    by_cases c : k = w 8
    · refine Or.inl ?_
      have e : p = x_pay (w_of w f 6 - w_of w (w 8) 6) * p_pr w (w 8) 4 f := by
        rw [p1, ← p2, c, pr_le (Int.le_refl _), Int.mul_one]
      rw [bk_242_1, ← e]
      simp (disch := first | omega | (simp only [x_wtI, x_wtJ, x_wtR, x_wtN]; omega) | assumption | (simp (disch := omega) only [x_st_o, x_rd_ne]; first | assumption | omega) | (apply mir_eq; assumption; (intro c h1 h2; simp (disch := omega) only [x_st_o])) | (apply mis_eq; assumption; (intro c h1 h2; simp (disch := omega) only [x_st_o])) | rfl) only [bk_242_0, bk_242_2, wp_lc, wp_lst2, wp_ild1, wp_ist4, wp_fall, wp_ild4, wp_ald0, wr_50_1, wp_ic, wl_51, wp_cald, wp_iceq, wp_lld2, wp_ldiv, wk_192, wp_i2l, wp_lmul, wp_goto, wp_lret, x_clr_I, x_clr_J, x_clr_R, x_clr_U, ct_some, ct_none, lc_lt, lc_ge, lc_gt, lc_le, lc_eq, lc_r, xI_inj, xJ_inj, Option.some.injEq, eq_self, bi_r, bi_0, bi_1, bi_n, Classical.not_not, and_true, true_and, ite_true, ite_false, ↓reduceIte, ↓x_andl, z_le, z_nle, z_lt, z_nlt, z_eq, z_neq, if_pos, if_neg, x_andl, false_and, and_false, or_true, true_or, or_false, false_or, not_true, not_false_iff, x_rd_eq, x_rd_ne, x_st_o, Int.cast_ofNat_Int, Int.ofNat_zero, Int.ofNat_one, not_true_eq_false, not_false_eq_true, if_true, if_false, ite_self, and_self, Int.ofNat_eq_natCast, Int.tdiv_eq_ediv_of_nonneg, Int.tmod_eq_emod_of_nonneg, x_bm32, h51]
    · have u := fr_par hw hn8.1 kf c k1
      have uu := wf_u hw (f := k) (by omega) k1
      have kg := fr_gt kf c
      have ch := ch_f hw h100 (f := k) (by omega) k1
      have ou := wf_f hw (f := w_of w k 0) uu.1 (by omega)
      unfold wf_one at ou
      have ed : p / 100 = x_pay (w_of w f 6 - w_of w (w_of w k 0) 6) * P := by
        rw [p1, pay_s (m := w_of w f 6 - w_of w k 6) (by omega), Int.mul_assoc, Int.mul_ediv_cancel_left _ (by omega), show w_of w f 6 - w_of w k 6 + 1 = w_of w f 6 - w_of w (w_of w k 0) 6 by omega]
      have m := mulb (a := p / 100) (b := w_of w k 1) (A := 1000000) (B := 100) (by omega) ch
      have m2 : 0 ≤ p / 100 * w_of w k 1 := Int.mul_nonneg (by omega) ch.1
      refine Or.inr ⟨k0, (w_of w k 0, p / 100 * w_of w k 1), ⟨⟨uu.1, by (show w_of w k 0 < w 0; omega)⟩, u.1, by (show w_of w (w_of w k 0) 6 ≤ w_of w f 6; omega), ⟨m2, by (show p / 100 * w_of w k 1 ≤ 100000000; omega)⟩, P * w_of w k 1, ?_, ?_⟩, uu.2.1, ?_⟩
      · show p / 100 * w_of w k 1 = _
        rw [ed, Int.mul_assoc]
      · show P * w_of w k 1 * p_pr w (w 8) 4 (w_of w k 0) = _
        rw [Int.mul_assoc, ← pr_up hw hn8.1 kg k1]
        exact p2
      · intro H
        rw [bk_242_1]
        simp (disch := first | omega | (simp only [x_wtI, x_wtJ, x_wtR, x_wtN]; omega) | assumption | (simp (disch := omega) only [x_st_o, x_rd_ne]; first | assumption | omega) | (apply mir_eq; assumption; (intro c h1 h2; simp (disch := omega) only [x_st_o])) | (apply mis_eq; assumption; (intro c h1 h2; simp (disch := omega) only [x_st_o])) | rfl) only [bk_242_0, bk_242_2, wp_lc, wp_lst2, wp_ild1, wp_ist4, wp_fall, wp_ild4, wp_ald0, wr_50_1, wp_ic, wl_51, wp_cald, wp_iceq, wp_lld2, wp_ldiv, wk_192, wp_i2l, wp_lmul, wp_goto, wp_lret, x_clr_I, x_clr_J, x_clr_R, x_clr_U, ct_some, ct_none, lc_lt, lc_ge, lc_gt, lc_le, lc_eq, lc_r, xI_inj, xJ_inj, Option.some.injEq, eq_self, bi_r, bi_0, bi_1, bi_n, Classical.not_not, and_true, true_and, ite_true, ite_false, ↓reduceIte, ↓x_andl, z_le, z_nle, z_lt, z_nlt, z_eq, z_neq, if_pos, if_neg, x_andl, false_and, and_false, or_true, true_or, or_false, false_or, not_true, not_false_iff, x_rd_eq, x_rd_ne, x_st_o, Int.cast_ofNat_Int, Int.ofNat_zero, Int.ofNat_one, not_true_eq_false, not_false_eq_true, if_true, if_false, ite_self, and_self, Int.ofNat_eq_natCast, Int.tdiv_eq_ediv_of_nonneg, Int.tmod_eq_emod_of_nonneg, x_bm32, h51, k_of]
        exact H
section O13
variable {L : Int} {S0 : Int → Int}
theorem h_ruinC {σ : x_S} {w : Int → Int} {coin : Int} (hM : mir σ 1 w) (hw : wf w) (h100 : wf_100 w) (hn : wn w) (hq : wq w) (hf : fol w σ) (hc : 0 ≤ coin ∧ coin ≤ 99999) (al : ∀ f, 0 ≤ f → f < w 0 → p_fr w (w 8) f → ¬ cV σ f = -1) : x_Wp 999 144 (x_blk 144 3) [xR 0 0, xI coin, xJ 0, xU, xI 0] [] σ (fun r σ' => r = some (xJ (sumE w (fun e => if coin < σ 41 0 e then p_part w e else 0) (w 0).toNat)) ∧ σ' = σ) := by
  have a := wf_h hw
  unfold wf_hdr at a
  have wb := wk_b hw hn hq (Int.le_refl _) hf.2.1
  refine x_lpJ (fun i sm => sm = sumE w (fun e => if coin < σ 41 0 e then p_part w e else 0) i.toNat) (fun i sm => x_Wp 999 144 (x_blk 144 3) [xR 0 0, xI coin, xJ sm, xU, xI i] [] σ (fun r σ' => r = some (xJ (sumE w (fun e => if coin < σ 41 0 e then p_part w e else 0) (w 0).toNat)) ∧ σ' = σ)) (lo := 0) (hi := w 0) (by omega) (a0 := 0) rfl ?_ ?_
  · intro i sm i0 i1 hJ
    subst hJ
    refine ⟨_, rfl, ?_⟩
    intro H
    rw [sumE_s i0] at H
    have cel := hf.1 i i0 i1
    rw [bk_144_3]
    by_cases c : p_ed w i
    · rw [if_pos c] at H
      have nv := al i i0 i1 c.1
      have m : ¬ cV σ i = -1 ∧ w_of w i 7 = 0 := ⟨nv, c.2⟩
      have pb := pk_b hw hn hq (Int.le_refl _) hf.2.1 hf.2.2.1 (i + 1).toNat i i0 (by omega) i1 nv
      have o := wf_f hw i0 i1
      unfold wf_one at o
      have ep := hf.2.2.2.2.1 i i0 i1
      by_cases c2 : coin < σ 41 0 i
      · rw [if_pos c2] at H
        simp (disch := first | omega | (simp only [x_wtI, x_wtJ, x_wtR, x_wtN]; omega) | assumption | (simp (disch := omega) only [x_st_o, x_rd_ne]; first | assumption | omega) | (apply mir_eq; assumption; (intro c h1 h2; simp (disch := omega) only [x_st_o])) | (apply mis_eq; assumption; (intro c h1 h2; simp (disch := omega) only [x_st_o])) | rfl) only [bk_144_0, bk_144_1, bk_144_2, bk_144_4, bk_144_5, wp_ald0, wr_0_9, wk_77, wp_ild1, wp_iflt, wp_ic, wp_icgt, wp_geti kd_33, wp_iceq, wp_fall, wp_lc, wp_lret, wp_lst2, wp_ist4, wp_ild4, wr_0_2, wr_20_0, wp_geti kd_6, wp_icge, wk_82, wp_ifeq, wr_33_8, wl_41, wp_cald, wp_icle, wp_lld2, wr_33_9, wl_42, wp_pald, wp_ladd, wp_inc4, wp_goto, x_clr_I, x_clr_J, x_clr_R, x_clr_U, ct_some, ct_none, lc_lt, lc_ge, lc_gt, lc_le, lc_eq, lc_r, xI_inj, xJ_inj, Option.some.injEq, eq_self, bi_r, bi_0, bi_1, bi_n, Classical.not_not, and_true, true_and, ite_true, ite_false, ↓reduceIte, ↓x_andl, z_le, z_nle, z_lt, z_nlt, z_eq, z_neq, if_pos, if_neg, x_andl, false_and, and_false, or_true, true_or, or_false, false_or, not_true, not_false_iff, x_rd_eq, x_rd_ne, x_st_o, Int.cast_ofNat_Int, Int.ofNat_zero, Int.ofNat_one, not_true_eq_false, not_false_eq_true, if_true, if_false, ite_self, and_self, Int.ofNat_eq_natCast, Int.tdiv_eq_ediv_of_nonneg, Int.tmod_eq_emod_of_nonneg, x_bm32, mi_size hM, k_isEndOfPlan, bi_t, ep]
        exact H
      · rw [if_neg c2, Int.add_zero] at H
        simp (disch := first | omega | (simp only [x_wtI, x_wtJ, x_wtR, x_wtN]; omega) | assumption | (simp (disch := omega) only [x_st_o, x_rd_ne]; first | assumption | omega) | (apply mir_eq; assumption; (intro c h1 h2; simp (disch := omega) only [x_st_o])) | (apply mis_eq; assumption; (intro c h1 h2; simp (disch := omega) only [x_st_o])) | rfl) only [bk_144_0, bk_144_1, bk_144_2, bk_144_4, bk_144_5, wp_ald0, wr_0_9, wk_77, wp_ild1, wp_iflt, wp_ic, wp_icgt, wp_geti kd_33, wp_iceq, wp_fall, wp_lc, wp_lret, wp_lst2, wp_ist4, wp_ild4, wr_0_2, wr_20_0, wp_geti kd_6, wp_icge, wk_82, wp_ifeq, wr_33_8, wl_41, wp_cald, wp_icle, wp_lld2, wr_33_9, wl_42, wp_pald, wp_ladd, wp_inc4, wp_goto, x_clr_I, x_clr_J, x_clr_R, x_clr_U, ct_some, ct_none, lc_lt, lc_ge, lc_gt, lc_le, lc_eq, lc_r, xI_inj, xJ_inj, Option.some.injEq, eq_self, bi_r, bi_0, bi_1, bi_n, Classical.not_not, and_true, true_and, ite_true, ite_false, ↓reduceIte, ↓x_andl, z_le, z_nle, z_lt, z_nlt, z_eq, z_neq, if_pos, if_neg, x_andl, false_and, and_false, or_true, true_or, or_false, false_or, not_true, not_false_iff, x_rd_eq, x_rd_ne, x_st_o, Int.cast_ofNat_Int, Int.ofNat_zero, Int.ofNat_one, not_true_eq_false, not_false_eq_true, if_true, if_false, ite_self, and_self, Int.ofNat_eq_natCast, Int.tdiv_eq_ediv_of_nonneg, Int.tmod_eq_emod_of_nonneg, x_bm32, mi_size hM, k_isEndOfPlan, bi_t]
        exact H
    · rw [if_neg c, Int.add_zero] at H
      have m : ¬ (¬ cV σ i = -1 ∧ w_of w i 7 = 0) := fun z => c ⟨((wb i i0 i1).2.2 z.1).1, z.2⟩
      simp (disch := first | omega | (simp only [x_wtI, x_wtJ, x_wtR, x_wtN]; omega) | assumption | (simp (disch := omega) only [x_st_o, x_rd_ne]; first | assumption | omega) | (apply mir_eq; assumption; (intro c h1 h2; simp (disch := omega) only [x_st_o])) | (apply mis_eq; assumption; (intro c h1 h2; simp (disch := omega) only [x_st_o])) | rfl) only [bk_144_0, bk_144_1, bk_144_2, bk_144_4, bk_144_5, wp_ald0, wr_0_9, wk_77, wp_ild1, wp_iflt, wp_ic, wp_icgt, wp_geti kd_33, wp_iceq, wp_fall, wp_lc, wp_lret, wp_lst2, wp_ist4, wp_ild4, wr_0_2, wr_20_0, wp_geti kd_6, wp_icge, wk_82, wp_ifeq, wr_33_8, wl_41, wp_cald, wp_icle, wp_lld2, wr_33_9, wl_42, wp_pald, wp_ladd, wp_inc4, wp_goto, x_clr_I, x_clr_J, x_clr_R, x_clr_U, ct_some, ct_none, lc_lt, lc_ge, lc_gt, lc_le, lc_eq, lc_r, xI_inj, xJ_inj, Option.some.injEq, eq_self, bi_r, bi_0, bi_1, bi_n, Classical.not_not, and_true, true_and, ite_true, ite_false, ↓reduceIte, ↓x_andl, z_le, z_nle, z_lt, z_nlt, z_eq, z_neq, if_pos, if_neg, x_andl, false_and, and_false, or_true, true_or, or_false, false_or, not_true, not_false_iff, x_rd_eq, x_rd_ne, x_st_o, Int.cast_ofNat_Int, Int.ofNat_zero, Int.ofNat_one, not_true_eq_false, not_false_eq_true, if_true, if_false, ite_self, and_self, Int.ofNat_eq_natCast, Int.tdiv_eq_ediv_of_nonneg, Int.tmod_eq_emod_of_nonneg, x_bm32, mi_size hM, k_isEndOfPlan, bi_f]
      exact H
  · intro sm hJ
    subst hJ
    rw [bk_144_3]
    simp (disch := first | omega | (simp only [x_wtI, x_wtJ, x_wtR, x_wtN]; omega) | assumption | (simp (disch := omega) only [x_st_o, x_rd_ne]; first | assumption | omega) | (apply mir_eq; assumption; (intro c h1 h2; simp (disch := omega) only [x_st_o])) | (apply mis_eq; assumption; (intro c h1 h2; simp (disch := omega) only [x_st_o])) | rfl) only [bk_144_0, bk_144_1, bk_144_2, bk_144_4, bk_144_5, wp_ald0, wr_0_9, wk_77, wp_ild1, wp_iflt, wp_ic, wp_icgt, wp_geti kd_33, wp_iceq, wp_fall, wp_lc, wp_lret, wp_lst2, wp_ist4, wp_ild4, wr_0_2, wr_20_0, wp_geti kd_6, wp_icge, wk_82, wp_ifeq, wr_33_8, wl_41, wp_cald, wp_icle, wp_lld2, wr_33_9, wl_42, wp_pald, wp_ladd, wp_inc4, wp_goto, x_clr_I, x_clr_J, x_clr_R, x_clr_U, ct_some, ct_none, lc_lt, lc_ge, lc_gt, lc_le, lc_eq, lc_r, xI_inj, xJ_inj, Option.some.injEq, eq_self, bi_r, bi_0, bi_1, bi_n, Classical.not_not, and_true, true_and, ite_true, ite_false, ↓reduceIte, ↓x_andl, z_le, z_nle, z_lt, z_nlt, z_eq, z_neq, if_pos, if_neg, x_andl, false_and, and_false, or_true, true_or, or_false, false_or, not_true, not_false_iff, x_rd_eq, x_rd_ne, x_st_o, Int.cast_ofNat_Int, Int.ofNat_zero, Int.ofNat_one, not_true_eq_false, not_false_eq_true, if_true, if_false, ite_self, and_self, Int.ofNat_eq_natCast, Int.tdiv_eq_ediv_of_nonneg, Int.tmod_eq_emod_of_nonneg, x_bm32, mi_size hM]
theorem h_ruinM {σ : x_S} {w S P : Int → Int} {coin : Int} (h51 : σ 51 0 = w) (hw : wf w) (h100 : wf_100 w) (hn : wn w) (hc : 0 ≤ coin ∧ coin ≤ 99999) (hS : ∀ f, 0 ≤ f → f < w 0 → p_fr w (w 8) f → σ 64 0 f = S f ∧ -1000000 ≤ S f ∧ S f ≤ 1000000) (hP : ∀ f, 0 ≤ f → f < w 0 → p_fr w (w 8) f → P f = max (if f = w 8 then 0 else P (w_of w f 0)) (S f)) : x_Wp 999 241 (x_blk 241 3) [xR 50 0, xI coin, xJ 0, xU, xI (w 8), xU, xU] [] σ (fun r σ' => r = some (xJ (sumE w (fun e => if coin < P e then p_part w e else 0) (w 0).toNat)) ∧ σ' = σ) := by
  have a := wf_h hw
  unfold wf_hdr at a
  have hn8 := hn.1
  refine x_lpJ (α := Int × x_V × x_V) (fun i q => q.1 = sumE w (fun e => if coin < P e then p_part w e else 0) i.toNat) (fun i q => x_Wp 999 241 (x_blk 241 3) [xR 50 0, xI coin, xJ q.1, xU, xI i, q.2.1, q.2.2] [] σ (fun r σ' => r = some (xJ (sumE w (fun e => if coin < P e then p_part w e else 0) (w 0).toNat)) ∧ σ' = σ)) (lo := w 8) (hi := w 0) (by omega) (a0 := (0, xU, xU)) (sumE_0 _ (by omega)).symm ?_ ?_
  · intro i ⟨sm, u1, u2⟩ i0 i1 hJ
    simp only at hJ ⊢
    subst hJ
    by_cases c : p_ed w i
    · have cf := c.1
      obtain ⟨s1, s2⟩ := hS i (by omega) i1 cf
      refine ⟨(sumE w (fun e => if coin < P e then p_part w e else 0) (i + 1).toNat, xI (x_bi (coin < P i)), xI (w 8)), rfl, ?_⟩
      intro H
      simp only at H
      rw [sumE_s (by omega), if_pos c] at H
      have start : x_Wp 999 241 (x_blk 241 7) [xR 50 0, xI coin, xJ (sumE w (fun e => if coin < P e then p_part w e else 0) i.toNat), xU, xI i, xI (x_bi (coin < S i)), xI i] [] σ (fun r σ' => r = some (xJ (sumE w (fun e => if coin < P e then p_part w e else 0) (w 0).toNat)) ∧ σ' = σ) := by
        refine x_lpV (α := Int × Int) (fun q => (0 ≤ q.1 ∧ q.1 < w 0) ∧ p_fr w (w 8) q.1 ∧ (q.2 = 0 ∨ q.2 = 1) ∧ (coin < P i ↔ (q.2 = 1 ∨ coin < (if q.1 = w 8 then 0 else P (w_of w q.1 0))))) (fun q => x_Wp 999 241 (x_blk 241 7) [xR 50 0, xI coin, xJ (sumE w (fun e => if coin < P e then p_part w e else 0) i.toNat), xU, xI i, xI q.2, xI q.1] [] σ (fun r σ' => r = some (xJ (sumE w (fun e => if coin < P e then p_part w e else 0) (w 0).toNat)) ∧ σ' = σ)) (fun q => q.1) (a0 := (i, x_bi (coin < S i))) ⟨⟨by (show 0 ≤ i; omega), i1⟩, cf, bi_01, ?_⟩ ?_
        · show coin < P i ↔ (x_bi (coin < S i) = 1 ∨ coin < (if i = w 8 then 0 else P (w_of w i 0)))
          rw [hP i (by omega) i1 cf, bi_1]
          generalize (if i = w 8 then 0 else P (w_of w i 0)) = z
          omega
        · intro ⟨k, ls⟩ ⟨⟨k0, k1⟩, kf, kl, ki⟩
          simp only at k0 k1 kf kl ki ⊢
          by_cases ck : k = w 8
          · refine Or.inl ?_
            rw [if_pos ck] at ki
            have e : ls = x_bi (coin < P i) := by
              rcases kl with z | z
              · rw [z, bi_f]
                intro y
                have := ki.mp y
                omega
              · rw [z, bi_t (ki.mpr (Or.inl z))]
            subst ck
            rw [bk_241_7, e]
            rw [e] at kl
            by_cases cp : coin < P i
            · rw [if_pos cp] at H
              rw [bi_t cp] at H ⊢
              simp (disch := first | omega | (simp only [x_wtI, x_wtJ, x_wtR, x_wtN]; omega) | assumption | (simp (disch := omega) only [x_st_o, x_rd_ne]; first | assumption | omega) | (apply mir_eq; assumption; (intro c h1 h2; simp (disch := omega) only [x_st_o])) | (apply mis_eq; assumption; (intro c h1 h2; simp (disch := omega) only [x_st_o])) | rfl) only [bk_241_0, bk_241_1, bk_241_2, bk_241_4, bk_241_5, bk_241_6, bk_241_8, bk_241_9, bk_241_10, bk_241_11, bk_241_12, bk_241_13, bk_241_14, bk_241_15, wp_ild1, wp_i2l, wp_lc, wk_169, wp_ifeq, wp_ald0, wk_224, wp_ic, wp_iceq, wp_fall, wp_lret, wp_lst2, wr_50_1, wl_51, wp_cald, wp_ist4, wp_ild4, wp_icge, wk_226, wp_ifne, wp_goto, wr_50_27, wl_64, wp_pald, wp_lcmp, wp_ifle, wp_ist5, wp_ist6, wp_ild6, wp_ild5, wk_192, wp_lld2, wk_242, wp_ladd, wp_inc4, x_clr_I, x_clr_J, x_clr_R, x_clr_U, ct_some, ct_none, lc_lt, lc_ge, lc_gt, lc_le, lc_eq, lc_r, xI_inj, xJ_inj, Option.some.injEq, eq_self, bi_r, bi_0, bi_1, bi_n, Classical.not_not, and_true, true_and, ite_true, ite_false, ↓reduceIte, ↓x_andl, z_le, z_nle, z_lt, z_nlt, z_eq, z_neq, if_pos, if_neg, x_andl, false_and, and_false, or_true, true_or, or_false, false_or, not_true, not_false_iff, x_rd_eq, x_rd_ne, x_st_o, Int.cast_ofNat_Int, Int.ofNat_zero, Int.ofNat_one, not_true_eq_false, not_false_eq_true, if_true, if_false, ite_self, and_self, Int.ofNat_eq_natCast, Int.tdiv_eq_ediv_of_nonneg, Int.tmod_eq_emod_of_nonneg, x_bm32, h51, k_chanceOf]
              exact H
            · rw [if_neg cp] at H
              rw [bi_f cp] at H ⊢
              simp (disch := first | omega | (simp only [x_wtI, x_wtJ, x_wtR, x_wtN]; omega) | assumption | (simp (disch := omega) only [x_st_o, x_rd_ne]; first | assumption | omega) | (apply mir_eq; assumption; (intro c h1 h2; simp (disch := omega) only [x_st_o])) | (apply mis_eq; assumption; (intro c h1 h2; simp (disch := omega) only [x_st_o])) | rfl) only [bk_241_0, bk_241_1, bk_241_2, bk_241_4, bk_241_5, bk_241_6, bk_241_8, bk_241_9, bk_241_10, bk_241_11, bk_241_12, bk_241_13, bk_241_14, bk_241_15, wp_ild1, wp_i2l, wp_lc, wk_169, wp_ifeq, wp_ald0, wk_224, wp_ic, wp_iceq, wp_fall, wp_lret, wp_lst2, wr_50_1, wl_51, wp_cald, wp_ist4, wp_ild4, wp_icge, wk_226, wp_ifne, wp_goto, wr_50_27, wl_64, wp_pald, wp_lcmp, wp_ifle, wp_ist5, wp_ist6, wp_ild6, wp_ild5, wk_192, wp_lld2, wk_242, wp_ladd, wp_inc4, x_clr_I, x_clr_J, x_clr_R, x_clr_U, ct_some, ct_none, lc_lt, lc_ge, lc_gt, lc_le, lc_eq, lc_r, xI_inj, xJ_inj, Option.some.injEq, eq_self, bi_r, bi_0, bi_1, bi_n, Classical.not_not, and_true, true_and, ite_true, ite_false, ↓reduceIte, ↓x_andl, z_le, z_nle, z_lt, z_nlt, z_eq, z_neq, if_pos, if_neg, x_andl, false_and, and_false, or_true, true_or, or_false, false_or, not_true, not_false_iff, x_rd_eq, x_rd_ne, x_st_o, Int.cast_ofNat_Int, Int.ofNat_zero, Int.ofNat_one, not_true_eq_false, not_false_eq_true, if_true, if_false, ite_self, and_self, Int.ofNat_eq_natCast, Int.tdiv_eq_ediv_of_nonneg, Int.tmod_eq_emod_of_nonneg, x_bm32, h51]
              exact H
          · have u := fr_par hw hn8.1 kf ck k1
            obtain ⟨t1, t2⟩ := hS _ u.2.1 (by omega) u.1
            have eP := hP _ u.2.1 (show w_of w k 0 < w 0 by omega) u.1
            rw [if_neg ck] at ki
            refine Or.inr ⟨k0, (w_of w k 0, x_bi (ls = 1 ∨ coin < S (w_of w k 0))), ⟨⟨u.2.1, by (show w_of w k 0 < w 0; omega)⟩, u.1, bi_01, ?_⟩, u.2.2.1, ?_⟩
            · show coin < P i ↔ (x_bi (ls = 1 ∨ coin < S (w_of w k 0)) = 1 ∨ coin < (if w_of w k 0 = w 8 then 0 else P (w_of w (w_of w k 0) 0)))
              rw [ki, bi_1, eP]
              generalize (if w_of w k 0 = w 8 then 0 else P (w_of w (w_of w k 0) 0)) = z
              omega
            · intro H2
              simp only at H2
              rw [bk_241_7]
              rcases kl with z | z
              · by_cases c3 : coin < S (w_of w k 0)
                · rw [bi_t (Or.inr c3)] at H2
                  simp (disch := first | omega | (simp only [x_wtI, x_wtJ, x_wtR, x_wtN]; omega) | assumption | (simp (disch := omega) only [x_st_o, x_rd_ne]; first | assumption | omega) | (apply mir_eq; assumption; (intro c h1 h2; simp (disch := omega) only [x_st_o])) | (apply mis_eq; assumption; (intro c h1 h2; simp (disch := omega) only [x_st_o])) | rfl) only [bk_241_0, bk_241_1, bk_241_2, bk_241_4, bk_241_5, bk_241_6, bk_241_8, bk_241_9, bk_241_10, bk_241_11, bk_241_12, bk_241_13, bk_241_14, bk_241_15, wp_ild1, wp_i2l, wp_lc, wk_169, wp_ifeq, wp_ald0, wk_224, wp_ic, wp_iceq, wp_fall, wp_lret, wp_lst2, wr_50_1, wl_51, wp_cald, wp_ist4, wp_ild4, wp_icge, wk_226, wp_ifne, wp_goto, wr_50_27, wl_64, wp_pald, wp_lcmp, wp_ifle, wp_ist5, wp_ist6, wp_ild6, wp_ild5, wk_192, wp_lld2, wk_242, wp_ladd, wp_inc4, x_clr_I, x_clr_J, x_clr_R, x_clr_U, ct_some, ct_none, lc_lt, lc_ge, lc_gt, lc_le, lc_eq, lc_r, xI_inj, xJ_inj, Option.some.injEq, eq_self, bi_r, bi_0, bi_1, bi_n, Classical.not_not, and_true, true_and, ite_true, ite_false, ↓reduceIte, ↓x_andl, z_le, z_nle, z_lt, z_nlt, z_eq, z_neq, if_pos, if_neg, x_andl, false_and, and_false, or_true, true_or, or_false, false_or, not_true, not_false_iff, x_rd_eq, x_rd_ne, x_st_o, Int.cast_ofNat_Int, Int.ofNat_zero, Int.ofNat_one, not_true_eq_false, not_false_eq_true, if_true, if_false, ite_self, and_self, Int.ofNat_eq_natCast, Int.tdiv_eq_ediv_of_nonneg, Int.tmod_eq_emod_of_nonneg, x_bm32, h51, k_of, z, t1]
                  exact H2
                · rw [bi_f (fun y => by omega)] at H2
                  simp (disch := first | omega | (simp only [x_wtI, x_wtJ, x_wtR, x_wtN]; omega) | assumption | (simp (disch := omega) only [x_st_o, x_rd_ne]; first | assumption | omega) | (apply mir_eq; assumption; (intro c h1 h2; simp (disch := omega) only [x_st_o])) | (apply mis_eq; assumption; (intro c h1 h2; simp (disch := omega) only [x_st_o])) | rfl) only [bk_241_0, bk_241_1, bk_241_2, bk_241_4, bk_241_5, bk_241_6, bk_241_8, bk_241_9, bk_241_10, bk_241_11, bk_241_12, bk_241_13, bk_241_14, bk_241_15, wp_ild1, wp_i2l, wp_lc, wk_169, wp_ifeq, wp_ald0, wk_224, wp_ic, wp_iceq, wp_fall, wp_lret, wp_lst2, wr_50_1, wl_51, wp_cald, wp_ist4, wp_ild4, wp_icge, wk_226, wp_ifne, wp_goto, wr_50_27, wl_64, wp_pald, wp_lcmp, wp_ifle, wp_ist5, wp_ist6, wp_ild6, wp_ild5, wk_192, wp_lld2, wk_242, wp_ladd, wp_inc4, x_clr_I, x_clr_J, x_clr_R, x_clr_U, ct_some, ct_none, lc_lt, lc_ge, lc_gt, lc_le, lc_eq, lc_r, xI_inj, xJ_inj, Option.some.injEq, eq_self, bi_r, bi_0, bi_1, bi_n, Classical.not_not, and_true, true_and, ite_true, ite_false, ↓reduceIte, ↓x_andl, z_le, z_nle, z_lt, z_nlt, z_eq, z_neq, if_pos, if_neg, x_andl, false_and, and_false, or_true, true_or, or_false, false_or, not_true, not_false_iff, x_rd_eq, x_rd_ne, x_st_o, Int.cast_ofNat_Int, Int.ofNat_zero, Int.ofNat_one, not_true_eq_false, not_false_eq_true, if_true, if_false, ite_self, and_self, Int.ofNat_eq_natCast, Int.tdiv_eq_ediv_of_nonneg, Int.tmod_eq_emod_of_nonneg, x_bm32, h51, k_of, z, t1]
                  exact H2
              · rw [bi_t (Or.inl z)] at H2
                simp (disch := first | omega | (simp only [x_wtI, x_wtJ, x_wtR, x_wtN]; omega) | assumption | (simp (disch := omega) only [x_st_o, x_rd_ne]; first | assumption | omega) | (apply mir_eq; assumption; (intro c h1 h2; simp (disch := omega) only [x_st_o])) | (apply mis_eq; assumption; (intro c h1 h2; simp (disch := omega) only [x_st_o])) | rfl) only [bk_241_0, bk_241_1, bk_241_2, bk_241_4, bk_241_5, bk_241_6, bk_241_8, bk_241_9, bk_241_10, bk_241_11, bk_241_12, bk_241_13, bk_241_14, bk_241_15, wp_ild1, wp_i2l, wp_lc, wk_169, wp_ifeq, wp_ald0, wk_224, wp_ic, wp_iceq, wp_fall, wp_lret, wp_lst2, wr_50_1, wl_51, wp_cald, wp_ist4, wp_ild4, wp_icge, wk_226, wp_ifne, wp_goto, wr_50_27, wl_64, wp_pald, wp_lcmp, wp_ifle, wp_ist5, wp_ist6, wp_ild6, wp_ild5, wk_192, wp_lld2, wk_242, wp_ladd, wp_inc4, x_clr_I, x_clr_J, x_clr_R, x_clr_U, ct_some, ct_none, lc_lt, lc_ge, lc_gt, lc_le, lc_eq, lc_r, xI_inj, xJ_inj, Option.some.injEq, eq_self, bi_r, bi_0, bi_1, bi_n, Classical.not_not, and_true, true_and, ite_true, ite_false, ↓reduceIte, ↓x_andl, z_le, z_nle, z_lt, z_nlt, z_eq, z_neq, if_pos, if_neg, x_andl, false_and, and_false, or_true, true_or, or_false, false_or, not_true, not_false_iff, x_rd_eq, x_rd_ne, x_st_o, Int.cast_ofNat_Int, Int.ofNat_zero, Int.ofNat_one, not_true_eq_false, not_false_eq_true, if_true, if_false, ite_self, and_self, Int.ofNat_eq_natCast, Int.tdiv_eq_ediv_of_nonneg, Int.tmod_eq_emod_of_nonneg, x_bm32, h51, k_of, z]
                exact H2
      rw [bk_241_3]
      by_cases c2 : coin < S i
      · rw [bi_t c2] at start
        simp (disch := first | omega | (simp only [x_wtI, x_wtJ, x_wtR, x_wtN]; omega) | assumption | (simp (disch := omega) only [x_st_o, x_rd_ne]; first | assumption | omega) | (apply mir_eq; assumption; (intro c h1 h2; simp (disch := omega) only [x_st_o])) | (apply mis_eq; assumption; (intro c h1 h2; simp (disch := omega) only [x_st_o])) | rfl) only [bk_241_0, bk_241_1, bk_241_2, bk_241_4, bk_241_5, bk_241_6, bk_241_8, bk_241_9, bk_241_10, bk_241_11, bk_241_12, bk_241_13, bk_241_14, bk_241_15, wp_ild1, wp_i2l, wp_lc, wk_169, wp_ifeq, wp_ald0, wk_224, wp_ic, wp_iceq, wp_fall, wp_lret, wp_lst2, wr_50_1, wl_51, wp_cald, wp_ist4, wp_ild4, wp_icge, wk_226, wp_ifne, wp_goto, wr_50_27, wl_64, wp_pald, wp_lcmp, wp_ifle, wp_ist5, wp_ist6, wp_ild6, wp_ild5, wk_192, wp_lld2, wk_242, wp_ladd, wp_inc4, x_clr_I, x_clr_J, x_clr_R, x_clr_U, ct_some, ct_none, lc_lt, lc_ge, lc_gt, lc_le, lc_eq, lc_r, xI_inj, xJ_inj, Option.some.injEq, eq_self, bi_r, bi_0, bi_1, bi_n, Classical.not_not, and_true, true_and, ite_true, ite_false, ↓reduceIte, ↓x_andl, z_le, z_nle, z_lt, z_nlt, z_eq, z_neq, if_pos, if_neg, x_andl, false_and, and_false, or_true, true_or, or_false, false_or, not_true, not_false_iff, x_rd_eq, x_rd_ne, x_st_o, Int.cast_ofNat_Int, Int.ofNat_zero, Int.ofNat_one, not_true_eq_false, not_false_eq_true, if_true, if_false, ite_self, and_self, Int.ofNat_eq_natCast, Int.tdiv_eq_ediv_of_nonneg, Int.tmod_eq_emod_of_nonneg, x_bm32, h51, k_isAnEnd, bi_t, s1]
        exact start
      · rw [bi_f c2] at start
        simp (disch := first | omega | (simp only [x_wtI, x_wtJ, x_wtR, x_wtN]; omega) | assumption | (simp (disch := omega) only [x_st_o, x_rd_ne]; first | assumption | omega) | (apply mir_eq; assumption; (intro c h1 h2; simp (disch := omega) only [x_st_o])) | (apply mis_eq; assumption; (intro c h1 h2; simp (disch := omega) only [x_st_o])) | rfl) only [bk_241_0, bk_241_1, bk_241_2, bk_241_4, bk_241_5, bk_241_6, bk_241_8, bk_241_9, bk_241_10, bk_241_11, bk_241_12, bk_241_13, bk_241_14, bk_241_15, wp_ild1, wp_i2l, wp_lc, wk_169, wp_ifeq, wp_ald0, wk_224, wp_ic, wp_iceq, wp_fall, wp_lret, wp_lst2, wr_50_1, wl_51, wp_cald, wp_ist4, wp_ild4, wp_icge, wk_226, wp_ifne, wp_goto, wr_50_27, wl_64, wp_pald, wp_lcmp, wp_ifle, wp_ist5, wp_ist6, wp_ild6, wp_ild5, wk_192, wp_lld2, wk_242, wp_ladd, wp_inc4, x_clr_I, x_clr_J, x_clr_R, x_clr_U, ct_some, ct_none, lc_lt, lc_ge, lc_gt, lc_le, lc_eq, lc_r, xI_inj, xJ_inj, Option.some.injEq, eq_self, bi_r, bi_0, bi_1, bi_n, Classical.not_not, and_true, true_and, ite_true, ite_false, ↓reduceIte, ↓x_andl, z_le, z_nle, z_lt, z_nlt, z_eq, z_neq, if_pos, if_neg, x_andl, false_and, and_false, or_true, true_or, or_false, false_or, not_true, not_false_iff, x_rd_eq, x_rd_ne, x_st_o, Int.cast_ofNat_Int, Int.ofNat_zero, Int.ofNat_one, not_true_eq_false, not_false_eq_true, if_true, if_false, ite_self, and_self, Int.ofNat_eq_natCast, Int.tdiv_eq_ediv_of_nonneg, Int.tmod_eq_emod_of_nonneg, x_bm32, h51, k_isAnEnd, bi_t, s1]
        exact start
    · refine ⟨(sumE w (fun e => if coin < P e then p_part w e else 0) (i + 1).toNat, u1, u2), rfl, ?_⟩
      intro H
      simp only at H
      rw [sumE_s (by omega), if_neg c, Int.add_zero] at H
      rw [bk_241_3]
      simp (disch := first | omega | (simp only [x_wtI, x_wtJ, x_wtR, x_wtN]; omega) | assumption | (simp (disch := omega) only [x_st_o, x_rd_ne]; first | assumption | omega) | (apply mir_eq; assumption; (intro c h1 h2; simp (disch := omega) only [x_st_o])) | (apply mis_eq; assumption; (intro c h1 h2; simp (disch := omega) only [x_st_o])) | rfl) only [bk_241_0, bk_241_1, bk_241_2, bk_241_4, bk_241_5, bk_241_6, bk_241_8, bk_241_9, bk_241_10, bk_241_11, bk_241_12, bk_241_13, bk_241_14, bk_241_15, wp_ild1, wp_i2l, wp_lc, wk_169, wp_ifeq, wp_ald0, wk_224, wp_ic, wp_iceq, wp_fall, wp_lret, wp_lst2, wr_50_1, wl_51, wp_cald, wp_ist4, wp_ild4, wp_icge, wk_226, wp_ifne, wp_goto, wr_50_27, wl_64, wp_pald, wp_lcmp, wp_ifle, wp_ist5, wp_ist6, wp_ild6, wp_ild5, wk_192, wp_lld2, wk_242, wp_ladd, wp_inc4, x_clr_I, x_clr_J, x_clr_R, x_clr_U, ct_some, ct_none, lc_lt, lc_ge, lc_gt, lc_le, lc_eq, lc_r, xI_inj, xJ_inj, Option.some.injEq, eq_self, bi_r, bi_0, bi_1, bi_n, Classical.not_not, and_true, true_and, ite_true, ite_false, ↓reduceIte, ↓x_andl, z_le, z_nle, z_lt, z_nlt, z_eq, z_neq, if_pos, if_neg, x_andl, false_and, and_false, or_true, true_or, or_false, false_or, not_true, not_false_iff, x_rd_eq, x_rd_ne, x_st_o, Int.cast_ofNat_Int, Int.ofNat_zero, Int.ofNat_one, not_true_eq_false, not_false_eq_true, if_true, if_false, ite_self, and_self, Int.ofNat_eq_natCast, Int.tdiv_eq_ediv_of_nonneg, Int.tmod_eq_emod_of_nonneg, x_bm32, h51, k_isAnEnd, bi_f]
      exact H
  · intro ⟨sm, u1, u2⟩ hJ
    simp only at hJ ⊢
    subst hJ
    rw [bk_241_3]
    simp (disch := first | omega | (simp only [x_wtI, x_wtJ, x_wtR, x_wtN]; omega) | assumption | (simp (disch := omega) only [x_st_o, x_rd_ne]; first | assumption | omega) | (apply mir_eq; assumption; (intro c h1 h2; simp (disch := omega) only [x_st_o])) | (apply mis_eq; assumption; (intro c h1 h2; simp (disch := omega) only [x_st_o])) | rfl) only [bk_241_0, bk_241_1, bk_241_2, bk_241_4, bk_241_5, bk_241_6, bk_241_8, bk_241_9, bk_241_10, bk_241_11, bk_241_12, bk_241_13, bk_241_14, bk_241_15, wp_ild1, wp_i2l, wp_lc, wk_169, wp_ifeq, wp_ald0, wk_224, wp_ic, wp_iceq, wp_fall, wp_lret, wp_lst2, wr_50_1, wl_51, wp_cald, wp_ist4, wp_ild4, wp_icge, wk_226, wp_ifne, wp_goto, wr_50_27, wl_64, wp_pald, wp_lcmp, wp_ifle, wp_ist5, wp_ist6, wp_ild6, wp_ild5, wk_192, wp_lld2, wk_242, wp_ladd, wp_inc4, x_clr_I, x_clr_J, x_clr_R, x_clr_U, ct_some, ct_none, lc_lt, lc_ge, lc_gt, lc_le, lc_eq, lc_r, xI_inj, xJ_inj, Option.some.injEq, eq_self, bi_r, bi_0, bi_1, bi_n, Classical.not_not, and_true, true_and, ite_true, ite_false, ↓reduceIte, ↓x_andl, z_le, z_nle, z_lt, z_nlt, z_eq, z_neq, if_pos, if_neg, x_andl, false_and, and_false, or_true, true_or, or_false, false_or, not_true, not_false_iff, x_rd_eq, x_rd_ne, x_st_o, Int.cast_ofNat_Int, Int.ofNat_zero, Int.ofNat_one, not_true_eq_false, not_false_eq_true, if_true, if_false, ite_self, and_self, Int.ofNat_eq_natCast, Int.tdiv_eq_ediv_of_nonneg, Int.tmod_eq_emod_of_nonneg, x_bm32, h51]
theorem part_sum_r {w g : Int → Int} (hw : wf w) (h100 : wf_100 w) (hn : wn w) (hg : ∀ f, g f = p_part w f ∨ g f = 0) : -9223372036854775808 ≤ sumE w g (w 0).toNat ∧ sumE w g (w 0).toNat ≤ 9223372036854775807 := by
  have a := wf_h hw
  unfold wf_hdr at a
  have := sumE_b (w := w) (g := g) (N := w 0) (B := 100000000) (by omega) (fun f f0 f1 _ => by
    have := part_r hw h100 hn.1 f0 f1
    rcases hg f with z | z <;> omega) (w 0).toNat (by omega)
  omega
theorem o_ruin : x_o32 (iN L S0) := by
  intro σ hh coin hcn
  refine ag_J ?_
  obtain ⟨w, h51, hw, h100, hn, hq, hM, hS⟩ := iN_w hh
  have hE := hh.2.2.2.1.1
  have a := wf_h hw
  unfold wf_hdr at a
  simp (disch := first | omega | (simp only [x_wtI, x_wtJ, x_wtR, x_wtN]; omega) | assumption | (simp (disch := omega) only [x_st_o, x_rd_ne]; first | assumption | omega) | (apply mir_eq; assumption; (intro c h1 h2; simp (disch := omega) only [x_st_o])) | (apply mis_eq; assumption; (intro c h1 h2; simp (disch := omega) only [x_st_o])) | rfl) only [sp_144, bk_144_0, bk_144_1, bk_144_2, bk_144_4, bk_144_5, wp_ald0, wr_0_9, wk_77, wp_ild1, wp_iflt, wp_ic, wp_icgt, wp_geti kd_33, wp_iceq, wp_fall, wp_lc, wp_lret, wp_lst2, wp_ist4, wp_ild4, wr_0_2, wr_20_0, wp_geti kd_6, wp_icge, wk_82, wp_ifeq, wr_33_8, wl_41, wp_cald, wp_icle, wp_lld2, wr_33_9, wl_42, wp_pald, wp_ladd, wp_inc4, wp_goto, x_clr_I, x_clr_J, x_clr_R, x_clr_U, ct_some, ct_none, lc_lt, lc_ge, lc_gt, lc_le, lc_eq, lc_r, xI_inj, xJ_inj, Option.some.injEq, eq_self, bi_r, bi_0, bi_1, bi_n, Classical.not_not, and_true, true_and, ite_true, ite_false, ↓reduceIte, ↓x_andl, z_le, z_nle, z_lt, z_nlt, z_eq, z_neq, if_pos, if_neg, x_andl, false_and, and_false, or_true, true_or, or_false, false_or, not_true, not_false_iff, x_rd_eq, x_rd_ne, x_st_o, Int.cast_ofNat_Int, Int.ofNat_zero, Int.ofNat_one, not_true_eq_false, not_false_eq_true, if_true, if_false, ite_self, and_self, Int.ofNat_eq_natCast, Int.tdiv_eq_ediv_of_nonneg, Int.tmod_eq_emod_of_nonneg, x_bm32]
  refine x_use (d := 994) (h_follow hM hS hw h100 hn hq) ?_
  rintro r σ1 ⟨rfl, e1, f1⟩
  have g51 : σ1 51 0 = w := (e1 51 0 (by decide)).trans h51
  have gE : σ1 50 0 17 = 5 := by rw [e1 50 0 (by decide)]; exact hE
  have hM1 : mir σ1 1 w := mir_eq hM (fun c q1 q2 => e1 c 1 (by simp))
  have fin : ∀ σ2, x_eqo [(62, 0), (63, 0), (64, 0)] σ1 σ2 → iN L S0 σ2 := fun σ2 e2 => iN_e hh (eqo_trans (eqo_mono (T := [(33, 0), (34, 0), (35, 0), (36, 0), (37, 0), (38, 0), (39, 0), (40, 0), (41, 0), (42, 0), (62, 0), (63, 0), (64, 0)]) (by simp) e1) (eqo_mono (by simp) e2)) (by decide)
  have sr : -1 ≤ σ1 33 0 10 ∧ σ1 33 0 10 < 40 := by
    rcases f1.2.2.2.1 with ⟨z, _⟩ | ⟨z, _⟩ <;> omega
  by_cases c1 : 0 ≤ coin ∧ coin ≤ 99999
  · by_cases c2 : σ1 33 0 10 = -1
    · have ns : ∀ g, 0 ≤ g → g < w 0 → ¬ (¬ cC σ1 g = -1 ∧ cV σ1 g = -1) := by
        rcases f1.2.2.2.1 with ⟨_, z⟩ | ⟨z, _⟩
        · exact z
        · omega
      have al : ∀ f, 0 ≤ f → f < w 0 → p_fr w (w 8) f → ¬ cV σ1 f = -1 := fun f f0 f1' => all_law hw hn f1.2.1 ns (f + 1).toNat f f0 (by omega) f1'
      simp (disch := first | omega | (simp only [x_wtI, x_wtJ, x_wtR, x_wtN]; omega) | assumption | (simp (disch := omega) only [x_st_o, x_rd_ne]; first | assumption | omega) | (apply mir_eq; assumption; (intro c h1 h2; simp (disch := omega) only [x_st_o])) | (apply mis_eq; assumption; (intro c h1 h2; simp (disch := omega) only [x_st_o])) | rfl) only [bk_144_0, bk_144_1, bk_144_2, bk_144_4, bk_144_5, wp_ald0, wr_0_9, wk_77, wp_ild1, wp_iflt, wp_ic, wp_icgt, wp_geti kd_33, wp_iceq, wp_fall, wp_lc, wp_lret, wp_lst2, wp_ist4, wp_ild4, wr_0_2, wr_20_0, wp_geti kd_6, wp_icge, wk_82, wp_ifeq, wr_33_8, wl_41, wp_cald, wp_icle, wp_lld2, wr_33_9, wl_42, wp_pald, wp_ladd, wp_inc4, wp_goto, x_clr_I, x_clr_J, x_clr_R, x_clr_U, ct_some, ct_none, lc_lt, lc_ge, lc_gt, lc_le, lc_eq, lc_r, xI_inj, xJ_inj, Option.some.injEq, eq_self, bi_r, bi_0, bi_1, bi_n, Classical.not_not, and_true, true_and, ite_true, ite_false, ↓reduceIte, ↓x_andl, z_le, z_nle, z_lt, z_nlt, z_eq, z_neq, if_pos, if_neg, x_andl, false_and, and_false, or_true, true_or, or_false, false_or, not_true, not_false_iff, x_rd_eq, x_rd_ne, x_st_o, Int.cast_ofNat_Int, Int.ofNat_zero, Int.ofNat_one, not_true_eq_false, not_false_eq_true, if_true, if_false, ite_self, and_self, Int.ofNat_eq_natCast, Int.tdiv_eq_ediv_of_nonneg, Int.tmod_eq_emod_of_nonneg, x_bm32, c2]
      refine x_mono (h_ruinC hM1 hw h100 hn hq f1 c1 al) ?_
      rintro r σ' ⟨rfl, rfl⟩
      refine ⟨_, rfl, fun j i => by rw [e1 100 j (by simp)], part_sum_r hw h100 hn (fun f => by by_cases z : coin < σ' 41 0 f; exact Or.inl (if_pos z); exact Or.inr (if_neg z)), ?_⟩
      simp (disch := first | omega | (simp only [x_wtI, x_wtJ, x_wtR, x_wtN]; omega) | assumption | (simp (disch := omega) only [x_st_o, x_rd_ne]; first | assumption | omega) | (apply mir_eq; assumption; (intro c h1 h2; simp (disch := omega) only [x_st_o])) | (apply mis_eq; assumption; (intro c h1 h2; simp (disch := omega) only [x_st_o])) | rfl) only [sp_241, bk_241_0, bk_241_1, bk_241_2, bk_241_4, bk_241_5, bk_241_6, bk_241_8, bk_241_9, bk_241_10, bk_241_11, bk_241_12, bk_241_13, bk_241_14, bk_241_15, wp_ild1, wp_i2l, wp_lc, wk_169, wp_ifeq, wp_ald0, wk_224, wp_ic, wp_iceq, wp_fall, wp_lret, wp_lst2, wr_50_1, wl_51, wp_cald, wp_ist4, wp_ild4, wp_icge, wk_226, wp_ifne, wp_goto, wr_50_27, wl_64, wp_pald, wp_lcmp, wp_ifle, wp_ist5, wp_ist6, wp_ild6, wp_ild5, wk_192, wp_lld2, wk_242, wp_ladd, wp_inc4, x_clr_I, x_clr_J, x_clr_R, x_clr_U, ct_some, ct_none, lc_lt, lc_ge, lc_gt, lc_le, lc_eq, lc_r, xI_inj, xJ_inj, Option.some.injEq, eq_self, bi_r, bi_0, bi_1, bi_n, Classical.not_not, and_true, true_and, ite_true, ite_false, ↓reduceIte, ↓x_andl, z_le, z_nle, z_lt, z_nlt, z_eq, z_neq, if_pos, if_neg, x_andl, false_and, and_false, or_true, true_or, or_false, false_or, not_true, not_false_iff, x_rd_eq, x_rd_ne, x_st_o, Int.cast_ofNat_Int, Int.ofNat_zero, Int.ofNat_one, not_true_eq_false, not_false_eq_true, if_true, if_false, ite_self, and_self, Int.ofNat_eq_natCast, Int.tdiv_eq_ediv_of_nonneg, Int.tmod_eq_emod_of_nonneg, x_bm32, c_in, bi_t]
      refine x_use (d := 993) (h_stops g51 gE hw hn hq) ?_
      rintro r σ2 ⟨s, rfl, e2, k2, s2, _⟩
      have u := wk_uniq hw hn.1 (Int.le_refl _) f1.2.1 k2
      have s0 : s = -1 := by
        rw [← c2]
        exact stm_uniq s2 (stm_cg (fun f f0 f1 => ⟨(u f f0 f1).1.symm, (u f f0 f1).2.1.symm⟩) f1.2.2.2.1)
      subst s0
      have g2 : σ2 51 0 = w := (e2 51 0 (by decide)).trans g51
      have hn8 := hn.1
      simp (disch := first | omega | (simp only [x_wtI, x_wtJ, x_wtR, x_wtN]; omega) | assumption | (simp (disch := omega) only [x_st_o, x_rd_ne]; first | assumption | omega) | (apply mir_eq; assumption; (intro c h1 h2; simp (disch := omega) only [x_st_o])) | (apply mis_eq; assumption; (intro c h1 h2; simp (disch := omega) only [x_st_o])) | rfl) only [bk_241_0, bk_241_1, bk_241_2, bk_241_4, bk_241_5, bk_241_6, bk_241_8, bk_241_9, bk_241_10, bk_241_11, bk_241_12, bk_241_13, bk_241_14, bk_241_15, wp_ild1, wp_i2l, wp_lc, wk_169, wp_ifeq, wp_ald0, wk_224, wp_ic, wp_iceq, wp_fall, wp_lret, wp_lst2, wr_50_1, wl_51, wp_cald, wp_ist4, wp_ild4, wp_icge, wk_226, wp_ifne, wp_goto, wr_50_27, wl_64, wp_pald, wp_lcmp, wp_ifle, wp_ist5, wp_ist6, wp_ild6, wp_ild5, wk_192, wp_lld2, wk_242, wp_ladd, wp_inc4, x_clr_I, x_clr_J, x_clr_R, x_clr_U, ct_some, ct_none, lc_lt, lc_ge, lc_gt, lc_le, lc_eq, lc_r, xI_inj, xJ_inj, Option.some.injEq, eq_self, bi_r, bi_0, bi_1, bi_n, Classical.not_not, and_true, true_and, ite_true, ite_false, ↓reduceIte, ↓x_andl, z_le, z_nle, z_lt, z_nlt, z_eq, z_neq, if_pos, if_neg, x_andl, false_and, and_false, or_true, true_or, or_false, false_or, not_true, not_false_iff, x_rd_eq, x_rd_ne, x_st_o, Int.cast_ofNat_Int, Int.ofNat_zero, Int.ofNat_one, not_true_eq_false, not_false_eq_true, if_true, if_false, ite_self, and_self, Int.ofNat_eq_natCast, Int.tdiv_eq_ediv_of_nonneg, Int.tmod_eq_emod_of_nonneg, x_bm32, g2]
      refine x_mono (h_ruinM (S := σ' 40 0) (P := σ' 41 0) g2 hw h100 hn c1 (fun f f0 f1' g => ⟨((u f f0 f1').2.2 (al f f0 f1' g)).symm, f1.2.2.2.2.2 f f0 f1'⟩) (fun f f0 f1' g => f1.2.2.1 f f0 f1' (al f f0 f1' g))) ?_
      rintro r σ3 ⟨rfl, rfl⟩
      exact ⟨rfl, fin _ e2⟩
    · simp (disch := first | omega | (simp only [x_wtI, x_wtJ, x_wtR, x_wtN]; omega) | assumption | (simp (disch := omega) only [x_st_o, x_rd_ne]; first | assumption | omega) | (apply mir_eq; assumption; (intro c h1 h2; simp (disch := omega) only [x_st_o])) | (apply mis_eq; assumption; (intro c h1 h2; simp (disch := omega) only [x_st_o])) | rfl) only [bk_144_0, bk_144_1, bk_144_2, bk_144_4, bk_144_5, wp_ald0, wr_0_9, wk_77, wp_ild1, wp_iflt, wp_ic, wp_icgt, wp_geti kd_33, wp_iceq, wp_fall, wp_lc, wp_lret, wp_lst2, wp_ist4, wp_ild4, wr_0_2, wr_20_0, wp_geti kd_6, wp_icge, wk_82, wp_ifeq, wr_33_8, wl_41, wp_cald, wp_icle, wp_lld2, wr_33_9, wl_42, wp_pald, wp_ladd, wp_inc4, wp_goto, x_clr_I, x_clr_J, x_clr_R, x_clr_U, ct_some, ct_none, lc_lt, lc_ge, lc_gt, lc_le, lc_eq, lc_r, xI_inj, xJ_inj, Option.some.injEq, eq_self, bi_r, bi_0, bi_1, bi_n, Classical.not_not, and_true, true_and, ite_true, ite_false, ↓reduceIte, ↓x_andl, z_le, z_nle, z_lt, z_nlt, z_eq, z_neq, if_pos, if_neg, x_andl, false_and, and_false, or_true, true_or, or_false, false_or, not_true, not_false_iff, x_rd_eq, x_rd_ne, x_st_o, Int.cast_ofNat_Int, Int.ofNat_zero, Int.ofNat_one, not_true_eq_false, not_false_eq_true, if_true, if_false, ite_self, and_self, Int.ofNat_eq_natCast, Int.tdiv_eq_ediv_of_nonneg, Int.tmod_eq_emod_of_nonneg, x_bm32]
      refine ⟨_, rfl, fun j i => by rw [e1 100 j (by simp)], by omega, ?_⟩
      simp (disch := first | omega | (simp only [x_wtI, x_wtJ, x_wtR, x_wtN]; omega) | assumption | (simp (disch := omega) only [x_st_o, x_rd_ne]; first | assumption | omega) | (apply mir_eq; assumption; (intro c h1 h2; simp (disch := omega) only [x_st_o])) | (apply mis_eq; assumption; (intro c h1 h2; simp (disch := omega) only [x_st_o])) | rfl) only [sp_241, bk_241_0, bk_241_1, bk_241_2, bk_241_4, bk_241_5, bk_241_6, bk_241_8, bk_241_9, bk_241_10, bk_241_11, bk_241_12, bk_241_13, bk_241_14, bk_241_15, wp_ild1, wp_i2l, wp_lc, wk_169, wp_ifeq, wp_ald0, wk_224, wp_ic, wp_iceq, wp_fall, wp_lret, wp_lst2, wr_50_1, wl_51, wp_cald, wp_ist4, wp_ild4, wp_icge, wk_226, wp_ifne, wp_goto, wr_50_27, wl_64, wp_pald, wp_lcmp, wp_ifle, wp_ist5, wp_ist6, wp_ild6, wp_ild5, wk_192, wp_lld2, wk_242, wp_ladd, wp_inc4, x_clr_I, x_clr_J, x_clr_R, x_clr_U, ct_some, ct_none, lc_lt, lc_ge, lc_gt, lc_le, lc_eq, lc_r, xI_inj, xJ_inj, Option.some.injEq, eq_self, bi_r, bi_0, bi_1, bi_n, Classical.not_not, and_true, true_and, ite_true, ite_false, ↓reduceIte, ↓x_andl, z_le, z_nle, z_lt, z_nlt, z_eq, z_neq, if_pos, if_neg, x_andl, false_and, and_false, or_true, true_or, or_false, false_or, not_true, not_false_iff, x_rd_eq, x_rd_ne, x_st_o, Int.cast_ofNat_Int, Int.ofNat_zero, Int.ofNat_one, not_true_eq_false, not_false_eq_true, if_true, if_false, ite_self, and_self, Int.ofNat_eq_natCast, Int.tdiv_eq_ediv_of_nonneg, Int.tmod_eq_emod_of_nonneg, x_bm32, c_in, bi_t]
      refine x_use (d := 993) (h_stops g51 gE hw hn hq) ?_
      rintro r σ2 ⟨s, rfl, e2, k2, s2, sb⟩
      have u := wk_uniq hw hn.1 (Int.le_refl _) f1.2.1 k2
      have s0 : s = σ1 33 0 10 := stm_uniq s2 (stm_cg (fun f f0 f1 => ⟨(u f f0 f1).1.symm, (u f f0 f1).2.1.symm⟩) f1.2.2.2.1)
      simp (disch := first | omega | (simp only [x_wtI, x_wtJ, x_wtR, x_wtN]; omega) | assumption | (simp (disch := omega) only [x_st_o, x_rd_ne]; first | assumption | omega) | (apply mir_eq; assumption; (intro c h1 h2; simp (disch := omega) only [x_st_o])) | (apply mis_eq; assumption; (intro c h1 h2; simp (disch := omega) only [x_st_o])) | rfl) only [bk_241_0, bk_241_1, bk_241_2, bk_241_4, bk_241_5, bk_241_6, bk_241_8, bk_241_9, bk_241_10, bk_241_11, bk_241_12, bk_241_13, bk_241_14, bk_241_15, wp_ild1, wp_i2l, wp_lc, wk_169, wp_ifeq, wp_ald0, wk_224, wp_ic, wp_iceq, wp_fall, wp_lret, wp_lst2, wr_50_1, wl_51, wp_cald, wp_ist4, wp_ild4, wp_icge, wk_226, wp_ifne, wp_goto, wr_50_27, wl_64, wp_pald, wp_lcmp, wp_ifle, wp_ist5, wp_ist6, wp_ild6, wp_ild5, wk_192, wp_lld2, wk_242, wp_ladd, wp_inc4, x_clr_I, x_clr_J, x_clr_R, x_clr_U, ct_some, ct_none, lc_lt, lc_ge, lc_gt, lc_le, lc_eq, lc_r, xI_inj, xJ_inj, Option.some.injEq, eq_self, bi_r, bi_0, bi_1, bi_n, Classical.not_not, and_true, true_and, ite_true, ite_false, ↓reduceIte, ↓x_andl, z_le, z_nle, z_lt, z_nlt, z_eq, z_neq, if_pos, if_neg, x_andl, false_and, and_false, or_true, true_or, or_false, false_or, not_true, not_false_iff, x_rd_eq, x_rd_ne, x_st_o, Int.cast_ofNat_Int, Int.ofNat_zero, Int.ofNat_one, not_true_eq_false, not_false_eq_true, if_true, if_false, ite_self, and_self, Int.ofNat_eq_natCast, Int.tdiv_eq_ediv_of_nonneg, Int.tmod_eq_emod_of_nonneg, x_bm32]
      exact fin _ e2
  · by_cases c3 : coin < 0
    · simp (disch := first | omega | (simp only [x_wtI, x_wtJ, x_wtR, x_wtN]; omega) | assumption | (simp (disch := omega) only [x_st_o, x_rd_ne]; first | assumption | omega) | (apply mir_eq; assumption; (intro c h1 h2; simp (disch := omega) only [x_st_o])) | (apply mis_eq; assumption; (intro c h1 h2; simp (disch := omega) only [x_st_o])) | rfl) only [bk_144_0, bk_144_1, bk_144_2, bk_144_4, bk_144_5, wp_ald0, wr_0_9, wk_77, wp_ild1, wp_iflt, wp_ic, wp_icgt, wp_geti kd_33, wp_iceq, wp_fall, wp_lc, wp_lret, wp_lst2, wp_ist4, wp_ild4, wr_0_2, wr_20_0, wp_geti kd_6, wp_icge, wk_82, wp_ifeq, wr_33_8, wl_41, wp_cald, wp_icle, wp_lld2, wr_33_9, wl_42, wp_pald, wp_ladd, wp_inc4, wp_goto, x_clr_I, x_clr_J, x_clr_R, x_clr_U, ct_some, ct_none, lc_lt, lc_ge, lc_gt, lc_le, lc_eq, lc_r, xI_inj, xJ_inj, Option.some.injEq, eq_self, bi_r, bi_0, bi_1, bi_n, Classical.not_not, and_true, true_and, ite_true, ite_false, ↓reduceIte, ↓x_andl, z_le, z_nle, z_lt, z_nlt, z_eq, z_neq, if_pos, if_neg, x_andl, false_and, and_false, or_true, true_or, or_false, false_or, not_true, not_false_iff, x_rd_eq, x_rd_ne, x_st_o, Int.cast_ofNat_Int, Int.ofNat_zero, Int.ofNat_one, not_true_eq_false, not_false_eq_true, if_true, if_false, ite_self, and_self, Int.ofNat_eq_natCast, Int.tdiv_eq_ediv_of_nonneg, Int.tmod_eq_emod_of_nonneg, x_bm32]
      refine ⟨_, rfl, fun j i => by rw [e1 100 j (by simp)], by omega, ?_⟩
      simp (disch := first | omega | (simp only [x_wtI, x_wtJ, x_wtR, x_wtN]; omega) | assumption | (simp (disch := omega) only [x_st_o, x_rd_ne]; first | assumption | omega) | (apply mir_eq; assumption; (intro c h1 h2; simp (disch := omega) only [x_st_o])) | (apply mis_eq; assumption; (intro c h1 h2; simp (disch := omega) only [x_st_o])) | rfl) only [sp_241, bk_241_0, bk_241_1, bk_241_2, bk_241_4, bk_241_5, bk_241_6, bk_241_8, bk_241_9, bk_241_10, bk_241_11, bk_241_12, bk_241_13, bk_241_14, bk_241_15, wp_ild1, wp_i2l, wp_lc, wk_169, wp_ifeq, wp_ald0, wk_224, wp_ic, wp_iceq, wp_fall, wp_lret, wp_lst2, wr_50_1, wl_51, wp_cald, wp_ist4, wp_ild4, wp_icge, wk_226, wp_ifne, wp_goto, wr_50_27, wl_64, wp_pald, wp_lcmp, wp_ifle, wp_ist5, wp_ist6, wp_ild6, wp_ild5, wk_192, wp_lld2, wk_242, wp_ladd, wp_inc4, x_clr_I, x_clr_J, x_clr_R, x_clr_U, ct_some, ct_none, lc_lt, lc_ge, lc_gt, lc_le, lc_eq, lc_r, xI_inj, xJ_inj, Option.some.injEq, eq_self, bi_r, bi_0, bi_1, bi_n, Classical.not_not, and_true, true_and, ite_true, ite_false, ↓reduceIte, ↓x_andl, z_le, z_nle, z_lt, z_nlt, z_eq, z_neq, if_pos, if_neg, x_andl, false_and, and_false, or_true, true_or, or_false, false_or, not_true, not_false_iff, x_rd_eq, x_rd_ne, x_st_o, Int.cast_ofNat_Int, Int.ofNat_zero, Int.ofNat_one, not_true_eq_false, not_false_eq_true, if_true, if_false, ite_self, and_self, Int.ofNat_eq_natCast, Int.tdiv_eq_ediv_of_nonneg, Int.tmod_eq_emod_of_nonneg, x_bm32, c_in, bi_f]
      exact iN_e hh e1 (by decide)
    · simp (disch := first | omega | (simp only [x_wtI, x_wtJ, x_wtR, x_wtN]; omega) | assumption | (simp (disch := omega) only [x_st_o, x_rd_ne]; first | assumption | omega) | (apply mir_eq; assumption; (intro c h1 h2; simp (disch := omega) only [x_st_o])) | (apply mis_eq; assumption; (intro c h1 h2; simp (disch := omega) only [x_st_o])) | rfl) only [bk_144_0, bk_144_1, bk_144_2, bk_144_4, bk_144_5, wp_ald0, wr_0_9, wk_77, wp_ild1, wp_iflt, wp_ic, wp_icgt, wp_geti kd_33, wp_iceq, wp_fall, wp_lc, wp_lret, wp_lst2, wp_ist4, wp_ild4, wr_0_2, wr_20_0, wp_geti kd_6, wp_icge, wk_82, wp_ifeq, wr_33_8, wl_41, wp_cald, wp_icle, wp_lld2, wr_33_9, wl_42, wp_pald, wp_ladd, wp_inc4, wp_goto, x_clr_I, x_clr_J, x_clr_R, x_clr_U, ct_some, ct_none, lc_lt, lc_ge, lc_gt, lc_le, lc_eq, lc_r, xI_inj, xJ_inj, Option.some.injEq, eq_self, bi_r, bi_0, bi_1, bi_n, Classical.not_not, and_true, true_and, ite_true, ite_false, ↓reduceIte, ↓x_andl, z_le, z_nle, z_lt, z_nlt, z_eq, z_neq, if_pos, if_neg, x_andl, false_and, and_false, or_true, true_or, or_false, false_or, not_true, not_false_iff, x_rd_eq, x_rd_ne, x_st_o, Int.cast_ofNat_Int, Int.ofNat_zero, Int.ofNat_one, not_true_eq_false, not_false_eq_true, if_true, if_false, ite_self, and_self, Int.ofNat_eq_natCast, Int.tdiv_eq_ediv_of_nonneg, Int.tmod_eq_emod_of_nonneg, x_bm32]
      refine ⟨_, rfl, fun j i => by rw [e1 100 j (by simp)], by omega, ?_⟩
      simp (disch := first | omega | (simp only [x_wtI, x_wtJ, x_wtR, x_wtN]; omega) | assumption | (simp (disch := omega) only [x_st_o, x_rd_ne]; first | assumption | omega) | (apply mir_eq; assumption; (intro c h1 h2; simp (disch := omega) only [x_st_o])) | (apply mis_eq; assumption; (intro c h1 h2; simp (disch := omega) only [x_st_o])) | rfl) only [sp_241, bk_241_0, bk_241_1, bk_241_2, bk_241_4, bk_241_5, bk_241_6, bk_241_8, bk_241_9, bk_241_10, bk_241_11, bk_241_12, bk_241_13, bk_241_14, bk_241_15, wp_ild1, wp_i2l, wp_lc, wk_169, wp_ifeq, wp_ald0, wk_224, wp_ic, wp_iceq, wp_fall, wp_lret, wp_lst2, wr_50_1, wl_51, wp_cald, wp_ist4, wp_ild4, wp_icge, wk_226, wp_ifne, wp_goto, wr_50_27, wl_64, wp_pald, wp_lcmp, wp_ifle, wp_ist5, wp_ist6, wp_ild6, wp_ild5, wk_192, wp_lld2, wk_242, wp_ladd, wp_inc4, x_clr_I, x_clr_J, x_clr_R, x_clr_U, ct_some, ct_none, lc_lt, lc_ge, lc_gt, lc_le, lc_eq, lc_r, xI_inj, xJ_inj, Option.some.injEq, eq_self, bi_r, bi_0, bi_1, bi_n, Classical.not_not, and_true, true_and, ite_true, ite_false, ↓reduceIte, ↓x_andl, z_le, z_nle, z_lt, z_nlt, z_eq, z_neq, if_pos, if_neg, x_andl, false_and, and_false, or_true, true_or, or_false, false_or, not_true, not_false_iff, x_rd_eq, x_rd_ne, x_st_o, Int.cast_ofNat_Int, Int.ofNat_zero, Int.ofNat_one, not_true_eq_false, not_false_eq_true, if_true, if_false, ite_self, and_self, Int.ofNat_eq_natCast, Int.tdiv_eq_ediv_of_nonneg, Int.tmod_eq_emod_of_nonneg, x_bm32, c_in, bi_f]
      exact iN_e hh e1 (by decide)
end O13

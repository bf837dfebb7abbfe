/-! the likeliest of the forks under one -/
def p_lk (w : Int → Int) (f : Int) : Nat → Int
  | 0 => w_of w f 8
  | n + 1 => if w_of w (p_lk w f n) 1 < w_of w (w_of w f (8 + ((n + 1 : Nat) : Int))) 1 then w_of w f (8 + ((n + 1 : Nat) : Int)) else p_lk w f n
def p_lik (w : Int → Int) (f : Int) : Int := p_lk w f (w_of w f 7 - 1).toNat
def isLk (w : Int → Int) (f n i : Int) : Prop := (0 ≤ i ∧ i ≤ n) ∧ (∀ q, 0 ≤ q → q < i → w_of w (w_of w f (8 + q)) 1 < w_of w (w_of w f (8 + i)) 1) ∧ ∀ q, i ≤ q → q ≤ n → w_of w (w_of w f (8 + q)) 1 ≤ w_of w (w_of w f (8 + i)) 1
theorem lk_u {w : Int → Int} {f n i j : Int} (h : isLk w f n i) (h' : isLk w f n j) : i = j := by
  obtain ⟨a, b, c⟩ := h
  obtain ⟨a', b', c'⟩ := h'
  by_cases q : i < j
  · have x := b' i a.1 q
    have y := c j (by omega) a'.2
    omega
  · by_cases q2 : j < i
    · have x := b j a'.1 q2
      have y := c' i (by omega) a.2
      omega
    · omega
theorem lk_c {w : Int → Int} {f : Int} : ∀ n : Nat, ∃ i, isLk w f n i ∧ p_lk w f n = w_of w f (8 + i) := by
  intro n
  induction n with
  | zero => exact ⟨0, ⟨⟨Int.le_refl 0, Int.le_refl 0⟩, fun q a b => by omega, fun q a b => by
      have : q = 0 := by omega
      rw [this]
      exact Int.le_refl _⟩, rfl⟩
  | succ n ih =>
    obtain ⟨i, ⟨h1, h2, h3⟩, e⟩ := ih
    by_cases c : w_of w (p_lk w f n) 1 < w_of w (w_of w f (8 + ((n + 1 : Nat) : Int))) 1
    · refine ⟨((n + 1 : Nat) : Int), ⟨⟨by omega, Int.le_refl _⟩, fun q a b => ?_, fun q a b => ?_⟩, if_pos c⟩
      · rw [e] at c
        by_cases z : q < i
        · have := h2 q a z
          omega
        · have := h3 q (by omega) (by omega)
          omega
      · have : q = ((n + 1 : Nat) : Int) := by omega
        rw [this]
        exact Int.le_refl _
    · refine ⟨i, ⟨⟨h1.1, by omega⟩, h2, fun q a b => ?_⟩, (if_neg c).trans e⟩
      by_cases z : q = ((n + 1 : Nat) : Int)
      · rw [e] at c
        rw [z]
        omega
      · exact h3 q a (by omega)
theorem lik_k {w : Int → Int} {f : Int} (h : 0 < w_of w f 7) : ∃ i, (0 ≤ i ∧ i < w_of w f 7) ∧ isLk w f (w_of w f 7 - 1) i ∧ p_lik w f = w_of w f (8 + i) := by
  obtain ⟨i, a, b⟩ := lk_c (w := w) (f := f) (w_of w f 7 - 1).toNat
  rw [Int.toNat_of_nonneg (by omega)] at a
  exact ⟨i, by have := a.1; omega, a, b⟩
theorem k_likC {d : Nat} {σ : x_S} {Q : Option x_V → x_S → Prop} {w : Int → Int} {f : Int} (hM : mir σ 1 w) (hw : wf w) (h0 : 0 ≤ f) (h1 : f < w 0) (hk : 0 < w_of w f 7) : x_Sp d 66 [xR 6 1, xI f] σ Q ↔ Q (some (xI (p_lik w f))) σ := by
  have a := wf_h hw
  unfold wf_hdr at a
  have o := wf_f hw h0 h1
  unfold wf_one at o
  have kr : ∀ n : Nat, (n : Int) < w_of w f 7 → (0 ≤ p_lk w f n ∧ p_lk w f n < w 0) := by
    intro n hn
    obtain ⟨i, hi, e⟩ := lk_c (w := w) (f := f) n
    have kk := wf_k hw (f := f) (i := i) h0 h1 hi.1.1 (by have := hi.1; omega)
    rw [e]
    omega
  refine x_sp_of ?_
  have e0 : σ 15 1 (f * 5) = p_lk w f 0 := mi_kid0 hM h0 h1 hk
  simp (disch := first | omega | (simp only [x_wtI, x_wtJ, x_wtR, x_wtN]; omega) | assumption | (simp (disch := omega) only [x_st_o, x_rd_ne]; first | assumption | omega) | (apply mir_eq; assumption; (intro c h1 h2; simp (disch := omega) only [x_st_o])) | (apply mis_eq; assumption; (intro c h1 h2; simp (disch := omega) only [x_st_o])) | rfl) only [sp_66, bk_66_0, bk_66_2, bk_66_3, wp_ald0, wr_6_15, wp_ild1, wp_ic, wp_imul, wl_8, wl_14, wl_15, wp_cald, wp_ist2, wp_ist3, wp_fall, wp_ild3, wr_6_14, wp_icge, wp_iadd, wp_ist4, wr_6_8, wp_ild4, wp_ild2, wp_icle, wp_inc3, wp_goto, wp_iret mz_66, x_clr_I, x_clr_J, x_clr_R, x_clr_U, ct_some, ct_none, lc_lt, lc_ge, lc_gt, lc_le, lc_eq, lc_r, xI_inj, xJ_inj, Option.some.injEq, eq_self, bi_r, bi_0, bi_1, bi_n, Classical.not_not, and_true, true_and, ite_true, ite_false, ↓reduceIte, ↓x_andl, z_le, z_nle, z_lt, z_nlt, z_eq, z_neq, if_pos, if_neg, x_andl, false_and, and_false, or_true, true_or, or_false, false_or, not_true, not_false_iff, x_rd_eq, x_rd_ne, x_st_o, Int.cast_ofNat_Int, Int.ofNat_zero, Int.ofNat_one, not_true_eq_false, not_false_eq_true, if_true, if_false, ite_self, and_self, Int.ofNat_eq_natCast, Int.tdiv_eq_ediv_of_nonneg, Int.tmod_eq_emod_of_nonneg, x_bm32, e0]
  refine x_lpJ (α := Int × x_V) (fun i q => q.1 = p_lk w f (i - 1).toNat) (fun i q => x_Wp d 66 (x_blk 66 1) [xR 6 1, xI f, xI q.1, xI i, q.2] [] σ (fun r2 σ2 => r2 = some (xI (p_lik w f)) ∧ σ2 = σ)) (lo := 1) (hi := w_of w f 7) (by omega) (a0 := (p_lk w f 0, xU)) rfl ?_ ?_
  · intro i ⟨k, u⟩ i0 i1 hJ
    simp only at hJ ⊢
    have kb := kr (i - 1).toNat (by omega)
    rw [← hJ] at kb
    have kk := wf_k hw (f := f) (i := i) h0 h1 (by omega) i1
    have ok := wf_f hw (f := w_of w f (8 + i)) (by omega) kk.2.1
    unfold wf_one at ok
    have ok2 := wf_f hw (f := k) kb.1 kb.2
    unfold wf_one at ok2
    have es : p_lk w f i.toNat = if w_of w k 1 < w_of w (w_of w f (8 + i)) 1 then w_of w f (8 + i) else k := by
      rw [show i.toNat = (i - 1).toNat + 1 by omega]
      show (if w_of w (p_lk w f (i - 1).toNat) 1 < w_of w (w_of w f (8 + (((i - 1).toNat + 1 : Nat) : Int))) 1 then w_of w f (8 + (((i - 1).toNat + 1 : Nat) : Int)) else p_lk w f (i - 1).toNat) = _
      rw [← hJ, show (((i - 1).toNat + 1 : Nat) : Int) = i by omega]
    have c1 := mi_kid hM h0 h1 (i := i) (by omega) i1
    have c2 := mi_chance hM (f := w_of w f (8 + i)) (by omega) kk.2.1
    have c3 := mi_chance hM (f := k) kb.1 kb.2
    refine ⟨(p_lk w f i.toNat, xI (w_of w f (8 + i))), by (show p_lk w f i.toNat = p_lk w f (i + 1 - 1).toNat; rw [show i + 1 - 1 = i by omega]), ?_⟩
    intro H
    simp only at H
    rw [es] at H
    rw [bk_66_1]
    by_cases c : w_of w k 1 < w_of w (w_of w f (8 + i)) 1
    · rw [if_pos c] at H
      simp (disch := first | omega | (simp only [x_wtI, x_wtJ, x_wtR, x_wtN]; omega) | assumption | (simp (disch := omega) only [x_st_o, x_rd_ne]; first | assumption | omega) | (apply mir_eq; assumption; (intro c h1 h2; simp (disch := omega) only [x_st_o])) | (apply mis_eq; assumption; (intro c h1 h2; simp (disch := omega) only [x_st_o])) | rfl) only [bk_66_0, bk_66_2, bk_66_3, wp_ald0, wr_6_15, wp_ild1, wp_ic, wp_imul, wl_8, wl_14, wl_15, wp_cald, wp_ist2, wp_ist3, wp_fall, wp_ild3, wr_6_14, wp_icge, wp_iadd, wp_ist4, wr_6_8, wp_ild4, wp_ild2, wp_icle, wp_inc3, wp_goto, wp_iret mz_66, x_clr_I, x_clr_J, x_clr_R, x_clr_U, ct_some, ct_none, lc_lt, lc_ge, lc_gt, lc_le, lc_eq, lc_r, xI_inj, xJ_inj, Option.some.injEq, eq_self, bi_r, bi_0, bi_1, bi_n, Classical.not_not, and_true, true_and, ite_true, ite_false, ↓reduceIte, ↓x_andl, z_le, z_nle, z_lt, z_nlt, z_eq, z_neq, if_pos, if_neg, x_andl, false_and, and_false, or_true, true_or, or_false, false_or, not_true, not_false_iff, x_rd_eq, x_rd_ne, x_st_o, Int.cast_ofNat_Int, Int.ofNat_zero, Int.ofNat_one, not_true_eq_false, not_false_eq_true, if_true, if_false, ite_self, and_self, Int.ofNat_eq_natCast, Int.tdiv_eq_ediv_of_nonneg, Int.tmod_eq_emod_of_nonneg, x_bm32, mi_kids hM, c1, c2, c3]
      exact H
    · rw [if_neg c] at H
      simp (disch := first | omega | (simp only [x_wtI, x_wtJ, x_wtR, x_wtN]; omega) | assumption | (simp (disch := omega) only [x_st_o, x_rd_ne]; first | assumption | omega) | (apply mir_eq; assumption; (intro c h1 h2; simp (disch := omega) only [x_st_o])) | (apply mis_eq; assumption; (intro c h1 h2; simp (disch := omega) only [x_st_o])) | rfl) only [bk_66_0, bk_66_2, bk_66_3, wp_ald0, wr_6_15, wp_ild1, wp_ic, wp_imul, wl_8, wl_14, wl_15, wp_cald, wp_ist2, wp_ist3, wp_fall, wp_ild3, wr_6_14, wp_icge, wp_iadd, wp_ist4, wr_6_8, wp_ild4, wp_ild2, wp_icle, wp_inc3, wp_goto, wp_iret mz_66, x_clr_I, x_clr_J, x_clr_R, x_clr_U, ct_some, ct_none, lc_lt, lc_ge, lc_gt, lc_le, lc_eq, lc_r, xI_inj, xJ_inj, Option.some.injEq, eq_self, bi_r, bi_0, bi_1, bi_n, Classical.not_not, and_true, true_and, ite_true, ite_false, ↓reduceIte, ↓x_andl, z_le, z_nle, z_lt, z_nlt, z_eq, z_neq, if_pos, if_neg, x_andl, false_and, and_false, or_true, true_or, or_false, false_or, not_true, not_false_iff, x_rd_eq, x_rd_ne, x_st_o, Int.cast_ofNat_Int, Int.ofNat_zero, Int.ofNat_one, not_true_eq_false, not_false_eq_true, if_true, if_false, ite_self, and_self, Int.ofNat_eq_natCast, Int.tdiv_eq_ediv_of_nonneg, Int.tmod_eq_emod_of_nonneg, x_bm32, mi_kids hM, c1, c2, c3]
      exact H
  · intro ⟨k, u⟩ hJ
    simp only at hJ ⊢
    subst hJ
    rw [bk_66_1]
    simp (disch := first | omega | (simp only [x_wtI, x_wtJ, x_wtR, x_wtN]; omega) | assumption | (simp (disch := omega) only [x_st_o, x_rd_ne]; first | assumption | omega) | (apply mir_eq; assumption; (intro c h1 h2; simp (disch := omega) only [x_st_o])) | (apply mis_eq; assumption; (intro c h1 h2; simp (disch := omega) only [x_st_o])) | rfl) only [bk_66_0, bk_66_2, bk_66_3, wp_ald0, wr_6_15, wp_ild1, wp_ic, wp_imul, wl_8, wl_14, wl_15, wp_cald, wp_ist2, wp_ist3, wp_fall, wp_ild3, wr_6_14, wp_icge, wp_iadd, wp_ist4, wr_6_8, wp_ild4, wp_ild2, wp_icle, wp_inc3, wp_goto, wp_iret mz_66, x_clr_I, x_clr_J, x_clr_R, x_clr_U, ct_some, ct_none, lc_lt, lc_ge, lc_gt, lc_le, lc_eq, lc_r, xI_inj, xJ_inj, Option.some.injEq, eq_self, bi_r, bi_0, bi_1, bi_n, Classical.not_not, and_true, true_and, ite_true, ite_false, ↓reduceIte, ↓x_andl, z_le, z_nle, z_lt, z_nlt, z_eq, z_neq, if_pos, if_neg, x_andl, false_and, and_false, or_true, true_or, or_false, false_or, not_true, not_false_iff, x_rd_eq, x_rd_ne, x_st_o, Int.cast_ofNat_Int, Int.ofNat_zero, Int.ofNat_one, not_true_eq_false, not_false_eq_true, if_true, if_false, ite_self, and_self, Int.ofNat_eq_natCast, Int.tdiv_eq_ediv_of_nonneg, Int.tmod_eq_emod_of_nonneg, x_bm32, mi_kids hM]
    rfl
theorem k_likM {d : Nat} {σ : x_S} {Q : Option x_V → x_S → Prop} {w : Int → Int} {f : Int} (h51 : σ 51 0 = w) (hw : wf w) (h0 : 0 ≤ f) (h1 : f < w 0) : x_Sp (d + 1) 234 [xR 50 0, xI f] σ Q ↔ Q (some (xI (if w_of w f 7 = 0 then -1 else p_lik w f))) σ := by
  have a := wf_h hw
  unfold wf_hdr at a
  have o := wf_f hw h0 h1
  unfold wf_one at o
  obtain ⟨g, hg⟩ : ∃ g, g = (if w_of w f 7 = 0 then -1 else p_lik w f) := ⟨_, rfl⟩
  rw [← hg]
  refine x_sp_of ?_
  simp (disch := first | omega | (simp only [x_wtI, x_wtJ, x_wtR, x_wtN]; omega) | assumption | (simp (disch := omega) only [x_st_o, x_rd_ne]; first | assumption | omega) | (apply mir_eq; assumption; (intro c h1 h2; simp (disch := omega) only [x_st_o])) | (apply mis_eq; assumption; (intro c h1 h2; simp (disch := omega) only [x_st_o])) | rfl) only [sp_234, bk_234_0, bk_234_2, bk_234_3, bk_234_4, wp_ic, wp_ist2, wp_ald0, wp_ild1, wk_192, wp_isub, wp_ist3, wp_fall, wp_ild3, wp_iflt, wp_ild2, wp_iceq, wp_iadd, wp_iclt, wp_inc3, wp_goto, wp_iret mz_234, x_clr_I, x_clr_J, x_clr_R, x_clr_U, ct_some, ct_none, lc_lt, lc_ge, lc_gt, lc_le, lc_eq, lc_r, xI_inj, xJ_inj, Option.some.injEq, eq_self, bi_r, bi_0, bi_1, bi_n, Classical.not_not, and_true, true_and, ite_true, ite_false, ↓reduceIte, ↓x_andl, z_le, z_nle, z_lt, z_nlt, z_eq, z_neq, if_pos, if_neg, x_andl, false_and, and_false, or_true, true_or, or_false, false_or, not_true, not_false_iff, x_rd_eq, x_rd_ne, x_st_o, Int.cast_ofNat_Int, Int.ofNat_zero, Int.ofNat_one, not_true_eq_false, not_false_eq_true, if_true, if_false, ite_self, and_self, Int.ofNat_eq_natCast, Int.tdiv_eq_ediv_of_nonneg, Int.tmod_eq_emod_of_nonneg, x_bm32, k_of]
  refine x_lpD (α := Int) (fun i k => (i = w_of w f 7 - 1 ∧ k = -1) ∨ ∃ q, (i < q ∧ q < w_of w f 7) ∧ k = w_of w f (8 + q) ∧ (∀ r, i < r → r < q → w_of w (w_of w f (8 + r)) 1 < w_of w k 1) ∧ ∀ r, q ≤ r → r < w_of w f 7 → w_of w (w_of w f (8 + r)) 1 ≤ w_of w k 1) (fun i k => x_Wp (d + 1) 234 (x_blk 234 1) [xR 50 0, xI f, xI k, xI i] [] σ (fun r2 σ2 => r2 = some (xI g) ∧ σ2 = σ)) (lo := -1) (hi := w_of w f 7 - 1) (by omega) (a0 := -1) (Or.inl ⟨rfl, rfl⟩) ?_ ?_
  · intro i k i0 i1 hJ
    have kk := wf_k hw (f := f) (i := i) h0 h1 (by omega) (by omega)
    have ok := wf_f hw (f := w_of w f (8 + i)) (by omega) kk.2.1
    unfold wf_one at ok
    rcases hJ with ⟨z1, z2⟩ | ⟨q, q1, q2, q3, q4⟩
    · subst z2
      refine ⟨w_of w f (8 + i), Or.inr ⟨i, by omega, rfl, fun r a b => by omega, fun r a b => ?_⟩, fun H => ?_⟩
      · have : r = i := by omega
        rw [this]
        exact Int.le_refl _
      · rw [bk_234_1]
        simp (disch := first | omega | (simp only [x_wtI, x_wtJ, x_wtR, x_wtN]; omega) | assumption | (simp (disch := omega) only [x_st_o, x_rd_ne]; first | assumption | omega) | (apply mir_eq; assumption; (intro c h1 h2; simp (disch := omega) only [x_st_o])) | (apply mis_eq; assumption; (intro c h1 h2; simp (disch := omega) only [x_st_o])) | rfl) only [bk_234_0, bk_234_2, bk_234_3, bk_234_4, wp_ic, wp_ist2, wp_ald0, wp_ild1, wk_192, wp_isub, wp_ist3, wp_fall, wp_ild3, wp_iflt, wp_ild2, wp_iceq, wp_iadd, wp_iclt, wp_inc3, wp_goto, wp_iret mz_234, x_clr_I, x_clr_J, x_clr_R, x_clr_U, ct_some, ct_none, lc_lt, lc_ge, lc_gt, lc_le, lc_eq, lc_r, xI_inj, xJ_inj, Option.some.injEq, eq_self, bi_r, bi_0, bi_1, bi_n, Classical.not_not, and_true, true_and, ite_true, ite_false, ↓reduceIte, ↓x_andl, z_le, z_nle, z_lt, z_nlt, z_eq, z_neq, if_pos, if_neg, x_andl, false_and, and_false, or_true, true_or, or_false, false_or, not_true, not_false_iff, x_rd_eq, x_rd_ne, x_st_o, Int.cast_ofNat_Int, Int.ofNat_zero, Int.ofNat_one, not_true_eq_false, not_false_eq_true, if_true, if_false, ite_self, and_self, Int.ofNat_eq_natCast, Int.tdiv_eq_ediv_of_nonneg, Int.tmod_eq_emod_of_nonneg, x_bm32, k_of]
        exact H
    · have kq := wf_k hw (f := f) (i := q) h0 h1 (by omega) (by omega)
      have kb : 0 ≤ k ∧ k < w 0 := by rw [q2]; omega
      have ok2 := wf_f hw (f := k) kb.1 kb.2
      unfold wf_one at ok2
      by_cases c : w_of w (w_of w f (8 + i)) 1 < w_of w k 1
      · refine ⟨k, Or.inr ⟨q, by omega, q2, fun r a b => ?_, q4⟩, fun H => ?_⟩
        · by_cases z : r = i
          · rw [z]
            exact c
          · exact q3 r (by omega) b
        · rw [bk_234_1]
          simp (disch := first | omega | (simp only [x_wtI, x_wtJ, x_wtR, x_wtN]; omega) | assumption | (simp (disch := omega) only [x_st_o, x_rd_ne]; first | assumption | omega) | (apply mir_eq; assumption; (intro c h1 h2; simp (disch := omega) only [x_st_o])) | (apply mis_eq; assumption; (intro c h1 h2; simp (disch := omega) only [x_st_o])) | rfl) only [bk_234_0, bk_234_2, bk_234_3, bk_234_4, wp_ic, wp_ist2, wp_ald0, wp_ild1, wk_192, wp_isub, wp_ist3, wp_fall, wp_ild3, wp_iflt, wp_ild2, wp_iceq, wp_iadd, wp_iclt, wp_inc3, wp_goto, wp_iret mz_234, x_clr_I, x_clr_J, x_clr_R, x_clr_U, ct_some, ct_none, lc_lt, lc_ge, lc_gt, lc_le, lc_eq, lc_r, xI_inj, xJ_inj, Option.some.injEq, eq_self, bi_r, bi_0, bi_1, bi_n, Classical.not_not, and_true, true_and, ite_true, ite_false, ↓reduceIte, ↓x_andl, z_le, z_nle, z_lt, z_nlt, z_eq, z_neq, if_pos, if_neg, x_andl, false_and, and_false, or_true, true_or, or_false, false_or, not_true, not_false_iff, x_rd_eq, x_rd_ne, x_st_o, Int.cast_ofNat_Int, Int.ofNat_zero, Int.ofNat_one, not_true_eq_false, not_false_eq_true, if_true, if_false, ite_self, and_self, Int.ofNat_eq_natCast, Int.tdiv_eq_ediv_of_nonneg, Int.tmod_eq_emod_of_nonneg, x_bm32, k_of]
          exact H
      · refine ⟨w_of w f (8 + i), Or.inr ⟨i, by omega, rfl, fun r a b => by omega, fun r a b => ?_⟩, fun H => ?_⟩
        · by_cases z : r = i
          · rw [z]
            exact Int.le_refl _
          · by_cases z2 : r < q
            · have := q3 r (by omega) z2
              omega
            · have := q4 r (by omega) b
              omega
        · rw [bk_234_1]
          simp (disch := first | omega | (simp only [x_wtI, x_wtJ, x_wtR, x_wtN]; omega) | assumption | (simp (disch := omega) only [x_st_o, x_rd_ne]; first | assumption | omega) | (apply mir_eq; assumption; (intro c h1 h2; simp (disch := omega) only [x_st_o])) | (apply mis_eq; assumption; (intro c h1 h2; simp (disch := omega) only [x_st_o])) | rfl) only [bk_234_0, bk_234_2, bk_234_3, bk_234_4, wp_ic, wp_ist2, wp_ald0, wp_ild1, wk_192, wp_isub, wp_ist3, wp_fall, wp_ild3, wp_iflt, wp_ild2, wp_iceq, wp_iadd, wp_iclt, wp_inc3, wp_goto, wp_iret mz_234, x_clr_I, x_clr_J, x_clr_R, x_clr_U, ct_some, ct_none, lc_lt, lc_ge, lc_gt, lc_le, lc_eq, lc_r, xI_inj, xJ_inj, Option.some.injEq, eq_self, bi_r, bi_0, bi_1, bi_n, Classical.not_not, and_true, true_and, ite_true, ite_false, ↓reduceIte, ↓x_andl, z_le, z_nle, z_lt, z_nlt, z_eq, z_neq, if_pos, if_neg, x_andl, false_and, and_false, or_true, true_or, or_false, false_or, not_true, not_false_iff, x_rd_eq, x_rd_ne, x_st_o, Int.cast_ofNat_Int, Int.ofNat_zero, Int.ofNat_one, not_true_eq_false, not_false_eq_true, if_true, if_false, ite_self, and_self, Int.ofNat_eq_natCast, Int.tdiv_eq_ediv_of_nonneg, Int.tmod_eq_emod_of_nonneg, x_bm32, k_of]
          exact H
  · intro k hJ
    have e : k = g := by
      rw [hg]
      rcases hJ with ⟨z1, z2⟩ | ⟨q, q1, q2, q3, q4⟩
      · rw [if_pos (by omega)]
        exact z2
      · rw [if_neg (by omega)]
        obtain ⟨i, hi, li, e⟩ := lik_k (w := w) (f := f) (by omega)
        have : q = i := lk_u (n := w_of w f 7 - 1) ⟨by omega, fun r a b => by rw [← q2]; exact q3 r (by omega) b, fun r a b => by rw [← q2]; exact q4 r a (by omega)⟩ li
        rw [e, q2, this]
    rw [bk_234_1, ← e]
    simp (disch := first | omega | (simp only [x_wtI, x_wtJ, x_wtR, x_wtN]; omega) | assumption | (simp (disch := omega) only [x_st_o, x_rd_ne]; first | assumption | omega) | (apply mir_eq; assumption; (intro c h1 h2; simp (disch := omega) only [x_st_o])) | (apply mis_eq; assumption; (intro c h1 h2; simp (disch := omega) only [x_st_o])) | rfl) only [bk_234_0, bk_234_2, bk_234_3, bk_234_4, wp_ic, wp_ist2, wp_ald0, wp_ild1, wk_192, wp_isub, wp_ist3, wp_fall, wp_ild3, wp_iflt, wp_ild2, wp_iceq, wp_iadd, wp_iclt, wp_inc3, wp_goto, wp_iret mz_234, x_clr_I, x_clr_J, x_clr_R, x_clr_U, ct_some, ct_none, lc_lt, lc_ge, lc_gt, lc_le, lc_eq, lc_r, xI_inj, xJ_inj, Option.some.injEq, eq_self, bi_r, bi_0, bi_1, bi_n, Classical.not_not, and_true, true_and, ite_true, ite_false, ↓reduceIte, ↓x_andl, z_le, z_nle, z_lt, z_nlt, z_eq, z_neq, if_pos, if_neg, x_andl, false_and, and_false, or_true, true_or, or_false, false_or, not_true, not_false_iff, x_rd_eq, x_rd_ne, x_st_o, Int.cast_ofNat_Int, Int.ofNat_zero, Int.ofNat_one, not_true_eq_false, not_false_eq_true, if_true, if_false, ite_self, and_self, Int.ofNat_eq_natCast, Int.tdiv_eq_ediv_of_nonneg, Int.tmod_eq_emod_of_nonneg, x_bm32]
/-! steps when only the likeliest comes -/
def zR (mk : Int) (w R : Int → Int) (f st wd b t u : Int) : Prop := (s_law w 4 f st wd b t ∧ ¬ R (21 * p_or wd b + t) = mk) ∧ u = p_cost w 5 f (t + w_of w f 5 - st) b t + R (21 * p_or wd b + t)
theorem zcl_zR {w R : Int → Int} {f st wd b t u : Int} : zcl w 4 4 1 (kpE w 5 f) R f st wd b t u ↔ zR 9223372036854775807 w R f st wd b t u := by
  unfold zcl zR
  have ev : ∀ y, v_mx 4 y = y := fun y => if_neg (by omega)
  rw [alg3, Int.one_mul, ev]
theorem zR_tg {w R O : Int → Int} {f st wd b t u : Int} (hw : wf w) (h0 : 0 ≤ f) (h1 : f < w 0) (hs : 0 ≤ st ∧ st ≤ 20) (h : ∀ s, 0 ≤ s → s < 42 → tg (O s) (R s)) : zR (-9223372036854775808) w O f st wd b t u ↔ zR 9223372036854775807 w R f st wd b t u := by
  unfold zR
  constructor
  · rintro ⟨⟨l, n⟩, e⟩
    have sb := sl_b hw h0 h1 hs l
    have po := p_or_01 (a := wd) (b := b)
    rcases h (21 * p_or wd b + t) (by omega) (by omega) with ⟨z, _⟩ | ⟨z, _, y⟩
    · exact absurd z n
    · exact ⟨⟨l, y⟩, by rw [e, z]⟩
  · rintro ⟨⟨l, n⟩, e⟩
    have sb := sl_b hw h0 h1 hs l
    have po := p_or_01 (a := wd) (b := b)
    rcases h (21 * p_or wd b + t) (by omega) (by omega) with ⟨_, z⟩ | ⟨z, y, _⟩
    · exact absurd z n
    · exact ⟨⟨l, y⟩, by rw [e, z]⟩
theorem zR_bd {w R : Int → Int} {mk f st wd b t u B : Int} (hw : wf w) (h0 : 0 ≤ f) (h1 : f < w 0) (hs : 0 ≤ st ∧ st ≤ 20) (hR : ∀ s, 0 ≤ s → s < 42 → R s = mk ∨ (-B ≤ R s ∧ R s ≤ B)) (h : zR mk w R f st wd b t u) : -(B + 30000) ≤ u ∧ u ≤ B + 30000 := by
  obtain ⟨⟨l, n⟩, e⟩ := h
  have sb := sl_b hw h0 h1 hs l
  have o := wf_f hw h0 h1
  unfold wf_one at o
  have po := p_or_01 (a := wd) (b := b)
  have r := (hR (21 * p_or wd b + t) (by omega) (by omega)).resolve_left n
  have cb := cost_b hw (E := 5) (x := t + w_of w f 5 - st) (b := b) (t := t) h0 h1 (by omega) sb.1 sb.2.1
  omega
theorem zR_f {w R : Int → Int} {mk f st wd b t u u' : Int} (h : zR mk w R f st wd b t u) (h' : zR mk w R f st wd b t u') : u' = u := by rw [h.2, h'.2]
def likR (w T : Int → Int) (f : Int) : Int → Int := fun s => if w_of w f 7 = 0 then 0 else T (42 * p_lik w f + s)
theorem h_lookL {σ : x_S} {w T : Int → Int} {f : Int} (hM : mir σ 1 w) (hw : wf w) (h0 : 0 ≤ f) (h1 : f < w 0) (hm : σ 24 3 3 = 4) (hE : σ 24 3 2 = 5) (hV : σ 25 3 = T) (hT : rbd (likR w T f)) : x_Sp 3 3 [xR 24 3, xI f] σ (fun r σ' => r = none ∧ x_eqo [(24, 3), (27, 3)] σ σ' ∧ (∀ k, ¬ (7 ≤ k ∧ k ≤ 9) → σ' 24 3 k = σ 24 3 k) ∧ ∃ R, (R = likR w T f) ∧ lbk w 1 (kpE w 5 f) R σ' 3 f) := by
  have a := wf_h hw
  unfold wf_hdr at a
  have o := wf_f hw h0 h1
  unfold wf_one at o
  have kb := kpE_b hw (E := 5) (f := f)
  refine x_gen (fun Q hQ => ?_)
  have last : ∀ σ1 : x_S, x_eqo [(27, 3)] σ σ1 → (∀ s, 0 ≤ s → s < 42 → σ1 27 3 s = likR w T f s) → x_Sp 2 6 [xR 24 3, xI f, xJ 1, xI (kpE w 5 f)] σ1 (fun r σ' => r = none ∧ Q none σ') := by
    intro σ1 e1 hr
    have hM1 : mir σ1 1 w := mir_eq hM (fun c q1 q2 => e1 c 1 (by simp))
    refine x_use (d := 1) (h_keep (j := 3) (sc := 1) hM1 (by omega) hw h0 h1 (by omega) kb (fun s s0 s1 => by rw [hr s s0 s1]; exact hT s s0 s1)) ?_
    rintro r σ2 ⟨rfl, q1, q2, q3⟩
    exact ⟨rfl, hQ _ _ ⟨rfl, eqo_trans (eqo_mono (by simp) e1) q1, fun k hk => by rw [q2 k hk, e1 24 3 (by simp)], _, rfl, q3.1, fun s s0 s1 => by rw [q3.2 s s0 s1, hr s s0 s1]⟩⟩
  by_cases ce : p_end w 5 f
  · have ek : kpE w 5 f = w 5 - w 6 := if_pos ce
    have k0 : w_of w f 7 = 0 := ce.elim id (fun z => by omega)
    have ls := last (s_fl σ 27 3 0 42 0) (eqo_fl (by simp) eqo_refl) (fun s s0 s1 => by
      rw [s_fl_in ⟨s0, s1⟩]
      unfold likR
      rw [if_pos k0])
    have hM1 : mir (s_fl σ 27 3 0 42 0) 1 w := mir_eq hM (fun c q1 q2 => (eqo_fl (S := [(27, 3)]) (by simp) eqo_refl) c 1 (by simp))
    rw [ek] at ls
    simp (disch := first | omega | (simp only [x_wtI, x_wtJ, x_wtR, x_wtN]; omega) | assumption | (simp (disch := omega) only [x_st_o, x_rd_ne]; first | assumption | omega) | (apply mir_eq; assumption; (intro c h1 h2; simp (disch := omega) only [x_st_o])) | (apply mis_eq; assumption; (intro c h1 h2; simp (disch := omega) only [x_st_o])) | rfl) only [sp_3, bk_3_0, bk_3_1, bk_3_2, bk_3_3, bk_3_4, bk_3_5, bk_3_6, bk_3_7, bk_3_8, bk_3_9, wp_ald0, wp_geti kd_24, wp_ifne, wp_parts, wr_24_0, wr_6_13, wp_ild1, wl_13, wp_cald, wl_25, wl_26, wl_27, wp_pald, wp_goto, wp_lc, wp_fall, wp_lst2, wk_4, wp_ist4, wp_ild4, wp_ifeq, wr_24_6, wp_ic, wp_icne, wr_24_5, wp_lneg, wk_278, wr_24_4, wk_66, wp_imul, wp_acpy kd_25 kd_27 (Or.inr rfl), wk_5, wp_lld2, wp_geti kd_6, wp_isub, wk_6, wp_ret, x_clr_I, x_clr_J, x_clr_R, x_clr_U, ct_some, ct_none, lc_lt, lc_ge, lc_gt, lc_le, lc_eq, lc_r, xI_inj, xJ_inj, Option.some.injEq, eq_self, bi_r, bi_0, bi_1, bi_n, Classical.not_not, and_true, true_and, ite_true, ite_false, ↓reduceIte, ↓x_andl, z_le, z_nle, z_lt, z_nlt, z_eq, z_neq, if_pos, if_neg, x_andl, false_and, and_false, or_true, true_or, or_false, false_or, not_true, not_false_iff, x_rd_eq, x_rd_ne, x_st_o, Int.cast_ofNat_Int, Int.ofNat_zero, Int.ofNat_one, not_true_eq_false, not_false_eq_true, if_true, if_false, ite_self, and_self, Int.ofNat_eq_natCast, Int.tdiv_eq_ediv_of_nonneg, Int.tmod_eq_emod_of_nonneg, x_bm32, hm, k_isEndC hM (show 3 < 4 by omega) hE hw, bi_t ce, k_fill27, mi_hold hM1, mi_left hM1]
    refine x_use (d := 0) ls ?_
    rintro r σ2 ⟨rfl, q⟩
    simp (disch := first | omega | (simp only [x_wtI, x_wtJ, x_wtR, x_wtN]; omega) | assumption | (simp (disch := omega) only [x_st_o, x_rd_ne]; first | assumption | omega) | (apply mir_eq; assumption; (intro c h1 h2; simp (disch := omega) only [x_st_o])) | (apply mis_eq; assumption; (intro c h1 h2; simp (disch := omega) only [x_st_o])) | rfl) only [bk_3_0, bk_3_1, bk_3_2, bk_3_3, bk_3_4, bk_3_5, bk_3_6, bk_3_7, bk_3_8, bk_3_9, wp_ald0, wp_geti kd_24, wp_ifne, wp_parts, wr_24_0, wr_6_13, wp_ild1, wl_13, wp_cald, wl_25, wl_26, wl_27, wp_pald, wp_goto, wp_lc, wp_fall, wp_lst2, wk_4, wp_ist4, wp_ild4, wp_ifeq, wr_24_6, wp_ic, wp_icne, wr_24_5, wp_lneg, wk_278, wr_24_4, wk_66, wp_imul, wp_acpy kd_25 kd_27 (Or.inr rfl), wk_5, wp_lld2, wp_geti kd_6, wp_isub, wk_6, wp_ret, x_clr_I, x_clr_J, x_clr_R, x_clr_U, ct_some, ct_none, lc_lt, lc_ge, lc_gt, lc_le, lc_eq, lc_r, xI_inj, xJ_inj, Option.some.injEq, eq_self, bi_r, bi_0, bi_1, bi_n, Classical.not_not, and_true, true_and, ite_true, ite_false, ↓reduceIte, ↓x_andl, z_le, z_nle, z_lt, z_nlt, z_eq, z_neq, if_pos, if_neg, x_andl, false_and, and_false, or_true, true_or, or_false, false_or, not_true, not_false_iff, x_rd_eq, x_rd_ne, x_st_o, Int.cast_ofNat_Int, Int.ofNat_zero, Int.ofNat_one, not_true_eq_false, not_false_eq_true, if_true, if_false, ite_self, and_self, Int.ofNat_eq_natCast, Int.tdiv_eq_ediv_of_nonneg, Int.tmod_eq_emod_of_nonneg, x_bm32]
    exact q
  · have ek : kpE w 5 f = w 5 := if_neg ce
    have k0 : ¬ w_of w f 7 = 0 := fun z => ce (Or.inl z)
    obtain ⟨i, hi, _, el⟩ := lik_k (w := w) (f := f) (by omega)
    have kk := wf_k hw (f := f) (i := i) h0 h1 hi.1 hi.2
    rw [← el] at kk
    have ls := last (x_cp σ 25 3 (p_lik w f * 42) 27 3 0 42) (eqo_cp (by simp) eqo_refl) (fun s s0 s1 => by
      unfold likR
      rw [if_neg k0, ← hV]
      simp (disch := omega) only [x_st_o, x_rd_ne, x_rd_eq, s_fl_o, s_fl_in, s_fl_out, x_cp_o, x_cp_in, x_cp_out]
      rw [show p_lik w f * 42 + (s - 0) = 42 * p_lik w f + s by omega])
    have hM1 : mir (x_cp σ 25 3 (p_lik w f * 42) 27 3 0 42) 1 w := mir_eq hM (fun c q1 q2 => (eqo_cp (S := [(27, 3)]) (by simp) eqo_refl) c 1 (by simp))
    rw [ek] at ls
    generalize hp : p_lik w f = p at ls hM1 kk
    have hx1 : 0 ≤ p * 42 ∧ p * 42 + 42 ≤ 1680 := by omega
    have lc := fun (d' : Nat) (Q' : Option x_V → x_S → Prop) => k_likC (d := d') (Q := Q') (f := f) hM hw h0 h1 (by omega)
    rw [hp] at lc
    simp (disch := first | omega | (simp only [x_wtI, x_wtJ, x_wtR, x_wtN]; omega) | assumption | (simp (disch := omega) only [x_st_o, x_rd_ne]; first | assumption | omega) | (apply mir_eq; assumption; (intro c h1 h2; simp (disch := omega) only [x_st_o])) | (apply mis_eq; assumption; (intro c h1 h2; simp (disch := omega) only [x_st_o])) | rfl) only [sp_3, bk_3_0, bk_3_1, bk_3_2, bk_3_3, bk_3_4, bk_3_5, bk_3_6, bk_3_7, bk_3_8, bk_3_9, wp_ald0, wp_geti kd_24, wp_ifne, wp_parts, wr_24_0, wr_6_13, wp_ild1, wl_13, wp_cald, wl_25, wl_26, wl_27, wp_pald, wp_goto, wp_lc, wp_fall, wp_lst2, wk_4, wp_ist4, wp_ild4, wp_ifeq, wr_24_6, wp_ic, wp_icne, wr_24_5, wp_lneg, wk_278, wr_24_4, wk_66, wp_imul, wp_acpy kd_25 kd_27 (Or.inr rfl), wk_5, wp_lld2, wp_geti kd_6, wp_isub, wk_6, wp_ret, x_clr_I, x_clr_J, x_clr_R, x_clr_U, ct_some, ct_none, lc_lt, lc_ge, lc_gt, lc_le, lc_eq, lc_r, xI_inj, xJ_inj, Option.some.injEq, eq_self, bi_r, bi_0, bi_1, bi_n, Classical.not_not, and_true, true_and, ite_true, ite_false, ↓reduceIte, ↓x_andl, z_le, z_nle, z_lt, z_nlt, z_eq, z_neq, if_pos, if_neg, x_andl, false_and, and_false, or_true, true_or, or_false, false_or, not_true, not_false_iff, x_rd_eq, x_rd_ne, x_st_o, Int.cast_ofNat_Int, Int.ofNat_zero, Int.ofNat_one, not_true_eq_false, not_false_eq_true, if_true, if_false, ite_self, and_self, Int.ofNat_eq_natCast, Int.tdiv_eq_ediv_of_nonneg, Int.tmod_eq_emod_of_nonneg, x_bm32, hm, k_isEndC hM (show 3 < 4 by omega) hE hw, bi_f ce, lc, mi_hold hM1, mi_left hM1]
    refine x_use (d := 0) ls ?_
    rintro r σ2 ⟨rfl, q⟩
    simp (disch := first | omega | (simp only [x_wtI, x_wtJ, x_wtR, x_wtN]; omega) | assumption | (simp (disch := omega) only [x_st_o, x_rd_ne]; first | assumption | omega) | (apply mir_eq; assumption; (intro c h1 h2; simp (disch := omega) only [x_st_o])) | (apply mis_eq; assumption; (intro c h1 h2; simp (disch := omega) only [x_st_o])) | rfl) only [bk_3_0, bk_3_1, bk_3_2, bk_3_3, bk_3_4, bk_3_5, bk_3_6, bk_3_7, bk_3_8, bk_3_9, wp_ald0, wp_geti kd_24, wp_ifne, wp_parts, wr_24_0, wr_6_13, wp_ild1, wl_13, wp_cald, wl_25, wl_26, wl_27, wp_pald, wp_goto, wp_lc, wp_fall, wp_lst2, wk_4, wp_ist4, wp_ild4, wp_ifeq, wr_24_6, wp_ic, wp_icne, wr_24_5, wp_lneg, wk_278, wr_24_4, wk_66, wp_imul, wp_acpy kd_25 kd_27 (Or.inr rfl), wk_5, wp_lld2, wp_geti kd_6, wp_isub, wk_6, wp_ret, x_clr_I, x_clr_J, x_clr_R, x_clr_U, ct_some, ct_none, lc_lt, lc_ge, lc_gt, lc_le, lc_eq, lc_r, xI_inj, xJ_inj, Option.some.injEq, eq_self, bi_r, bi_0, bi_1, bi_n, Classical.not_not, and_true, true_and, ite_true, ite_false, ↓reduceIte, ↓x_andl, z_le, z_nle, z_lt, z_nlt, z_eq, z_neq, if_pos, if_neg, x_andl, false_and, and_false, or_true, true_or, or_false, false_or, not_true, not_false_iff, x_rd_eq, x_rd_ne, x_st_o, Int.cast_ofNat_Int, Int.ofNat_zero, Int.ofNat_one, not_true_eq_false, not_false_eq_true, if_true, if_false, ite_self, and_self, Int.ofNat_eq_natCast, Int.tdiv_eq_ediv_of_nonneg, Int.tmod_eq_emod_of_nonneg, x_bm32]
    exact q

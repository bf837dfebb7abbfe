/-! forks that are alike in the model -/
def wS (w : Int → Int) : Prop := (1 ≤ w 0 ∧ w 0 ≤ 40) ∧ ∀ f, 0 ≤ f → f < w 0 → (0 ≤ w_of w f 7 ∧ w_of w f 7 ≤ 5) ∧ (0 ≤ w_of w f 6 ∧ w_of w f 6 ≤ 4) ∧ ((0 ≤ w_of w f 1 ∧ w_of w f 1 ≤ 1000) ∧ (0 ≤ w_of w f 2 ∧ w_of w f 2 ≤ 1000) ∧ (0 ≤ w_of w f 3 ∧ w_of w f 3 ≤ 1000) ∧ (0 ≤ w_of w f 4 ∧ w_of w f 4 ≤ 1000) ∧ (0 ≤ w_of w f 5 ∧ w_of w f 5 ≤ 1000)) ∧ ∀ i, 0 ≤ i → i < w_of w f 7 → (0 ≤ w_of w f (8 + i) ∧ w_of w f (8 + i) < w 0) ∧ w_of w (w_of w f (8 + i)) 6 = w_of w f 6 + 1
theorem wS_of {w : Int → Int} (hw : wf w) : wS w := by
  have a := wf_h hw
  unfold wf_hdr at a
  refine ⟨a.1, fun f f0 f1 => ?_⟩
  have o := wf_f hw f0 f1
  unfold wf_one at o
  refine ⟨by omega, by omega, by omega, fun i i0 i1 => ?_⟩
  have kk := wf_k hw f0 f1 i0 i1
  omega
def alk (w : Int → Int) : Nat → Int → Int → Prop
  | 0, f, g => flE w f g ∧ w_of w f 7 = w_of w g 7
  | n + 1, f, g => flE w f g ∧ w_of w f 7 = w_of w g 7 ∧ ∀ i, 0 ≤ i → i < w_of w f 7 → w_of w (w_of w f (8 + i)) 1 = w_of w (w_of w g (8 + i)) 1 ∧ alk w n (w_of w f (8 + i)) (w_of w g (8 + i))
theorem alk_b {w : Int → Int} {n : Nat} {f g : Int} (h : alk w n f g) : flE w f g ∧ w_of w f 7 = w_of w g 7 := by
  cases n with
  | zero => exact h
  | succ n => exact ⟨h.1, h.2.1⟩
theorem q_3 : (2 : Int) + 1 = 3 := id rfl
theorem q_4 : (3 : Int) + 1 = 4 := id rfl
theorem q_5 : (4 : Int) + 1 = 5 := id rfl
theorem q_6 : (5 : Int) + 1 = 6 := id rfl
set_option maxHeartbeats 8000000 in
theorem h_alike {w : Int → Int} (hS : wS w) : ∀ (n : Nat) (f g : Int) (σ : x_S), σ 51 0 = w → 0 ≤ f → f < w 0 → 0 ≤ g → g < w 0 → 4 ≤ n + w_of w f 6 → x_Sp (n + 1) 251 [xR 50 0, xI f, xI g] σ (fun r σ' => σ' = σ ∧ ∃ v, r = some (xI v) ∧ ((v = 1 ∧ alk w n f g) ∨ (v = 0 ∧ ¬ alk w n f g))) := by
  intro n
  induction n with
  | zero =>
    intro f g σ h51 f0 f1 g0 g1 hn
    obtain ⟨sf1, sf2, sf3, sf4⟩ := hS.2 f f0 f1
    obtain ⟨sg1, sg2, sg3, sg4⟩ := hS.2 g g0 g1
    have s0 := hS.1
    have k0 : w_of w f 7 = 0 := by
      by_cases z : w_of w f 7 = 0
      · exact z
      · have x := sf4 0 (by omega) (by omega)
        have y := (hS.2 _ x.1.1 x.1.2).2.1
        omega
    refine x_gen (fun Q hQ => ?_)
    by_cases c0 : w_of w f 7 = w_of w g 7
    · by_cases c2 : w_of w f 2 = w_of w g 2
      · by_cases c3 : w_of w f 3 = w_of w g 3
        · by_cases c4 : w_of w f 4 = w_of w g 4
          · by_cases c5 : w_of w f 5 = w_of w g 5
            · have F := hQ (some (xI 1)) σ ⟨rfl, 1, rfl, Or.inl ⟨rfl, ⟨c2, c3, c4, c5⟩, c0⟩⟩
              simp (disch := first | omega | (simp only [x_wtI, x_wtJ, x_wtR, x_wtN]; omega) | assumption | (simp (disch := omega) only [x_st_o, x_rd_ne]; first | assumption | omega) | (apply mir_eq; assumption; (intro c h1 h2; simp (disch := omega) only [x_st_o])) | (apply mis_eq; assumption; (intro c h1 h2; simp (disch := omega) only [x_st_o])) | rfl) only [sp_251, bk_251_0, bk_251_1, bk_251_2, bk_251_3, bk_251_4, bk_251_5, bk_251_6, bk_251_7, bk_251_8, bk_251_9, bk_251_10, wp_ald0, wp_ild1, wp_ic, wk_192, wp_ild2, wp_icne, wp_goto, wp_fall, wp_ist3, wp_ist4, wp_ild4, wp_icgt, wp_ild3, wp_ifeq, wp_inc4, wp_icge, wp_iadd, wp_ist5, wp_ist6, wp_ild5, wp_ild6, wk_251, wp_zret0 mz_251, wp_zret1 mz_251, wp_zretb mz_251, wp_zret mz_251, x_clr_I, x_clr_J, x_clr_R, x_clr_U, ct_some, ct_none, lc_lt, lc_ge, lc_gt, lc_le, lc_eq, lc_r, xI_inj, xJ_inj, Option.some.injEq, eq_self, bi_r, bi_0, bi_1, bi_n, Classical.not_not, and_true, true_and, ite_true, ite_false, ↓reduceIte, ↓x_andl, z_le, z_nle, z_lt, z_nlt, z_eq, z_neq, if_pos, if_neg, x_andl, false_and, and_false, or_true, true_or, or_false, false_or, not_true, not_false_iff, x_rd_eq, x_rd_ne, x_st_o, Int.cast_ofNat_Int, Int.ofNat_zero, Int.ofNat_one, not_true_eq_false, not_false_eq_true, if_true, if_false, ite_self, and_self, Int.ofNat_eq_natCast, Int.tdiv_eq_ediv_of_nonneg, Int.tmod_eq_emod_of_nonneg, x_bm32, k_of, q_3, q_4, q_5, q_6]
              exact F
            · have F := hQ (some (xI 0)) σ ⟨rfl, 0, rfl, Or.inr ⟨rfl, fun z => c5 z.1.2.2.2⟩⟩
              simp (disch := first | omega | (simp only [x_wtI, x_wtJ, x_wtR, x_wtN]; omega) | assumption | (simp (disch := omega) only [x_st_o, x_rd_ne]; first | assumption | omega) | (apply mir_eq; assumption; (intro c h1 h2; simp (disch := omega) only [x_st_o])) | (apply mis_eq; assumption; (intro c h1 h2; simp (disch := omega) only [x_st_o])) | rfl) only [sp_251, bk_251_0, bk_251_1, bk_251_2, bk_251_3, bk_251_4, bk_251_5, bk_251_6, bk_251_7, bk_251_8, bk_251_9, bk_251_10, wp_ald0, wp_ild1, wp_ic, wk_192, wp_ild2, wp_icne, wp_goto, wp_fall, wp_ist3, wp_ist4, wp_ild4, wp_icgt, wp_ild3, wp_ifeq, wp_inc4, wp_icge, wp_iadd, wp_ist5, wp_ist6, wp_ild5, wp_ild6, wk_251, wp_zret0 mz_251, wp_zret1 mz_251, wp_zretb mz_251, wp_zret mz_251, x_clr_I, x_clr_J, x_clr_R, x_clr_U, ct_some, ct_none, lc_lt, lc_ge, lc_gt, lc_le, lc_eq, lc_r, xI_inj, xJ_inj, Option.some.injEq, eq_self, bi_r, bi_0, bi_1, bi_n, Classical.not_not, and_true, true_and, ite_true, ite_false, ↓reduceIte, ↓x_andl, z_le, z_nle, z_lt, z_nlt, z_eq, z_neq, if_pos, if_neg, x_andl, false_and, and_false, or_true, true_or, or_false, false_or, not_true, not_false_iff, x_rd_eq, x_rd_ne, x_st_o, Int.cast_ofNat_Int, Int.ofNat_zero, Int.ofNat_one, not_true_eq_false, not_false_eq_true, if_true, if_false, ite_self, and_self, Int.ofNat_eq_natCast, Int.tdiv_eq_ediv_of_nonneg, Int.tmod_eq_emod_of_nonneg, x_bm32, k_of, q_3, q_4, q_5, q_6]
              exact F
          · have F := hQ (some (xI 0)) σ ⟨rfl, 0, rfl, Or.inr ⟨rfl, fun z => c4 z.1.2.2.1⟩⟩
            simp (disch := first | omega | (simp only [x_wtI, x_wtJ, x_wtR, x_wtN]; omega) | assumption | (simp (disch := omega) only [x_st_o, x_rd_ne]; first | assumption | omega) | (apply mir_eq; assumption; (intro c h1 h2; simp (disch := omega) only [x_st_o])) | (apply mis_eq; assumption; (intro c h1 h2; simp (disch := omega) only [x_st_o])) | rfl) only [sp_251, bk_251_0, bk_251_1, bk_251_2, bk_251_3, bk_251_4, bk_251_5, bk_251_6, bk_251_7, bk_251_8, bk_251_9, bk_251_10, wp_ald0, wp_ild1, wp_ic, wk_192, wp_ild2, wp_icne, wp_goto, wp_fall, wp_ist3, wp_ist4, wp_ild4, wp_icgt, wp_ild3, wp_ifeq, wp_inc4, wp_icge, wp_iadd, wp_ist5, wp_ist6, wp_ild5, wp_ild6, wk_251, wp_zret0 mz_251, wp_zret1 mz_251, wp_zretb mz_251, wp_zret mz_251, x_clr_I, x_clr_J, x_clr_R, x_clr_U, ct_some, ct_none, lc_lt, lc_ge, lc_gt, lc_le, lc_eq, lc_r, xI_inj, xJ_inj, Option.some.injEq, eq_self, bi_r, bi_0, bi_1, bi_n, Classical.not_not, and_true, true_and, ite_true, ite_false, ↓reduceIte, ↓x_andl, z_le, z_nle, z_lt, z_nlt, z_eq, z_neq, if_pos, if_neg, x_andl, false_and, and_false, or_true, true_or, or_false, false_or, not_true, not_false_iff, x_rd_eq, x_rd_ne, x_st_o, Int.cast_ofNat_Int, Int.ofNat_zero, Int.ofNat_one, not_true_eq_false, not_false_eq_true, if_true, if_false, ite_self, and_self, Int.ofNat_eq_natCast, Int.tdiv_eq_ediv_of_nonneg, Int.tmod_eq_emod_of_nonneg, x_bm32, k_of, q_3, q_4, q_5, q_6]
            exact F
        · have F := hQ (some (xI 0)) σ ⟨rfl, 0, rfl, Or.inr ⟨rfl, fun z => c3 z.1.2.1⟩⟩
          simp (disch := first | omega | (simp only [x_wtI, x_wtJ, x_wtR, x_wtN]; omega) | assumption | (simp (disch := omega) only [x_st_o, x_rd_ne]; first | assumption | omega) | (apply mir_eq; assumption; (intro c h1 h2; simp (disch := omega) only [x_st_o])) | (apply mis_eq; assumption; (intro c h1 h2; simp (disch := omega) only [x_st_o])) | rfl) only [sp_251, bk_251_0, bk_251_1, bk_251_2, bk_251_3, bk_251_4, bk_251_5, bk_251_6, bk_251_7, bk_251_8, bk_251_9, bk_251_10, wp_ald0, wp_ild1, wp_ic, wk_192, wp_ild2, wp_icne, wp_goto, wp_fall, wp_ist3, wp_ist4, wp_ild4, wp_icgt, wp_ild3, wp_ifeq, wp_inc4, wp_icge, wp_iadd, wp_ist5, wp_ist6, wp_ild5, wp_ild6, wk_251, wp_zret0 mz_251, wp_zret1 mz_251, wp_zretb mz_251, wp_zret mz_251, x_clr_I, x_clr_J, x_clr_R, x_clr_U, ct_some, ct_none, lc_lt, lc_ge, lc_gt, lc_le, lc_eq, lc_r, xI_inj, xJ_inj, Option.some.injEq, eq_self, bi_r, bi_0, bi_1, bi_n, Classical.not_not, and_true, true_and, ite_true, ite_false, ↓reduceIte, ↓x_andl, z_le, z_nle, z_lt, z_nlt, z_eq, z_neq, if_pos, if_neg, x_andl, false_and, and_false, or_true, true_or, or_false, false_or, not_true, not_false_iff, x_rd_eq, x_rd_ne, x_st_o, Int.cast_ofNat_Int, Int.ofNat_zero, Int.ofNat_one, not_true_eq_false, not_false_eq_true, if_true, if_false, ite_self, and_self, Int.ofNat_eq_natCast, Int.tdiv_eq_ediv_of_nonneg, Int.tmod_eq_emod_of_nonneg, x_bm32, k_of, q_3, q_4, q_5, q_6]
          exact F
      · have F := hQ (some (xI 0)) σ ⟨rfl, 0, rfl, Or.inr ⟨rfl, fun z => c2 z.1.1⟩⟩
        simp (disch := first | omega | (simp only [x_wtI, x_wtJ, x_wtR, x_wtN]; omega) | assumption | (simp (disch := omega) only [x_st_o, x_rd_ne]; first | assumption | omega) | (apply mir_eq; assumption; (intro c h1 h2; simp (disch := omega) only [x_st_o])) | (apply mis_eq; assumption; (intro c h1 h2; simp (disch := omega) only [x_st_o])) | rfl) only [sp_251, bk_251_0, bk_251_1, bk_251_2, bk_251_3, bk_251_4, bk_251_5, bk_251_6, bk_251_7, bk_251_8, bk_251_9, bk_251_10, wp_ald0, wp_ild1, wp_ic, wk_192, wp_ild2, wp_icne, wp_goto, wp_fall, wp_ist3, wp_ist4, wp_ild4, wp_icgt, wp_ild3, wp_ifeq, wp_inc4, wp_icge, wp_iadd, wp_ist5, wp_ist6, wp_ild5, wp_ild6, wk_251, wp_zret0 mz_251, wp_zret1 mz_251, wp_zretb mz_251, wp_zret mz_251, x_clr_I, x_clr_J, x_clr_R, x_clr_U, ct_some, ct_none, lc_lt, lc_ge, lc_gt, lc_le, lc_eq, lc_r, xI_inj, xJ_inj, Option.some.injEq, eq_self, bi_r, bi_0, bi_1, bi_n, Classical.not_not, and_true, true_and, ite_true, ite_false, ↓reduceIte, ↓x_andl, z_le, z_nle, z_lt, z_nlt, z_eq, z_neq, if_pos, if_neg, x_andl, false_and, and_false, or_true, true_or, or_false, false_or, not_true, not_false_iff, x_rd_eq, x_rd_ne, x_st_o, Int.cast_ofNat_Int, Int.ofNat_zero, Int.ofNat_one, not_true_eq_false, not_false_eq_true, if_true, if_false, ite_self, and_self, Int.ofNat_eq_natCast, Int.tdiv_eq_ediv_of_nonneg, Int.tmod_eq_emod_of_nonneg, x_bm32, k_of, q_3, q_4, q_5, q_6]
        exact F
    · have F := hQ (some (xI 0)) σ ⟨rfl, 0, rfl, Or.inr ⟨rfl, fun z => c0 z.2⟩⟩
      simp (disch := first | omega | (simp only [x_wtI, x_wtJ, x_wtR, x_wtN]; omega) | assumption | (simp (disch := omega) only [x_st_o, x_rd_ne]; first | assumption | omega) | (apply mir_eq; assumption; (intro c h1 h2; simp (disch := omega) only [x_st_o])) | (apply mis_eq; assumption; (intro c h1 h2; simp (disch := omega) only [x_st_o])) | rfl) only [sp_251, bk_251_0, bk_251_1, bk_251_2, bk_251_3, bk_251_4, bk_251_5, bk_251_6, bk_251_7, bk_251_8, bk_251_9, bk_251_10, wp_ald0, wp_ild1, wp_ic, wk_192, wp_ild2, wp_icne, wp_goto, wp_fall, wp_ist3, wp_ist4, wp_ild4, wp_icgt, wp_ild3, wp_ifeq, wp_inc4, wp_icge, wp_iadd, wp_ist5, wp_ist6, wp_ild5, wp_ild6, wk_251, wp_zret0 mz_251, wp_zret1 mz_251, wp_zretb mz_251, wp_zret mz_251, x_clr_I, x_clr_J, x_clr_R, x_clr_U, ct_some, ct_none, lc_lt, lc_ge, lc_gt, lc_le, lc_eq, lc_r, xI_inj, xJ_inj, Option.some.injEq, eq_self, bi_r, bi_0, bi_1, bi_n, Classical.not_not, and_true, true_and, ite_true, ite_false, ↓reduceIte, ↓x_andl, z_le, z_nle, z_lt, z_nlt, z_eq, z_neq, if_pos, if_neg, x_andl, false_and, and_false, or_true, true_or, or_false, false_or, not_true, not_false_iff, x_rd_eq, x_rd_ne, x_st_o, Int.cast_ofNat_Int, Int.ofNat_zero, Int.ofNat_one, not_true_eq_false, not_false_eq_true, if_true, if_false, ite_self, and_self, Int.ofNat_eq_natCast, Int.tdiv_eq_ediv_of_nonneg, Int.tmod_eq_emod_of_nonneg, x_bm32, k_of, q_3, q_4, q_5, q_6]
      exact F
  | succ n ih =>
    intro f g σ h51 f0 f1 g0 g1 hn
    obtain ⟨sf1, sf2, sf3, sf4⟩ := hS.2 f f0 f1
    obtain ⟨sg1, sg2, sg3, sg4⟩ := hS.2 g g0 g1
    have s0 := hS.1
    refine x_gen (fun Q hQ => ?_)
    have no : ¬ (flE w f g ∧ w_of w f 7 = w_of w g 7) → Q (some (xI 0)) σ := fun z => hQ _ _ ⟨rfl, 0, rfl, Or.inr ⟨rfl, fun y => z (alk_b y)⟩⟩
    by_cases c0 : w_of w f 7 = w_of w g 7
    · by_cases c2 : w_of w f 2 = w_of w g 2
      · by_cases c3 : w_of w f 3 = w_of w g 3
        · by_cases c4 : w_of w f 4 = w_of w g 4
          · by_cases c5 : w_of w f 5 = w_of w g 5
            · have lp : x_Wp (n + 1 + 1) 251 (x_blk 251 7) [xR 50 0, xI f, xI g, xI 1, xI 0, xU, xU] [] σ Q := by
                refine x_lpX (α := x_V × x_V) (fun i _ => ∀ q, 0 ≤ q → q < i → w_of w (w_of w f (8 + q)) 1 = w_of w (w_of w g (8 + q)) 1 ∧ alk w n (w_of w f (8 + q)) (w_of w g (8 + q))) (fun i q => x_Wp (n + 1 + 1) 251 (x_blk 251 7) [xR 50 0, xI f, xI g, xI 1, xI i, q.1, q.2] [] σ Q) (lo := 0) (hi := w_of w f 7) (by omega) (a0 := (xU, xU)) (fun q a b => by omega) ?_ ?_
                · intro i ⟨u5, u6⟩ i0 i1 hJ
                  simp only
                  have xf := sf4 i i0 i1
                  have xg := sg4 i i0 (by omega)
                  have cf := (hS.2 _ xf.1.1 xf.1.2).2.2.1.1
                  have cg := (hS.2 _ xg.1.1 xg.1.2).2.2.1.1
                  obtain ⟨r, σ', ⟨hσ', v, hr, hv⟩, ev⟩ := x_ex (ih (w_of w f (8 + i)) (w_of w g (8 + i)) σ h51 xf.1.1 xf.1.2 xg.1.1 xg.1.2 (by omega))
                  subst hσ'
                  subst hr
                  have F : ¬ (w_of w (w_of w f (8 + i)) 1 = w_of w (w_of w g (8 + i)) 1 ∧ alk w n (w_of w f (8 + i)) (w_of w g (8 + i))) → Q (some (xI 0)) σ' := fun z => hQ _ _ ⟨rfl, 0, rfl, Or.inr ⟨rfl, fun y => z (y.2.2 i i0 i1)⟩⟩
                  have ys : (w_of w (w_of w f (8 + i)) 1 = w_of w (w_of w g (8 + i)) 1 ∧ alk w n (w_of w f (8 + i)) (w_of w g (8 + i))) → ∀ q, 0 ≤ q → q < i + 1 → w_of w (w_of w f (8 + q)) 1 = w_of w (w_of w g (8 + q)) 1 ∧ alk w n (w_of w f (8 + q)) (w_of w g (8 + q)) := by
                    intro z q q0 q1
                    by_cases y : q = i
                    · rw [y]
                      exact z
                    · exact hJ q q0 (by omega)
                  generalize hka : w_of w f (8 + i) = ka at xf cf ev hv F ys
                  generalize hkb : w_of w g (8 + i) = kb at xg cg ev hv F ys
                  have ev0 := fun Q' => ev 0 Q'
                  simp only [Nat.zero_add] at ev0
                  by_cases c1 : w_of w ka 1 = w_of w kb 1
                  · rcases hv with ⟨rfl, hl⟩ | ⟨rfl, hl⟩
                    · refine Or.inr ⟨(xI ka, xI kb), ys ⟨c1, hl⟩, fun H => ?_⟩
                      simp only at H
                      rw [bk_251_7]
                      simp (disch := first | omega | (simp only [x_wtI, x_wtJ, x_wtR, x_wtN]; omega) | assumption | (simp (disch := omega) only [x_st_o, x_rd_ne]; first | assumption | omega) | (apply mir_eq; assumption; (intro c h1 h2; simp (disch := omega) only [x_st_o])) | (apply mis_eq; assumption; (intro c h1 h2; simp (disch := omega) only [x_st_o])) | rfl) only [bk_251_0, bk_251_1, bk_251_2, bk_251_3, bk_251_4, bk_251_5, bk_251_6, bk_251_8, bk_251_9, bk_251_10, wp_ald0, wp_ild1, wp_ic, wk_192, wp_ild2, wp_icne, wp_goto, wp_fall, wp_ist3, wp_ist4, wp_ild4, wp_icgt, wp_ild3, wp_ifeq, wp_inc4, wp_icge, wp_iadd, wp_ist5, wp_ist6, wp_ild5, wp_ild6, wk_251, wp_zret0 mz_251, wp_zret1 mz_251, wp_zretb mz_251, wp_zret mz_251, x_clr_I, x_clr_J, x_clr_R, x_clr_U, ct_some, ct_none, lc_lt, lc_ge, lc_gt, lc_le, lc_eq, lc_r, xI_inj, xJ_inj, Option.some.injEq, eq_self, bi_r, bi_0, bi_1, bi_n, Classical.not_not, and_true, true_and, ite_true, ite_false, ↓reduceIte, ↓x_andl, z_le, z_nle, z_lt, z_nlt, z_eq, z_neq, if_pos, if_neg, x_andl, false_and, and_false, or_true, true_or, or_false, false_or, not_true, not_false_iff, x_rd_eq, x_rd_ne, x_st_o, Int.cast_ofNat_Int, Int.ofNat_zero, Int.ofNat_one, not_true_eq_false, not_false_eq_true, if_true, if_false, ite_self, and_self, Int.ofNat_eq_natCast, Int.tdiv_eq_ediv_of_nonneg, Int.tmod_eq_emod_of_nonneg, x_bm32, k_of, hka, hkb]
                      refine (ev0 _).mpr ?_
                      simp (disch := first | omega | (simp only [x_wtI, x_wtJ, x_wtR, x_wtN]; omega) | assumption | (simp (disch := omega) only [x_st_o, x_rd_ne]; first | assumption | omega) | (apply mir_eq; assumption; (intro c h1 h2; simp (disch := omega) only [x_st_o])) | (apply mis_eq; assumption; (intro c h1 h2; simp (disch := omega) only [x_st_o])) | rfl) only [bk_251_0, bk_251_1, bk_251_2, bk_251_3, bk_251_4, bk_251_5, bk_251_6, bk_251_8, bk_251_9, bk_251_10, wp_ald0, wp_ild1, wp_ic, wk_192, wp_ild2, wp_icne, wp_goto, wp_fall, wp_ist3, wp_ist4, wp_ild4, wp_icgt, wp_ild3, wp_ifeq, wp_inc4, wp_icge, wp_iadd, wp_ist5, wp_ist6, wp_ild5, wp_ild6, wk_251, wp_zret0 mz_251, wp_zret1 mz_251, wp_zretb mz_251, wp_zret mz_251, x_clr_I, x_clr_J, x_clr_R, x_clr_U, ct_some, ct_none, lc_lt, lc_ge, lc_gt, lc_le, lc_eq, lc_r, xI_inj, xJ_inj, Option.some.injEq, eq_self, bi_r, bi_0, bi_1, bi_n, Classical.not_not, and_true, true_and, ite_true, ite_false, ↓reduceIte, ↓x_andl, z_le, z_nle, z_lt, z_nlt, z_eq, z_neq, if_pos, if_neg, x_andl, false_and, and_false, or_true, true_or, or_false, false_or, not_true, not_false_iff, x_rd_eq, x_rd_ne, x_st_o, Int.cast_ofNat_Int, Int.ofNat_zero, Int.ofNat_one, not_true_eq_false, not_false_eq_true, if_true, if_false, ite_self, and_self, Int.ofNat_eq_natCast, Int.tdiv_eq_ediv_of_nonneg, Int.tmod_eq_emod_of_nonneg, x_bm32]
                      exact H
                    · have F2 := F (fun z => hl z.2)
                      refine Or.inl ?_
                      rw [bk_251_7]
                      simp (disch := first | omega | (simp only [x_wtI, x_wtJ, x_wtR, x_wtN]; omega) | assumption | (simp (disch := omega) only [x_st_o, x_rd_ne]; first | assumption | omega) | (apply mir_eq; assumption; (intro c h1 h2; simp (disch := omega) only [x_st_o])) | (apply mis_eq; assumption; (intro c h1 h2; simp (disch := omega) only [x_st_o])) | rfl) only [bk_251_0, bk_251_1, bk_251_2, bk_251_3, bk_251_4, bk_251_5, bk_251_6, bk_251_8, bk_251_9, bk_251_10, wp_ald0, wp_ild1, wp_ic, wk_192, wp_ild2, wp_icne, wp_goto, wp_fall, wp_ist3, wp_ist4, wp_ild4, wp_icgt, wp_ild3, wp_ifeq, wp_inc4, wp_icge, wp_iadd, wp_ist5, wp_ist6, wp_ild5, wp_ild6, wk_251, wp_zret0 mz_251, wp_zret1 mz_251, wp_zretb mz_251, wp_zret mz_251, x_clr_I, x_clr_J, x_clr_R, x_clr_U, ct_some, ct_none, lc_lt, lc_ge, lc_gt, lc_le, lc_eq, lc_r, xI_inj, xJ_inj, Option.some.injEq, eq_self, bi_r, bi_0, bi_1, bi_n, Classical.not_not, and_true, true_and, ite_true, ite_false, ↓reduceIte, ↓x_andl, z_le, z_nle, z_lt, z_nlt, z_eq, z_neq, if_pos, if_neg, x_andl, false_and, and_false, or_true, true_or, or_false, false_or, not_true, not_false_iff, x_rd_eq, x_rd_ne, x_st_o, Int.cast_ofNat_Int, Int.ofNat_zero, Int.ofNat_one, not_true_eq_false, not_false_eq_true, if_true, if_false, ite_self, and_self, Int.ofNat_eq_natCast, Int.tdiv_eq_ediv_of_nonneg, Int.tmod_eq_emod_of_nonneg, x_bm32, k_of, hka, hkb]
                      refine (ev0 _).mpr ?_
                      simp (disch := first | omega | (simp only [x_wtI, x_wtJ, x_wtR, x_wtN]; omega) | assumption | (simp (disch := omega) only [x_st_o, x_rd_ne]; first | assumption | omega) | (apply mir_eq; assumption; (intro c h1 h2; simp (disch := omega) only [x_st_o])) | (apply mis_eq; assumption; (intro c h1 h2; simp (disch := omega) only [x_st_o])) | rfl) only [bk_251_0, bk_251_1, bk_251_2, bk_251_3, bk_251_4, bk_251_5, bk_251_6, bk_251_8, bk_251_9, bk_251_10, wp_ald0, wp_ild1, wp_ic, wk_192, wp_ild2, wp_icne, wp_goto, wp_fall, wp_ist3, wp_ist4, wp_ild4, wp_icgt, wp_ild3, wp_ifeq, wp_inc4, wp_icge, wp_iadd, wp_ist5, wp_ist6, wp_ild5, wp_ild6, wk_251, wp_zret0 mz_251, wp_zret1 mz_251, wp_zretb mz_251, wp_zret mz_251, x_clr_I, x_clr_J, x_clr_R, x_clr_U, ct_some, ct_none, lc_lt, lc_ge, lc_gt, lc_le, lc_eq, lc_r, xI_inj, xJ_inj, Option.some.injEq, eq_self, bi_r, bi_0, bi_1, bi_n, Classical.not_not, and_true, true_and, ite_true, ite_false, ↓reduceIte, ↓x_andl, z_le, z_nle, z_lt, z_nlt, z_eq, z_neq, if_pos, if_neg, x_andl, false_and, and_false, or_true, true_or, or_false, false_or, not_true, not_false_iff, x_rd_eq, x_rd_ne, x_st_o, Int.cast_ofNat_Int, Int.ofNat_zero, Int.ofNat_one, not_true_eq_false, not_false_eq_true, if_true, if_false, ite_self, and_self, Int.ofNat_eq_natCast, Int.tdiv_eq_ediv_of_nonneg, Int.tmod_eq_emod_of_nonneg, x_bm32]
                      rw [bk_251_7]
                      simp (disch := first | omega | (simp only [x_wtI, x_wtJ, x_wtR, x_wtN]; omega) | assumption | (simp (disch := omega) only [x_st_o, x_rd_ne]; first | assumption | omega) | (apply mir_eq; assumption; (intro c h1 h2; simp (disch := omega) only [x_st_o])) | (apply mis_eq; assumption; (intro c h1 h2; simp (disch := omega) only [x_st_o])) | rfl) only [bk_251_0, bk_251_1, bk_251_2, bk_251_3, bk_251_4, bk_251_5, bk_251_6, bk_251_8, bk_251_9, bk_251_10, wp_ald0, wp_ild1, wp_ic, wk_192, wp_ild2, wp_icne, wp_goto, wp_fall, wp_ist3, wp_ist4, wp_ild4, wp_icgt, wp_ild3, wp_ifeq, wp_inc4, wp_icge, wp_iadd, wp_ist5, wp_ist6, wp_ild5, wp_ild6, wk_251, wp_zret0 mz_251, wp_zret1 mz_251, wp_zretb mz_251, wp_zret mz_251, x_clr_I, x_clr_J, x_clr_R, x_clr_U, ct_some, ct_none, lc_lt, lc_ge, lc_gt, lc_le, lc_eq, lc_r, xI_inj, xJ_inj, Option.some.injEq, eq_self, bi_r, bi_0, bi_1, bi_n, Classical.not_not, and_true, true_and, ite_true, ite_false, ↓reduceIte, ↓x_andl, z_le, z_nle, z_lt, z_nlt, z_eq, z_neq, if_pos, if_neg, x_andl, false_and, and_false, or_true, true_or, or_false, false_or, not_true, not_false_iff, x_rd_eq, x_rd_ne, x_st_o, Int.cast_ofNat_Int, Int.ofNat_zero, Int.ofNat_one, not_true_eq_false, not_false_eq_true, if_true, if_false, ite_self, and_self, Int.ofNat_eq_natCast, Int.tdiv_eq_ediv_of_nonneg, Int.tmod_eq_emod_of_nonneg, x_bm32]
                      exact F2
                  · have F2 := F (fun z => c1 z.1)
                    refine Or.inl ?_
                    rw [bk_251_7]
                    simp (disch := first | omega | (simp only [x_wtI, x_wtJ, x_wtR, x_wtN]; omega) | assumption | (simp (disch := omega) only [x_st_o, x_rd_ne]; first | assumption | omega) | (apply mir_eq; assumption; (intro c h1 h2; simp (disch := omega) only [x_st_o])) | (apply mis_eq; assumption; (intro c h1 h2; simp (disch := omega) only [x_st_o])) | rfl) only [bk_251_0, bk_251_1, bk_251_2, bk_251_3, bk_251_4, bk_251_5, bk_251_6, bk_251_8, bk_251_9, bk_251_10, wp_ald0, wp_ild1, wp_ic, wk_192, wp_ild2, wp_icne, wp_goto, wp_fall, wp_ist3, wp_ist4, wp_ild4, wp_icgt, wp_ild3, wp_ifeq, wp_inc4, wp_icge, wp_iadd, wp_ist5, wp_ist6, wp_ild5, wp_ild6, wk_251, wp_zret0 mz_251, wp_zret1 mz_251, wp_zretb mz_251, wp_zret mz_251, x_clr_I, x_clr_J, x_clr_R, x_clr_U, ct_some, ct_none, lc_lt, lc_ge, lc_gt, lc_le, lc_eq, lc_r, xI_inj, xJ_inj, Option.some.injEq, eq_self, bi_r, bi_0, bi_1, bi_n, Classical.not_not, and_true, true_and, ite_true, ite_false, ↓reduceIte, ↓x_andl, z_le, z_nle, z_lt, z_nlt, z_eq, z_neq, if_pos, if_neg, x_andl, false_and, and_false, or_true, true_or, or_false, false_or, not_true, not_false_iff, x_rd_eq, x_rd_ne, x_st_o, Int.cast_ofNat_Int, Int.ofNat_zero, Int.ofNat_one, not_true_eq_false, not_false_eq_true, if_true, if_false, ite_self, and_self, Int.ofNat_eq_natCast, Int.tdiv_eq_ediv_of_nonneg, Int.tmod_eq_emod_of_nonneg, x_bm32, k_of, hka, hkb]
                    rw [bk_251_7]
                    simp (disch := first | omega | (simp only [x_wtI, x_wtJ, x_wtR, x_wtN]; omega) | assumption | (simp (disch := omega) only [x_st_o, x_rd_ne]; first | assumption | omega) | (apply mir_eq; assumption; (intro c h1 h2; simp (disch := omega) only [x_st_o])) | (apply mis_eq; assumption; (intro c h1 h2; simp (disch := omega) only [x_st_o])) | rfl) only [bk_251_0, bk_251_1, bk_251_2, bk_251_3, bk_251_4, bk_251_5, bk_251_6, bk_251_8, bk_251_9, bk_251_10, wp_ald0, wp_ild1, wp_ic, wk_192, wp_ild2, wp_icne, wp_goto, wp_fall, wp_ist3, wp_ist4, wp_ild4, wp_icgt, wp_ild3, wp_ifeq, wp_inc4, wp_icge, wp_iadd, wp_ist5, wp_ist6, wp_ild5, wp_ild6, wk_251, wp_zret0 mz_251, wp_zret1 mz_251, wp_zretb mz_251, wp_zret mz_251, x_clr_I, x_clr_J, x_clr_R, x_clr_U, ct_some, ct_none, lc_lt, lc_ge, lc_gt, lc_le, lc_eq, lc_r, xI_inj, xJ_inj, Option.some.injEq, eq_self, bi_r, bi_0, bi_1, bi_n, Classical.not_not, and_true, true_and, ite_true, ite_false, ↓reduceIte, ↓x_andl, z_le, z_nle, z_lt, z_nlt, z_eq, z_neq, if_pos, if_neg, x_andl, false_and, and_false, or_true, true_or, or_false, false_or, not_true, not_false_iff, x_rd_eq, x_rd_ne, x_st_o, Int.cast_ofNat_Int, Int.ofNat_zero, Int.ofNat_one, not_true_eq_false, not_false_eq_true, if_true, if_false, ite_self, and_self, Int.ofNat_eq_natCast, Int.tdiv_eq_ediv_of_nonneg, Int.tmod_eq_emod_of_nonneg, x_bm32]
                    exact F2
                · intro ⟨u5, u6⟩ hJ
                  have F := hQ (some (xI 1)) σ ⟨rfl, 1, rfl, Or.inl ⟨rfl, ⟨c2, c3, c4, c5⟩, c0, hJ⟩⟩
                  simp only
                  rw [bk_251_7]
                  simp (disch := first | omega | (simp only [x_wtI, x_wtJ, x_wtR, x_wtN]; omega) | assumption | (simp (disch := omega) only [x_st_o, x_rd_ne]; first | assumption | omega) | (apply mir_eq; assumption; (intro c h1 h2; simp (disch := omega) only [x_st_o])) | (apply mis_eq; assumption; (intro c h1 h2; simp (disch := omega) only [x_st_o])) | rfl) only [bk_251_0, bk_251_1, bk_251_2, bk_251_3, bk_251_4, bk_251_5, bk_251_6, bk_251_8, bk_251_9, bk_251_10, wp_ald0, wp_ild1, wp_ic, wk_192, wp_ild2, wp_icne, wp_goto, wp_fall, wp_ist3, wp_ist4, wp_ild4, wp_icgt, wp_ild3, wp_ifeq, wp_inc4, wp_icge, wp_iadd, wp_ist5, wp_ist6, wp_ild5, wp_ild6, wk_251, wp_zret0 mz_251, wp_zret1 mz_251, wp_zretb mz_251, wp_zret mz_251, x_clr_I, x_clr_J, x_clr_R, x_clr_U, ct_some, ct_none, lc_lt, lc_ge, lc_gt, lc_le, lc_eq, lc_r, xI_inj, xJ_inj, Option.some.injEq, eq_self, bi_r, bi_0, bi_1, bi_n, Classical.not_not, and_true, true_and, ite_true, ite_false, ↓reduceIte, ↓x_andl, z_le, z_nle, z_lt, z_nlt, z_eq, z_neq, if_pos, if_neg, x_andl, false_and, and_false, or_true, true_or, or_false, false_or, not_true, not_false_iff, x_rd_eq, x_rd_ne, x_st_o, Int.cast_ofNat_Int, Int.ofNat_zero, Int.ofNat_one, not_true_eq_false, not_false_eq_true, if_true, if_false, ite_self, and_self, Int.ofNat_eq_natCast, Int.tdiv_eq_ediv_of_nonneg, Int.tmod_eq_emod_of_nonneg, x_bm32, k_of]
                  exact F
              simp (disch := first | omega | (simp only [x_wtI, x_wtJ, x_wtR, x_wtN]; omega) | assumption | (simp (disch := omega) only [x_st_o, x_rd_ne]; first | assumption | omega) | (apply mir_eq; assumption; (intro c h1 h2; simp (disch := omega) only [x_st_o])) | (apply mis_eq; assumption; (intro c h1 h2; simp (disch := omega) only [x_st_o])) | rfl) only [sp_251, bk_251_0, bk_251_1, bk_251_2, bk_251_3, bk_251_4, bk_251_5, bk_251_6, bk_251_8, bk_251_9, bk_251_10, wp_ald0, wp_ild1, wp_ic, wk_192, wp_ild2, wp_icne, wp_goto, wp_fall, wp_ist3, wp_ist4, wp_ild4, wp_icgt, wp_ild3, wp_ifeq, wp_inc4, wp_icge, wp_iadd, wp_ist5, wp_ist6, wp_ild5, wp_ild6, wk_251, wp_zret0 mz_251, wp_zret1 mz_251, wp_zretb mz_251, wp_zret mz_251, x_clr_I, x_clr_J, x_clr_R, x_clr_U, ct_some, ct_none, lc_lt, lc_ge, lc_gt, lc_le, lc_eq, lc_r, xI_inj, xJ_inj, Option.some.injEq, eq_self, bi_r, bi_0, bi_1, bi_n, Classical.not_not, and_true, true_and, ite_true, ite_false, ↓reduceIte, ↓x_andl, z_le, z_nle, z_lt, z_nlt, z_eq, z_neq, if_pos, if_neg, x_andl, false_and, and_false, or_true, true_or, or_false, false_or, not_true, not_false_iff, x_rd_eq, x_rd_ne, x_st_o, Int.cast_ofNat_Int, Int.ofNat_zero, Int.ofNat_one, not_true_eq_false, not_false_eq_true, if_true, if_false, ite_self, and_self, Int.ofNat_eq_natCast, Int.tdiv_eq_ediv_of_nonneg, Int.tmod_eq_emod_of_nonneg, x_bm32, k_of, q_3, q_4, q_5, q_6]
              exact lp
            · have F := no (fun z => c5 z.1.2.2.2)
              simp (disch := first | omega | (simp only [x_wtI, x_wtJ, x_wtR, x_wtN]; omega) | assumption | (simp (disch := omega) only [x_st_o, x_rd_ne]; first | assumption | omega) | (apply mir_eq; assumption; (intro c h1 h2; simp (disch := omega) only [x_st_o])) | (apply mis_eq; assumption; (intro c h1 h2; simp (disch := omega) only [x_st_o])) | rfl) only [sp_251, bk_251_0, bk_251_1, bk_251_2, bk_251_3, bk_251_4, bk_251_5, bk_251_6, bk_251_7, bk_251_8, bk_251_9, bk_251_10, wp_ald0, wp_ild1, wp_ic, wk_192, wp_ild2, wp_icne, wp_goto, wp_fall, wp_ist3, wp_ist4, wp_ild4, wp_icgt, wp_ild3, wp_ifeq, wp_inc4, wp_icge, wp_iadd, wp_ist5, wp_ist6, wp_ild5, wp_ild6, wk_251, wp_zret0 mz_251, wp_zret1 mz_251, wp_zretb mz_251, wp_zret mz_251, x_clr_I, x_clr_J, x_clr_R, x_clr_U, ct_some, ct_none, lc_lt, lc_ge, lc_gt, lc_le, lc_eq, lc_r, xI_inj, xJ_inj, Option.some.injEq, eq_self, bi_r, bi_0, bi_1, bi_n, Classical.not_not, and_true, true_and, ite_true, ite_false, ↓reduceIte, ↓x_andl, z_le, z_nle, z_lt, z_nlt, z_eq, z_neq, if_pos, if_neg, x_andl, false_and, and_false, or_true, true_or, or_false, false_or, not_true, not_false_iff, x_rd_eq, x_rd_ne, x_st_o, Int.cast_ofNat_Int, Int.ofNat_zero, Int.ofNat_one, not_true_eq_false, not_false_eq_true, if_true, if_false, ite_self, and_self, Int.ofNat_eq_natCast, Int.tdiv_eq_ediv_of_nonneg, Int.tmod_eq_emod_of_nonneg, x_bm32, k_of, q_3, q_4, q_5, q_6]
              exact F
          · have F := no (fun z => c4 z.1.2.2.1)
            simp (disch := first | omega | (simp only [x_wtI, x_wtJ, x_wtR, x_wtN]; omega) | assumption | (simp (disch := omega) only [x_st_o, x_rd_ne]; first | assumption | omega) | (apply mir_eq; assumption; (intro c h1 h2; simp (disch := omega) only [x_st_o])) | (apply mis_eq; assumption; (intro c h1 h2; simp (disch := omega) only [x_st_o])) | rfl) only [sp_251, bk_251_0, bk_251_1, bk_251_2, bk_251_3, bk_251_4, bk_251_5, bk_251_6, bk_251_7, bk_251_8, bk_251_9, bk_251_10, wp_ald0, wp_ild1, wp_ic, wk_192, wp_ild2, wp_icne, wp_goto, wp_fall, wp_ist3, wp_ist4, wp_ild4, wp_icgt, wp_ild3, wp_ifeq, wp_inc4, wp_icge, wp_iadd, wp_ist5, wp_ist6, wp_ild5, wp_ild6, wk_251, wp_zret0 mz_251, wp_zret1 mz_251, wp_zretb mz_251, wp_zret mz_251, x_clr_I, x_clr_J, x_clr_R, x_clr_U, ct_some, ct_none, lc_lt, lc_ge, lc_gt, lc_le, lc_eq, lc_r, xI_inj, xJ_inj, Option.some.injEq, eq_self, bi_r, bi_0, bi_1, bi_n, Classical.not_not, and_true, true_and, ite_true, ite_false, ↓reduceIte, ↓x_andl, z_le, z_nle, z_lt, z_nlt, z_eq, z_neq, if_pos, if_neg, x_andl, false_and, and_false, or_true, true_or, or_false, false_or, not_true, not_false_iff, x_rd_eq, x_rd_ne, x_st_o, Int.cast_ofNat_Int, Int.ofNat_zero, Int.ofNat_one, not_true_eq_false, not_false_eq_true, if_true, if_false, ite_self, and_self, Int.ofNat_eq_natCast, Int.tdiv_eq_ediv_of_nonneg, Int.tmod_eq_emod_of_nonneg, x_bm32, k_of, q_3, q_4, q_5, q_6]
            exact F
        · have F := no (fun z => c3 z.1.2.1)
          simp (disch := first | omega | (simp only [x_wtI, x_wtJ, x_wtR, x_wtN]; omega) | assumption | (simp (disch := omega) only [x_st_o, x_rd_ne]; first | assumption | omega) | (apply mir_eq; assumption; (intro c h1 h2; simp (disch := omega) only [x_st_o])) | (apply mis_eq; assumption; (intro c h1 h2; simp (disch := omega) only [x_st_o])) | rfl) only [sp_251, bk_251_0, bk_251_1, bk_251_2, bk_251_3, bk_251_4, bk_251_5, bk_251_6, bk_251_7, bk_251_8, bk_251_9, bk_251_10, wp_ald0, wp_ild1, wp_ic, wk_192, wp_ild2, wp_icne, wp_goto, wp_fall, wp_ist3, wp_ist4, wp_ild4, wp_icgt, wp_ild3, wp_ifeq, wp_inc4, wp_icge, wp_iadd, wp_ist5, wp_ist6, wp_ild5, wp_ild6, wk_251, wp_zret0 mz_251, wp_zret1 mz_251, wp_zretb mz_251, wp_zret mz_251, x_clr_I, x_clr_J, x_clr_R, x_clr_U, ct_some, ct_none, lc_lt, lc_ge, lc_gt, lc_le, lc_eq, lc_r, xI_inj, xJ_inj, Option.some.injEq, eq_self, bi_r, bi_0, bi_1, bi_n, Classical.not_not, and_true, true_and, ite_true, ite_false, ↓reduceIte, ↓x_andl, z_le, z_nle, z_lt, z_nlt, z_eq, z_neq, if_pos, if_neg, x_andl, false_and, and_false, or_true, true_or, or_false, false_or, not_true, not_false_iff, x_rd_eq, x_rd_ne, x_st_o, Int.cast_ofNat_Int, Int.ofNat_zero, Int.ofNat_one, not_true_eq_false, not_false_eq_true, if_true, if_false, ite_self, and_self, Int.ofNat_eq_natCast, Int.tdiv_eq_ediv_of_nonneg, Int.tmod_eq_emod_of_nonneg, x_bm32, k_of, q_3, q_4, q_5, q_6]
          exact F
      · have F := no (fun z => c2 z.1.1)
        simp (disch := first | omega | (simp only [x_wtI, x_wtJ, x_wtR, x_wtN]; omega) | assumption | (simp (disch := omega) only [x_st_o, x_rd_ne]; first | assumption | omega) | (apply mir_eq; assumption; (intro c h1 h2; simp (disch := omega) only [x_st_o])) | (apply mis_eq; assumption; (intro c h1 h2; simp (disch := omega) only [x_st_o])) | rfl) only [sp_251, bk_251_0, bk_251_1, bk_251_2, bk_251_3, bk_251_4, bk_251_5, bk_251_6, bk_251_7, bk_251_8, bk_251_9, bk_251_10, wp_ald0, wp_ild1, wp_ic, wk_192, wp_ild2, wp_icne, wp_goto, wp_fall, wp_ist3, wp_ist4, wp_ild4, wp_icgt, wp_ild3, wp_ifeq, wp_inc4, wp_icge, wp_iadd, wp_ist5, wp_ist6, wp_ild5, wp_ild6, wk_251, wp_zret0 mz_251, wp_zret1 mz_251, wp_zretb mz_251, wp_zret mz_251, x_clr_I, x_clr_J, x_clr_R, x_clr_U, ct_some, ct_none, lc_lt, lc_ge, lc_gt, lc_le, lc_eq, lc_r, xI_inj, xJ_inj, Option.some.injEq, eq_self, bi_r, bi_0, bi_1, bi_n, Classical.not_not, and_true, true_and, ite_true, ite_false, ↓reduceIte, ↓x_andl, z_le, z_nle, z_lt, z_nlt, z_eq, z_neq, if_pos, if_neg, x_andl, false_and, and_false, or_true, true_or, or_false, false_or, not_true, not_false_iff, x_rd_eq, x_rd_ne, x_st_o, Int.cast_ofNat_Int, Int.ofNat_zero, Int.ofNat_one, not_true_eq_false, not_false_eq_true, if_true, if_false, ite_self, and_self, Int.ofNat_eq_natCast, Int.tdiv_eq_ediv_of_nonneg, Int.tmod_eq_emod_of_nonneg, x_bm32, k_of, q_3, q_4, q_5, q_6]
        exact F
    · have F := no (fun z => c0 z.2)
      simp (disch := first | omega | (simp only [x_wtI, x_wtJ, x_wtR, x_wtN]; omega) | assumption | (simp (disch := omega) only [x_st_o, x_rd_ne]; first | assumption | omega) | (apply mir_eq; assumption; (intro c h1 h2; simp (disch := omega) only [x_st_o])) | (apply mis_eq; assumption; (intro c h1 h2; simp (disch := omega) only [x_st_o])) | rfl) only [sp_251, bk_251_0, bk_251_1, bk_251_2, bk_251_3, bk_251_4, bk_251_5, bk_251_6, bk_251_7, bk_251_8, bk_251_9, bk_251_10, wp_ald0, wp_ild1, wp_ic, wk_192, wp_ild2, wp_icne, wp_goto, wp_fall, wp_ist3, wp_ist4, wp_ild4, wp_icgt, wp_ild3, wp_ifeq, wp_inc4, wp_icge, wp_iadd, wp_ist5, wp_ist6, wp_ild5, wp_ild6, wk_251, wp_zret0 mz_251, wp_zret1 mz_251, wp_zretb mz_251, wp_zret mz_251, x_clr_I, x_clr_J, x_clr_R, x_clr_U, ct_some, ct_none, lc_lt, lc_ge, lc_gt, lc_le, lc_eq, lc_r, xI_inj, xJ_inj, Option.some.injEq, eq_self, bi_r, bi_0, bi_1, bi_n, Classical.not_not, and_true, true_and, ite_true, ite_false, ↓reduceIte, ↓x_andl, z_le, z_nle, z_lt, z_nlt, z_eq, z_neq, if_pos, if_neg, x_andl, false_and, and_false, or_true, true_or, or_false, false_or, not_true, not_false_iff, x_rd_eq, x_rd_ne, x_st_o, Int.cast_ofNat_Int, Int.ofNat_zero, Int.ofNat_one, not_true_eq_false, not_false_eq_true, if_true, if_false, ite_self, and_self, Int.ofNat_eq_natCast, Int.tdiv_eq_ediv_of_nonneg, Int.tmod_eq_emod_of_nonneg, x_bm32, k_of, q_3, q_4, q_5, q_6]
      exact F
/-! kinds of the class tell what is alike in a world that has the class's lists -/
theorem kd_alk {w W : Int → Int} {σ : x_S} {lev : Int} (hS : wS W) (e0 : W 0 = w 0) (hA : ∀ g h, 0 ≤ g → g < w 0 → 0 ≤ h → h < w 0 → (σ 45 0 g = σ 45 0 h ↔ SA w σ g h)) (hf : ∀ f, 0 ≤ f → f < w 0 → ∀ k, 2 ≤ k → k ≤ 5 → w_of W f k = w_of w f k)
    (hl : ∀ f, 0 ≤ f → f < w 0 → lev ≤ w_of W f 6 → w_of W f 7 = σ 47 0 f ∧ ∀ i, 0 ≤ i → i < σ 47 0 f → w_of W f (8 + i) = lkl σ f i ∧ w_of W (lkl σ f i) 1 = lko σ f i) :
    ∀ (n : Nat) (f g : Int), 0 ≤ f → f < w 0 → 0 ≤ g → g < w 0 → lev ≤ w_of W f 6 → lev ≤ w_of W g 6 → 4 ≤ n + w_of W f 6 → (σ 45 0 f = σ 45 0 g ↔ alk W n f g) := by
  have fE : ∀ f g, 0 ≤ f → f < w 0 → 0 ≤ g → g < w 0 → (flE W f g ↔ flE w f g) := by
    intro f g f0 f1 g0 g1
    unfold flE
    rw [hf f f0 f1 2 (by omega) (by omega), hf f f0 f1 3 (by omega) (by omega), hf f f0 f1 4 (by omega) (by omega), hf f f0 f1 5 (by omega) (by omega), hf g g0 g1 2 (by omega) (by omega), hf g g0 g1 3 (by omega) (by omega), hf g g0 g1 4 (by omega) (by omega), hf g g0 g1 5 (by omega) (by omega)]
  intro n
  induction n with
  | zero =>
    intro f g f0 f1 g0 g1 lf lg hn
    obtain ⟨sf1, sf2, sf3, sf4⟩ := hS.2 f f0 (by rw [e0]; exact f1)
    have k0 : w_of W f 7 = 0 := by
      by_cases z : w_of W f 7 = 0
      · exact z
      · have x := sf4 0 (by omega) (by omega)
        have y := (hS.2 _ x.1.1 x.1.2).2.1
        omega
    rw [hA f g f0 f1 g0 g1]
    have a1 := (hl f f0 f1 lf).1
    have a2 := (hl g g0 g1 lg).1
    show SA w σ f g ↔ (flE W f g ∧ w_of W f 7 = w_of W g 7)
    rw [fE f g f0 f1 g0 g1, a1, a2]
    exact ⟨fun z => ⟨z.1, z.2.1⟩, fun z => ⟨z.1, z.2, fun i i0 i1 => by omega⟩⟩
  | succ n ih =>
    intro f g f0 f1 g0 g1 lf lg hn
    obtain ⟨sf1, sf2, sf3, sf4⟩ := hS.2 f f0 (by rw [e0]; exact f1)
    obtain ⟨sg1, sg2, sg3, sg4⟩ := hS.2 g g0 (by rw [e0]; exact g1)
    rw [hA f g f0 f1 g0 g1]
    obtain ⟨a1, b1⟩ := hl f f0 f1 lf
    obtain ⟨a2, b2⟩ := hl g g0 g1 lg
    show SA w σ f g ↔ (flE W f g ∧ w_of W f 7 = w_of W g 7 ∧ ∀ i, 0 ≤ i → i < w_of W f 7 → w_of W (w_of W f (8 + i)) 1 = w_of W (w_of W g (8 + i)) 1 ∧ alk W n (w_of W f (8 + i)) (w_of W g (8 + i)))
    rw [fE f g f0 f1 g0 g1]
    have pt : σ 47 0 f = σ 47 0 g → ∀ i, 0 ≤ i → i < σ 47 0 f → ((lko σ f i = lko σ g i ∧ σ 45 0 (lkl σ f i) = σ 45 0 (lkl σ g i)) ↔ (w_of W (w_of W f (8 + i)) 1 = w_of W (w_of W g (8 + i)) 1 ∧ alk W n (w_of W f (8 + i)) (w_of W g (8 + i)))) := by
      intro ec i i0 i1
      have xf := sf4 i i0 (by omega)
      have xg := sg4 i i0 (by omega)
      rw [(b1 i i0 i1).1] at xf ⊢
      rw [(b2 i i0 (by omega)).1] at xg ⊢
      rw [(b1 i i0 i1).2, (b2 i i0 (by omega)).2, ih (lkl σ f i) (lkl σ g i) xf.1.1 (by rw [← e0]; exact xf.1.2) xg.1.1 (by rw [← e0]; exact xg.1.2) (by omega) (by omega) (by omega)]
    rw [a1, a2]
    constructor
    · rintro ⟨z1, z2, z3⟩
      exact ⟨z1, z2, fun i i0 i1 => (pt z2 i i0 i1).mp (z3 i i0 i1)⟩
    · rintro ⟨z1, z2, z3⟩
      exact ⟨z1, z2, fun i i0 i1 => (pt z2 i i0 i1).mpr (z3 i i0 i1)⟩
theorem jR_0 {kd ch kid : Int → Int} : ∀ {i : Nat} {n : Int} {l o : Int → Int}, jR 0 kd ch kid i n l o → n = i ∧ ∀ q, 0 ≤ q → q < n → l q = kid q ∧ o q = ch (kid q) := by
  intro i
  induction i with
  | zero =>
    intro n l o h
    have : n = 0 := h
    exact ⟨this, fun q a b => by omega⟩
  | succ i ih =>
    intro n l o h
    obtain ⟨n0, l0, o0, h0, h1⟩ := h
    obtain ⟨a, b⟩ := ih h0
    rcases h1 with ⟨j, _, z, _⟩ | ⟨_, e, el, eo⟩
    · omega
    · refine ⟨by omega, fun q q0 q1 => ?_⟩
      rw [el q q0 q1, eo q q0 q1]
      by_cases z : q = n0
      · rw [if_pos z, if_pos z, z, a]
        exact ⟨rfl, rfl⟩
      · rw [if_neg z, if_neg z]
        exact b q q0 (by omega)
section OSA
variable {L : Int} {S0 : Int → Int}
theorem kd_same {σ : x_S} {w : Int → Int} (hw : wf w) (hA : lkA 0 w σ 0) {f g : Int} (f0 : 0 ≤ f) (f1 : f < w 0) (g0 : 0 ≤ g) (g1 : g < w 0) : σ 45 0 f = σ 45 0 g ↔ alk w 4 f g := by
  have lf := fun f (f0 : 0 ≤ f) (f1 : f < w 0) => (wS_of hw).2 f f0 f1
  refine kd_alk (W := w) (lev := 0) (wS_of hw) rfl (fun g h a b c d => hA.2 g h a b c d) (fun _ _ _ _ _ _ => rfl) (fun f f0 f1 _ => ?_) 4 f g f0 f1 g0 g1 (lf f f0 f1).2.1.1 (lf g g0 g1).2.1.1 (by have := (lf f f0 f1).2.1; omega)
  obtain ⟨a, b⟩ := jR_0 (hA.1 f f0 f1).1.1
  have o := (lf f f0 f1).1
  refine ⟨by omega, fun i i0 i1 => ?_⟩
  obtain ⟨c, d⟩ := b i i0 i1
  rw [c, d]
  exact ⟨rfl, rfl⟩
theorem iN_lk {σ σ' : x_S} (h : iN L S0 σ) (e : x_eqo [(45, 0), (46, 0), (47, 0), (48, 0), (49, 0)] σ σ') : iN L S0 σ' := iN_e h e (by decide)
theorem o_same : x_o35 (iN L S0) := by
  intro σ hh f g hf hg
  refine ag_I ?_
  obtain ⟨w, h51, hw, h100, hn, hq, hM, hS⟩ := iN_w hh
  have a := wf_h hw
  unfold wf_hdr at a
  by_cases c1 : 0 ≤ f ∧ f < w 0
  · by_cases c2 : 0 ≤ g ∧ g < w 0
    · simp (disch := first | omega | (simp only [x_wtI, x_wtJ, x_wtR, x_wtN]; omega) | assumption | (simp (disch := omega) only [x_st_o, x_rd_ne]; first | assumption | omega) | (apply mir_eq; assumption; (intro c h1 h2; simp (disch := omega) only [x_st_o])) | (apply mis_eq; assumption; (intro c h1 h2; simp (disch := omega) only [x_st_o])) | rfl) only [sp_147, bk_147_0, bk_147_1, bk_147_2, bk_147_3, bk_147_4, wp_ald0, wr_0_2, wr_20_0, wp_ild1, wk_60, wp_ifeq, wp_ild2, wp_ifne, wp_fall, wp_ic, wp_iret mz_147, wr_0_10, wk_18, wr_44_1, wl_45, wp_cald, wp_icne, wp_goto, x_clr_I, x_clr_J, x_clr_R, x_clr_U, ct_some, ct_none, lc_lt, lc_ge, lc_gt, lc_le, lc_eq, lc_r, xI_inj, xJ_inj, Option.some.injEq, eq_self, bi_r, bi_0, bi_1, bi_n, Classical.not_not, and_true, true_and, ite_true, ite_false, ↓reduceIte, ↓x_andl, z_le, z_nle, z_lt, z_nlt, z_eq, z_neq, if_pos, if_neg, x_andl, false_and, and_false, or_true, true_or, or_false, false_or, not_true, not_false_iff, x_rd_eq, x_rd_ne, x_st_o, Int.cast_ofNat_Int, Int.ofNat_zero, Int.ofNat_one, not_true_eq_false, not_false_eq_true, if_true, if_false, ite_self, and_self, Int.ofNat_eq_natCast, Int.tdiv_eq_ediv_of_nonneg, Int.tmod_eq_emod_of_nonneg, x_bm32, k_has hM, bi_t c1, bi_t c2]
      refine x_use (d := 995) (h_sort (jn := 0) hM hw (Or.inl rfl)) ?_
      rintro r σ1 ⟨rfl, e1, hA⟩
      have g51 : σ1 51 0 = w := (e1 51 0 (by simp)).trans h51
      have hh1 := iN_lk hh e1
      have kf := (hA.1 f c1.1 c1.2).2.1
      have kg := (hA.1 g c2.1 c2.2).2.1
      have iff := kd_same hw hA c1.1 c1.2 c2.1 c2.2
      have of := (wS_of hw).2 f c1.1 c1.2
      obtain ⟨r, σ', ⟨hσ', v, hr, hv⟩, ev⟩ := x_ex (h_alike (wS_of hw) 4 f g σ1 g51 c1.1 c1.2 c2.1 c2.2 (by have := of.2.1; omega))
      subst hσ'
      subst hr
      have f100 : ∀ j i, σ' 100 j i = σ 100 j i := fun j i => by rw [e1 100 j (by simp)]
      by_cases c : σ' 45 0 f = σ' 45 0 g
      · have v1 : v = 1 := by
          rcases hv with ⟨z, _⟩ | ⟨_, z⟩
          · exact z
          · exact absurd (iff.mp c) z
        subst v1
        simp (disch := first | omega | (simp only [x_wtI, x_wtJ, x_wtR, x_wtN]; omega) | assumption | (simp (disch := omega) only [x_st_o, x_rd_ne]; first | assumption | omega) | (apply mir_eq; assumption; (intro c h1 h2; simp (disch := omega) only [x_st_o])) | (apply mis_eq; assumption; (intro c h1 h2; simp (disch := omega) only [x_st_o])) | rfl) only [bk_147_0, bk_147_1, bk_147_2, bk_147_3, bk_147_4, wp_ald0, wr_0_2, wr_20_0, wp_ild1, wk_60, wp_ifeq, wp_ild2, wp_ifne, wp_fall, wp_ic, wp_iret mz_147, wr_0_10, wk_18, wr_44_1, wl_45, wp_cald, wp_icne, wp_goto, x_clr_I, x_clr_J, x_clr_R, x_clr_U, ct_some, ct_none, lc_lt, lc_ge, lc_gt, lc_le, lc_eq, lc_r, xI_inj, xJ_inj, Option.some.injEq, eq_self, bi_r, bi_0, bi_1, bi_n, Classical.not_not, and_true, true_and, ite_true, ite_false, ↓reduceIte, ↓x_andl, z_le, z_nle, z_lt, z_nlt, z_eq, z_neq, if_pos, if_neg, x_andl, false_and, and_false, or_true, true_or, or_false, false_or, not_true, not_false_iff, x_rd_eq, x_rd_ne, x_st_o, Int.cast_ofNat_Int, Int.ofNat_zero, Int.ofNat_one, not_true_eq_false, not_false_eq_true, if_true, if_false, ite_self, and_self, Int.ofNat_eq_natCast, Int.tdiv_eq_ediv_of_nonneg, Int.tmod_eq_emod_of_nonneg, x_bm32]
        refine ⟨1, rfl, fun j i => f100 j i, ?_⟩
        simp (disch := first | omega | (simp only [x_wtI, x_wtJ, x_wtR, x_wtN]; omega) | assumption | (simp (disch := omega) only [x_st_o, x_rd_ne]; first | assumption | omega) | (apply mir_eq; assumption; (intro c h1 h2; simp (disch := omega) only [x_st_o])) | (apply mis_eq; assumption; (intro c h1 h2; simp (disch := omega) only [x_st_o])) | rfl) only [sp_250, bk_250_0, bk_250_1, bk_250_2, bk_250_3, bk_250_4, wp_ald0, wp_ild1, wk_191, wp_ifeq, wp_ild2, wp_ifne, wp_fall, wp_ic, wp_iret mz_250, wk_251, wp_goto, x_clr_I, x_clr_J, x_clr_R, x_clr_U, ct_some, ct_none, lc_lt, lc_ge, lc_gt, lc_le, lc_eq, lc_r, xI_inj, xJ_inj, Option.some.injEq, eq_self, bi_r, bi_0, bi_1, bi_n, Classical.not_not, and_true, true_and, ite_true, ite_false, ↓reduceIte, ↓x_andl, z_le, z_nle, z_lt, z_nlt, z_eq, z_neq, if_pos, if_neg, x_andl, false_and, and_false, or_true, true_or, or_false, false_or, not_true, not_false_iff, x_rd_eq, x_rd_ne, x_st_o, Int.cast_ofNat_Int, Int.ofNat_zero, Int.ofNat_one, not_true_eq_false, not_false_eq_true, if_true, if_false, ite_self, and_self, Int.ofNat_eq_natCast, Int.tdiv_eq_ediv_of_nonneg, Int.tmod_eq_emod_of_nonneg, x_bm32, k_isFork g51, bi_t c1, bi_t c2]
        refine (ev 993 _).mpr ?_
        simp (disch := first | omega | (simp only [x_wtI, x_wtJ, x_wtR, x_wtN]; omega) | assumption | (simp (disch := omega) only [x_st_o, x_rd_ne]; first | assumption | omega) | (apply mir_eq; assumption; (intro c h1 h2; simp (disch := omega) only [x_st_o])) | (apply mis_eq; assumption; (intro c h1 h2; simp (disch := omega) only [x_st_o])) | rfl) only [bk_250_0, bk_250_1, bk_250_2, bk_250_3, bk_250_4, wp_ald0, wp_ild1, wk_191, wp_ifeq, wp_ild2, wp_ifne, wp_fall, wp_ic, wp_iret mz_250, wk_251, wp_goto, x_clr_I, x_clr_J, x_clr_R, x_clr_U, ct_some, ct_none, lc_lt, lc_ge, lc_gt, lc_le, lc_eq, lc_r, xI_inj, xJ_inj, Option.some.injEq, eq_self, bi_r, bi_0, bi_1, bi_n, Classical.not_not, and_true, true_and, ite_true, ite_false, ↓reduceIte, ↓x_andl, z_le, z_nle, z_lt, z_nlt, z_eq, z_neq, if_pos, if_neg, x_andl, false_and, and_false, or_true, true_or, or_false, false_or, not_true, not_false_iff, x_rd_eq, x_rd_ne, x_st_o, Int.cast_ofNat_Int, Int.ofNat_zero, Int.ofNat_one, not_true_eq_false, not_false_eq_true, if_true, if_false, ite_self, and_self, Int.ofNat_eq_natCast, Int.tdiv_eq_ediv_of_nonneg, Int.tmod_eq_emod_of_nonneg, x_bm32]
        exact hh1
      · have v1 : v = 0 := by
          rcases hv with ⟨_, z⟩ | ⟨z, _⟩
          · exact absurd (iff.mpr z) c
          · exact z
        subst v1
        simp (disch := first | omega | (simp only [x_wtI, x_wtJ, x_wtR, x_wtN]; omega) | assumption | (simp (disch := omega) only [x_st_o, x_rd_ne]; first | assumption | omega) | (apply mir_eq; assumption; (intro c h1 h2; simp (disch := omega) only [x_st_o])) | (apply mis_eq; assumption; (intro c h1 h2; simp (disch := omega) only [x_st_o])) | rfl) only [bk_147_0, bk_147_1, bk_147_2, bk_147_3, bk_147_4, wp_ald0, wr_0_2, wr_20_0, wp_ild1, wk_60, wp_ifeq, wp_ild2, wp_ifne, wp_fall, wp_ic, wp_iret mz_147, wr_0_10, wk_18, wr_44_1, wl_45, wp_cald, wp_icne, wp_goto, x_clr_I, x_clr_J, x_clr_R, x_clr_U, ct_some, ct_none, lc_lt, lc_ge, lc_gt, lc_le, lc_eq, lc_r, xI_inj, xJ_inj, Option.some.injEq, eq_self, bi_r, bi_0, bi_1, bi_n, Classical.not_not, and_true, true_and, ite_true, ite_false, ↓reduceIte, ↓x_andl, z_le, z_nle, z_lt, z_nlt, z_eq, z_neq, if_pos, if_neg, x_andl, false_and, and_false, or_true, true_or, or_false, false_or, not_true, not_false_iff, x_rd_eq, x_rd_ne, x_st_o, Int.cast_ofNat_Int, Int.ofNat_zero, Int.ofNat_one, not_true_eq_false, not_false_eq_true, if_true, if_false, ite_self, and_self, Int.ofNat_eq_natCast, Int.tdiv_eq_ediv_of_nonneg, Int.tmod_eq_emod_of_nonneg, x_bm32]
        refine ⟨0, rfl, fun j i => f100 j i, ?_⟩
        simp (disch := first | omega | (simp only [x_wtI, x_wtJ, x_wtR, x_wtN]; omega) | assumption | (simp (disch := omega) only [x_st_o, x_rd_ne]; first | assumption | omega) | (apply mir_eq; assumption; (intro c h1 h2; simp (disch := omega) only [x_st_o])) | (apply mis_eq; assumption; (intro c h1 h2; simp (disch := omega) only [x_st_o])) | rfl) only [sp_250, bk_250_0, bk_250_1, bk_250_2, bk_250_3, bk_250_4, wp_ald0, wp_ild1, wk_191, wp_ifeq, wp_ild2, wp_ifne, wp_fall, wp_ic, wp_iret mz_250, wk_251, wp_goto, x_clr_I, x_clr_J, x_clr_R, x_clr_U, ct_some, ct_none, lc_lt, lc_ge, lc_gt, lc_le, lc_eq, lc_r, xI_inj, xJ_inj, Option.some.injEq, eq_self, bi_r, bi_0, bi_1, bi_n, Classical.not_not, and_true, true_and, ite_true, ite_false, ↓reduceIte, ↓x_andl, z_le, z_nle, z_lt, z_nlt, z_eq, z_neq, if_pos, if_neg, x_andl, false_and, and_false, or_true, true_or, or_false, false_or, not_true, not_false_iff, x_rd_eq, x_rd_ne, x_st_o, Int.cast_ofNat_Int, Int.ofNat_zero, Int.ofNat_one, not_true_eq_false, not_false_eq_true, if_true, if_false, ite_self, and_self, Int.ofNat_eq_natCast, Int.tdiv_eq_ediv_of_nonneg, Int.tmod_eq_emod_of_nonneg, x_bm32, k_isFork g51, bi_t c1, bi_t c2]
        refine (ev 993 _).mpr ?_
        simp (disch := first | omega | (simp only [x_wtI, x_wtJ, x_wtR, x_wtN]; omega) | assumption | (simp (disch := omega) only [x_st_o, x_rd_ne]; first | assumption | omega) | (apply mir_eq; assumption; (intro c h1 h2; simp (disch := omega) only [x_st_o])) | (apply mis_eq; assumption; (intro c h1 h2; simp (disch := omega) only [x_st_o])) | rfl) only [bk_250_0, bk_250_1, bk_250_2, bk_250_3, bk_250_4, wp_ald0, wp_ild1, wk_191, wp_ifeq, wp_ild2, wp_ifne, wp_fall, wp_ic, wp_iret mz_250, wk_251, wp_goto, x_clr_I, x_clr_J, x_clr_R, x_clr_U, ct_some, ct_none, lc_lt, lc_ge, lc_gt, lc_le, lc_eq, lc_r, xI_inj, xJ_inj, Option.some.injEq, eq_self, bi_r, bi_0, bi_1, bi_n, Classical.not_not, and_true, true_and, ite_true, ite_false, ↓reduceIte, ↓x_andl, z_le, z_nle, z_lt, z_nlt, z_eq, z_neq, if_pos, if_neg, x_andl, false_and, and_false, or_true, true_or, or_false, false_or, not_true, not_false_iff, x_rd_eq, x_rd_ne, x_st_o, Int.cast_ofNat_Int, Int.ofNat_zero, Int.ofNat_one, not_true_eq_false, not_false_eq_true, if_true, if_false, ite_self, and_self, Int.ofNat_eq_natCast, Int.tdiv_eq_ediv_of_nonneg, Int.tmod_eq_emod_of_nonneg, x_bm32]
        exact hh1
    · simp (disch := first | omega | (simp only [x_wtI, x_wtJ, x_wtR, x_wtN]; omega) | assumption | (simp (disch := omega) only [x_st_o, x_rd_ne]; first | assumption | omega) | (apply mir_eq; assumption; (intro c h1 h2; simp (disch := omega) only [x_st_o])) | (apply mis_eq; assumption; (intro c h1 h2; simp (disch := omega) only [x_st_o])) | rfl) only [sp_147, bk_147_0, bk_147_1, bk_147_2, bk_147_3, bk_147_4, wp_ald0, wr_0_2, wr_20_0, wp_ild1, wk_60, wp_ifeq, wp_ild2, wp_ifne, wp_fall, wp_ic, wp_iret mz_147, wr_0_10, wk_18, wr_44_1, wl_45, wp_cald, wp_icne, wp_goto, x_clr_I, x_clr_J, x_clr_R, x_clr_U, ct_some, ct_none, lc_lt, lc_ge, lc_gt, lc_le, lc_eq, lc_r, xI_inj, xJ_inj, Option.some.injEq, eq_self, bi_r, bi_0, bi_1, bi_n, Classical.not_not, and_true, true_and, ite_true, ite_false, ↓reduceIte, ↓x_andl, z_le, z_nle, z_lt, z_nlt, z_eq, z_neq, if_pos, if_neg, x_andl, false_and, and_false, or_true, true_or, or_false, false_or, not_true, not_false_iff, x_rd_eq, x_rd_ne, x_st_o, Int.cast_ofNat_Int, Int.ofNat_zero, Int.ofNat_one, not_true_eq_false, not_false_eq_true, if_true, if_false, ite_self, and_self, Int.ofNat_eq_natCast, Int.tdiv_eq_ediv_of_nonneg, Int.tmod_eq_emod_of_nonneg, x_bm32, k_has hM, bi_t c1, bi_f c2]
      refine ⟨-2, rfl, fun _ _ => rfl, ?_⟩
      simp (disch := first | omega | (simp only [x_wtI, x_wtJ, x_wtR, x_wtN]; omega) | assumption | (simp (disch := omega) only [x_st_o, x_rd_ne]; first | assumption | omega) | (apply mir_eq; assumption; (intro c h1 h2; simp (disch := omega) only [x_st_o])) | (apply mis_eq; assumption; (intro c h1 h2; simp (disch := omega) only [x_st_o])) | rfl) only [sp_250, bk_250_0, bk_250_1, bk_250_2, bk_250_3, bk_250_4, wp_ald0, wp_ild1, wk_191, wp_ifeq, wp_ild2, wp_ifne, wp_fall, wp_ic, wp_iret mz_250, wk_251, wp_goto, x_clr_I, x_clr_J, x_clr_R, x_clr_U, ct_some, ct_none, lc_lt, lc_ge, lc_gt, lc_le, lc_eq, lc_r, xI_inj, xJ_inj, Option.some.injEq, eq_self, bi_r, bi_0, bi_1, bi_n, Classical.not_not, and_true, true_and, ite_true, ite_false, ↓reduceIte, ↓x_andl, z_le, z_nle, z_lt, z_nlt, z_eq, z_neq, if_pos, if_neg, x_andl, false_and, and_false, or_true, true_or, or_false, false_or, not_true, not_false_iff, x_rd_eq, x_rd_ne, x_st_o, Int.cast_ofNat_Int, Int.ofNat_zero, Int.ofNat_one, not_true_eq_false, not_false_eq_true, if_true, if_false, ite_self, and_self, Int.ofNat_eq_natCast, Int.tdiv_eq_ediv_of_nonneg, Int.tmod_eq_emod_of_nonneg, x_bm32, k_isFork h51, bi_t c1, bi_f c2]
      exact hh
  · simp (disch := first | omega | (simp only [x_wtI, x_wtJ, x_wtR, x_wtN]; omega) | assumption | (simp (disch := omega) only [x_st_o, x_rd_ne]; first | assumption | omega) | (apply mir_eq; assumption; (intro c h1 h2; simp (disch := omega) only [x_st_o])) | (apply mis_eq; assumption; (intro c h1 h2; simp (disch := omega) only [x_st_o])) | rfl) only [sp_147, bk_147_0, bk_147_1, bk_147_2, bk_147_3, bk_147_4, wp_ald0, wr_0_2, wr_20_0, wp_ild1, wk_60, wp_ifeq, wp_ild2, wp_ifne, wp_fall, wp_ic, wp_iret mz_147, wr_0_10, wk_18, wr_44_1, wl_45, wp_cald, wp_icne, wp_goto, x_clr_I, x_clr_J, x_clr_R, x_clr_U, ct_some, ct_none, lc_lt, lc_ge, lc_gt, lc_le, lc_eq, lc_r, xI_inj, xJ_inj, Option.some.injEq, eq_self, bi_r, bi_0, bi_1, bi_n, Classical.not_not, and_true, true_and, ite_true, ite_false, ↓reduceIte, ↓x_andl, z_le, z_nle, z_lt, z_nlt, z_eq, z_neq, if_pos, if_neg, x_andl, false_and, and_false, or_true, true_or, or_false, false_or, not_true, not_false_iff, x_rd_eq, x_rd_ne, x_st_o, Int.cast_ofNat_Int, Int.ofNat_zero, Int.ofNat_one, not_true_eq_false, not_false_eq_true, if_true, if_false, ite_self, and_self, Int.ofNat_eq_natCast, Int.tdiv_eq_ediv_of_nonneg, Int.tmod_eq_emod_of_nonneg, x_bm32, k_has hM, bi_f c1]
    refine ⟨-2, rfl, fun _ _ => rfl, ?_⟩
    simp (disch := first | omega | (simp only [x_wtI, x_wtJ, x_wtR, x_wtN]; omega) | assumption | (simp (disch := omega) only [x_st_o, x_rd_ne]; first | assumption | omega) | (apply mir_eq; assumption; (intro c h1 h2; simp (disch := omega) only [x_st_o])) | (apply mis_eq; assumption; (intro c h1 h2; simp (disch := omega) only [x_st_o])) | rfl) only [sp_250, bk_250_0, bk_250_1, bk_250_2, bk_250_3, bk_250_4, wp_ald0, wp_ild1, wk_191, wp_ifeq, wp_ild2, wp_ifne, wp_fall, wp_ic, wp_iret mz_250, wk_251, wp_goto, x_clr_I, x_clr_J, x_clr_R, x_clr_U, ct_some, ct_none, lc_lt, lc_ge, lc_gt, lc_le, lc_eq, lc_r, xI_inj, xJ_inj, Option.some.injEq, eq_self, bi_r, bi_0, bi_1, bi_n, Classical.not_not, and_true, true_and, ite_true, ite_false, ↓reduceIte, ↓x_andl, z_le, z_nle, z_lt, z_nlt, z_eq, z_neq, if_pos, if_neg, x_andl, false_and, and_false, or_true, true_or, or_false, false_or, not_true, not_false_iff, x_rd_eq, x_rd_ne, x_st_o, Int.cast_ofNat_Int, Int.ofNat_zero, Int.ofNat_one, not_true_eq_false, not_false_eq_true, if_true, if_false, ite_self, and_self, Int.ofNat_eq_natCast, Int.tdiv_eq_ediv_of_nonneg, Int.tmod_eq_emod_of_nonneg, x_bm32, k_isFork h51, bi_f c1]
    exact hh
end OSA

theorem x_lpDK {α : Type} (J : Int → α → Prop) (P : Int → α → Prop) {lo hi : Int} (hle : lo ≤ hi) {a0 : α} (h0 : J hi a0)
    (hs : ∀ i a, lo < i → i ≤ hi → J i a → (∀ a', J (i - 1) a' → P (i - 1) a') → P i a)
    (he : ∀ a, J lo a → P lo a) : P hi a0 := by
  have h : ∀ n : Nat, ∀ i a, i ≤ hi → lo + n = i → J i a → P i a := by
    intro n
    induction n with
    | zero =>
      intro i a _ e j
      have : i = lo := by omega
      subst this
      exact he a j
    | succ n ih =>
      intro i a l e j
      exact hs i a (by omega) l j (fun a' j' => ih (i - 1) a' (by omega) (by omega) j')
  exact h (hi - lo).toNat hi a0 (Int.le_refl _) (by omega) h0
def fkeep (σ σ' : x_S) : Prop := x_eqo [(50, 0)] σ σ' ∧ ∀ k, ¬ (k = 23 ∨ k = 24) → σ' 50 0 k = σ 50 0 k
theorem h_findStep {σ : x_S} {w T L : Int → Int} {c E Wd f st wd v b0 t0 : Int} (h51 : σ 51 0 = w) (hE : σ 50 0 17 = E) (hWd : σ 50 0 18 = Wd) (hT0 : σ 59 0 = T) (hL0 : σ 60 0 = L) (hw : wf w) (h0 : 0 ≤ f) (h1 : f < w 0) (hE2 : 0 ≤ E ∧ E ≤ 100) (hW2 : 0 ≤ Wd ∧ Wd ≤ 100) (hc : 0 ≤ c ∧ c ≤ 3) (hs : 0 ≤ st ∧ st ≤ 20) (hd : 0 ≤ wd ∧ wd ≤ 1)
    (hT : ∀ i, 0 ≤ i → i < w_of w f 7 → t_bd (-9223372036854775808) w T (w_of w f (8 + i))) (hL : c = 2 → p_end w E f → -170000 ≤ L f ∧ L f ≤ 170000) (hv : -600000000000000000 ≤ v ∧ v ≤ 600000000000000000) (hf : fL (zst (-9223372036854775808) c E Wd w L T f st wd) b0 t0 v) : x_Sp 6 209 [xR 50 0, xI c, xI f, xI (21 * wd + st), xJ v] σ (fun r σ' => r = none ∧ fkeep σ σ' ∧ σ' 50 0 23 = t0 + w_of w f 5 - st ∧ σ' 50 0 24 = b0) := by
  have a := wf_h hw
  unfold wf_hdr at a
  have o := wf_f hw h0 h1
  unfold wf_one at o
  have sb0 := sl_b hw h0 h1 hs hf.1.1.1
  have gp := gb_pos (k := w_of w f 6)
  refine x_gen (fun Q hQ => ?_)
  simp (disch := first | omega | (simp only [x_wtI, x_wtJ, x_wtR, x_wtN]; omega) | assumption | (simp (disch := omega) only [x_st_o, x_rd_ne]; first | assumption | omega) | (apply mir_eq; assumption; (intro c h1 h2; simp (disch := omega) only [x_st_o])) | (apply mis_eq; assumption; (intro c h1 h2; simp (disch := omega) only [x_st_o])) | rfl) only [sp_209, bk_209_0, bk_209_2, bk_209_3, bk_209_4, bk_209_5, bk_209_6, wp_ic, wp_ist6, wp_fall, wp_ild6, wp_iflt, wp_ald0, wp_ild2, wk_192, wp_ist7, wp_ild7, wp_iclt, wp_ild1, wp_ild3, wk_207, wp_lld4, wp_lcmp, wp_ifeq, wp_goto, wp_puti kd_50, wp_inc7, wp_inc6, wp_ret, x_clr_I, x_clr_J, x_clr_R, x_clr_U, ct_some, ct_none, lc_lt, lc_ge, lc_gt, lc_le, lc_eq, lc_r, xI_inj, xJ_inj, Option.some.injEq, eq_self, bi_r, bi_0, bi_1, bi_n, Classical.not_not, and_true, true_and, ite_true, ite_false, ↓reduceIte, ↓x_andl, z_le, z_nle, z_lt, z_nlt, z_eq, z_neq, if_pos, if_neg, x_andl, false_and, and_false, or_true, true_or, or_false, false_or, not_true, not_false_iff, x_rd_eq, x_rd_ne, x_st_o, Int.cast_ofNat_Int, Int.ofNat_zero, Int.ofNat_one, not_true_eq_false, not_false_eq_true, if_true, if_false, ite_self, and_self, Int.ofNat_eq_natCast, Int.tdiv_eq_ediv_of_nonneg, Int.tmod_eq_emod_of_nonneg, x_bm32]
  refine x_lpDK (α := x_S × x_V) (fun b q => fkeep σ q.1 ∧ (b < b0 → q.1 50 0 23 = t0 + w_of w f 5 - st ∧ q.1 50 0 24 = b0)) (fun b q => x_Wp 6 209 (x_blk 209 1) [xR 50 0, xI c, xI f, xI (21 * wd + st), xJ v, xU, xI b, q.2] [] q.1 Q) (lo := -1) (hi := 1) (by omega) (a0 := (σ, xU)) ⟨⟨eqo_refl, fun _ _ => rfl⟩, fun z => by omega⟩ ?_ ?_
  · intro b ⟨σb, u⟩ p q ⟨j1, j2⟩ K
    simp only at j1 j2 ⊢
    have gb : σb 51 0 = w := by rw [j1.1 51 0 (by simp)]; exact h51
    rw [bk_209_1]
    simp (disch := first | omega | (simp only [x_wtI, x_wtJ, x_wtR, x_wtN]; omega) | assumption | (simp (disch := omega) only [x_st_o, x_rd_ne]; first | assumption | omega) | (apply mir_eq; assumption; (intro c h1 h2; simp (disch := omega) only [x_st_o])) | (apply mis_eq; assumption; (intro c h1 h2; simp (disch := omega) only [x_st_o])) | rfl) only [bk_209_0, bk_209_3, bk_209_4, bk_209_5, bk_209_6, wp_ic, wp_ist6, wp_fall, wp_ild6, wp_iflt, wp_ald0, wp_ild2, wk_192, wp_ist7, wp_ild7, wp_iclt, wp_ild1, wp_ild3, wk_207, wp_lld4, wp_lcmp, wp_ifeq, wp_goto, wp_puti kd_50, wp_inc7, wp_inc6, wp_ret, x_clr_I, x_clr_J, x_clr_R, x_clr_U, ct_some, ct_none, lc_lt, lc_ge, lc_gt, lc_le, lc_eq, lc_r, xI_inj, xJ_inj, Option.some.injEq, eq_self, bi_r, bi_0, bi_1, bi_n, Classical.not_not, and_true, true_and, ite_true, ite_false, ↓reduceIte, ↓x_andl, z_le, z_nle, z_lt, z_nlt, z_eq, z_neq, if_pos, if_neg, x_andl, false_and, and_false, or_true, true_or, or_false, false_or, not_true, not_false_iff, x_rd_eq, x_rd_ne, x_st_o, Int.cast_ofNat_Int, Int.ofNat_zero, Int.ofNat_one, not_true_eq_false, not_false_eq_true, if_true, if_false, ite_self, and_self, Int.ofNat_eq_natCast, Int.tdiv_eq_ediv_of_nonneg, Int.tmod_eq_emod_of_nonneg, x_bm32, k_of]
    refine x_lpDK (α := x_S) (fun x σx => fkeep σ σx ∧ ((b < b0 ∨ (b = b0 ∧ x < t0 + w_of w f 5 - st)) → σx 50 0 23 = t0 + w_of w f 5 - st ∧ σx 50 0 24 = b0)) (fun x σx => x_Wp 6 209 (x_blk 209 2) [xR 50 0, xI c, xI f, xI (21 * wd + st), xJ v, xU, xI b, xI x] [] σx Q) (lo := -21) (hi := w_of w f 3) (by omega) (a0 := σb) ⟨j1, fun z => j2 (by omega)⟩ ?_ ?_
    · intro x σx p2 q2 ⟨n1, n2⟩ K2
      have gk : ∀ k, ¬ (k = 23 ∨ k = 24) → σx 50 0 k = σ 50 0 k := n1.2
      have gx : ∀ c j, ¬ (c, j) = (50, 0) → σx c j = σ c j := fun c j z => n1.1 c j (by simpa using z)
      obtain ⟨r, σ', ⟨hσ', v1, hr, hv1⟩, ev⟩ := x_ex (h_worth (σ := σx) (x := x) (b := b) (c := c) (by rw [gx 51 0 (by decide)]; exact h51) (by rw [gk 17 (by omega)]; exact hE) (by rw [gk 18 (by omega)]; exact hWd) (by rw [gx 59 0 (by decide)]; exact hT0) (by rw [gx 60 0 (by decide)]; exact hL0) hw h0 h1 hE2 hW2 hc hs hd (by omega) (by omega) hT hL)
      subst hσ'
      subst hr
      have v1b : v1 = (-9223372036854775808) ∨ (-600000000000000000 ≤ v1 ∧ v1 ≤ 600000000000000000) := by
        rcases wor_z hv1 with ⟨z, _⟩ | ⟨_, z⟩
        · exact Or.inl z
        · exact Or.inr (by omega)
      by_cases cv : v1 = v
      · have zz : zst (-9223372036854775808) c E Wd w L T f st wd b (st + x - w_of w f 5) v := by
          rcases wor_z hv1 with ⟨z, _⟩ | ⟨z, _⟩
          · omega
          · rw [← cv]
            exact z
        have mi := (hf.2 _ _ _ zz).2 rfl
        have K3 := K2 (x_st (x_st σ' 50 0 23 x) 50 0 24 b) ⟨⟨eqo_st (by simp) (eqo_st (by simp) n1.1), fun k hk => by rw [x_rd_ne (by omega), x_rd_ne (by omega)]; exact n1.2 k hk⟩, fun z => by
          rw [x_rd_ne (by omega), x_rd_eq, x_rd_eq]
          omega⟩
        rw [bk_209_2]
        simp (disch := first | omega | (simp only [x_wtI, x_wtJ, x_wtR, x_wtN]; omega) | assumption | (simp (disch := omega) only [x_st_o, x_rd_ne]; first | assumption | omega) | (apply mir_eq; assumption; (intro c h1 h2; simp (disch := omega) only [x_st_o])) | (apply mis_eq; assumption; (intro c h1 h2; simp (disch := omega) only [x_st_o])) | rfl) only [bk_209_0, bk_209_3, bk_209_4, bk_209_5, bk_209_6, wp_ic, wp_ist6, wp_fall, wp_ild6, wp_iflt, wp_ald0, wp_ild2, wk_192, wp_ist7, wp_ild7, wp_iclt, wp_ild1, wp_ild3, wk_207, wp_lld4, wp_lcmp, wp_ifeq, wp_goto, wp_puti kd_50, wp_inc7, wp_inc6, wp_ret, x_clr_I, x_clr_J, x_clr_R, x_clr_U, ct_some, ct_none, lc_lt, lc_ge, lc_gt, lc_le, lc_eq, lc_r, xI_inj, xJ_inj, Option.some.injEq, eq_self, bi_r, bi_0, bi_1, bi_n, Classical.not_not, and_true, true_and, ite_true, ite_false, ↓reduceIte, ↓x_andl, z_le, z_nle, z_lt, z_nlt, z_eq, z_neq, if_pos, if_neg, x_andl, false_and, and_false, or_true, true_or, or_false, false_or, not_true, not_false_iff, x_rd_eq, x_rd_ne, x_st_o, Int.cast_ofNat_Int, Int.ofNat_zero, Int.ofNat_one, not_true_eq_false, not_false_eq_true, if_true, if_false, ite_self, and_self, Int.ofNat_eq_natCast, Int.tdiv_eq_ediv_of_nonneg, Int.tmod_eq_emod_of_nonneg, x_bm32, ev, cv]
        exact K3
      · have K3 := K2 σ' ⟨n1, fun z => by
          by_cases ce : b = b0 ∧ x = t0 + w_of w f 5 - st
          · exfalso
            have zz := hf.1
            rw [← ce.1, show t0 = st + x - w_of w f 5 by omega] at zz
            rcases wor_z hv1 with ⟨_, y⟩ | ⟨y, _⟩
            · exact y v zz
            · exact cv (zst_f zz y)
          · exact n2 (by omega)⟩
        rw [bk_209_2]
        simp (disch := first | omega | (simp only [x_wtI, x_wtJ, x_wtR, x_wtN]; omega) | assumption | (simp (disch := omega) only [x_st_o, x_rd_ne]; first | assumption | omega) | (apply mir_eq; assumption; (intro c h1 h2; simp (disch := omega) only [x_st_o])) | (apply mis_eq; assumption; (intro c h1 h2; simp (disch := omega) only [x_st_o])) | rfl) only [bk_209_0, bk_209_3, bk_209_4, bk_209_5, bk_209_6, wp_ic, wp_ist6, wp_fall, wp_ild6, wp_iflt, wp_ald0, wp_ild2, wk_192, wp_ist7, wp_ild7, wp_iclt, wp_ild1, wp_ild3, wk_207, wp_lld4, wp_lcmp, wp_ifeq, wp_goto, wp_puti kd_50, wp_inc7, wp_inc6, wp_ret, x_clr_I, x_clr_J, x_clr_R, x_clr_U, ct_some, ct_none, lc_lt, lc_ge, lc_gt, lc_le, lc_eq, lc_r, xI_inj, xJ_inj, Option.some.injEq, eq_self, bi_r, bi_0, bi_1, bi_n, Classical.not_not, and_true, true_and, ite_true, ite_false, ↓reduceIte, ↓x_andl, z_le, z_nle, z_lt, z_nlt, z_eq, z_neq, if_pos, if_neg, x_andl, false_and, and_false, or_true, true_or, or_false, false_or, not_true, not_false_iff, x_rd_eq, x_rd_ne, x_st_o, Int.cast_ofNat_Int, Int.ofNat_zero, Int.ofNat_one, not_true_eq_false, not_false_eq_true, if_true, if_false, ite_self, and_self, Int.ofNat_eq_natCast, Int.tdiv_eq_ediv_of_nonneg, Int.tmod_eq_emod_of_nonneg, x_bm32, ev]
        exact K3
    · intro σx ⟨n1, n2⟩
      have K3 := K (σx, xI (-21)) ⟨n1, fun z => n2 (by omega)⟩
      rw [bk_209_2]
      simp (disch := first | omega | (simp only [x_wtI, x_wtJ, x_wtR, x_wtN]; omega) | assumption | (simp (disch := omega) only [x_st_o, x_rd_ne]; first | assumption | omega) | (apply mir_eq; assumption; (intro c h1 h2; simp (disch := omega) only [x_st_o])) | (apply mis_eq; assumption; (intro c h1 h2; simp (disch := omega) only [x_st_o])) | rfl) only [bk_209_0, bk_209_3, bk_209_4, bk_209_5, bk_209_6, wp_ic, wp_ist6, wp_fall, wp_ild6, wp_iflt, wp_ald0, wp_ild2, wk_192, wp_ist7, wp_ild7, wp_iclt, wp_ild1, wp_ild3, wk_207, wp_lld4, wp_lcmp, wp_ifeq, wp_goto, wp_puti kd_50, wp_inc7, wp_inc6, wp_ret, x_clr_I, x_clr_J, x_clr_R, x_clr_U, ct_some, ct_none, lc_lt, lc_ge, lc_gt, lc_le, lc_eq, lc_r, xI_inj, xJ_inj, Option.some.injEq, eq_self, bi_r, bi_0, bi_1, bi_n, Classical.not_not, and_true, true_and, ite_true, ite_false, ↓reduceIte, ↓x_andl, z_le, z_nle, z_lt, z_nlt, z_eq, z_neq, if_pos, if_neg, x_andl, false_and, and_false, or_true, true_or, or_false, false_or, not_true, not_false_iff, x_rd_eq, x_rd_ne, x_st_o, Int.cast_ofNat_Int, Int.ofNat_zero, Int.ofNat_one, not_true_eq_false, not_false_eq_true, if_true, if_false, ite_self, and_self, Int.ofNat_eq_natCast, Int.tdiv_eq_ediv_of_nonneg, Int.tmod_eq_emod_of_nonneg, x_bm32]
      exact K3
  · intro ⟨σb, u⟩ ⟨j1, j2⟩
    simp only at j1 j2 ⊢
    rw [bk_209_1]
    simp (disch := first | omega | (simp only [x_wtI, x_wtJ, x_wtR, x_wtN]; omega) | assumption | (simp (disch := omega) only [x_st_o, x_rd_ne]; first | assumption | omega) | (apply mir_eq; assumption; (intro c h1 h2; simp (disch := omega) only [x_st_o])) | (apply mis_eq; assumption; (intro c h1 h2; simp (disch := omega) only [x_st_o])) | rfl) only [bk_209_0, bk_209_3, bk_209_4, bk_209_5, bk_209_6, wp_ic, wp_ist6, wp_fall, wp_ild6, wp_iflt, wp_ald0, wp_ild2, wk_192, wp_ist7, wp_ild7, wp_iclt, wp_ild1, wp_ild3, wk_207, wp_lld4, wp_lcmp, wp_ifeq, wp_goto, wp_puti kd_50, wp_inc7, wp_inc6, wp_ret, x_clr_I, x_clr_J, x_clr_R, x_clr_U, ct_some, ct_none, lc_lt, lc_ge, lc_gt, lc_le, lc_eq, lc_r, xI_inj, xJ_inj, Option.some.injEq, eq_self, bi_r, bi_0, bi_1, bi_n, Classical.not_not, and_true, true_and, ite_true, ite_false, ↓reduceIte, ↓x_andl, z_le, z_nle, z_lt, z_nlt, z_eq, z_neq, if_pos, if_neg, x_andl, false_and, and_false, or_true, true_or, or_false, false_or, not_true, not_false_iff, x_rd_eq, x_rd_ne, x_st_o, Int.cast_ofNat_Int, Int.ofNat_zero, Int.ofNat_one, not_true_eq_false, not_false_eq_true, if_true, if_false, ite_self, and_self, Int.ofNat_eq_natCast, Int.tdiv_eq_ediv_of_nonneg, Int.tmod_eq_emod_of_nonneg, x_bm32]
    exact hQ _ _ ⟨rfl, j1, j2 (by omega)⟩

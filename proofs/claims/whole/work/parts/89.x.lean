section MLM
variable {S S1 S2 : Int → Prop} {v v1 v2 k : Int}
theorem ml_min (h1 : x_ml 9223372036854775807 S1 v1) (h2 : x_ml 9223372036854775807 S2 v2) (b1 : ∀ u, S1 u → u < 9223372036854775807) (b2 : ∀ u, S2 u → u < 9223372036854775807) : x_ml 9223372036854775807 (fun u => S1 u ∨ S2 u) (min v1 v2) := by
  rcases h1 with ⟨rfl, n1⟩ | ⟨s1, l1⟩
  · rcases h2 with ⟨rfl, n2⟩ | ⟨s2, l2⟩
    · exact Or.inl ⟨by omega, fun u z => z.elim (n1 u) (n2 u)⟩
    · have := b2 _ s2
      rw [Int.min_eq_right (by omega)]
      exact Or.inr ⟨Or.inr s2, fun u z => z.elim (fun y => absurd y (n1 u)) (l2 u)⟩
  · have q1 := b1 _ s1
    rcases h2 with ⟨rfl, n2⟩ | ⟨s2, l2⟩
    · rw [Int.min_eq_left (by omega)]
      exact Or.inr ⟨Or.inl s1, fun u z => z.elim (l1 u) (fun y => absurd y (n2 u))⟩
    · by_cases c : v1 ≤ v2
      · rw [Int.min_eq_left c]
        exact Or.inr ⟨Or.inl s1, fun u z => z.elim (l1 u) (fun y => by have := l2 u y; omega)⟩
      · rw [Int.min_eq_right (by omega)]
        exact Or.inr ⟨Or.inr s2, fun u z => z.elim (fun y => by have := l1 u y; omega) (l2 u)⟩
theorem ml_shift (h : x_ml 9223372036854775807 S v) (b : ∀ u, S u → u < 9223372036854775807) : x_ml 9223372036854775807 (fun u => ∃ u', S u' ∧ u = u' + k) (if v = 9223372036854775807 then 9223372036854775807 else v + k) := by
  rcases h with ⟨rfl, n⟩ | ⟨s, l⟩
  · rw [if_pos rfl]
    exact Or.inl ⟨rfl, fun u ⟨u', z, _⟩ => n u' z⟩
  · have := b _ s
    rw [if_neg (by omega)]
    exact Or.inr ⟨⟨v, s, rfl⟩, fun u ⟨u', z, e⟩ => by have := l u' z; omega⟩
theorem ml_max0 (h : x_ml 9223372036854775807 S v) : x_ml 9223372036854775807 (fun u => ∃ u', S u' ∧ u = max 0 u') (max 0 v) := by
  rcases h with ⟨rfl, n⟩ | ⟨s, l⟩
  · exact Or.inl ⟨by omega, fun u ⟨u', z, _⟩ => n u' z⟩
  · exact Or.inr ⟨⟨v, s, rfl⟩, fun u ⟨u', z, e⟩ => by have := l u' z; omega⟩
end MLM
def bhb (B : Int → Int) : Prop := ∀ s, 0 ≤ s → s < 42 → B s = 9223372036854775807 ∨ (-700000000000000000 ≤ B s ∧ B s ≤ 700000000000000000)
theorem h_lwb {σ : x_S} {j : Nat} {B : Int → Int} {ba id fu by' : Int} (hj : j < 4) (hB : σ 27 j = B) (hy : σ 24 j 7 = by') (hb : bhb B) (hy2 : 0 ≤ by' ∧ by' ≤ 100000000000) (h1 : 0 ≤ ba ∧ ba ≤ 21) (h2 : -20 ≤ id ∧ id ≤ 20) (h3 : fu ≤ 20 ∧ -100 ≤ fu) : x_Sp 1 9 [xR 24 j, xI ba, xI id, xI fu] σ (fun r σ' => σ' = σ ∧ ∃ v, r = some (xJ v) ∧ x_ml 9223372036854775807 (fun u => ∃ t, (id < t ∧ 0 ≤ t) ∧ t ≤ fu ∧ ¬ B (ba + t) = 9223372036854775807 ∧ u = B (ba + t) + (t - id) * by') v ∧ (v = 9223372036854775807 ∨ (-800000000000000000 ≤ v ∧ v ≤ 800000000000000000))) := by
  refine x_gen (fun Q hQ => ?_)
  generalize hlo : (if id < 0 then (0 : Int) else id + 1) = lo
  have elo : 0 ≤ lo ∧ lo ≤ 21 ∧ id < lo ∧ ∀ t, (id < t ∧ 0 ≤ t) ↔ lo ≤ t := by
    by_cases c : id < 0
    · rw [if_pos c] at hlo
      refine ⟨by omega, by omega, by omega, fun t => by omega⟩
    · rw [if_neg c] at hlo
      refine ⟨by omega, by omega, by omega, fun t => by omega⟩
  have go : x_Sp 1 9 [xR 24 j, xI ba, xI id, xI fu] σ Q ↔ x_Wp 1 9 (x_blk 9 3) [xR 24 j, xI ba, xI id, xI fu, xJ 9223372036854775807, xU, xI lo, xU, xU] [] σ Q := by
    by_cases c : id < 0
    · rw [if_pos c] at hlo
      subst hlo
      simp (disch := first | omega | (simp only [x_wtI, x_wtJ, x_wtR, x_wtN]; omega) | assumption | (simp (disch := omega) only [x_st_o, x_rd_ne]; first | assumption | omega) | (apply mir_eq; assumption; (intro c h1 h2; simp (disch := omega) only [x_st_o])) | (apply mis_eq; assumption; (intro c h1 h2; simp (disch := omega) only [x_st_o])) | rfl) only [sp_9, bk_9_0, bk_9_1, bk_9_2, bk_9_4, bk_9_5, wp_lc, wp_lst4, wp_ild2, wp_ifge, wp_ic, wp_goto, wp_iadd, wp_fall, wp_ist6, wp_ild6, wp_ild3, wp_icgt, wp_ald0, wr_24_6, wp_ild1, wl_27, wp_pald, wp_lst7, wp_lld7, wp_lcmp, wp_ifeq, wp_isub, wp_i2l, wp_getj kd_24, wp_lmul, wp_ladd, wp_lld4, wp_inc6, wp_lret, x_clr_I, x_clr_J, x_clr_R, x_clr_U, ct_some, ct_none, lc_lt, lc_ge, lc_gt, lc_le, lc_eq, lc_r, xI_inj, xJ_inj, Option.some.injEq, eq_self, bi_r, bi_0, bi_1, bi_n, Classical.not_not, and_true, true_and, ite_true, ite_false, ↓reduceIte, ↓x_andl, z_le, z_nle, z_lt, z_nlt, z_eq, z_neq, if_pos, if_neg, x_andl, false_and, and_false, or_true, true_or, or_false, false_or, not_true, not_false_iff, x_rd_eq, x_rd_ne, x_st_o, Int.cast_ofNat_Int, Int.ofNat_zero, Int.ofNat_one, not_true_eq_false, not_false_eq_true, if_true, if_false, ite_self, and_self, Int.ofNat_eq_natCast, Int.tdiv_eq_ediv_of_nonneg, Int.tmod_eq_emod_of_nonneg, x_bm32]
    · rw [if_neg c] at hlo
      subst hlo
      simp (disch := first | omega | (simp only [x_wtI, x_wtJ, x_wtR, x_wtN]; omega) | assumption | (simp (disch := omega) only [x_st_o, x_rd_ne]; first | assumption | omega) | (apply mir_eq; assumption; (intro c h1 h2; simp (disch := omega) only [x_st_o])) | (apply mis_eq; assumption; (intro c h1 h2; simp (disch := omega) only [x_st_o])) | rfl) only [sp_9, bk_9_0, bk_9_1, bk_9_2, bk_9_4, bk_9_5, wp_lc, wp_lst4, wp_ild2, wp_ifge, wp_ic, wp_goto, wp_iadd, wp_fall, wp_ist6, wp_ild6, wp_ild3, wp_icgt, wp_ald0, wr_24_6, wp_ild1, wl_27, wp_pald, wp_lst7, wp_lld7, wp_lcmp, wp_ifeq, wp_isub, wp_i2l, wp_getj kd_24, wp_lmul, wp_ladd, wp_lld4, wp_inc6, wp_lret, x_clr_I, x_clr_J, x_clr_R, x_clr_U, ct_some, ct_none, lc_lt, lc_ge, lc_gt, lc_le, lc_eq, lc_r, xI_inj, xJ_inj, Option.some.injEq, eq_self, bi_r, bi_0, bi_1, bi_n, Classical.not_not, and_true, true_and, ite_true, ite_false, ↓reduceIte, ↓x_andl, z_le, z_nle, z_lt, z_nlt, z_eq, z_neq, if_pos, if_neg, x_andl, false_and, and_false, or_true, true_or, or_false, false_or, not_true, not_false_iff, x_rd_eq, x_rd_ne, x_st_o, Int.cast_ofNat_Int, Int.ofNat_zero, Int.ofNat_one, not_true_eq_false, not_false_eq_true, if_true, if_false, ite_self, and_self, Int.ofNat_eq_natCast, Int.tdiv_eq_ediv_of_nonneg, Int.tmod_eq_emod_of_nonneg, x_bm32]
  rw [go]
  have vb : ∀ t, lo ≤ t → t ≤ fu → ¬ B (ba + t) = 9223372036854775807 → -800000000000000000 ≤ B (ba + t) + (t - id) * by' ∧ B (ba + t) + (t - id) * by' ≤ 800000000000000000 := by
    intro t t0 t1 t2
    have q := (hb (ba + t) (by omega) (by omega)).resolve_left t2
    have m := mulb (a := t - id) (b := by') (A := 40) (B := 100000000000) (by omega) hy2
    omega
  refine x_lpJ (α := Int × x_V) (fun i q => x_ml 9223372036854775807 (fun u => ∃ t, lo ≤ t ∧ t < i ∧ t ≤ fu ∧ ¬ B (ba + t) = 9223372036854775807 ∧ u = B (ba + t) + (t - id) * by') q.1) (fun i q => x_Wp 1 9 (x_blk 9 3) [xR 24 j, xI ba, xI id, xI fu, xJ q.1, xU, xI i, q.2, xU] [] σ Q) (lo := lo) (hi := max lo (fu + 1)) (by omega) (a0 := (9223372036854775807, xU)) (ml_nil (fun u ⟨t, p, q, _⟩ => by omega)) ?_ ?_
  · intro i ⟨lw, u⟩ i0 i1 hJ
    simp only at hJ ⊢
    have iu : i ≤ fu := by omega
    have lr : lw = 9223372036854775807 ∨ (-800000000000000000 ≤ lw ∧ lw ≤ 800000000000000000) := by
      rcases hJ with ⟨z, _⟩ | ⟨⟨t, p, _, q, y, z⟩, _⟩
      · exact Or.inl z
      · rw [z]
        exact Or.inr (vb t p q y)
    have br := hb (ba + i) (by omega) (by omega)
    rw [bk_9_3]
    by_cases c : B (ba + i) = 9223372036854775807
    · refine ⟨(lw, xJ 9223372036854775807), ml_cg hJ (fun u => ?_), ?_⟩
      · constructor
        · rintro ⟨t, p, q, y⟩
          exact ⟨t, p, by omega, y⟩
        · rintro ⟨t, p, q, y, z, e⟩
          by_cases ct : t = i
          · rw [ct] at z
            exact absurd c z
          · exact ⟨t, p, by omega, y, z, e⟩
      · intro H
        simp (disch := first | omega | (simp only [x_wtI, x_wtJ, x_wtR, x_wtN]; omega) | assumption | (simp (disch := omega) only [x_st_o, x_rd_ne]; first | assumption | omega) | (apply mir_eq; assumption; (intro c h1 h2; simp (disch := omega) only [x_st_o])) | (apply mis_eq; assumption; (intro c h1 h2; simp (disch := omega) only [x_st_o])) | rfl) only [bk_9_0, bk_9_1, bk_9_2, bk_9_4, bk_9_5, wp_lc, wp_lst4, wp_ild2, wp_ifge, wp_ic, wp_goto, wp_iadd, wp_fall, wp_ist6, wp_ild6, wp_ild3, wp_icgt, wp_ald0, wr_24_6, wp_ild1, wl_27, wp_pald, wp_lst7, wp_lld7, wp_lcmp, wp_ifeq, wp_isub, wp_i2l, wp_getj kd_24, wp_lmul, wp_ladd, wp_lld4, wp_inc6, wp_lret, x_clr_I, x_clr_J, x_clr_R, x_clr_U, ct_some, ct_none, lc_lt, lc_ge, lc_gt, lc_le, lc_eq, lc_r, xI_inj, xJ_inj, Option.some.injEq, eq_self, bi_r, bi_0, bi_1, bi_n, Classical.not_not, and_true, true_and, ite_true, ite_false, ↓reduceIte, ↓x_andl, z_le, z_nle, z_lt, z_nlt, z_eq, z_neq, if_pos, if_neg, x_andl, false_and, and_false, or_true, true_or, or_false, false_or, not_true, not_false_iff, x_rd_eq, x_rd_ne, x_st_o, Int.cast_ofNat_Int, Int.ofNat_zero, Int.ofNat_one, not_true_eq_false, not_false_eq_true, if_true, if_false, ite_self, and_self, Int.ofNat_eq_natCast, Int.tdiv_eq_ediv_of_nonneg, Int.tmod_eq_emod_of_nonneg, x_bm32, hB, c]
        exact H
    · have v := vb i i0 iu c
      have ma := ml_add hJ (u := B (ba + i) + (i - id) * by') (fun z ⟨t, p, q, y, y2, e⟩ => by have := vb t p y y2; omega)
      refine ⟨(if lw = 9223372036854775807 ∨ B (ba + i) + (i - id) * by' < lw then B (ba + i) + (i - id) * by' else lw, xJ (B (ba + i))), ml_cg ma (fun u => ?_), ?_⟩
      · constructor
        · rintro (⟨t, p, q, y⟩ | e)
          · exact ⟨t, p, by omega, y⟩
          · exact ⟨i, i0, by omega, iu, c, e⟩
        · rintro ⟨t, p, q, y, z, e⟩
          by_cases ct : t = i
          · subst ct
            exact Or.inr e
          · exact Or.inl ⟨t, p, by omega, y, z, e⟩
      · intro H
        simp only at H
        by_cases c2 : B (ba + i) + (i - id) * by' < lw
        · rw [if_pos (Or.inr c2)] at H
          simp (disch := first | omega | (simp only [x_wtI, x_wtJ, x_wtR, x_wtN]; omega) | assumption | (simp (disch := omega) only [x_st_o, x_rd_ne]; first | assumption | omega) | (apply mir_eq; assumption; (intro c h1 h2; simp (disch := omega) only [x_st_o])) | (apply mis_eq; assumption; (intro c h1 h2; simp (disch := omega) only [x_st_o])) | rfl) only [bk_9_0, bk_9_1, bk_9_2, bk_9_4, bk_9_5, wp_lc, wp_lst4, wp_ild2, wp_ifge, wp_ic, wp_goto, wp_iadd, wp_fall, wp_ist6, wp_ild6, wp_ild3, wp_icgt, wp_ald0, wr_24_6, wp_ild1, wl_27, wp_pald, wp_lst7, wp_lld7, wp_lcmp, wp_ifeq, wp_isub, wp_i2l, wp_getj kd_24, wp_lmul, wp_ladd, wp_lld4, wp_inc6, wp_lret, x_clr_I, x_clr_J, x_clr_R, x_clr_U, ct_some, ct_none, lc_lt, lc_ge, lc_gt, lc_le, lc_eq, lc_r, xI_inj, xJ_inj, Option.some.injEq, eq_self, bi_r, bi_0, bi_1, bi_n, Classical.not_not, and_true, true_and, ite_true, ite_false, ↓reduceIte, ↓x_andl, z_le, z_nle, z_lt, z_nlt, z_eq, z_neq, if_pos, if_neg, x_andl, false_and, and_false, or_true, true_or, or_false, false_or, not_true, not_false_iff, x_rd_eq, x_rd_ne, x_st_o, Int.cast_ofNat_Int, Int.ofNat_zero, Int.ofNat_one, not_true_eq_false, not_false_eq_true, if_true, if_false, ite_self, and_self, Int.ofNat_eq_natCast, Int.tdiv_eq_ediv_of_nonneg, Int.tmod_eq_emod_of_nonneg, x_bm32, hB, hy]
          exact H
        · rw [if_neg (fun z => z.elim (fun y => by omega) c2)] at H
          simp (disch := first | omega | (simp only [x_wtI, x_wtJ, x_wtR, x_wtN]; omega) | assumption | (simp (disch := omega) only [x_st_o, x_rd_ne]; first | assumption | omega) | (apply mir_eq; assumption; (intro c h1 h2; simp (disch := omega) only [x_st_o])) | (apply mis_eq; assumption; (intro c h1 h2; simp (disch := omega) only [x_st_o])) | rfl) only [bk_9_0, bk_9_1, bk_9_2, bk_9_4, bk_9_5, wp_lc, wp_lst4, wp_ild2, wp_ifge, wp_ic, wp_goto, wp_iadd, wp_fall, wp_ist6, wp_ild6, wp_ild3, wp_icgt, wp_ald0, wr_24_6, wp_ild1, wl_27, wp_pald, wp_lst7, wp_lld7, wp_lcmp, wp_ifeq, wp_isub, wp_i2l, wp_getj kd_24, wp_lmul, wp_ladd, wp_lld4, wp_inc6, wp_lret, x_clr_I, x_clr_J, x_clr_R, x_clr_U, ct_some, ct_none, lc_lt, lc_ge, lc_gt, lc_le, lc_eq, lc_r, xI_inj, xJ_inj, Option.some.injEq, eq_self, bi_r, bi_0, bi_1, bi_n, Classical.not_not, and_true, true_and, ite_true, ite_false, ↓reduceIte, ↓x_andl, z_le, z_nle, z_lt, z_nlt, z_eq, z_neq, if_pos, if_neg, x_andl, false_and, and_false, or_true, true_or, or_false, false_or, not_true, not_false_iff, x_rd_eq, x_rd_ne, x_st_o, Int.cast_ofNat_Int, Int.ofNat_zero, Int.ofNat_one, not_true_eq_false, not_false_eq_true, if_true, if_false, ite_self, and_self, Int.ofNat_eq_natCast, Int.tdiv_eq_ediv_of_nonneg, Int.tmod_eq_emod_of_nonneg, x_bm32, hB, hy]
          exact H
  · intro ⟨lw, u⟩ hJ
    simp only at hJ ⊢
    have lr : lw = 9223372036854775807 ∨ (-800000000000000000 ≤ lw ∧ lw ≤ 800000000000000000) := by
      rcases hJ with ⟨z, _⟩ | ⟨⟨t, p, _, q, y, z⟩, _⟩
      · exact Or.inl z
      · rw [z]
        exact Or.inr (vb t p q y)
    rw [bk_9_3]
    simp (disch := first | omega | (simp only [x_wtI, x_wtJ, x_wtR, x_wtN]; omega) | assumption | (simp (disch := omega) only [x_st_o, x_rd_ne]; first | assumption | omega) | (apply mir_eq; assumption; (intro c h1 h2; simp (disch := omega) only [x_st_o])) | (apply mis_eq; assumption; (intro c h1 h2; simp (disch := omega) only [x_st_o])) | rfl) only [bk_9_0, bk_9_1, bk_9_2, bk_9_4, bk_9_5, wp_lc, wp_lst4, wp_ild2, wp_ifge, wp_ic, wp_goto, wp_iadd, wp_fall, wp_ist6, wp_ild6, wp_ild3, wp_icgt, wp_ald0, wr_24_6, wp_ild1, wl_27, wp_pald, wp_lst7, wp_lld7, wp_lcmp, wp_ifeq, wp_isub, wp_i2l, wp_getj kd_24, wp_lmul, wp_ladd, wp_lld4, wp_inc6, wp_lret, x_clr_I, x_clr_J, x_clr_R, x_clr_U, ct_some, ct_none, lc_lt, lc_ge, lc_gt, lc_le, lc_eq, lc_r, xI_inj, xJ_inj, Option.some.injEq, eq_self, bi_r, bi_0, bi_1, bi_n, Classical.not_not, and_true, true_and, ite_true, ite_false, ↓reduceIte, ↓x_andl, z_le, z_nle, z_lt, z_nlt, z_eq, z_neq, if_pos, if_neg, x_andl, false_and, and_false, or_true, true_or, or_false, false_or, not_true, not_false_iff, x_rd_eq, x_rd_ne, x_st_o, Int.cast_ofNat_Int, Int.ofNat_zero, Int.ofNat_one, not_true_eq_false, not_false_eq_true, if_true, if_false, ite_self, and_self, Int.ofNat_eq_natCast, Int.tdiv_eq_ediv_of_nonneg, Int.tmod_eq_emod_of_nonneg, x_bm32]
    refine hQ _ _ ⟨rfl, lw, rfl, ml_cg hJ (fun u => ?_), lr⟩
    constructor
    · rintro ⟨t, p, q, y⟩
      exact ⟨t, ((elo.2.2.2 t).mpr p), y⟩
    · rintro ⟨t, p, y, z⟩
      exact ⟨t, (elo.2.2.2 t).mp p, by omega, y, z⟩
/-! steps that don't widen -/
def swv (w B : Int → Int) (by' se f l st u : Int) : Prop := ∃ t, 0 ≤ t ∧ t ≤ p_room w l ∧ t ≤ st + w_of w f 3 - w_of w f 5 ∧ ¬ B (21 * l + t) = 9223372036854775807 ∧ u = B (21 * l + t) + (if 0 < t + w_of w f 5 - st then (t + w_of w f 5 - st) * by' else (t + w_of w f 5 - st) * se)
theorem swv_b {w B : Int → Int} {by' se f l st u : Int} (hw : wf w) (h0 : 0 ≤ f) (h1 : f < w 0) (hb : bhb B) (hy2 : 0 ≤ by' ∧ by' ≤ 100000000000) (hs2 : 0 ≤ se ∧ se ≤ 100000000000) (hl : 0 ≤ l ∧ l ≤ 1) (hst : 0 ≤ st ∧ st ≤ 20) (h : swv w B by' se f l st u) : -800000000000000000 ≤ u ∧ u ≤ 800000000000000000 := by
  have o := wf_f hw h0 h1
  unfold wf_one at o
  have r := room_b hw (l := l)
  obtain ⟨t, p1, p2, p3, p4, rfl⟩ := h
  have q := (hb (21 * l + t) (by omega) (by omega)).resolve_left p4
  have m1 := mulb (a := t + w_of w f 5 - st) (b := by') (A := 40) (B := 100000000000) (by omega) hy2
  have m2 := mulb (a := t + w_of w f 5 - st) (b := se) (A := 40) (B := 100000000000) (by omega) hs2
  split <;> omega
theorem h_sweepOver {σ : x_S} {w B : Int → Int} {j : Nat} {by' se f l : Int} (hM : mir σ 1 w) (hj : j < 4) (hw : wf w) (h0 : 0 ≤ f) (h1 : f < w 0) (hB : σ 27 j = B) (hy : σ 24 j 7 = by') (hse : σ 24 j 8 = se) (hb : bhb B) (hy2 : 0 ≤ by' ∧ by' ≤ 100000000000) (hs2 : 0 ≤ se ∧ se ≤ 100000000000) (hl : 0 ≤ l ∧ l ≤ 1) : x_Sp 2 8 [xR 24 j, xI f, xI l] σ (fun r σ' => r = none ∧ x_eqo [(28, j)] σ σ' ∧ (∀ s, ¬ (21 * l ≤ s ∧ s < 21 * l + 21) → σ' 28 j s = σ 28 j s) ∧ ∀ st, 0 ≤ st → st ≤ 20 → x_ml 9223372036854775807 (swv w B by' se f l st) (σ' 28 j (21 * l + st))) := by
  have a := wf_h hw
  unfold wf_hdr at a
  have o := wf_f hw h0 h1
  unfold wf_one at o
  have rb := room_b hw (l := l)
  have ml21 : l * 21 = 21 * l := Int.mul_comm _ _
  refine x_gen (fun Q hQ => ?_)
  simp (disch := first | omega | (simp only [x_wtI, x_wtJ, x_wtR, x_wtN]; omega) | assumption | (simp (disch := omega) only [x_st_o, x_rd_ne]; first | assumption | omega) | (apply mir_eq; assumption; (intro c h1 h2; simp (disch := omega) only [x_st_o])) | (apply mis_eq; assumption; (intro c h1 h2; simp (disch := omega) only [x_st_o])) | rfl) only [sp_8, bk_8_0, bk_8_2, bk_8_3, bk_8_4, bk_8_5, wp_ild2, wp_ic, wp_imul, wp_ist3, wp_ald0, wr_24_0, wk_67, wp_ist4, wp_lc, wp_lst5, wp_ist7, wp_fall, wp_ild7, wp_icge, wr_6_12, wp_ild1, wl_10, wl_12, wp_cald, wp_isub, wp_ist8, wp_ild8, wp_iflt, wp_ild4, wp_icgt, wr_24_6, wp_ild3, wp_iadd, wl_27, wl_28, wp_pald, wp_lcmp, wp_ifeq, wp_lld5, wp_i2l, wp_getj kd_24, wp_lmul, wp_ladd, wk_275, c_minj, wp_ifne, wp_goto, wp_lsub, wp_lst9, wr_6_10, wk_273, c_mini, wk_9, wp_lst11, wr_24_10, wp_lld9, wp_lld11, ws_27, ws_28, wp_inc7, wp_ret, x_clr_I, x_clr_J, x_clr_R, x_clr_U, ct_some, ct_none, lc_lt, lc_ge, lc_gt, lc_le, lc_eq, lc_r, xI_inj, xJ_inj, Option.some.injEq, eq_self, bi_r, bi_0, bi_1, bi_n, Classical.not_not, and_true, true_and, ite_true, ite_false, ↓reduceIte, ↓x_andl, z_le, z_nle, z_lt, z_nlt, z_eq, z_neq, if_pos, if_neg, x_andl, false_and, and_false, or_true, true_or, or_false, false_or, not_true, not_false_iff, x_rd_eq, x_rd_ne, x_st_o, Int.cast_ofNat_Int, Int.ofNat_zero, Int.ofNat_one, not_true_eq_false, not_false_eq_true, if_true, if_false, ite_self, and_self, Int.ofNat_eq_natCast, Int.tdiv_eq_ediv_of_nonneg, Int.tmod_eq_emod_of_nonneg, x_bm32, k_room, ml21]
  refine x_lpJ (α := Int × x_S × x_V × x_V × x_V) (fun st q => x_ml 9223372036854775807 (fun u => ∃ t, 0 ≤ t ∧ t < st - w_of w f 5 ∧ t ≤ p_room w l ∧ ¬ B (21 * l + t) = 9223372036854775807 ∧ u = B (21 * l + t) + t * se) q.1 ∧ x_eqo [(28, j)] σ q.2.1 ∧ (∀ s, ¬ (21 * l ≤ s ∧ s < 21 * l + st) → q.2.1 28 j s = σ 28 j s) ∧ ∀ s, 0 ≤ s → s < st → x_ml 9223372036854775807 (swv w B by' se f l s) (q.2.1 28 j (21 * l + s))) (fun st q => x_Wp 2 8 (x_blk 8 1) [xR 24 j, xI f, xI l, xI (21 * l), xI (p_room w l), xJ q.1, xU, xI st, q.2.2.1, q.2.2.2.1, xU, q.2.2.2.2, xU] [] q.2.1 Q) (lo := 0) (hi := 21) (by omega) (a0 := (9223372036854775807, σ, xU, xU, xU)) ⟨ml_nil (fun u ⟨t, p, q, _⟩ => by omega), eqo_refl, fun _ _ => rfl, fun s p q => by omega⟩ ?_ ?_
  · intro st ⟨sl, σi, u1, u2, u3⟩ s0 s1 ⟨j1, j2, j3, j4⟩
    simp only at j1 j2 j3 j4 ⊢
    have hMi : mir σi 1 w := mir_eq hM (fun c q1 q2 => j2 c 1 (by simp; omega))
    have g27 : σi 27 j = B := (j2 27 j (by simp)).trans hB
    have g24 : σi 24 j = σ 24 j := j2 24 j (by simp)
    have gse : σi 24 j 8 = se := by rw [g24]; exact hse
    have gy : σi 24 j 7 = by' := by rw [g24]; exact hy
    have svb : ∀ t, 0 ≤ t → t ≤ p_room w l → ¬ B (21 * l + t) = 9223372036854775807 → -800000000000000000 ≤ B (21 * l + t) + t * se ∧ B (21 * l + t) + t * se ≤ 800000000000000000 := by
      intro t t0 t1 t2
      have q := (hb (21 * l + t) (by omega) (by omega)).resolve_left t2
      have m := mulb (a := t) (b := se) (A := 40) (B := 100000000000) (by omega) hs2
      omega
    -- the best sale
    have sale : ∃ sl', x_ml 9223372036854775807 (fun u => ∃ t, 0 ≤ t ∧ t ≤ st - w_of w f 5 ∧ t ≤ p_room w l ∧ ¬ B (21 * l + t) = 9223372036854775807 ∧ u = B (21 * l + t) + t * se) sl' ∧ (x_Wp 2 8 (x_blk 8 2) [xR 24 j, xI f, xI l, xI (21 * l), xI (p_room w l), xJ sl', xU, xI st, xI (st - w_of w f 5), u2, xU, u3, xU] [] σi Q → x_Wp 2 8 (x_blk 8 1) [xR 24 j, xI f, xI l, xI (21 * l), xI (p_room w l), xJ sl, xU, xI st, u1, u2, xU, u3, xU] [] σi Q) := by
      have slr : sl = 9223372036854775807 ∨ (-800000000000000000 ≤ sl ∧ sl ≤ 800000000000000000) := by
        rcases j1 with ⟨z, _⟩ | ⟨⟨t, p, _, q, y, z⟩, _⟩
        · exact Or.inl z
        · rw [z]
          exact Or.inr (svb t p q y)
      by_cases c1 : (0 ≤ st - w_of w f 5 ∧ st - w_of w f 5 ≤ p_room w l) ∧ ¬ B (21 * l + (st - w_of w f 5)) = 9223372036854775807
      · have sv := svb _ c1.1.1 c1.1.2 c1.2
        have br := (hb (21 * l + (st - w_of w f 5)) (by omega) (by omega)).resolve_left c1.2
        have ma := ml_add j1 (u := B (21 * l + (st - w_of w f 5)) + (st - w_of w f 5) * se) (fun z ⟨t, p, q, y, y2, e⟩ => by have := svb t p y y2; omega)
        have em : (if sl = 9223372036854775807 ∨ B (21 * l + (st - w_of w f 5)) + (st - w_of w f 5) * se < sl then B (21 * l + (st - w_of w f 5)) + (st - w_of w f 5) * se else sl) = min sl (B (21 * l + (st - w_of w f 5)) + (st - w_of w f 5) * se) := by
          by_cases z : sl = 9223372036854775807 ∨ B (21 * l + (st - w_of w f 5)) + (st - w_of w f 5) * se < sl
          · rw [if_pos z]
            omega
          · rw [if_neg z]
            omega
        rw [em] at ma
        refine ⟨_, ml_cg ma (fun u => ?_), fun H => ?_⟩
        · constructor
          · rintro (⟨t, p, q, y⟩ | e)
            · exact ⟨t, p, by omega, y⟩
            · exact ⟨_, c1.1.1, Int.le_refl _, c1.1.2, c1.2, e⟩
          · rintro ⟨t, p, q, y, z, e⟩
            by_cases ct : t = st - w_of w f 5
            · subst ct
              exact Or.inr e
            · exact Or.inl ⟨t, p, by omega, y, z, e⟩
        · have c11 := c1.1
          have c12 := c1.2
          rw [bk_8_1]
          simp (disch := first | omega | (simp only [x_wtI, x_wtJ, x_wtR, x_wtN]; omega) | assumption | (simp (disch := omega) only [x_st_o, x_rd_ne]; first | assumption | omega) | (apply mir_eq; assumption; (intro c h1 h2; simp (disch := omega) only [x_st_o])) | (apply mis_eq; assumption; (intro c h1 h2; simp (disch := omega) only [x_st_o])) | rfl) only [bk_8_0, bk_8_3, bk_8_4, bk_8_5, wp_ild2, wp_ic, wp_imul, wp_ist3, wp_ald0, wr_24_0, wk_67, wp_ist4, wp_lc, wp_lst5, wp_ist7, wp_fall, wp_ild7, wp_icge, wr_6_12, wp_ild1, wl_10, wl_12, wp_cald, wp_isub, wp_ist8, wp_ild8, wp_iflt, wp_ild4, wp_icgt, wr_24_6, wp_ild3, wp_iadd, wl_27, wl_28, wp_pald, wp_lcmp, wp_ifeq, wp_lld5, wp_i2l, wp_getj kd_24, wp_lmul, wp_ladd, wk_275, c_minj, wp_ifne, wp_goto, wp_lsub, wp_lst9, wr_6_10, wk_273, c_mini, wk_9, wp_lst11, wr_24_10, wp_lld9, wp_lld11, ws_27, ws_28, wp_inc7, wp_ret, x_clr_I, x_clr_J, x_clr_R, x_clr_U, ct_some, ct_none, lc_lt, lc_ge, lc_gt, lc_le, lc_eq, lc_r, xI_inj, xJ_inj, Option.some.injEq, eq_self, bi_r, bi_0, bi_1, bi_n, Classical.not_not, and_true, true_and, ite_true, ite_false, ↓reduceIte, ↓x_andl, z_le, z_nle, z_lt, z_nlt, z_eq, z_neq, if_pos, if_neg, x_andl, false_and, and_false, or_true, true_or, or_false, false_or, not_true, not_false_iff, x_rd_eq, x_rd_ne, x_st_o, Int.cast_ofNat_Int, Int.ofNat_zero, Int.ofNat_one, not_true_eq_false, not_false_eq_true, if_true, if_false, ite_self, and_self, Int.ofNat_eq_natCast, Int.tdiv_eq_ediv_of_nonneg, Int.tmod_eq_emod_of_nonneg, x_bm32, mi_need hMi, g27, gse]
          exact H
      · refine ⟨sl, ml_cg j1 (fun u => ?_), fun H => ?_⟩
        · constructor
          · rintro ⟨t, p, q, y⟩
            exact ⟨t, p, by omega, y⟩
          · rintro ⟨t, p, q, y, z, e⟩
            by_cases ct : t = st - w_of w f 5
            · subst ct
              exact absurd ⟨⟨p, y⟩, z⟩ c1
            · exact ⟨t, p, by omega, y, z, e⟩
        · rw [bk_8_1]
          by_cases c2 : st - w_of w f 5 < 0
          · simp (disch := first | omega | (simp only [x_wtI, x_wtJ, x_wtR, x_wtN]; omega) | assumption | (simp (disch := omega) only [x_st_o, x_rd_ne]; first | assumption | omega) | (apply mir_eq; assumption; (intro c h1 h2; simp (disch := omega) only [x_st_o])) | (apply mis_eq; assumption; (intro c h1 h2; simp (disch := omega) only [x_st_o])) | rfl) only [bk_8_0, bk_8_3, bk_8_4, bk_8_5, wp_ild2, wp_ic, wp_imul, wp_ist3, wp_ald0, wr_24_0, wk_67, wp_ist4, wp_lc, wp_lst5, wp_ist7, wp_fall, wp_ild7, wp_icge, wr_6_12, wp_ild1, wl_10, wl_12, wp_cald, wp_isub, wp_ist8, wp_ild8, wp_iflt, wp_ild4, wp_icgt, wr_24_6, wp_ild3, wp_iadd, wl_27, wl_28, wp_pald, wp_lcmp, wp_ifeq, wp_lld5, wp_i2l, wp_getj kd_24, wp_lmul, wp_ladd, wk_275, c_minj, wp_ifne, wp_goto, wp_lsub, wp_lst9, wr_6_10, wk_273, c_mini, wk_9, wp_lst11, wr_24_10, wp_lld9, wp_lld11, ws_27, ws_28, wp_inc7, wp_ret, x_clr_I, x_clr_J, x_clr_R, x_clr_U, ct_some, ct_none, lc_lt, lc_ge, lc_gt, lc_le, lc_eq, lc_r, xI_inj, xJ_inj, Option.some.injEq, eq_self, bi_r, bi_0, bi_1, bi_n, Classical.not_not, and_true, true_and, ite_true, ite_false, ↓reduceIte, ↓x_andl, z_le, z_nle, z_lt, z_nlt, z_eq, z_neq, if_pos, if_neg, x_andl, false_and, and_false, or_true, true_or, or_false, false_or, not_true, not_false_iff, x_rd_eq, x_rd_ne, x_st_o, Int.cast_ofNat_Int, Int.ofNat_zero, Int.ofNat_one, not_true_eq_false, not_false_eq_true, if_true, if_false, ite_self, and_self, Int.ofNat_eq_natCast, Int.tdiv_eq_ediv_of_nonneg, Int.tmod_eq_emod_of_nonneg, x_bm32, mi_need hMi]
            exact H
          · by_cases c3 : p_room w l < st - w_of w f 5
            · simp (disch := first | omega | (simp only [x_wtI, x_wtJ, x_wtR, x_wtN]; omega) | assumption | (simp (disch := omega) only [x_st_o, x_rd_ne]; first | assumption | omega) | (apply mir_eq; assumption; (intro c h1 h2; simp (disch := omega) only [x_st_o])) | (apply mis_eq; assumption; (intro c h1 h2; simp (disch := omega) only [x_st_o])) | rfl) only [bk_8_0, bk_8_3, bk_8_4, bk_8_5, wp_ild2, wp_ic, wp_imul, wp_ist3, wp_ald0, wr_24_0, wk_67, wp_ist4, wp_lc, wp_lst5, wp_ist7, wp_fall, wp_ild7, wp_icge, wr_6_12, wp_ild1, wl_10, wl_12, wp_cald, wp_isub, wp_ist8, wp_ild8, wp_iflt, wp_ild4, wp_icgt, wr_24_6, wp_ild3, wp_iadd, wl_27, wl_28, wp_pald, wp_lcmp, wp_ifeq, wp_lld5, wp_i2l, wp_getj kd_24, wp_lmul, wp_ladd, wk_275, c_minj, wp_ifne, wp_goto, wp_lsub, wp_lst9, wr_6_10, wk_273, c_mini, wk_9, wp_lst11, wr_24_10, wp_lld9, wp_lld11, ws_27, ws_28, wp_inc7, wp_ret, x_clr_I, x_clr_J, x_clr_R, x_clr_U, ct_some, ct_none, lc_lt, lc_ge, lc_gt, lc_le, lc_eq, lc_r, xI_inj, xJ_inj, Option.some.injEq, eq_self, bi_r, bi_0, bi_1, bi_n, Classical.not_not, and_true, true_and, ite_true, ite_false, ↓reduceIte, ↓x_andl, z_le, z_nle, z_lt, z_nlt, z_eq, z_neq, if_pos, if_neg, x_andl, false_and, and_false, or_true, true_or, or_false, false_or, not_true, not_false_iff, x_rd_eq, x_rd_ne, x_st_o, Int.cast_ofNat_Int, Int.ofNat_zero, Int.ofNat_one, not_true_eq_false, not_false_eq_true, if_true, if_false, ite_self, and_self, Int.ofNat_eq_natCast, Int.tdiv_eq_ediv_of_nonneg, Int.tmod_eq_emod_of_nonneg, x_bm32, mi_need hMi]
              exact H
            · have c4 : B (21 * l + (st - w_of w f 5)) = 9223372036854775807 := by
                by_cases z : B (21 * l + (st - w_of w f 5)) = 9223372036854775807
                · exact z
                · exact absurd ⟨by omega, z⟩ c1
              simp (disch := first | omega | (simp only [x_wtI, x_wtJ, x_wtR, x_wtN]; omega) | assumption | (simp (disch := omega) only [x_st_o, x_rd_ne]; first | assumption | omega) | (apply mir_eq; assumption; (intro c h1 h2; simp (disch := omega) only [x_st_o])) | (apply mis_eq; assumption; (intro c h1 h2; simp (disch := omega) only [x_st_o])) | rfl) only [bk_8_0, bk_8_3, bk_8_4, bk_8_5, wp_ild2, wp_ic, wp_imul, wp_ist3, wp_ald0, wr_24_0, wk_67, wp_ist4, wp_lc, wp_lst5, wp_ist7, wp_fall, wp_ild7, wp_icge, wr_6_12, wp_ild1, wl_10, wl_12, wp_cald, wp_isub, wp_ist8, wp_ild8, wp_iflt, wp_ild4, wp_icgt, wr_24_6, wp_ild3, wp_iadd, wl_27, wl_28, wp_pald, wp_lcmp, wp_ifeq, wp_lld5, wp_i2l, wp_getj kd_24, wp_lmul, wp_ladd, wk_275, c_minj, wp_ifne, wp_goto, wp_lsub, wp_lst9, wr_6_10, wk_273, c_mini, wk_9, wp_lst11, wr_24_10, wp_lld9, wp_lld11, ws_27, ws_28, wp_inc7, wp_ret, x_clr_I, x_clr_J, x_clr_R, x_clr_U, ct_some, ct_none, lc_lt, lc_ge, lc_gt, lc_le, lc_eq, lc_r, xI_inj, xJ_inj, Option.some.injEq, eq_self, bi_r, bi_0, bi_1, bi_n, Classical.not_not, and_true, true_and, ite_true, ite_false, ↓reduceIte, ↓x_andl, z_le, z_nle, z_lt, z_nlt, z_eq, z_neq, if_pos, if_neg, x_andl, false_and, and_false, or_true, true_or, or_false, false_or, not_true, not_false_iff, x_rd_eq, x_rd_ne, x_st_o, Int.cast_ofNat_Int, Int.ofNat_zero, Int.ofNat_one, not_true_eq_false, not_false_eq_true, if_true, if_false, ite_self, and_self, Int.ofNat_eq_natCast, Int.tdiv_eq_ediv_of_nonneg, Int.tmod_eq_emod_of_nonneg, x_bm32, mi_need hMi, g27, c4]
              exact H
    obtain ⟨sl', m1, H1⟩ := sale
    have slr : sl' = 9223372036854775807 ∨ (-800000000000000000 ≤ sl' ∧ sl' ≤ 800000000000000000) := by
      rcases m1 with ⟨z, _⟩ | ⟨⟨t, p, _, q, y, z⟩, _⟩
      · exact Or.inl z
      · rw [z]
        exact Or.inr (svb t p q y)
    have slp : ¬ sl' = 9223372036854775807 → 0 ≤ st - w_of w f 5 := by
      intro z
      rcases m1 with ⟨y, _⟩ | ⟨⟨t, p, q, _⟩, _⟩
      · exact absurd y z
      · omega
    obtain ⟨r, σ', ⟨ee0, bl, ee1, m2, blr⟩, eb⟩ := x_ex (h_lwb (σ := σi) (ba := 21 * l) (id := st - w_of w f 5) (fu := min (p_room w l) (st - w_of w f 5 + w_of w f 3)) hj g27 gy hb hy2 (by omega) (by omega) (by omega))
    rw [ee0, ee1] at eb
    have ms := mulb (a := st - w_of w f 5) (b := se) (A := 20) (B := 100000000000) (by omega) hs2
    have sh := ml_shift (k := -((st - w_of w f 5) * se)) m1 (fun u ⟨t, p, q, y, z, e⟩ => by have := svb t p y z; omega)
    have mm := ml_min sh m2 (fun u ⟨u', ⟨t, p, q, y, z, e⟩, e2⟩ => by have := svb t p y z; omega) (fun u ⟨t, p, q, y, e⟩ => by
      have q2 := (hb (21 * l + t) (by omega) (by omega)).resolve_left y
      have m := mulb (a := t - (st - w_of w f 5)) (b := by') (A := 40) (B := 100000000000) (by omega) hy2
      omega)
    have res : x_ml 9223372036854775807 (swv w B by' se f l st) (min (if sl' = 9223372036854775807 then 9223372036854775807 else sl' - (st - w_of w f 5) * se) bl) := by
      have e : (if sl' = 9223372036854775807 then 9223372036854775807 else sl' + -((st - w_of w f 5) * se)) = (if sl' = 9223372036854775807 then 9223372036854775807 else sl' - (st - w_of w f 5) * se) := by
        by_cases z : sl' = 9223372036854775807
        · rw [if_pos z, if_pos z]
        · rw [if_neg z, if_neg z]
          omega
      rw [e] at mm
      refine ml_cg mm (fun u => ?_)
      constructor
      · rintro (⟨u', ⟨t, p, q, y, z, e⟩, e2⟩ | ⟨t, p, q, y, e⟩)
        · refine ⟨t, p, y, by omega, z, ?_⟩
          rw [if_neg (by omega), e2, e, show t + w_of w f 5 - st = t - (st - w_of w f 5) by omega, Int.sub_mul t (st - w_of w f 5) se]
          omega
        · refine ⟨t, p.2, by omega, by omega, y, ?_⟩
          rw [if_pos (by omega), e, show t + w_of w f 5 - st = t - (st - w_of w f 5) by omega]
      · rintro ⟨t, p1, p2, p3, p4, e⟩
        by_cases c : 0 < t + w_of w f 5 - st
        · rw [if_pos c] at e
          refine Or.inr ⟨t, ⟨by omega, p1⟩, by omega, p4, ?_⟩
          rw [e, show t + w_of w f 5 - st = t - (st - w_of w f 5) by omega]
        · rw [if_neg c] at e
          refine Or.inl ⟨_, ⟨t, p1, by omega, p2, p4, rfl⟩, ?_⟩
          rw [e, show t + w_of w f 5 - st = t - (st - w_of w f 5) by omega, Int.sub_mul t (st - w_of w f 5) se]
          omega
    generalize hV : min (if sl' = 9223372036854775807 then 9223372036854775807 else sl' - (st - w_of w f 5) * se) bl = V at *
    refine ⟨(sl', x_st σi 28 j (21 * l + st) V, xI (st - w_of w f 5), xJ (if sl' = 9223372036854775807 then 9223372036854775807 else sl' - (st - w_of w f 5) * se), xJ bl), ⟨ml_cg m1 (fun u => ?_), eqo_st (by simp) j2, ?_, ?_⟩, ?_⟩
    · constructor
      · rintro ⟨t, p, q, y⟩
        exact ⟨t, p, by omega, y⟩
      · rintro ⟨t, p, q, y⟩
        exact ⟨t, p, by omega, y⟩
    · intro s hs
      show x_st σi 28 j (21 * l + st) V 28 j s = σ 28 j s
      rw [x_rd_ne (by omega)]
      exact j3 s (by omega)
    · intro s p q
      show x_ml 9223372036854775807 (swv w B by' se f l s) (x_st σi 28 j (21 * l + st) V 28 j (21 * l + s))
      by_cases c : s = st
      · subst c
        rw [x_rd_eq]
        exact res
      · rw [x_rd_ne (by omega)]
        exact j4 s p (by omega)
    · intro H
      simp only at H
      refine H1 ?_
      rw [bk_8_2]
      by_cases c : sl' = 9223372036854775807
      · rw [if_pos c] at H hV
        simp (disch := first | omega | (simp only [x_wtI, x_wtJ, x_wtR, x_wtN]; omega) | assumption | (simp (disch := omega) only [x_st_o, x_rd_ne]; first | assumption | omega) | (apply mir_eq; assumption; (intro c h1 h2; simp (disch := omega) only [x_st_o])) | (apply mis_eq; assumption; (intro c h1 h2; simp (disch := omega) only [x_st_o])) | rfl) only [bk_8_0, bk_8_3, bk_8_4, bk_8_5, wp_ild2, wp_ic, wp_imul, wp_ist3, wp_ald0, wr_24_0, wk_67, wp_ist4, wp_lc, wp_lst5, wp_ist7, wp_fall, wp_ild7, wp_icge, wr_6_12, wp_ild1, wl_10, wl_12, wp_cald, wp_isub, wp_ist8, wp_ild8, wp_iflt, wp_ild4, wp_icgt, wr_24_6, wp_ild3, wp_iadd, wl_27, wl_28, wp_pald, wp_lcmp, wp_ifeq, wp_lld5, wp_i2l, wp_getj kd_24, wp_lmul, wp_ladd, wk_275, c_minj, wp_ifne, wp_goto, wp_lsub, wp_lst9, wr_6_10, wk_273, c_mini, wk_9, wp_lst11, wr_24_10, wp_lld9, wp_lld11, ws_27, ws_28, wp_inc7, wp_ret, x_clr_I, x_clr_J, x_clr_R, x_clr_U, ct_some, ct_none, lc_lt, lc_ge, lc_gt, lc_le, lc_eq, lc_r, xI_inj, xJ_inj, Option.some.injEq, eq_self, bi_r, bi_0, bi_1, bi_n, Classical.not_not, and_true, true_and, ite_true, ite_false, ↓reduceIte, ↓x_andl, z_le, z_nle, z_lt, z_nlt, z_eq, z_neq, if_pos, if_neg, x_andl, false_and, and_false, or_true, true_or, or_false, false_or, not_true, not_false_iff, x_rd_eq, x_rd_ne, x_st_o, Int.cast_ofNat_Int, Int.ofNat_zero, Int.ofNat_one, not_true_eq_false, not_false_eq_true, if_true, if_false, ite_self, and_self, Int.ofNat_eq_natCast, Int.tdiv_eq_ediv_of_nonneg, Int.tmod_eq_emod_of_nonneg, x_bm32, mi_most hMi, eb, hV, c]
        rw [c] at H
        exact H
      · rw [if_neg c] at H hV
        simp (disch := first | omega | (simp only [x_wtI, x_wtJ, x_wtR, x_wtN]; omega) | assumption | (simp (disch := omega) only [x_st_o, x_rd_ne]; first | assumption | omega) | (apply mir_eq; assumption; (intro c h1 h2; simp (disch := omega) only [x_st_o])) | (apply mis_eq; assumption; (intro c h1 h2; simp (disch := omega) only [x_st_o])) | rfl) only [bk_8_0, bk_8_3, bk_8_4, bk_8_5, wp_ild2, wp_ic, wp_imul, wp_ist3, wp_ald0, wr_24_0, wk_67, wp_ist4, wp_lc, wp_lst5, wp_ist7, wp_fall, wp_ild7, wp_icge, wr_6_12, wp_ild1, wl_10, wl_12, wp_cald, wp_isub, wp_ist8, wp_ild8, wp_iflt, wp_ild4, wp_icgt, wr_24_6, wp_ild3, wp_iadd, wl_27, wl_28, wp_pald, wp_lcmp, wp_ifeq, wp_lld5, wp_i2l, wp_getj kd_24, wp_lmul, wp_ladd, wk_275, c_minj, wp_ifne, wp_goto, wp_lsub, wp_lst9, wr_6_10, wk_273, c_mini, wk_9, wp_lst11, wr_24_10, wp_lld9, wp_lld11, ws_27, ws_28, wp_inc7, wp_ret, x_clr_I, x_clr_J, x_clr_R, x_clr_U, ct_some, ct_none, lc_lt, lc_ge, lc_gt, lc_le, lc_eq, lc_r, xI_inj, xJ_inj, Option.some.injEq, eq_self, bi_r, bi_0, bi_1, bi_n, Classical.not_not, and_true, true_and, ite_true, ite_false, ↓reduceIte, ↓x_andl, z_le, z_nle, z_lt, z_nlt, z_eq, z_neq, if_pos, if_neg, x_andl, false_and, and_false, or_true, true_or, or_false, false_or, not_true, not_false_iff, x_rd_eq, x_rd_ne, x_st_o, Int.cast_ofNat_Int, Int.ofNat_zero, Int.ofNat_one, not_true_eq_false, not_false_eq_true, if_true, if_false, ite_self, and_self, Int.ofNat_eq_natCast, Int.tdiv_eq_ediv_of_nonneg, Int.tmod_eq_emod_of_nonneg, x_bm32, mi_most hMi, eb, hV, gse]
        exact H
  · intro ⟨sl, σi, u1, u2, u3⟩ ⟨j1, j2, j3, j4⟩
    simp only at j1 j2 j3 j4 ⊢
    rw [bk_8_1]
    simp (disch := first | omega | (simp only [x_wtI, x_wtJ, x_wtR, x_wtN]; omega) | assumption | (simp (disch := omega) only [x_st_o, x_rd_ne]; first | assumption | omega) | (apply mir_eq; assumption; (intro c h1 h2; simp (disch := omega) only [x_st_o])) | (apply mis_eq; assumption; (intro c h1 h2; simp (disch := omega) only [x_st_o])) | rfl) only [bk_8_0, bk_8_3, bk_8_4, bk_8_5, wp_ild2, wp_ic, wp_imul, wp_ist3, wp_ald0, wr_24_0, wk_67, wp_ist4, wp_lc, wp_lst5, wp_ist7, wp_fall, wp_ild7, wp_icge, wr_6_12, wp_ild1, wl_10, wl_12, wp_cald, wp_isub, wp_ist8, wp_ild8, wp_iflt, wp_ild4, wp_icgt, wr_24_6, wp_ild3, wp_iadd, wl_27, wl_28, wp_pald, wp_lcmp, wp_ifeq, wp_lld5, wp_i2l, wp_getj kd_24, wp_lmul, wp_ladd, wk_275, c_minj, wp_ifne, wp_goto, wp_lsub, wp_lst9, wr_6_10, wk_273, c_mini, wk_9, wp_lst11, wr_24_10, wp_lld9, wp_lld11, ws_27, ws_28, wp_inc7, wp_ret, x_clr_I, x_clr_J, x_clr_R, x_clr_U, ct_some, ct_none, lc_lt, lc_ge, lc_gt, lc_le, lc_eq, lc_r, xI_inj, xJ_inj, Option.some.injEq, eq_self, bi_r, bi_0, bi_1, bi_n, Classical.not_not, and_true, true_and, ite_true, ite_false, ↓reduceIte, ↓x_andl, z_le, z_nle, z_lt, z_nlt, z_eq, z_neq, if_pos, if_neg, x_andl, false_and, and_false, or_true, true_or, or_false, false_or, not_true, not_false_iff, x_rd_eq, x_rd_ne, x_st_o, Int.cast_ofNat_Int, Int.ofNat_zero, Int.ofNat_one, not_true_eq_false, not_false_eq_true, if_true, if_false, ite_self, and_self, Int.ofNat_eq_natCast, Int.tdiv_eq_ediv_of_nonneg, Int.tmod_eq_emod_of_nonneg, x_bm32]
    exact hQ _ _ ⟨rfl, j2, j3, fun st p q => j4 st p (by omega)⟩

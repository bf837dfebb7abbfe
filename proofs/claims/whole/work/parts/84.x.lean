/-! steps in their order: what has been looked at -/
def vis (Z : Int → Int → Int → Prop) (b t u : Int) : Prop := ∃ b' t', (b' < b ∨ (b' = b ∧ t' < t)) ∧ Z b' t' u
section VIS
variable {Z : Int → Int → Int → Prop} {mk b t u v lo hi : Int}
theorem vis_no (h : ∀ u, ¬ Z b t u) (z : Int) : vis Z b (t + 1) z ↔ vis Z b t z := by
  constructor
  · rintro ⟨b', t', q, q2⟩
    by_cases c : b' = b ∧ t' = t
    · rw [c.1, c.2] at q2
      exact absurd q2 (h z)
    · exact ⟨b', t', by omega, q2⟩
  · rintro ⟨b', t', q, q2⟩
    exact ⟨b', t', by omega, q2⟩
theorem vis_yes (h : Z b t u) (hf : ∀ u', Z b t u' → u' = u) (z : Int) : vis Z b (t + 1) z ↔ (vis Z b t z ∨ z = u) := by
  constructor
  · rintro ⟨b', t', q, q2⟩
    by_cases c : b' = b ∧ t' = t
    · rw [c.1, c.2] at q2
      exact Or.inr (hf z q2)
    · exact Or.inl ⟨b', t', by omega, q2⟩
  · rintro (⟨b', t', q, q2⟩ | rfl)
    · exact ⟨b', t', by omega, q2⟩
    · exact ⟨b, t, by omega, h⟩
theorem vis_row (h1 : ∀ t' u, hi ≤ t' → ¬ Z b t' u) (h2 : ∀ t' u, t' < lo → ¬ Z (b + 1) t' u) (z : Int) : vis Z b hi z ↔ vis Z (b + 1) lo z := by
  constructor
  · rintro ⟨b', t', q, q2⟩
    exact ⟨b', t', by omega, q2⟩
  · rintro ⟨b', t', q, q2⟩
    by_cases c : b' = b + 1
    · subst c
      exact absurd q2 (h2 t' z (by omega))
    · by_cases c2 : b' = b
      · subst c2
        by_cases c3 : t' < hi
        · exact ⟨b', t', Or.inr ⟨rfl, c3⟩, q2⟩
        · exact absurd q2 (h1 t' z (by omega))
      · exact ⟨b', t', by omega, q2⟩
theorem vis_0 (h1 : ∀ b' t' u, b' < 0 → ¬ Z b' t' u) (h2 : ∀ t' u, t' < lo → ¬ Z 0 t' u) (z : Int) : ¬ vis Z 0 lo z := by
  rintro ⟨b', t', q | ⟨rfl, q⟩, q2⟩
  · exact h1 b' t' z q q2
  · exact h2 t' z q q2
theorem vis_2 (h1 : ∀ b' t' u, 2 ≤ b' → ¬ Z b' t' u) (z : Int) : vis Z 2 lo z ↔ ∃ b t, Z b t z := by
  constructor
  · rintro ⟨b', t', q, q2⟩
    exact ⟨b', t', q2⟩
  · rintro ⟨b', t', q2⟩
    by_cases c : b' < 2
    · exact ⟨b', t', Or.inl c, q2⟩
    · exact absurd q2 (h1 b' t' z (by omega))
theorem ml_no (h : x_ml mk (vis Z b t) v) (hz : ∀ u, ¬ Z b t u) : x_ml mk (vis Z b (t + 1)) v := ml_cg h (fun z => (vis_no hz z).symm)
theorem ml_yes (h : x_ml mk (vis Z b t) v) (hm : ∀ z, vis Z b t z → z ≠ mk) (hz : Z b t u) (hf : ∀ u', Z b t u' → u' = u) : x_ml mk (vis Z b (t + 1)) (if v = mk ∨ u < v then u else v) := ml_cg (ml_add h hm) (fun z => (vis_yes hz hf z).symm)
end VIS
/-! the steps of a fork and state, with what they come to -/
def zst (mk c E Wd : Int) (w L T : Int → Int) (f st wd b t u : Int) : Prop := (s_law w Wd f st wd b t ∧ r_ok mk E w T f (21 * p_or wd b + t)) ∧ u = v_mx c (v_of c E w L T f st wd b t)
theorem zst_val {mk c E Wd : Int} {w L T : Int → Int} {f st wd u : Int} : (∃ b t, zst mk c E Wd w L T f st wd b t u) ↔ s_val mk c E Wd w L T f st wd u := by
  unfold zst s_val
  constructor
  · rintro ⟨b, t, ⟨q1, q2⟩, q3⟩
    exact ⟨b, t, q1, q2, q3⟩
  · rintro ⟨b, t, q1, q2, q3⟩
    exact ⟨b, t, ⟨q1, q2⟩, q3⟩
section ZST
variable {mk c E Wd : Int} {w L T : Int → Int} {f st wd b t u : Int}
theorem zst_b (h : zst mk c E Wd w L T f st wd b t u) : b = 0 ∨ b = 1 := by
  have := h.1.1.1
  omega
theorem zst_t (h : zst mk c E Wd w L T f st wd b t u) : 0 ≤ t ∧ t ≤ st + w_of w f 3 - w_of w f 5 := ⟨h.1.1.2.1, h.1.1.2.2.2⟩
theorem zst_f {u' : Int} (h : zst mk c E Wd w L T f st wd b t u) (h' : zst mk c E Wd w L T f st wd b t u') : u' = u := by rw [h.2, h'.2]
theorem zst_bd (hw : wf w) (h0 : 0 ≤ f) (h1 : f < w 0) (hs : 0 ≤ st ∧ st ≤ 20) (hd : 0 ≤ wd ∧ wd ≤ 1) (hT : ∀ i, 0 ≤ i → i < w_of w f 7 → t_bd mk w T (w_of w f (8 + i))) (hL : c = 2 → p_end w E f → -170000 ≤ L f ∧ L f ≤ 170000) (hc : 0 ≤ c ∧ c ≤ 3) (h : zst mk c E Wd w L T f st wd b t u) : -(g_b (w_of w f 6)) ≤ u ∧ u ≤ g_b (w_of w f 6) := by
  rw [h.2]
  exact vmx_b (vof_b hw h0 h1 hs hd hT hL hc h.1.1 h.1.2)
end ZST
theorem wor_z {c E Wd : Int} {w L T : Int → Int} {f st wd b t v : Int} (h : wor c E Wd w L T f st wd b t v) : (v = (-9223372036854775808) ∧ ∀ u, ¬ zst (-9223372036854775808) c E Wd w L T f st wd b t u) ∨ (zst (-9223372036854775808) c E Wd w L T f st wd b t v ∧ -(g_b (w_of w f 6)) ≤ v ∧ v ≤ g_b (w_of w f 6)) := by
  rcases h with ⟨h1, h2⟩ | ⟨h1, h2, h3⟩
  · exact Or.inl ⟨h1, fun u z => h2 z.1⟩
  · exact Or.inr ⟨⟨h1, h2⟩, h3⟩
theorem h_least {σ : x_S} {w T L : Int → Int} {c E Wd ea f st wd : Int} (h51 : σ 51 0 = w) (hE : σ 50 0 17 = E) (hWd : σ 50 0 18 = Wd) (hea : σ 50 0 19 = ea) (hT0 : σ 59 0 = T) (hL0 : σ 60 0 = L) (hw : wf w) (h0 : 0 ≤ f) (h1 : f < w 0) (hE2 : 0 ≤ E ∧ E ≤ 100) (hW2 : 0 ≤ Wd ∧ Wd ≤ 100) (hea2 : -1 ≤ ea ∧ ea < 40) (hc : 0 ≤ c ∧ c ≤ 3) (hs : 0 ≤ st ∧ st ≤ 20) (hd : 0 ≤ wd ∧ wd ≤ 1)
    (hT : ∀ i, 0 ≤ i → i < w_of w f 7 → t_bd (-9223372036854775808) w T (w_of w f (8 + i))) (hL : c = 2 → p_end w E f → -170000 ≤ L f ∧ L f ≤ 170000) (hne : ¬ (f = ea ∧ ¬ p_end w E f)) : x_Sp 6 204 [xR 50 0, xI c, xI f, xI (21 * wd + st)] σ (fun r σ' => σ' = σ ∧ ∃ v, r = some (xJ v) ∧ x_ml (-9223372036854775808) (s_val (-9223372036854775808) c E Wd w L T f st wd) v ∧ (v = (-9223372036854775808) ∨ (-(g_b (w_of w f 6)) ≤ v ∧ v ≤ g_b (w_of w f 6)))) := by
  have a := wf_h hw
  unfold wf_hdr at a
  have o := wf_f hw h0 h1
  unfold wf_one at o
  have gp := gb_pos (k := w_of w f 6)
  have zb : ∀ b t u, zst (-9223372036854775808) c E Wd w L T f st wd b t u → -(g_b (w_of w f 6)) ≤ u ∧ u ≤ g_b (w_of w f 6) := fun b t u z => zst_bd hw h0 h1 hs hd hT hL hc z
  refine x_gen (fun Q hQ => ?_)
  have go : x_Sp 6 204 [xR 50 0, xI c, xI f, xI (21 * wd + st)] σ Q ↔ x_Wp 6 204 (x_blk 204 2) [xR 50 0, xI c, xI f, xI (21 * wd + st), xJ (-9223372036854775808), xU, xI 0, xU, xU, xU] [] σ Q := by
    by_cases z : f = ea
    · have ze : p_end w E f := by
        by_cases y : p_end w E f
        · exact y
        · exact absurd ⟨z, y⟩ hne
      simp (disch := first | omega | (simp only [x_wtI, x_wtJ, x_wtR, x_wtN]; omega) | assumption | (simp (disch := omega) only [x_st_o, x_rd_ne]; first | assumption | omega) | (apply mir_eq; assumption; (intro c h1 h2; simp (disch := omega) only [x_st_o])) | (apply mis_eq; assumption; (intro c h1 h2; simp (disch := omega) only [x_st_o])) | rfl) only [sp_204, bk_204_0, bk_204_1, bk_204_3, bk_204_4, bk_204_5, bk_204_6, bk_204_7, wp_ild2, wp_ald0, wp_geti kd_50, wp_icne, wk_203, wp_ifne, wp_ild3, wk_205, wp_lret, wp_lc, wp_lst4, wp_ic, wp_ist6, wp_fall, wp_ild6, wp_icge, wp_ist7, wp_ild7, wk_192, wp_icgt, wp_ild1, wk_207, wp_lst8, wp_lld8, wp_lcmp, wp_ifeq, wp_lld4, wp_ifge, wp_inc7, wp_goto, wp_inc6, x_clr_I, x_clr_J, x_clr_R, x_clr_U, ct_some, ct_none, lc_lt, lc_ge, lc_gt, lc_le, lc_eq, lc_r, xI_inj, xJ_inj, Option.some.injEq, eq_self, bi_r, bi_0, bi_1, bi_n, Classical.not_not, and_true, true_and, ite_true, ite_false, ↓reduceIte, ↓x_andl, z_le, z_nle, z_lt, z_nlt, z_eq, z_neq, if_pos, if_neg, x_andl, false_and, and_false, or_true, true_or, or_false, false_or, not_true, not_false_iff, x_rd_eq, x_rd_ne, x_st_o, Int.cast_ofNat_Int, Int.ofNat_zero, Int.ofNat_one, not_true_eq_false, not_false_eq_true, if_true, if_false, ite_self, and_self, Int.ofNat_eq_natCast, Int.tdiv_eq_ediv_of_nonneg, Int.tmod_eq_emod_of_nonneg, x_bm32, hea, k_isEnd, bi_t]
    · simp (disch := first | omega | (simp only [x_wtI, x_wtJ, x_wtR, x_wtN]; omega) | assumption | (simp (disch := omega) only [x_st_o, x_rd_ne]; first | assumption | omega) | (apply mir_eq; assumption; (intro c h1 h2; simp (disch := omega) only [x_st_o])) | (apply mis_eq; assumption; (intro c h1 h2; simp (disch := omega) only [x_st_o])) | rfl) only [sp_204, bk_204_0, bk_204_1, bk_204_3, bk_204_4, bk_204_5, bk_204_6, bk_204_7, wp_ild2, wp_ald0, wp_geti kd_50, wp_icne, wk_203, wp_ifne, wp_ild3, wk_205, wp_lret, wp_lc, wp_lst4, wp_ic, wp_ist6, wp_fall, wp_ild6, wp_icge, wp_ist7, wp_ild7, wk_192, wp_icgt, wp_ild1, wk_207, wp_lst8, wp_lld8, wp_lcmp, wp_ifeq, wp_lld4, wp_ifge, wp_inc7, wp_goto, wp_inc6, x_clr_I, x_clr_J, x_clr_R, x_clr_U, ct_some, ct_none, lc_lt, lc_ge, lc_gt, lc_le, lc_eq, lc_r, xI_inj, xJ_inj, Option.some.injEq, eq_self, bi_r, bi_0, bi_1, bi_n, Classical.not_not, and_true, true_and, ite_true, ite_false, ↓reduceIte, ↓x_andl, z_le, z_nle, z_lt, z_nlt, z_eq, z_neq, if_pos, if_neg, x_andl, false_and, and_false, or_true, true_or, or_false, false_or, not_true, not_false_iff, x_rd_eq, x_rd_ne, x_st_o, Int.cast_ofNat_Int, Int.ofNat_zero, Int.ofNat_one, not_true_eq_false, not_false_eq_true, if_true, if_false, ite_self, and_self, Int.ofNat_eq_natCast, Int.tdiv_eq_ediv_of_nonneg, Int.tmod_eq_emod_of_nonneg, x_bm32, hea]
  rw [go]
  have mlb : ∀ b x v, x_ml (-9223372036854775808) (vis (zst (-9223372036854775808) c E Wd w L T f st wd) b x) v → v = (-9223372036854775808) ∨ (-(g_b (w_of w f 6)) ≤ v ∧ v ≤ g_b (w_of w f 6)) := by
    intro b x v h
    rcases h with ⟨z, _⟩ | ⟨⟨b', t', _, z⟩, _⟩
    · exact Or.inl z
    · exact Or.inr (zb _ _ _ z)
  refine x_lpJ (α := Int × x_V × x_V) (fun b q => x_ml (-9223372036854775808) (vis (zst (-9223372036854775808) c E Wd w L T f st wd) b (st + -20 - w_of w f 5)) q.1) (fun b q => x_Wp 6 204 (x_blk 204 2) [xR 50 0, xI c, xI f, xI (21 * wd + st), xJ q.1, xU, xI b, q.2.1, q.2.2, xU] [] σ Q) (lo := 0) (hi := 2) (by omega) (a0 := ((-9223372036854775808), xU, xU)) (ml_nil (fun u => vis_0 (fun b' t' u' p z => by have := zst_b z; omega) (fun t' u' p z => by have := zst_t z; omega) u)) ?_ ?_
  · intro b ⟨ls, u1, u2⟩ b0 b1 hJ
    simp only at hJ ⊢
    -- the row of one b
    have row : ∀ (ls : Int) (u1 u2 : x_V), x_ml (-9223372036854775808) (vis (zst (-9223372036854775808) c E Wd w L T f st wd) b (st + -20 - w_of w f 5)) ls → ∃ (ls' : Int) (u1' u2' : x_V), x_ml (-9223372036854775808) (vis (zst (-9223372036854775808) c E Wd w L T f st wd) b (st + (w_of w f 3 + 1) - w_of w f 5)) ls' ∧ (x_Wp 6 204 (x_blk 204 3) [xR 50 0, xI c, xI f, xI (21 * wd + st), xJ ls', xU, xI b, u1', u2', xU] [] σ Q → x_Wp 6 204 (x_blk 204 3) [xR 50 0, xI c, xI f, xI (21 * wd + st), xJ ls, xU, xI b, xI (-20), u2, xU] [] σ Q) ∧ u1' = xI (w_of w f 3 + 1) := by
      intro ls u1 u2 hJ
      have key : ∀ n : Nat, ∀ x, -20 ≤ x → x + n = w_of w f 3 + 1 → ∀ (ls : Int) (u2 : x_V), x_ml (-9223372036854775808) (vis (zst (-9223372036854775808) c E Wd w L T f st wd) b (st + x - w_of w f 5)) ls → ∃ (ls' : Int) (u2' : x_V), x_ml (-9223372036854775808) (vis (zst (-9223372036854775808) c E Wd w L T f st wd) b (st + (w_of w f 3 + 1) - w_of w f 5)) ls' ∧ (x_Wp 6 204 (x_blk 204 3) [xR 50 0, xI c, xI f, xI (21 * wd + st), xJ ls', xU, xI b, xI (w_of w f 3 + 1), u2', xU] [] σ Q → x_Wp 6 204 (x_blk 204 3) [xR 50 0, xI c, xI f, xI (21 * wd + st), xJ ls, xU, xI b, xI x, u2, xU] [] σ Q) := by
        intro n
        induction n with
        | zero =>
          intro x x0 x1 ls u2 h
          have e : x = w_of w f 3 + 1 := by omega
          subst e
          exact ⟨ls, u2, h, id⟩
        | succ n ih =>
          intro x x0 x1 ls u2 h
          have lb := mlb _ _ _ h
          obtain ⟨r, σ', ⟨rfl, v, rfl, hv⟩, ev⟩ := x_ex (h_worth (x := x) (b := b) h51 hE hWd hT0 hL0 hw h0 h1 hE2 hW2 hc hs hd (by omega) (by omega) hT hL)
          have st1 : st + (x + 1) - w_of w f 5 = st + x - w_of w f 5 + 1 := by omega
          rcases wor_z hv with ⟨v1, v2⟩ | ⟨v1, v2⟩
          · obtain ⟨ls', u2', q1, q2⟩ := ih (x + 1) (by omega) (by omega) ls (xJ v) (by rw [st1]; exact ml_no h v2)
            refine ⟨ls', u2', q1, fun H => ?_⟩
            have H2 := q2 H
            rw [bk_204_3]
            simp (disch := first | omega | (simp only [x_wtI, x_wtJ, x_wtR, x_wtN]; omega) | assumption | (simp (disch := omega) only [x_st_o, x_rd_ne]; first | assumption | omega) | (apply mir_eq; assumption; (intro c h1 h2; simp (disch := omega) only [x_st_o])) | (apply mis_eq; assumption; (intro c h1 h2; simp (disch := omega) only [x_st_o])) | rfl) only [bk_204_0, bk_204_1, bk_204_4, bk_204_5, bk_204_6, bk_204_7, wp_ild2, wp_ald0, wp_geti kd_50, wp_icne, wk_203, wp_ifne, wp_ild3, wk_205, wp_lret, wp_lc, wp_lst4, wp_ic, wp_ist6, wp_fall, wp_ild6, wp_icge, wp_ist7, wp_ild7, wk_192, wp_icgt, wp_ild1, wk_207, wp_lst8, wp_lld8, wp_lcmp, wp_ifeq, wp_lld4, wp_ifge, wp_inc7, wp_goto, wp_inc6, x_clr_I, x_clr_J, x_clr_R, x_clr_U, ct_some, ct_none, lc_lt, lc_ge, lc_gt, lc_le, lc_eq, lc_r, xI_inj, xJ_inj, Option.some.injEq, eq_self, bi_r, bi_0, bi_1, bi_n, Classical.not_not, and_true, true_and, ite_true, ite_false, ↓reduceIte, ↓x_andl, z_le, z_nle, z_lt, z_nlt, z_eq, z_neq, if_pos, if_neg, x_andl, false_and, and_false, or_true, true_or, or_false, false_or, not_true, not_false_iff, x_rd_eq, x_rd_ne, x_st_o, Int.cast_ofNat_Int, Int.ofNat_zero, Int.ofNat_one, not_true_eq_false, not_false_eq_true, if_true, if_false, ite_self, and_self, Int.ofNat_eq_natCast, Int.tdiv_eq_ediv_of_nonneg, Int.tmod_eq_emod_of_nonneg, x_bm32, k_of, ev, v1]
            rw [v1] at H2
            exact H2
          · have my := ml_yes h (fun z y => by obtain ⟨b', t', _, y⟩ := y; have := zb _ _ _ y; omega) v1 (fun u' y => zst_f v1 y)
            obtain ⟨ls', u2', q1, q2⟩ := ih (x + 1) (by omega) (by omega) _ (xJ v) (by rw [st1]; exact my)
            refine ⟨ls', u2', q1, fun H => ?_⟩
            have H2 := q2 H
            rw [bk_204_3]
            by_cases c1 : ls = (-9223372036854775808)
            · rw [if_pos (Or.inl c1)] at H2
              simp (disch := first | omega | (simp only [x_wtI, x_wtJ, x_wtR, x_wtN]; omega) | assumption | (simp (disch := omega) only [x_st_o, x_rd_ne]; first | assumption | omega) | (apply mir_eq; assumption; (intro c h1 h2; simp (disch := omega) only [x_st_o])) | (apply mis_eq; assumption; (intro c h1 h2; simp (disch := omega) only [x_st_o])) | rfl) only [bk_204_0, bk_204_1, bk_204_4, bk_204_5, bk_204_6, bk_204_7, wp_ild2, wp_ald0, wp_geti kd_50, wp_icne, wk_203, wp_ifne, wp_ild3, wk_205, wp_lret, wp_lc, wp_lst4, wp_ic, wp_ist6, wp_fall, wp_ild6, wp_icge, wp_ist7, wp_ild7, wk_192, wp_icgt, wp_ild1, wk_207, wp_lst8, wp_lld8, wp_lcmp, wp_ifeq, wp_lld4, wp_ifge, wp_inc7, wp_goto, wp_inc6, x_clr_I, x_clr_J, x_clr_R, x_clr_U, ct_some, ct_none, lc_lt, lc_ge, lc_gt, lc_le, lc_eq, lc_r, xI_inj, xJ_inj, Option.some.injEq, eq_self, bi_r, bi_0, bi_1, bi_n, Classical.not_not, and_true, true_and, ite_true, ite_false, ↓reduceIte, ↓x_andl, z_le, z_nle, z_lt, z_nlt, z_eq, z_neq, if_pos, if_neg, x_andl, false_and, and_false, or_true, true_or, or_false, false_or, not_true, not_false_iff, x_rd_eq, x_rd_ne, x_st_o, Int.cast_ofNat_Int, Int.ofNat_zero, Int.ofNat_one, not_true_eq_false, not_false_eq_true, if_true, if_false, ite_self, and_self, Int.ofNat_eq_natCast, Int.tdiv_eq_ediv_of_nonneg, Int.tmod_eq_emod_of_nonneg, x_bm32, k_of, ev, c1]
              exact H2
            · by_cases c2 : v < ls
              · rw [if_pos (Or.inr c2)] at H2
                simp (disch := first | omega | (simp only [x_wtI, x_wtJ, x_wtR, x_wtN]; omega) | assumption | (simp (disch := omega) only [x_st_o, x_rd_ne]; first | assumption | omega) | (apply mir_eq; assumption; (intro c h1 h2; simp (disch := omega) only [x_st_o])) | (apply mis_eq; assumption; (intro c h1 h2; simp (disch := omega) only [x_st_o])) | rfl) only [bk_204_0, bk_204_1, bk_204_4, bk_204_5, bk_204_6, bk_204_7, wp_ild2, wp_ald0, wp_geti kd_50, wp_icne, wk_203, wp_ifne, wp_ild3, wk_205, wp_lret, wp_lc, wp_lst4, wp_ic, wp_ist6, wp_fall, wp_ild6, wp_icge, wp_ist7, wp_ild7, wk_192, wp_icgt, wp_ild1, wk_207, wp_lst8, wp_lld8, wp_lcmp, wp_ifeq, wp_lld4, wp_ifge, wp_inc7, wp_goto, wp_inc6, x_clr_I, x_clr_J, x_clr_R, x_clr_U, ct_some, ct_none, lc_lt, lc_ge, lc_gt, lc_le, lc_eq, lc_r, xI_inj, xJ_inj, Option.some.injEq, eq_self, bi_r, bi_0, bi_1, bi_n, Classical.not_not, and_true, true_and, ite_true, ite_false, ↓reduceIte, ↓x_andl, z_le, z_nle, z_lt, z_nlt, z_eq, z_neq, if_pos, if_neg, x_andl, false_and, and_false, or_true, true_or, or_false, false_or, not_true, not_false_iff, x_rd_eq, x_rd_ne, x_st_o, Int.cast_ofNat_Int, Int.ofNat_zero, Int.ofNat_one, not_true_eq_false, not_false_eq_true, if_true, if_false, ite_self, and_self, Int.ofNat_eq_natCast, Int.tdiv_eq_ediv_of_nonneg, Int.tmod_eq_emod_of_nonneg, x_bm32, k_of, ev]
                exact H2
              · rw [if_neg (fun y => y.elim c1 c2)] at H2
                simp (disch := first | omega | (simp only [x_wtI, x_wtJ, x_wtR, x_wtN]; omega) | assumption | (simp (disch := omega) only [x_st_o, x_rd_ne]; first | assumption | omega) | (apply mir_eq; assumption; (intro c h1 h2; simp (disch := omega) only [x_st_o])) | (apply mis_eq; assumption; (intro c h1 h2; simp (disch := omega) only [x_st_o])) | rfl) only [bk_204_0, bk_204_1, bk_204_4, bk_204_5, bk_204_6, bk_204_7, wp_ild2, wp_ald0, wp_geti kd_50, wp_icne, wk_203, wp_ifne, wp_ild3, wk_205, wp_lret, wp_lc, wp_lst4, wp_ic, wp_ist6, wp_fall, wp_ild6, wp_icge, wp_ist7, wp_ild7, wk_192, wp_icgt, wp_ild1, wk_207, wp_lst8, wp_lld8, wp_lcmp, wp_ifeq, wp_lld4, wp_ifge, wp_inc7, wp_goto, wp_inc6, x_clr_I, x_clr_J, x_clr_R, x_clr_U, ct_some, ct_none, lc_lt, lc_ge, lc_gt, lc_le, lc_eq, lc_r, xI_inj, xJ_inj, Option.some.injEq, eq_self, bi_r, bi_0, bi_1, bi_n, Classical.not_not, and_true, true_and, ite_true, ite_false, ↓reduceIte, ↓x_andl, z_le, z_nle, z_lt, z_nlt, z_eq, z_neq, if_pos, if_neg, x_andl, false_and, and_false, or_true, true_or, or_false, false_or, not_true, not_false_iff, x_rd_eq, x_rd_ne, x_st_o, Int.cast_ofNat_Int, Int.ofNat_zero, Int.ofNat_one, not_true_eq_false, not_false_eq_true, if_true, if_false, ite_self, and_self, Int.ofNat_eq_natCast, Int.tdiv_eq_ediv_of_nonneg, Int.tmod_eq_emod_of_nonneg, x_bm32, k_of, ev]
                exact H2
      obtain ⟨ls', u2', q1, q2⟩ := key (w_of w f 3 + 21).toNat (-20) (by omega) (by omega) ls u2 hJ
      exact ⟨ls', _, u2', q1, q2, rfl⟩
    obtain ⟨ls', u1', u2', q1, q2, rfl⟩ := row ls u1 u2 hJ
    refine ⟨(ls', xI (w_of w f 3 + 1), u2'), ?_, ?_⟩
    · exact ml_cg q1 (fun z => vis_row (fun t' u p y => by have := zst_t y; omega) (fun t' u p y => by have := zst_t y; omega) z)
    · intro H
      simp only at H
      have H3 : x_Wp 6 204 (x_blk 204 3) [xR 50 0, xI c, xI f, xI (21 * wd + st), xJ ls', xU, xI b, xI (w_of w f 3 + 1), u2', xU] [] σ Q := by
        rw [bk_204_3]
        simp (disch := first | omega | (simp only [x_wtI, x_wtJ, x_wtR, x_wtN]; omega) | assumption | (simp (disch := omega) only [x_st_o, x_rd_ne]; first | assumption | omega) | (apply mir_eq; assumption; (intro c h1 h2; simp (disch := omega) only [x_st_o])) | (apply mis_eq; assumption; (intro c h1 h2; simp (disch := omega) only [x_st_o])) | rfl) only [bk_204_0, bk_204_1, bk_204_4, bk_204_5, bk_204_6, bk_204_7, wp_ild2, wp_ald0, wp_geti kd_50, wp_icne, wk_203, wp_ifne, wp_ild3, wk_205, wp_lret, wp_lc, wp_lst4, wp_ic, wp_ist6, wp_fall, wp_ild6, wp_icge, wp_ist7, wp_ild7, wk_192, wp_icgt, wp_ild1, wk_207, wp_lst8, wp_lld8, wp_lcmp, wp_ifeq, wp_lld4, wp_ifge, wp_inc7, wp_goto, wp_inc6, x_clr_I, x_clr_J, x_clr_R, x_clr_U, ct_some, ct_none, lc_lt, lc_ge, lc_gt, lc_le, lc_eq, lc_r, xI_inj, xJ_inj, Option.some.injEq, eq_self, bi_r, bi_0, bi_1, bi_n, Classical.not_not, and_true, true_and, ite_true, ite_false, ↓reduceIte, ↓x_andl, z_le, z_nle, z_lt, z_nlt, z_eq, z_neq, if_pos, if_neg, x_andl, false_and, and_false, or_true, true_or, or_false, false_or, not_true, not_false_iff, x_rd_eq, x_rd_ne, x_st_o, Int.cast_ofNat_Int, Int.ofNat_zero, Int.ofNat_one, not_true_eq_false, not_false_eq_true, if_true, if_false, ite_self, and_self, Int.ofNat_eq_natCast, Int.tdiv_eq_ediv_of_nonneg, Int.tmod_eq_emod_of_nonneg, x_bm32, k_of]
        exact H
      have H4 := q2 H3
      rw [bk_204_2]
      simp (disch := first | omega | (simp only [x_wtI, x_wtJ, x_wtR, x_wtN]; omega) | assumption | (simp (disch := omega) only [x_st_o, x_rd_ne]; first | assumption | omega) | (apply mir_eq; assumption; (intro c h1 h2; simp (disch := omega) only [x_st_o])) | (apply mis_eq; assumption; (intro c h1 h2; simp (disch := omega) only [x_st_o])) | rfl) only [bk_204_0, bk_204_1, bk_204_4, bk_204_5, bk_204_6, bk_204_7, wp_ild2, wp_ald0, wp_geti kd_50, wp_icne, wk_203, wp_ifne, wp_ild3, wk_205, wp_lret, wp_lc, wp_lst4, wp_ic, wp_ist6, wp_fall, wp_ild6, wp_icge, wp_ist7, wp_ild7, wk_192, wp_icgt, wp_ild1, wk_207, wp_lst8, wp_lld8, wp_lcmp, wp_ifeq, wp_lld4, wp_ifge, wp_inc7, wp_goto, wp_inc6, x_clr_I, x_clr_J, x_clr_R, x_clr_U, ct_some, ct_none, lc_lt, lc_ge, lc_gt, lc_le, lc_eq, lc_r, xI_inj, xJ_inj, Option.some.injEq, eq_self, bi_r, bi_0, bi_1, bi_n, Classical.not_not, and_true, true_and, ite_true, ite_false, ↓reduceIte, ↓x_andl, z_le, z_nle, z_lt, z_nlt, z_eq, z_neq, if_pos, if_neg, x_andl, false_and, and_false, or_true, true_or, or_false, false_or, not_true, not_false_iff, x_rd_eq, x_rd_ne, x_st_o, Int.cast_ofNat_Int, Int.ofNat_zero, Int.ofNat_one, not_true_eq_false, not_false_eq_true, if_true, if_false, ite_self, and_self, Int.ofNat_eq_natCast, Int.tdiv_eq_ediv_of_nonneg, Int.tmod_eq_emod_of_nonneg, x_bm32]
      exact H4
  · intro ⟨ls, u1, u2⟩ hJ
    simp only at hJ ⊢
    rw [bk_204_2]
    simp (disch := first | omega | (simp only [x_wtI, x_wtJ, x_wtR, x_wtN]; omega) | assumption | (simp (disch := omega) only [x_st_o, x_rd_ne]; first | assumption | omega) | (apply mir_eq; assumption; (intro c h1 h2; simp (disch := omega) only [x_st_o])) | (apply mis_eq; assumption; (intro c h1 h2; simp (disch := omega) only [x_st_o])) | rfl) only [bk_204_0, bk_204_1, bk_204_4, bk_204_5, bk_204_6, bk_204_7, wp_ild2, wp_ald0, wp_geti kd_50, wp_icne, wk_203, wp_ifne, wp_ild3, wk_205, wp_lret, wp_lc, wp_lst4, wp_ic, wp_ist6, wp_fall, wp_ild6, wp_icge, wp_ist7, wp_ild7, wk_192, wp_icgt, wp_ild1, wk_207, wp_lst8, wp_lld8, wp_lcmp, wp_ifeq, wp_lld4, wp_ifge, wp_inc7, wp_goto, wp_inc6, x_clr_I, x_clr_J, x_clr_R, x_clr_U, ct_some, ct_none, lc_lt, lc_ge, lc_gt, lc_le, lc_eq, lc_r, xI_inj, xJ_inj, Option.some.injEq, eq_self, bi_r, bi_0, bi_1, bi_n, Classical.not_not, and_true, true_and, ite_true, ite_false, ↓reduceIte, ↓x_andl, z_le, z_nle, z_lt, z_nlt, z_eq, z_neq, if_pos, if_neg, x_andl, false_and, and_false, or_true, true_or, or_false, false_or, not_true, not_false_iff, x_rd_eq, x_rd_ne, x_st_o, Int.cast_ofNat_Int, Int.ofNat_zero, Int.ofNat_one, not_true_eq_false, not_false_eq_true, if_true, if_false, ite_self, and_self, Int.ofNat_eq_natCast, Int.tdiv_eq_ediv_of_nonneg, Int.tmod_eq_emod_of_nonneg, x_bm32]
    refine hQ _ _ ⟨rfl, ls, rfl, ml_cg hJ (fun z => (vis_2 (fun b' t' u p y => by have := zst_b y; omega) z).trans zst_val), mlb _ _ _ hJ⟩

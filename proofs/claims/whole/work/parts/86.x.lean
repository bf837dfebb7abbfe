def k_eq (w T T' : Int → Int) (f : Int) : Prop := ∀ i, 0 ≤ i → i < w_of w f 7 → ∀ s, 0 ≤ s → s < 42 → T' (42 * w_of w f (8 + i) + s) = T (42 * w_of w f (8 + i) + s)
section KEQ
variable {mk c E Wd ea : Int} {w L T T' : Int → Int} {f st wd s v : Int}
theorem ke_dead (e : k_eq w T T' f) (s0 : 0 ≤ s) (s1 : s < 42) : r_dead mk w T' f s ↔ r_dead mk w T f s := by
  constructor
  · rintro ⟨i, a, b, q⟩
    rw [e i a b s s0 s1] at q
    exact ⟨i, a, b, q⟩
  · rintro ⟨i, a, b, q⟩
    rw [← e i a b s s0 s1] at q
    exact ⟨i, a, b, q⟩
theorem ke_sum (e : k_eq w T T' f) (s0 : 0 ≤ s) (s1 : s < 42) : ∀ n : Nat, (n : Int) ≤ w_of w f 7 → r_sum w T' f s n = r_sum w T f s n := by
  intro n
  induction n with
  | zero => intro _; rfl
  | succ n ih =>
    intro hn
    show r_sum w T' f s n + w_of w (w_of w f (8 + n)) 1 * T' (42 * w_of w f (8 + n) + s) = r_sum w T f s n + w_of w (w_of w f (8 + n)) 1 * T (42 * w_of w f (8 + n) + s)
    rw [ih (by omega), e n (by omega) (by omega) s s0 s1]
theorem ke_max (e : k_eq w T T' f) (s0 : 0 ≤ s) (s1 : s < 42) : ∀ n : Nat, (n : Int) ≤ w_of w f 7 → r_max w T' f s n = r_max w T f s n := by
  intro n
  induction n with
  | zero => intro _; rfl
  | succ n ih =>
    intro hn
    show max (r_max w T' f s n) (T' (42 * w_of w f (8 + n) + s)) = max (r_max w T f s n) (T (42 * w_of w f (8 + n) + s))
    rw [ih (by omega), e n (by omega) (by omega) s s0 s1]
theorem ke_ok (e : k_eq w T T' f) (s0 : 0 ≤ s) (s1 : s < 42) : r_ok mk E w T' f s ↔ r_ok mk E w T f s := by
  unfold r_ok
  rw [ke_dead e s0 s1]
theorem ke_of (hw : wf w) (h0 : 0 ≤ f) (h1 : f < w 0) (e : k_eq w T T' f) (s0 : 0 ≤ s) (s1 : s < 42) : r_of c E w L T' f s = r_of c E w L T f s := by
  have o := wf_f hw h0 h1
  unfold wf_one at o
  unfold r_of
  rw [ke_sum e s0 s1 _ (by omega), ke_max e s0 s1 _ (by omega)]
theorem ke_val (hw : wf w) (h0 : 0 ≤ f) (h1 : f < w 0) (hs : 0 ≤ st ∧ st ≤ 20) (e : k_eq w T T' f) (u : Int) : s_val mk c E Wd w L T' f st wd u ↔ s_val mk c E Wd w L T f st wd u := by
  have key : ∀ b t, s_law w Wd f st wd b t → 0 ≤ 21 * p_or wd b + t ∧ 21 * p_or wd b + t < 42 := by
    intro b t h
    obtain ⟨lb, lt, lx⟩ := sl_b hw h0 h1 hs h
    have po := p_or_01 (a := wd) (b := b)
    omega
  constructor
  · rintro ⟨b, t, q1, q2, q3⟩
    have k := key b t q1
    refine ⟨b, t, q1, (ke_ok e k.1 k.2).mp q2, ?_⟩
    rw [q3]
    unfold v_of
    rw [ke_of hw h0 h1 e k.1 k.2]
  · rintro ⟨b, t, q1, q2, q3⟩
    have k := key b t q1
    refine ⟨b, t, q1, (ke_ok e k.1 k.2).mpr q2, ?_⟩
    rw [q3]
    unfold v_of
    rw [ke_of hw h0 h1 e k.1 k.2]
theorem ke_zea (hw : wf w) (h0 : 0 ≤ f) (h1 : f < w 0) (hs : 0 ≤ st ∧ st ≤ 20) (e : k_eq w T T' f) {i b t u : Int} (i0 : 0 ≤ i) (i1 : i < w_of w f 7) : zea mk E w T' f i st wd b t u ↔ zea mk E w T f i st wd b t u := by
  have key : s_law w 4 f st wd b t → T' (42 * w_of w f (8 + i) + (21 * p_or wd b + t)) = T (42 * w_of w f (8 + i) + (21 * p_or wd b + t)) := by
    intro h
    obtain ⟨lb, lt, lx⟩ := sl_b hw h0 h1 hs h
    have po := p_or_01 (a := wd) (b := b)
    exact e i i0 i1 _ (by omega) (by omega)
  constructor
  · rintro ⟨⟨q1, q2⟩, q3⟩
    rw [key q1] at q2 q3
    exact ⟨⟨q1, q2⟩, q3⟩
  · rintro ⟨⟨q1, q2⟩, q3⟩
    rw [← key q1] at q2 q3
    exact ⟨⟨q1, q2⟩, q3⟩
theorem ke_at (hw : wf w) (h0 : 0 ≤ f) (h1 : f < w 0) (hs : 0 ≤ st ∧ st ≤ 20) (e : k_eq w T T' f) (h : q_at mk c E Wd ea w L T f st wd v) : q_at mk c E Wd ea w L T' f st wd v := by
  rcases h with ⟨q1, q2⟩ | ⟨q1, q2⟩
  · refine Or.inl ⟨q1, ?_⟩
    rcases q2 with ⟨⟨i, i0, i1, z⟩, z2⟩ | ⟨l, z1, z2⟩
    · exact Or.inl ⟨⟨i, i0, i1, fun u ⟨b, t, y⟩ => z u ⟨b, t, (ke_zea hw h0 h1 hs e i0 i1).mp y⟩⟩, z2⟩
    · refine Or.inr ⟨l, fun i i0 i1 => ⟨ml_cg (z1 i i0 i1).1 (fun u => ?_), (z1 i i0 i1).2⟩, z2⟩
      constructor
      · rintro ⟨b, t, y⟩
        exact ⟨b, t, (ke_zea hw h0 h1 hs e i0 i1).mpr y⟩
      · rintro ⟨b, t, y⟩
        exact ⟨b, t, (ke_zea hw h0 h1 hs e i0 i1).mp y⟩
  · exact Or.inr ⟨q1, ml_cg q2 (fun u => (ke_val hw h0 h1 hs e u).symm)⟩
end KEQ
def may (c : Int) (w L : Int → Int) (f : Int) : Prop := ¬ c = 2 ∨ 0 < w_of w f 7 ∨ ¬ L f = (-9223372036854775808)
def gT (c E Wd ea : Int) (w L T : Int → Int) (n : Int) : Prop := ∀ f, n ≤ f → f < w 0 → t_bd (-9223372036854775808) w T f ∧ (p_fr w (w 8) f ∧ may c w L f → ∀ st wd, 0 ≤ st → st ≤ 20 → 0 ≤ wd → wd ≤ 1 → q_at (-9223372036854775808) c E Wd ea w L T f st wd (T (42 * f + (21 * wd + st)))) ∧ (¬ (p_fr w (w 8) f ∧ may c w L f) → ∀ s, 0 ≤ s → s < 42 → T (42 * f + s) = (-9223372036854775808))
theorem h_leastQ {σ : x_S} {w T L : Int → Int} {c E Wd ea f st wd : Int} (h51 : σ 51 0 = w) (hE : σ 50 0 17 = E) (hWd : σ 50 0 18 = Wd) (hea : σ 50 0 19 = ea) (hT0 : σ 59 0 = T) (hL0 : σ 60 0 = L) (hw : wf w) (h0 : 0 ≤ f) (h1 : f < w 0) (hE2 : 0 ≤ E ∧ E ≤ 100) (hW2 : 0 ≤ Wd ∧ Wd ≤ 100) (hea2 : -1 ≤ ea ∧ ea < 40) (hc : 0 ≤ c ∧ c ≤ 3) (hs : 0 ≤ st ∧ st ≤ 20) (hd : 0 ≤ wd ∧ wd ≤ 1)
    (hT : ∀ i, 0 ≤ i → i < w_of w f 7 → t_bd (-9223372036854775808) w T (w_of w f (8 + i))) (hL : c = 2 → p_end w E f → -170000 ≤ L f ∧ L f ≤ 170000) : x_Sp 6 204 [xR 50 0, xI c, xI f, xI (21 * wd + st)] σ (fun r σ' => σ' = σ ∧ ∃ v, r = some (xJ v) ∧ q_at (-9223372036854775808) c E Wd ea w L T f st wd v ∧ (v = (-9223372036854775808) ∨ (-(g_b (w_of w f 6)) ≤ v ∧ v ≤ g_b (w_of w f 6)))) := by
  by_cases hne : f = ea ∧ ¬ p_end w E f
  · have o := wf_f hw h0 h1
    unfold wf_one at o
    have hk : 0 < w_of w f 7 := by
      by_cases z : w_of w f 7 = 0
      · exact absurd (Or.inl z) hne.2
      · omega
    have hne2 := hne.2
    refine x_gen (fun Q hQ => ?_)
    simp (disch := first | omega | (simp only [x_wtI, x_wtJ, x_wtR, x_wtN]; omega) | assumption | (simp (disch := omega) only [x_st_o, x_rd_ne]; first | assumption | omega) | (apply mir_eq; assumption; (intro c h1 h2; simp (disch := omega) only [x_st_o])) | (apply mis_eq; assumption; (intro c h1 h2; simp (disch := omega) only [x_st_o])) | rfl) only [sp_204, bk_204_0, bk_204_1, bk_204_3, bk_204_4, bk_204_5, bk_204_6, bk_204_7, wp_ild2, wp_ald0, wp_geti kd_50, wp_icne, wk_203, wp_ifne, wp_ild3, wk_205, wp_lret, wp_lc, wp_lst4, wp_ic, wp_ist6, wp_fall, wp_ild6, wp_icge, wp_ist7, wp_ild7, wk_192, wp_icgt, wp_ild1, wk_207, wp_lst8, wp_lld8, wp_lcmp, wp_ifeq, wp_lld4, wp_ifge, wp_inc7, wp_goto, wp_inc6, x_clr_I, x_clr_J, x_clr_R, x_clr_U, ct_some, ct_none, lc_lt, lc_ge, lc_gt, lc_le, lc_eq, lc_r, xI_inj, xJ_inj, Option.some.injEq, eq_self, bi_r, bi_0, bi_1, bi_n, Classical.not_not, and_true, true_and, ite_true, ite_false, ↓reduceIte, ↓x_andl, z_le, z_nle, z_lt, z_nlt, z_eq, z_neq, if_pos, if_neg, x_andl, false_and, and_false, or_true, true_or, or_false, false_or, not_true, not_false_iff, x_rd_eq, x_rd_ne, x_st_o, Int.cast_ofNat_Int, Int.ofNat_zero, Int.ofNat_one, not_true_eq_false, not_false_eq_true, if_true, if_false, ite_self, and_self, Int.ofNat_eq_natCast, Int.tdiv_eq_ediv_of_nonneg, Int.tmod_eq_emod_of_nonneg, x_bm32, hea, k_isEnd, bi_f]
    refine x_use (d := 0) (h_early h51 hE hT0 hw h0 h1 hE2 hs hd hk hT) ?_
    rintro r σ' ⟨rfl, v, rfl, v1, v2⟩
    simp (disch := first | omega | (simp only [x_wtI, x_wtJ, x_wtR, x_wtN]; omega) | assumption | (simp (disch := omega) only [x_st_o, x_rd_ne]; first | assumption | omega) | (apply mir_eq; assumption; (intro c h1 h2; simp (disch := omega) only [x_st_o])) | (apply mis_eq; assumption; (intro c h1 h2; simp (disch := omega) only [x_st_o])) | rfl) only [bk_204_0, bk_204_1, bk_204_3, bk_204_4, bk_204_5, bk_204_6, bk_204_7, wp_ild2, wp_ald0, wp_geti kd_50, wp_icne, wk_203, wp_ifne, wp_ild3, wk_205, wp_lret, wp_lc, wp_lst4, wp_ic, wp_ist6, wp_fall, wp_ild6, wp_icge, wp_ist7, wp_ild7, wk_192, wp_icgt, wp_ild1, wk_207, wp_lst8, wp_lld8, wp_lcmp, wp_ifeq, wp_lld4, wp_ifge, wp_inc7, wp_goto, wp_inc6, x_clr_I, x_clr_J, x_clr_R, x_clr_U, ct_some, ct_none, lc_lt, lc_ge, lc_gt, lc_le, lc_eq, lc_r, xI_inj, xJ_inj, Option.some.injEq, eq_self, bi_r, bi_0, bi_1, bi_n, Classical.not_not, and_true, true_and, ite_true, ite_false, ↓reduceIte, ↓x_andl, z_le, z_nle, z_lt, z_nlt, z_eq, z_neq, if_pos, if_neg, x_andl, false_and, and_false, or_true, true_or, or_false, false_or, not_true, not_false_iff, x_rd_eq, x_rd_ne, x_st_o, Int.cast_ofNat_Int, Int.ofNat_zero, Int.ofNat_one, not_true_eq_false, not_false_eq_true, if_true, if_false, ite_self, and_self, Int.ofNat_eq_natCast, Int.tdiv_eq_ediv_of_nonneg, Int.tmod_eq_emod_of_nonneg, x_bm32]
    exact hQ _ _ ⟨rfl, v, rfl, Or.inl ⟨hne, v1⟩, v2⟩
  · have := h_least (st := st) (wd := wd) h51 hE hWd hea hT0 hL0 hw h0 h1 hE2 hW2 hea2 hc hs hd hT hL hne
    refine x_use (d := 0) this ?_
    rintro r σ' ⟨rfl, v, rfl, v1, v2⟩
    exact ⟨rfl, v, rfl, Or.inr ⟨hne, v1⟩, v2⟩
theorem h_solve {σ : x_S} {w L : Int → Int} {c E Wd ea : Int} (h51 : σ 51 0 = w) (hE : σ 50 0 17 = E) (hWd : σ 50 0 18 = Wd) (hea : σ 50 0 19 = ea) (hL0 : σ 60 0 = L) (hw : wf w) (hn : wn w) (hE2 : 0 ≤ E ∧ E ≤ 100) (hW2 : 0 ≤ Wd ∧ Wd ≤ 100) (hea2 : -1 ≤ ea ∧ ea < 40) (hc : 0 ≤ c ∧ c ≤ 3)
    (hL : c = 2 → E = 5 ∧ ∀ f, 0 ≤ f → f < w 0 → L f = (-9223372036854775808) ∨ (-170000 ≤ L f ∧ L f ≤ 170000)) : x_Wp 7 195 (x_blk 195 1) [xR 50 0, xI c, xU, xU, xU] [] σ (fun r σ' => r = some (xJ (σ' 59 0 (42 * w 8 + (21 * w 10 + w 9)))) ∧ x_eqo [(59, 0)] σ σ' ∧ gT c E Wd ea w L (σ' 59 0) (w 8)) := by
  have a := wf_h hw
  unfold wf_hdr at a
  have hn8 := hn.1
  have hn' := hn
  unfold wn at hn'
  refine w_gen (fun Q hQ => ?_)
  rw [bk_195_1]
  simp (disch := first | omega | (simp only [x_wtI, x_wtJ, x_wtR, x_wtN]; omega) | assumption | (simp (disch := omega) only [x_st_o, x_rd_ne]; first | assumption | omega) | (apply mir_eq; assumption; (intro c h1 h2; simp (disch := omega) only [x_st_o])) | (apply mis_eq; assumption; (intro c h1 h2; simp (disch := omega) only [x_st_o])) | rfl) only [bk_195_0, bk_195_1, bk_195_3, bk_195_4, bk_195_5, bk_195_7, bk_195_8, bk_195_9, bk_195_10, wp_ild1, wp_ic, wp_icne, wp_ald0, wk_196, wp_fall, wr_50_1, wl_51, wp_cald, wp_isub, wp_ist2, wp_ild2, wp_iclt, wk_199, wp_ifeq, wk_192, wp_ifgt, wr_50_21, wl_59, wl_60, wp_pald, wp_lc, wp_lcmp, wp_goto, wp_ist3, wp_ist4, wp_ild4, wp_icge, wr_50_20, wp_imul, wp_iadd, wp_ild3, wk_204, ws_59, ws_60, wp_inc4, wp_inc2, wk_197, wp_lret, x_clr_I, x_clr_J, x_clr_R, x_clr_U, ct_some, ct_none, lc_lt, lc_ge, lc_gt, lc_le, lc_eq, lc_r, xI_inj, xJ_inj, Option.some.injEq, eq_self, bi_r, bi_0, bi_1, bi_n, Classical.not_not, and_true, true_and, ite_true, ite_false, ↓reduceIte, ↓x_andl, z_le, z_nle, z_lt, z_nlt, z_eq, z_neq, if_pos, if_neg, x_andl, false_and, and_false, or_true, true_or, or_false, false_or, not_true, not_false_iff, x_rd_eq, x_rd_ne, x_st_o, Int.cast_ofNat_Int, Int.ofNat_zero, Int.ofNat_one, not_true_eq_false, not_false_eq_true, if_true, if_false, ite_self, and_self, Int.ofNat_eq_natCast, Int.tdiv_eq_ediv_of_nonneg, Int.tmod_eq_emod_of_nonneg, x_bm32, h51]
  refine x_lpD (α := x_S × x_V × x_V) (fun i q => x_eqo [(59, 0)] σ q.1 ∧ gT c E Wd ea w L (q.1 59 0) (i + 1)) (fun i q => x_Wp 7 195 (x_blk 195 2) [xR 50 0, xI c, xI i, q.2.1, q.2.2] [] q.1 Q) (lo := w 8 - 1) (hi := w 0 - 1) (by omega) (a0 := (σ, xU, xU)) ⟨eqo_refl, fun f p q => by omega⟩ ?_ ?_
  · intro i ⟨σi, u1, u2⟩ i0 i1 ⟨j1, j2⟩
    simp only at j1 j2 ⊢
    have g51 : σi 51 0 = w := (j1 51 0 (by decide)).trans h51
    have g50 : σi 50 0 = σ 50 0 := j1 50 0 (by decide)
    have g60 : σi 60 0 = L := (j1 60 0 (by decide)).trans hL0
    have kids : ∀ k, 0 ≤ k → k < w_of w i 7 → t_bd (-9223372036854775808) w (σi 59 0) (w_of w i (8 + k)) := by
      intro k k0 k1
      have kk := wf_k hw (f := i) (by omega) (by omega) k0 k1
      exact (j2 _ (by omega) kk.2.1).1
    -- a row
    have row : ∀ (m : Int) (u2 : x_V), (m = 0 ∧ ¬ (p_fr w (w 8) i ∧ may c w L i)) ∨ (m = 1 ∧ p_fr w (w 8) i ∧ may c w L i) → ∃ (a' : x_S × x_V × x_V), (x_eqo [(59, 0)] σ a'.1 ∧ gT c E Wd ea w L (a'.1 59 0) (i - 1 + 1)) ∧ (x_Wp 7 195 (x_blk 195 2) [xR 50 0, xI c, xI (i - 1), a'.2.1, a'.2.2] [] a'.1 Q → x_Wp 7 195 (x_blk 195 6) [xR 50 0, xI c, xI i, xI m, xI 0] [] σi Q) := by
      intro m u2 hm
      have key : ∃ (σs : x_S), (x_eqo [(59, 0)] σi σs ∧ (∀ z, ¬ (42 * i ≤ z ∧ z < 42 * i + 42) → σs 59 0 z = σi 59 0 z) ∧ (∀ s, 0 ≤ s → s < 42 → (m = 0 → σs 59 0 (42 * i + s) = (-9223372036854775808)) ∧ (m = 1 → q_at (-9223372036854775808) c E Wd ea w L (σi 59 0) i (s % 21) (s / 21) (σs 59 0 (42 * i + s))) ∧ (σs 59 0 (42 * i + s) = (-9223372036854775808) ∨ (-(g_b (w_of w i 6)) ≤ σs 59 0 (42 * i + s) ∧ σs 59 0 (42 * i + s) ≤ g_b (w_of w i 6))))) ∧ (x_Wp 7 195 (x_blk 195 6) [xR 50 0, xI c, xI i, xI m, xI 42] [] σs Q → x_Wp 7 195 (x_blk 195 6) [xR 50 0, xI c, xI i, xI m, xI 0] [] σi Q) := by
        have ind : ∀ n : Nat, ∀ s : Int, 0 ≤ s → s + n = 42 → ∀ σs : x_S, (x_eqo [(59, 0)] σi σs ∧ (∀ z, ¬ (42 * i ≤ z ∧ z < 42 * i + s) → σs 59 0 z = σi 59 0 z) ∧ (∀ s', 0 ≤ s' → s' < s → (m = 0 → σs 59 0 (42 * i + s') = (-9223372036854775808)) ∧ (m = 1 → q_at (-9223372036854775808) c E Wd ea w L (σi 59 0) i (s' % 21) (s' / 21) (σs 59 0 (42 * i + s'))) ∧ (σs 59 0 (42 * i + s') = (-9223372036854775808) ∨ (-(g_b (w_of w i 6)) ≤ σs 59 0 (42 * i + s') ∧ σs 59 0 (42 * i + s') ≤ g_b (w_of w i 6))))) → ∃ (σe : x_S), (x_eqo [(59, 0)] σi σe ∧ (∀ z, ¬ (42 * i ≤ z ∧ z < 42 * i + 42) → σe 59 0 z = σi 59 0 z) ∧ (∀ s', 0 ≤ s' → s' < 42 → (m = 0 → σe 59 0 (42 * i + s') = (-9223372036854775808)) ∧ (m = 1 → q_at (-9223372036854775808) c E Wd ea w L (σi 59 0) i (s' % 21) (s' / 21) (σe 59 0 (42 * i + s'))) ∧ (σe 59 0 (42 * i + s') = (-9223372036854775808) ∨ (-(g_b (w_of w i 6)) ≤ σe 59 0 (42 * i + s') ∧ σe 59 0 (42 * i + s') ≤ g_b (w_of w i 6))))) ∧ (x_Wp 7 195 (x_blk 195 6) [xR 50 0, xI c, xI i, xI m, xI 42] [] σe Q → x_Wp 7 195 (x_blk 195 6) [xR 50 0, xI c, xI i, xI m, xI s] [] σs Q) := by
          intro n
          induction n with
          | zero =>
            intro s s0 s1 σs h
            have e : s = 42 := by omega
            subst e
            exact ⟨σs, h, id⟩
          | succ n ih =>
            intro s s0 s1 σs ⟨k1, k2, k3⟩
            have p51 : σs 51 0 = w := (k1 51 0 (by decide)).trans g51
            have p50 : σs 50 0 = σ 50 0 := (k1 50 0 (by decide)).trans g50
            have p60 : σs 60 0 = L := (k1 60 0 (by decide)).trans g60
            have pE : σs 50 0 17 = E := by rw [p50]; exact hE
            have pW : σs 50 0 18 = Wd := by rw [p50]; exact hWd
            have pe : σs 50 0 19 = ea := by rw [p50]; exact hea
            have step : ∀ v, ((m = 0 → v = (-9223372036854775808)) ∧ (m = 1 → q_at (-9223372036854775808) c E Wd ea w L (σi 59 0) i (s % 21) (s / 21) v) ∧ (v = (-9223372036854775808) ∨ (-(g_b (w_of w i 6)) ≤ v ∧ v ≤ g_b (w_of w i 6)))) → (x_eqo [(59, 0)] σi (x_st σs 59 0 (42 * i + s) v) ∧ (∀ z, ¬ (42 * i ≤ z ∧ z < 42 * i + (s + 1)) → x_st σs 59 0 (42 * i + s) v 59 0 z = σi 59 0 z) ∧ (∀ s', 0 ≤ s' → s' < s + 1 → (m = 0 → x_st σs 59 0 (42 * i + s) v 59 0 (42 * i + s') = (-9223372036854775808)) ∧ (m = 1 → q_at (-9223372036854775808) c E Wd ea w L (σi 59 0) i (s' % 21) (s' / 21) (x_st σs 59 0 (42 * i + s) v 59 0 (42 * i + s'))) ∧ (x_st σs 59 0 (42 * i + s) v 59 0 (42 * i + s') = (-9223372036854775808) ∨ (-(g_b (w_of w i 6)) ≤ x_st σs 59 0 (42 * i + s) v 59 0 (42 * i + s') ∧ x_st σs 59 0 (42 * i + s) v 59 0 (42 * i + s') ≤ g_b (w_of w i 6))))) := by
              intro v hv
              refine ⟨eqo_st (by decide) k1, ?_, ?_⟩
              · intro z hz
                rw [x_rd_ne (by omega)]
                exact k2 z (by omega)
              · intro s' p q
                by_cases cs : s' = s
                · subst cs
                  rw [x_rd_eq]
                  exact hv
                · rw [x_rd_ne (by omega)]
                  exact k3 s' p (by omega)
            rcases hm with ⟨m0, m1⟩ | ⟨m0, m1⟩
            · obtain ⟨σe, q1, q2⟩ := ih (s + 1) (by omega) (by omega) _ (step (-9223372036854775808) ⟨fun _ => rfl, fun z => by omega, Or.inl rfl⟩)
              refine ⟨σe, q1, fun H => ?_⟩
              have H2 := q2 H
              rw [bk_195_6]
              subst m0
              simp (disch := first | omega | (simp only [x_wtI, x_wtJ, x_wtR, x_wtN]; omega) | assumption | (simp (disch := omega) only [x_st_o, x_rd_ne]; first | assumption | omega) | (apply mir_eq; assumption; (intro c h1 h2; simp (disch := omega) only [x_st_o])) | (apply mis_eq; assumption; (intro c h1 h2; simp (disch := omega) only [x_st_o])) | rfl) only [bk_195_0, bk_195_1, bk_195_3, bk_195_4, bk_195_5, bk_195_7, bk_195_8, bk_195_9, bk_195_10, wp_ild1, wp_ic, wp_icne, wp_ald0, wk_196, wp_fall, wr_50_1, wl_51, wp_cald, wp_isub, wp_ist2, wp_ild2, wp_iclt, wk_199, wp_ifeq, wk_192, wp_ifgt, wr_50_21, wl_59, wl_60, wp_pald, wp_lc, wp_lcmp, wp_goto, wp_ist3, wp_ist4, wp_ild4, wp_icge, wr_50_20, wp_imul, wp_iadd, wp_ild3, wk_204, ws_59, ws_60, wp_inc4, wp_inc2, wk_197, wp_lret, x_clr_I, x_clr_J, x_clr_R, x_clr_U, ct_some, ct_none, lc_lt, lc_ge, lc_gt, lc_le, lc_eq, lc_r, xI_inj, xJ_inj, Option.some.injEq, eq_self, bi_r, bi_0, bi_1, bi_n, Classical.not_not, and_true, true_and, ite_true, ite_false, ↓reduceIte, ↓x_andl, z_le, z_nle, z_lt, z_nlt, z_eq, z_neq, if_pos, if_neg, x_andl, false_and, and_false, or_true, true_or, or_false, false_or, not_true, not_false_iff, x_rd_eq, x_rd_ne, x_st_o, Int.cast_ofNat_Int, Int.ofNat_zero, Int.ofNat_one, not_true_eq_false, not_false_eq_true, if_true, if_false, ite_self, and_self, Int.ofNat_eq_natCast, Int.tdiv_eq_ediv_of_nonneg, Int.tmod_eq_emod_of_nonneg, x_bm32]
              exact H2
            · have hTs : ∀ k, 0 ≤ k → k < w_of w i 7 → t_bd (-9223372036854775808) w (σs 59 0) (w_of w i (8 + k)) := by
                intro k kk0 kk1
                have kk := wf_k hw (f := i) (by omega) (by omega) kk0 kk1
                intro z z0 z1
                rw [k2 _ (by omega)]
                exact kids k kk0 kk1 z z0 z1
              have hLi : c = 2 → p_end w E i → -170000 ≤ L i ∧ L i ≤ 170000 := by
                intro c2 ce
                obtain ⟨e5, l5⟩ := hL c2
                have o := wf_f hw (f := i) (by omega) (by omega)
                unfold wf_one at o
                have hk : w_of w i 7 = 0 := by
                  rcases ce with z | z
                  · exact z
                  · omega
                have ml : ¬ L i = (-9223372036854775808) := by
                  rcases m1.2 with z | z | z
                  · exact absurd c2 z
                  · omega
                  · exact z
                exact (l5 i (by omega) (by omega)).resolve_left ml
              obtain ⟨r, σ', ⟨rfl, v, rfl, v1, v2⟩, ev⟩ := x_ex (h_leastQ (f := i) (st := s % 21) (wd := s / 21) p51 pE pW pe rfl p60 hw (by omega) (by omega) hE2 hW2 hea2 hc (by omega) (by omega) hTs hLi)
              rw [show 21 * (s / 21) + s % 21 = s by omega] at ev
              have v1' : q_at (-9223372036854775808) c E Wd ea w L (σi 59 0) i (s % 21) (s / 21) v := ke_at hw (by omega) (by omega) (by omega) (fun k kk0 kk1 z z0 z1 => by
                have kk := wf_k hw (f := i) (by omega) (by omega) kk0 kk1
                exact (k2 _ (by omega)).symm) v1
              obtain ⟨σe, q1, q2⟩ := ih (s + 1) (by omega) (by omega) _ (step v ⟨fun z => by omega, fun _ => v1', v2⟩)
              refine ⟨σe, q1, fun H => ?_⟩
              have H2 := q2 H
              rw [bk_195_6]
              subst m0
              simp (disch := first | omega | (simp only [x_wtI, x_wtJ, x_wtR, x_wtN]; omega) | assumption | (simp (disch := omega) only [x_st_o, x_rd_ne]; first | assumption | omega) | (apply mir_eq; assumption; (intro c h1 h2; simp (disch := omega) only [x_st_o])) | (apply mis_eq; assumption; (intro c h1 h2; simp (disch := omega) only [x_st_o])) | rfl) only [bk_195_0, bk_195_1, bk_195_3, bk_195_4, bk_195_5, bk_195_7, bk_195_8, bk_195_9, bk_195_10, wp_ild1, wp_ic, wp_icne, wp_ald0, wk_196, wp_fall, wr_50_1, wl_51, wp_cald, wp_isub, wp_ist2, wp_ild2, wp_iclt, wk_199, wp_ifeq, wk_192, wp_ifgt, wr_50_21, wl_59, wl_60, wp_pald, wp_lc, wp_lcmp, wp_goto, wp_ist3, wp_ist4, wp_ild4, wp_icge, wr_50_20, wp_imul, wp_iadd, wp_ild3, wk_204, ws_59, ws_60, wp_inc4, wp_inc2, wk_197, wp_lret, x_clr_I, x_clr_J, x_clr_R, x_clr_U, ct_some, ct_none, lc_lt, lc_ge, lc_gt, lc_le, lc_eq, lc_r, xI_inj, xJ_inj, Option.some.injEq, eq_self, bi_r, bi_0, bi_1, bi_n, Classical.not_not, and_true, true_and, ite_true, ite_false, ↓reduceIte, ↓x_andl, z_le, z_nle, z_lt, z_nlt, z_eq, z_neq, if_pos, if_neg, x_andl, false_and, and_false, or_true, true_or, or_false, false_or, not_true, not_false_iff, x_rd_eq, x_rd_ne, x_st_o, Int.cast_ofNat_Int, Int.ofNat_zero, Int.ofNat_one, not_true_eq_false, not_false_eq_true, if_true, if_false, ite_self, and_self, Int.ofNat_eq_natCast, Int.tdiv_eq_ediv_of_nonneg, Int.tmod_eq_emod_of_nonneg, x_bm32, ev]
              exact H2
        exact ind 42 0 (by omega) (by omega) σi ⟨eqo_refl, fun z _ => rfl, fun s' p q => by omega⟩
      obtain ⟨σs, ⟨q1, q2, q3⟩, q4⟩ := key
      refine ⟨(σs, xI m, xI 42), ⟨eqo_trans j1 q1, ?_⟩, ?_⟩
      · intro f f0 f1
        simp only
        by_cases cf : f = i
        · subst cf
          have ke : k_eq w (σi 59 0) (σs 59 0) f := by
            intro k k0 k1 z z0 z1
            have kk := wf_k hw (f := f) (by omega) (by omega) k0 k1
            exact q2 _ (by omega)
          refine ⟨fun s s0 s1 => (q3 s s0 s1).2.2, ?_, ?_⟩
          · intro hf st wd t0 t1 d0 d1
            have m1 : m = 1 := by
              rcases hm with ⟨_, z⟩ | ⟨z, _⟩
              · exact absurd hf z
              · exact z
            have := (q3 (21 * wd + st) (by omega) (by omega)).2.1 m1
            rw [show (21 * wd + st) % 21 = st by omega, show (21 * wd + st) / 21 = wd by omega] at this
            exact ke_at hw (by omega) (by omega) ⟨t0, t1⟩ ke this
          · intro hf s s0 s1
            have m0 : m = 0 := by
              rcases hm with ⟨z, _⟩ | ⟨_, z⟩
              · exact z
              · exact absurd z hf
            exact (q3 s s0 s1).1 m0
        · obtain ⟨g1, g2, g3⟩ := j2 f (by omega) f1
          have same : ∀ s, 0 ≤ s → s < 42 → σs 59 0 (42 * f + s) = σi 59 0 (42 * f + s) := fun s s0 s1 => q2 _ (by omega)
          have ke : k_eq w (σi 59 0) (σs 59 0) f := by
            intro k k0 k1 z z0 z1
            have kk := wf_k hw (f := f) (by omega) (by omega) k0 k1
            exact q2 _ (by omega)
          refine ⟨fun s s0 s1 => by rw [same s s0 s1]; exact g1 s s0 s1, ?_, ?_⟩
          · intro hf st wd t0 t1 d0 d1
            rw [same _ (by omega) (by omega)]
            exact ke_at hw (by omega) (by omega) ⟨t0, t1⟩ ke (g2 hf st wd t0 t1 d0 d1)
          · intro hf s s0 s1
            rw [same s s0 s1]
            exact g3 hf s s0 s1
      · intro H
        simp only at H
        refine q4 ?_
        rw [bk_195_6]
        simp (disch := first | omega | (simp only [x_wtI, x_wtJ, x_wtR, x_wtN]; omega) | assumption | (simp (disch := omega) only [x_st_o, x_rd_ne]; first | assumption | omega) | (apply mir_eq; assumption; (intro c h1 h2; simp (disch := omega) only [x_st_o])) | (apply mis_eq; assumption; (intro c h1 h2; simp (disch := omega) only [x_st_o])) | rfl) only [bk_195_0, bk_195_1, bk_195_3, bk_195_4, bk_195_5, bk_195_7, bk_195_8, bk_195_9, bk_195_10, wp_ild1, wp_ic, wp_icne, wp_ald0, wk_196, wp_fall, wr_50_1, wl_51, wp_cald, wp_isub, wp_ist2, wp_ild2, wp_iclt, wk_199, wp_ifeq, wk_192, wp_ifgt, wr_50_21, wl_59, wl_60, wp_pald, wp_lc, wp_lcmp, wp_goto, wp_ist3, wp_ist4, wp_ild4, wp_icge, wr_50_20, wp_imul, wp_iadd, wp_ild3, wk_204, ws_59, ws_60, wp_inc4, wp_inc2, wk_197, wp_lret, x_clr_I, x_clr_J, x_clr_R, x_clr_U, ct_some, ct_none, lc_lt, lc_ge, lc_gt, lc_le, lc_eq, lc_r, xI_inj, xJ_inj, Option.some.injEq, eq_self, bi_r, bi_0, bi_1, bi_n, Classical.not_not, and_true, true_and, ite_true, ite_false, ↓reduceIte, ↓x_andl, z_le, z_nle, z_lt, z_nlt, z_eq, z_neq, if_pos, if_neg, x_andl, false_and, and_false, or_true, true_or, or_false, false_or, not_true, not_false_iff, x_rd_eq, x_rd_ne, x_st_o, Int.cast_ofNat_Int, Int.ofNat_zero, Int.ofNat_one, not_true_eq_false, not_false_eq_true, if_true, if_false, ite_self, and_self, Int.ofNat_eq_natCast, Int.tdiv_eq_ediv_of_nonneg, Int.tmod_eq_emod_of_nonneg, x_bm32]
        exact H
    by_cases g : p_fr w (w 8) i
    · by_cases mm : may c w L i
      · obtain ⟨a', h1, h2⟩ := row 1 u2 (Or.inr ⟨rfl, g, mm⟩)
        refine ⟨a', h1, fun H => ?_⟩
        have H2 := h2 H
        have o := wf_f hw (f := i) (by omega) (by omega)
        unfold wf_one at o
        rw [bk_195_2]
        by_cases c2 : c = 2
        · by_cases ck : 0 < w_of w i 7
          · simp (disch := first | omega | (simp only [x_wtI, x_wtJ, x_wtR, x_wtN]; omega) | assumption | (simp (disch := omega) only [x_st_o, x_rd_ne, g51]; first | assumption | omega) | (apply mir_eq; assumption; (intro c h1 h2; simp (disch := omega) only [x_st_o])) | (apply mis_eq; assumption; (intro c h1 h2; simp (disch := omega) only [x_st_o])) | rfl) only [bk_195_0, bk_195_1, bk_195_3, bk_195_4, bk_195_5, bk_195_7, bk_195_8, bk_195_9, bk_195_10, wp_ild1, wp_ic, wp_icne, wp_ald0, wk_196, wp_fall, wr_50_1, wl_51, wp_cald, wp_isub, wp_ist2, wp_ild2, wp_iclt, wk_199, wp_ifeq, wk_192, wp_ifgt, wr_50_21, wl_59, wl_60, wp_pald, wp_lc, wp_lcmp, wp_goto, wp_ist3, wp_ist4, wp_ild4, wp_icge, wr_50_20, wp_imul, wp_iadd, wp_ild3, wk_204, ws_59, ws_60, wp_inc4, wp_inc2, wk_197, wp_lret, x_clr_I, x_clr_J, x_clr_R, x_clr_U, ct_some, ct_none, lc_lt, lc_ge, lc_gt, lc_le, lc_eq, lc_r, xI_inj, xJ_inj, Option.some.injEq, eq_self, bi_r, bi_0, bi_1, bi_n, Classical.not_not, and_true, true_and, ite_true, ite_false, ↓reduceIte, ↓x_andl, z_le, z_nle, z_lt, z_nlt, z_eq, z_neq, if_pos, if_neg, x_andl, false_and, and_false, or_true, true_or, or_false, false_or, not_true, not_false_iff, x_rd_eq, x_rd_ne, x_st_o, Int.cast_ofNat_Int, Int.ofNat_zero, Int.ofNat_one, not_true_eq_false, not_false_eq_true, if_true, if_false, ite_self, and_self, Int.ofNat_eq_natCast, Int.tdiv_eq_ediv_of_nonneg, Int.tmod_eq_emod_of_nonneg, x_bm32, g51, k_isFromNow, bi_t, k_of]
            exact H2
          · have nl : ¬ L i = (-9223372036854775808) := by
              rcases mm with z | z | z
              · exact absurd c2 z
              · exact absurd z ck
              · exact z
            have lr := ((hL c2).2 i (by omega) (by omega)).resolve_left nl
            simp (disch := first | omega | (simp only [x_wtI, x_wtJ, x_wtR, x_wtN]; omega) | assumption | (simp (disch := omega) only [x_st_o, x_rd_ne, g51]; first | assumption | omega) | (apply mir_eq; assumption; (intro c h1 h2; simp (disch := omega) only [x_st_o])) | (apply mis_eq; assumption; (intro c h1 h2; simp (disch := omega) only [x_st_o])) | rfl) only [bk_195_0, bk_195_1, bk_195_3, bk_195_4, bk_195_5, bk_195_7, bk_195_8, bk_195_9, bk_195_10, wp_ild1, wp_ic, wp_icne, wp_ald0, wk_196, wp_fall, wr_50_1, wl_51, wp_cald, wp_isub, wp_ist2, wp_ild2, wp_iclt, wk_199, wp_ifeq, wk_192, wp_ifgt, wr_50_21, wl_59, wl_60, wp_pald, wp_lc, wp_lcmp, wp_goto, wp_ist3, wp_ist4, wp_ild4, wp_icge, wr_50_20, wp_imul, wp_iadd, wp_ild3, wk_204, ws_59, ws_60, wp_inc4, wp_inc2, wk_197, wp_lret, x_clr_I, x_clr_J, x_clr_R, x_clr_U, ct_some, ct_none, lc_lt, lc_ge, lc_gt, lc_le, lc_eq, lc_r, xI_inj, xJ_inj, Option.some.injEq, eq_self, bi_r, bi_0, bi_1, bi_n, Classical.not_not, and_true, true_and, ite_true, ite_false, ↓reduceIte, ↓x_andl, z_le, z_nle, z_lt, z_nlt, z_eq, z_neq, if_pos, if_neg, x_andl, false_and, and_false, or_true, true_or, or_false, false_or, not_true, not_false_iff, x_rd_eq, x_rd_ne, x_st_o, Int.cast_ofNat_Int, Int.ofNat_zero, Int.ofNat_one, not_true_eq_false, not_false_eq_true, if_true, if_false, ite_self, and_self, Int.ofNat_eq_natCast, Int.tdiv_eq_ediv_of_nonneg, Int.tmod_eq_emod_of_nonneg, x_bm32, g51, k_isFromNow, bi_t, k_of, g60]
            exact H2
        · simp (disch := first | omega | (simp only [x_wtI, x_wtJ, x_wtR, x_wtN]; omega) | assumption | (simp (disch := omega) only [x_st_o, x_rd_ne, g51]; first | assumption | omega) | (apply mir_eq; assumption; (intro c h1 h2; simp (disch := omega) only [x_st_o])) | (apply mis_eq; assumption; (intro c h1 h2; simp (disch := omega) only [x_st_o])) | rfl) only [bk_195_0, bk_195_1, bk_195_3, bk_195_4, bk_195_5, bk_195_7, bk_195_8, bk_195_9, bk_195_10, wp_ild1, wp_ic, wp_icne, wp_ald0, wk_196, wp_fall, wr_50_1, wl_51, wp_cald, wp_isub, wp_ist2, wp_ild2, wp_iclt, wk_199, wp_ifeq, wk_192, wp_ifgt, wr_50_21, wl_59, wl_60, wp_pald, wp_lc, wp_lcmp, wp_goto, wp_ist3, wp_ist4, wp_ild4, wp_icge, wr_50_20, wp_imul, wp_iadd, wp_ild3, wk_204, ws_59, ws_60, wp_inc4, wp_inc2, wk_197, wp_lret, x_clr_I, x_clr_J, x_clr_R, x_clr_U, ct_some, ct_none, lc_lt, lc_ge, lc_gt, lc_le, lc_eq, lc_r, xI_inj, xJ_inj, Option.some.injEq, eq_self, bi_r, bi_0, bi_1, bi_n, Classical.not_not, and_true, true_and, ite_true, ite_false, ↓reduceIte, ↓x_andl, z_le, z_nle, z_lt, z_nlt, z_eq, z_neq, if_pos, if_neg, x_andl, false_and, and_false, or_true, true_or, or_false, false_or, not_true, not_false_iff, x_rd_eq, x_rd_ne, x_st_o, Int.cast_ofNat_Int, Int.ofNat_zero, Int.ofNat_one, not_true_eq_false, not_false_eq_true, if_true, if_false, ite_self, and_self, Int.ofNat_eq_natCast, Int.tdiv_eq_ediv_of_nonneg, Int.tmod_eq_emod_of_nonneg, x_bm32, g51, k_isFromNow, bi_t, k_of]
          exact H2
      · obtain ⟨a', h1, h2⟩ := row 0 u2 (Or.inl ⟨rfl, fun z => mm z.2⟩)
        refine ⟨a', h1, fun H => ?_⟩
        have H2 := h2 H
        have o := wf_f hw (f := i) (by omega) (by omega)
        unfold wf_one at o
        have c2 : c = 2 := by
          by_cases z : c = 2
          · exact z
          · exact absurd (Or.inl z) mm
        have ck : ¬ 0 < w_of w i 7 := fun z => mm (Or.inr (Or.inl z))
        have nl : L i = (-9223372036854775808) := by
          by_cases z : L i = (-9223372036854775808)
          · exact z
          · exact absurd (Or.inr (Or.inr z)) mm
        rw [bk_195_2]
        simp (disch := first | omega | (simp only [x_wtI, x_wtJ, x_wtR, x_wtN]; omega) | assumption | (simp (disch := omega) only [x_st_o, x_rd_ne, g51]; first | assumption | omega) | (apply mir_eq; assumption; (intro c h1 h2; simp (disch := omega) only [x_st_o])) | (apply mis_eq; assumption; (intro c h1 h2; simp (disch := omega) only [x_st_o])) | rfl) only [bk_195_0, bk_195_1, bk_195_3, bk_195_4, bk_195_5, bk_195_7, bk_195_8, bk_195_9, bk_195_10, wp_ild1, wp_ic, wp_icne, wp_ald0, wk_196, wp_fall, wr_50_1, wl_51, wp_cald, wp_isub, wp_ist2, wp_ild2, wp_iclt, wk_199, wp_ifeq, wk_192, wp_ifgt, wr_50_21, wl_59, wl_60, wp_pald, wp_lc, wp_lcmp, wp_goto, wp_ist3, wp_ist4, wp_ild4, wp_icge, wr_50_20, wp_imul, wp_iadd, wp_ild3, wk_204, ws_59, ws_60, wp_inc4, wp_inc2, wk_197, wp_lret, x_clr_I, x_clr_J, x_clr_R, x_clr_U, ct_some, ct_none, lc_lt, lc_ge, lc_gt, lc_le, lc_eq, lc_r, xI_inj, xJ_inj, Option.some.injEq, eq_self, bi_r, bi_0, bi_1, bi_n, Classical.not_not, and_true, true_and, ite_true, ite_false, ↓reduceIte, ↓x_andl, z_le, z_nle, z_lt, z_nlt, z_eq, z_neq, if_pos, if_neg, x_andl, false_and, and_false, or_true, true_or, or_false, false_or, not_true, not_false_iff, x_rd_eq, x_rd_ne, x_st_o, Int.cast_ofNat_Int, Int.ofNat_zero, Int.ofNat_one, not_true_eq_false, not_false_eq_true, if_true, if_false, ite_self, and_self, Int.ofNat_eq_natCast, Int.tdiv_eq_ediv_of_nonneg, Int.tmod_eq_emod_of_nonneg, x_bm32, g51, k_isFromNow, bi_t, k_of, g60, nl]
        exact H2
    · obtain ⟨a', h1, h2⟩ := row 0 u2 (Or.inl ⟨rfl, fun z => g z.1⟩)
      refine ⟨a', h1, fun H => ?_⟩
      have H2 := h2 H
      rw [bk_195_2]
      simp (disch := first | omega | (simp only [x_wtI, x_wtJ, x_wtR, x_wtN]; omega) | assumption | (simp (disch := omega) only [x_st_o, x_rd_ne, g51]; first | assumption | omega) | (apply mir_eq; assumption; (intro c h1 h2; simp (disch := omega) only [x_st_o])) | (apply mis_eq; assumption; (intro c h1 h2; simp (disch := omega) only [x_st_o])) | rfl) only [bk_195_0, bk_195_1, bk_195_3, bk_195_4, bk_195_5, bk_195_7, bk_195_8, bk_195_9, bk_195_10, wp_ild1, wp_ic, wp_icne, wp_ald0, wk_196, wp_fall, wr_50_1, wl_51, wp_cald, wp_isub, wp_ist2, wp_ild2, wp_iclt, wk_199, wp_ifeq, wk_192, wp_ifgt, wr_50_21, wl_59, wl_60, wp_pald, wp_lc, wp_lcmp, wp_goto, wp_ist3, wp_ist4, wp_ild4, wp_icge, wr_50_20, wp_imul, wp_iadd, wp_ild3, wk_204, ws_59, ws_60, wp_inc4, wp_inc2, wk_197, wp_lret, x_clr_I, x_clr_J, x_clr_R, x_clr_U, ct_some, ct_none, lc_lt, lc_ge, lc_gt, lc_le, lc_eq, lc_r, xI_inj, xJ_inj, Option.some.injEq, eq_self, bi_r, bi_0, bi_1, bi_n, Classical.not_not, and_true, true_and, ite_true, ite_false, ↓reduceIte, ↓x_andl, z_le, z_nle, z_lt, z_nlt, z_eq, z_neq, if_pos, if_neg, x_andl, false_and, and_false, or_true, true_or, or_false, false_or, not_true, not_false_iff, x_rd_eq, x_rd_ne, x_st_o, Int.cast_ofNat_Int, Int.ofNat_zero, Int.ofNat_one, not_true_eq_false, not_false_eq_true, if_true, if_false, ite_self, and_self, Int.ofNat_eq_natCast, Int.tdiv_eq_ediv_of_nonneg, Int.tmod_eq_emod_of_nonneg, x_bm32, g51, k_isFromNow, bi_f]
      exact H2
  · intro ⟨σi, u1, u2⟩ ⟨j1, j2⟩
    simp only at j1 j2 ⊢
    have g51 : σi 51 0 = w := (j1 51 0 (by decide)).trans h51
    rw [show w 8 - 1 + 1 = w 8 by omega] at j2
    rw [bk_195_2]
    simp (disch := first | omega | (simp only [x_wtI, x_wtJ, x_wtR, x_wtN]; omega) | assumption | (simp (disch := omega) only [x_st_o, x_rd_ne, g51]; first | assumption | omega) | (apply mir_eq; assumption; (intro c h1 h2; simp (disch := omega) only [x_st_o])) | (apply mis_eq; assumption; (intro c h1 h2; simp (disch := omega) only [x_st_o])) | rfl) only [bk_195_0, bk_195_1, bk_195_3, bk_195_4, bk_195_5, bk_195_7, bk_195_8, bk_195_9, bk_195_10, wp_ild1, wp_ic, wp_icne, wp_ald0, wk_196, wp_fall, wr_50_1, wl_51, wp_cald, wp_isub, wp_ist2, wp_ild2, wp_iclt, wk_199, wp_ifeq, wk_192, wp_ifgt, wr_50_21, wl_59, wl_60, wp_pald, wp_lc, wp_lcmp, wp_goto, wp_ist3, wp_ist4, wp_ild4, wp_icge, wr_50_20, wp_imul, wp_iadd, wp_ild3, wk_204, ws_59, ws_60, wp_inc4, wp_inc2, wk_197, wp_lret, x_clr_I, x_clr_J, x_clr_R, x_clr_U, ct_some, ct_none, lc_lt, lc_ge, lc_gt, lc_le, lc_eq, lc_r, xI_inj, xJ_inj, Option.some.injEq, eq_self, bi_r, bi_0, bi_1, bi_n, Classical.not_not, and_true, true_and, ite_true, ite_false, ↓reduceIte, ↓x_andl, z_le, z_nle, z_lt, z_nlt, z_eq, z_neq, if_pos, if_neg, x_andl, false_and, and_false, or_true, true_or, or_false, false_or, not_true, not_false_iff, x_rd_eq, x_rd_ne, x_st_o, Int.cast_ofNat_Int, Int.ofNat_zero, Int.ofNat_one, not_true_eq_false, not_false_eq_true, if_true, if_false, ite_self, and_self, Int.ofNat_eq_natCast, Int.tdiv_eq_ediv_of_nonneg, Int.tmod_eq_emod_of_nonneg, x_bm32, g51, k_stateNow]
    exact hQ _ _ ⟨rfl, j1, j2⟩

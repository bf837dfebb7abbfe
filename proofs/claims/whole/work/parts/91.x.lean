/-! a row of a table of the class -/
theorem alg3 {w : Int → Int} {E f x b t : Int} : p_trade w f x + b * w 4 + kpE w E f * t = p_cost w E f x b t := by
  unfold p_cost kpE
  by_cases c : p_end w E f
  · rw [if_pos c, if_pos c, Int.sub_mul, Int.mul_comm (w 5) t, Int.mul_comm (w 6) t]
    omega
  · rw [if_neg c, if_neg c, Int.mul_comm (w 5) t]
    omega
theorem zcl_zst {w L T R : Int → Int} {c E Wd f st wd b t u : Int} (hw : wf w) (h0 : 0 ≤ f) (h1 : f < w 0) (hs : 0 ≤ st ∧ st ≤ 20) (hr : rok c E w L T f R) : zcl w c Wd (v_sc c w f) (kpE w E f) R f st wd b t u ↔ zst 9223372036854775807 c E Wd w L T f st wd b t u := by
  unfold zcl zst
  constructor
  · rintro ⟨⟨l, n⟩, e⟩
    have sb := sl_b hw h0 h1 hs l
    have po := p_or_01 (a := wd) (b := b)
    rcases hr (21 * p_or wd b + t) (by omega) (by omega) with ⟨z, y⟩ | ⟨z, y, _⟩
    · exact absurd y n
    · refine ⟨⟨l, z⟩, ?_⟩
      rw [e, alg3, y]
      rfl
  · rintro ⟨⟨l, n⟩, e⟩
    have sb := sl_b hw h0 h1 hs l
    have po := p_or_01 (a := wd) (b := b)
    rcases hr (21 * p_or wd b + t) (by omega) (by omega) with ⟨z, y⟩ | ⟨z, y, y2⟩
    · exact absurd n z
    · refine ⟨⟨l, by omega⟩, ?_⟩
      rw [e, alg3, y]
      rfl
theorem h_ff {σ : x_S} {w : Int → Int} {j : Nat} {c Wd sc kp f : Int} {P : (Int → Int) → Prop} (hM : mir σ 1 w) (hj : j < 4) (hw : wf w) (h0 : 0 ≤ f) (h1 : f < w 0) (hm : σ 24 j 3 = c) (hc : 0 ≤ c ∧ c ≤ 4) (hWd : σ 24 j 1 = Wd) (hW2 : 0 ≤ Wd ∧ Wd ≤ 100) (hs : 1 ≤ sc ∧ sc ≤ 100000000) (hk : -99 ≤ kp ∧ kp ≤ 99) (hP : ∀ R, P R → rbd R)
    (hl : x_Sp 3 3 [xR 24 j, xI f] σ (fun r σ' => r = none ∧ x_eqo [(24, j), (27, j)] σ σ' ∧ (∀ k, ¬ (7 ≤ k ∧ k ≤ 9) → σ' 24 j k = σ 24 j k) ∧ ∃ R, P R ∧ lbk w sc kp R σ' j f)) :
    x_Sp 4 2 [xR 24 j, xI f] σ (fun r σ' => r = none ∧ x_eqo [(24, j), (25, j), (27, j), (28, j)] σ σ' ∧ (∀ k, ¬ (7 ≤ k ∧ k ≤ 9) → σ' 24 j k = σ 24 j k) ∧ (∀ i, ¬ (42 * f ≤ i ∧ i < 42 * f + 42) → σ' 25 j i = σ 25 j i) ∧ ∃ R, P R ∧ ∀ st wd, 0 ≤ st → st ≤ 20 → 0 ≤ wd → wd ≤ 1 → x_ml 9223372036854775807 (fun u => ∃ b t, zcl w c Wd sc kp R f st wd b t u) (σ' 25 j (42 * f + (21 * wd + st)))) := by
  have a := wf_h hw
  unfold wf_hdr at a
  refine x_gen (fun Q hQ => ?_)
  simp (disch := first | omega | (simp only [x_wtI, x_wtJ, x_wtR, x_wtN]; omega) | assumption | (simp (disch := omega) only [x_st_o, x_rd_ne]; first | assumption | omega) | (apply mir_eq; assumption; (intro c h1 h2; simp (disch := omega) only [x_st_o])) | (apply mis_eq; assumption; (intro c h1 h2; simp (disch := omega) only [x_st_o])) | rfl) only [sp_2, bk_2_0, wp_ald0, wp_ild1, wk_3, wk_7, wr_24_10, wp_ic, wr_24_4, wp_imul, wp_acpy kd_28 kd_25 (Or.inr rfl), wp_ret, x_clr_I, x_clr_J, x_clr_R, x_clr_U, ct_some, ct_none, lc_lt, lc_ge, lc_gt, lc_le, lc_eq, lc_r, xI_inj, xJ_inj, Option.some.injEq, eq_self, bi_r, bi_0, bi_1, bi_n, Classical.not_not, and_true, true_and, ite_true, ite_false, ↓reduceIte, ↓x_andl, z_le, z_nle, z_lt, z_nlt, z_eq, z_neq, if_pos, if_neg, x_andl, false_and, and_false, or_true, true_or, or_false, false_or, not_true, not_false_iff, x_rd_eq, x_rd_ne, x_st_o, Int.cast_ofNat_Int, Int.ofNat_zero, Int.ofNat_one, not_true_eq_false, not_false_eq_true, if_true, if_false, ite_self, and_self, Int.ofNat_eq_natCast, Int.tdiv_eq_ediv_of_nonneg, Int.tmod_eq_emod_of_nonneg, x_bm32]
  refine x_use (d := 0) hl ?_
  rintro r σ1 ⟨rfl, e1, k1, R, hR, lb⟩
  have hM1 : mir σ1 1 w := mir_eq hM (fun c q1 q2 => e1 c 1 (by simp; omega))
  simp (disch := first | omega | (simp only [x_wtI, x_wtJ, x_wtR, x_wtN]; omega) | assumption | (simp (disch := omega) only [x_st_o, x_rd_ne]; first | assumption | omega) | (apply mir_eq; assumption; (intro c h1 h2; simp (disch := omega) only [x_st_o])) | (apply mis_eq; assumption; (intro c h1 h2; simp (disch := omega) only [x_st_o])) | rfl) only [bk_2_0, wp_ald0, wp_ild1, wk_3, wk_7, wr_24_10, wp_ic, wr_24_4, wp_imul, wp_acpy kd_28 kd_25 (Or.inr rfl), wp_ret, x_clr_I, x_clr_J, x_clr_R, x_clr_U, ct_some, ct_none, lc_lt, lc_ge, lc_gt, lc_le, lc_eq, lc_r, xI_inj, xJ_inj, Option.some.injEq, eq_self, bi_r, bi_0, bi_1, bi_n, Classical.not_not, and_true, true_and, ite_true, ite_false, ↓reduceIte, ↓x_andl, z_le, z_nle, z_lt, z_nlt, z_eq, z_neq, if_pos, if_neg, x_andl, false_and, and_false, or_true, true_or, or_false, false_or, not_true, not_false_iff, x_rd_eq, x_rd_ne, x_st_o, Int.cast_ofNat_Int, Int.ofNat_zero, Int.ofNat_one, not_true_eq_false, not_false_eq_true, if_true, if_false, ite_self, and_self, Int.ofNat_eq_natCast, Int.tdiv_eq_ediv_of_nonneg, Int.tmod_eq_emod_of_nonneg, x_bm32]
  refine x_use (d := 0) (h_sweep hM1 hj hw h0 h1 (by rw [k1 3 (by omega)]; exact hm) hc (by rw [k1 1 (by omega)]; exact hWd) hW2 lb (hP R hR) hs hk) ?_
  rintro r σ2 ⟨rfl, e2, m2⟩
  have e24 : σ2 24 j = σ1 24 j := e2 24 j (by simp)
  have e25 : σ2 25 j = σ 25 j := (e2 25 j (by simp)).trans (e1 25 j (by simp))
  simp (disch := first | omega | (simp only [x_wtI, x_wtJ, x_wtR, x_wtN]; omega) | assumption | (simp (disch := omega) only [x_st_o, x_rd_ne]; first | assumption | omega) | (apply mir_eq; assumption; (intro c h1 h2; simp (disch := omega) only [x_st_o])) | (apply mis_eq; assumption; (intro c h1 h2; simp (disch := omega) only [x_st_o])) | rfl) only [bk_2_0, wp_ald0, wp_ild1, wk_3, wk_7, wr_24_10, wp_ic, wr_24_4, wp_imul, wp_acpy kd_28 kd_25 (Or.inr rfl), wp_ret, x_clr_I, x_clr_J, x_clr_R, x_clr_U, ct_some, ct_none, lc_lt, lc_ge, lc_gt, lc_le, lc_eq, lc_r, xI_inj, xJ_inj, Option.some.injEq, eq_self, bi_r, bi_0, bi_1, bi_n, Classical.not_not, and_true, true_and, ite_true, ite_false, ↓reduceIte, ↓x_andl, z_le, z_nle, z_lt, z_nlt, z_eq, z_neq, if_pos, if_neg, x_andl, false_and, and_false, or_true, true_or, or_false, false_or, not_true, not_false_iff, x_rd_eq, x_rd_ne, x_st_o, Int.cast_ofNat_Int, Int.ofNat_zero, Int.ofNat_one, not_true_eq_false, not_false_eq_true, if_true, if_false, ite_self, and_self, Int.ofNat_eq_natCast, Int.tdiv_eq_ediv_of_nonneg, Int.tmod_eq_emod_of_nonneg, x_bm32]
  refine hQ _ _ ⟨rfl, eqo_cp (by simp) (eqo_trans (eqo_mono (by simp) e1) (eqo_mono (by simp) e2)), ?_, ?_, R, hR, ?_⟩
  · intro k hk
    simp (disch := omega) only [x_st_o, x_rd_ne, x_rd_eq, s_fl_o, s_fl_in, s_fl_out, x_cp_o, x_cp_in, x_cp_out]
    rw [e24]
    exact k1 k hk
  · intro i hi
    simp (disch := omega) only [x_st_o, x_rd_ne, x_rd_eq, s_fl_o, s_fl_in, s_fl_out, x_cp_o, x_cp_in, x_cp_out]
    rw [e25]
  · intro st wd p q p2 q2
    have z := (m2 st wd p q p2 q2).1
    simp (disch := omega) only [x_st_o, x_rd_ne, x_rd_eq, s_fl_o, s_fl_in, s_fl_out, x_cp_o, x_cp_in, x_cp_out]
    rw [show (0 : Int) + (42 * f + (21 * wd + st) - f * 42) = 21 * wd + st by omega]
    exact z
theorem ke_of_row {w T T' : Int → Int} {f : Int} (hw : wf w) (h0 : 0 ≤ f) (h1 : f < w 0) (e : ∀ i, ¬ (42 * f ≤ i ∧ i < 42 * f + 42) → T' i = T i) : k_eq w T T' f := by
  intro i i0 i1 s s0 s1
  have k := wf_k hw h0 h1 i0 i1
  exact e _ (by omega)
theorem zst_bdE {w L T : Int → Int} {mk c E Wd f st wd b t u : Int} (hw : wf w) (h0 : 0 ≤ f) (h1 : f < w 0) (hs : 0 ≤ st ∧ st ≤ 20) (hd : 0 ≤ wd ∧ wd ≤ 1) (ce : p_end w E f) (hL : c = 2 → p_end w E f → -170000 ≤ L f ∧ L f ≤ 170000) (hc : 0 ≤ c ∧ c ≤ 3) (h : zst mk c E Wd w L T f st wd b t u) : -(g_b (w_of w f 6)) ≤ u ∧ u ≤ g_b (w_of w f 6) :=
  zst_bd (mk := mk) (E := E) (L := L) (T := fun _ => mk) (st := st) (wd := wd) (b := b) (t := t) hw h0 h1 hs hd (fun i _ _ s _ _ => Or.inl rfl) hL hc ⟨⟨h.1.1, Or.inl ce⟩, by
    rw [h.2]
    unfold v_of r_of
    simp only [if_pos ce]⟩
theorem gr_cg {w L T T' : Int → Int} {mk c E Wd f : Int} (hw : wf w) (h0 : 0 ≤ f) (h1 : f < w 0) (er : ∀ s, 0 ≤ s → s < 42 → T' (42 * f + s) = T (42 * f + s)) (ek : k_eq w T T' f) (h : g_row mk c E Wd w L T f) : g_row mk c E Wd w L T' f := by
  intro st wd p q p2 q2
  rw [er (21 * wd + st) (by omega) (by omega)]
  exact ml_cg (h st wd p q p2 q2) (fun u => (ke_val hw h0 h1 ⟨p, q⟩ ek u).symm)
theorem h_fillFork {σ : x_S} {w T L : Int → Int} {j : Nat} {c E Wd f : Int} (hM : mir σ 1 w) (hj : j < 4) (hw : wf w) (h0 : 0 ≤ f) (h1 : f < w 0) (hm : σ 24 j 3 = c) (hc : 0 ≤ c ∧ c ≤ 3) (hWd : σ 24 j 1 = Wd) (hW2 : 0 ≤ Wd ∧ Wd ≤ 100) (hE : σ 24 j 2 = E) (hE2 : 0 ≤ E ∧ E ≤ 100) (hV : σ 25 j = T) (hL0 : σ 26 j = L) (hT : ¬ p_end w E f → ∀ i, 0 ≤ i → i < w_of w f 7 → t_bd 9223372036854775807 w T (w_of w f (8 + i))) (hL : c = 2 → p_end w E f → -170000 ≤ L f ∧ L f ≤ 170000) : x_Sp 4 2 [xR 24 j, xI f] σ (fun r σ' => r = none ∧ x_eqo [(24, j), (25, j), (27, j), (28, j)] σ σ' ∧ (∀ k, ¬ (7 ≤ k ∧ k ≤ 9) → σ' 24 j k = σ 24 j k) ∧ (∀ i, ¬ (42 * f ≤ i ∧ i < 42 * f + 42) → σ' 25 j i = σ 25 j i) ∧ g_row 9223372036854775807 c E Wd w L (σ' 25 j) f ∧ t_bd 9223372036854775807 w (σ' 25 j) f) := by
  have H := h_ff (P := rok c E w L T f) hM hj hw h0 h1 hm (by omega) hWd hW2 (vsc_b (c := c) (w := w) (f := f)) (kpE_b hw (E := E) (f := f)) (fun R h => rok_b h) (h_look hM hj hw h0 h1 hm hc hE hE2 hV hL0 hT hL)
  refine x_gen (fun Q hQ => ?_)
  refine x_use (d := 0) H ?_
  rintro r σ' ⟨rfl, e, k, o, R, hR, m⟩
  refine hQ _ _ ⟨rfl, e, k, o, ?_, ?_⟩
  · intro st wd p q p2 q2
    have ke : k_eq w T (σ' 25 j) f := ke_of_row hw h0 h1 (by rw [← hV]; exact o)
    refine ml_cg (m st wd p q p2 q2) (fun u => ?_)
    rw [ke_val hw h0 h1 ⟨p, q⟩ ke u, ← zst_val]
    constructor
    · rintro ⟨b, t, z⟩
      exact ⟨b, t, (zcl_zst hw h0 h1 ⟨p, q⟩ hR).mp z⟩
    · rintro ⟨b, t, z⟩
      exact ⟨b, t, (zcl_zst hw h0 h1 ⟨p, q⟩ hR).mpr z⟩
  · intro s s0 s1
    have z := m (s % 21) (s / 21) (by omega) (by omega) (by omega) (by omega)
    rw [show 21 * (s / 21) + s % 21 = s by omega] at z
    rcases z with ⟨z, _⟩ | ⟨⟨b, t, z⟩, _⟩
    · exact Or.inl z
    · refine Or.inr ?_
      have zz := (zcl_zst hw h0 h1 ⟨by omega, by omega⟩ hR).mp z
      by_cases ce : p_end w E f
      · exact zst_bdE hw h0 h1 ⟨by omega, by omega⟩ ⟨by omega, by omega⟩ ce hL hc zz
      · exact zst_bd hw h0 h1 ⟨by omega, by omega⟩ ⟨by omega, by omega⟩ (hT ce) hL hc zz
theorem h_fillFrom {σ : x_S} {w L : Int → Int} {j : Nat} {c E Wd top : Int} (hM : mir σ 1 w) (hj : j < 4) (hw : wf w) (h0 : 0 ≤ top) (h1 : top < w 0) (hm : σ 24 j 3 = c) (hc : 0 ≤ c ∧ c ≤ 3) (hWd : σ 24 j 1 = Wd) (hW2 : 0 ≤ Wd ∧ Wd ≤ 100) (hE : σ 24 j 2 = E) (hE2 : 0 ≤ E ∧ E ≤ 100) (hL0 : σ 26 j = L) (hL : ∀ f, 0 ≤ f → f < w 0 → p_fr w top f → c = 2 → p_end w E f → -170000 ≤ L f ∧ L f ≤ 170000) : x_Sp 5 1 [xR 24 j, xI top] σ (fun r σ' => r = none ∧ x_eqo [(24, j), (25, j), (27, j), (28, j)] σ σ' ∧ (∀ k, ¬ (7 ≤ k ∧ k ≤ 9) → σ' 24 j k = σ 24 j k) ∧ ∀ f, top ≤ f → f < w 0 → p_fr w top f → w_of w f 6 ≤ E → g_row 9223372036854775807 c E Wd w L (σ' 25 j) f ∧ t_bd 9223372036854775807 w (σ' 25 j) f) := by
  have a := wf_h hw
  unfold wf_hdr at a
  refine x_gen (fun Q hQ => ?_)
  simp (disch := first | omega | (simp only [x_wtI, x_wtJ, x_wtR, x_wtN]; omega) | assumption | (simp (disch := omega) only [x_st_o, x_rd_ne]; first | assumption | omega) | (apply mir_eq; assumption; (intro c h1 h2; simp (disch := omega) only [x_st_o])) | (apply mis_eq; assumption; (intro c h1 h2; simp (disch := omega) only [x_st_o])) | rfl) only [sp_1, bk_1_0, bk_1_2, bk_1_3, wp_ald0, wr_24_0, wp_geti kd_6, wp_ic, wp_isub, wp_ist2, wp_fall, wp_ild2, wp_ild1, wp_iclt, wr_6_13, wl_13, wp_cald, wp_geti kd_24, wp_icgt, wk_65, wp_ifeq, wk_2, wp_inc2, wp_goto, wp_ret, x_clr_I, x_clr_J, x_clr_R, x_clr_U, ct_some, ct_none, lc_lt, lc_ge, lc_gt, lc_le, lc_eq, lc_r, xI_inj, xJ_inj, Option.some.injEq, eq_self, bi_r, bi_0, bi_1, bi_n, Classical.not_not, and_true, true_and, ite_true, ite_false, ↓reduceIte, ↓x_andl, z_le, z_nle, z_lt, z_nlt, z_eq, z_neq, if_pos, if_neg, x_andl, false_and, and_false, or_true, true_or, or_false, false_or, not_true, not_false_iff, x_rd_eq, x_rd_ne, x_st_o, Int.cast_ofNat_Int, Int.ofNat_zero, Int.ofNat_one, not_true_eq_false, not_false_eq_true, if_true, if_false, ite_self, and_self, Int.ofNat_eq_natCast, Int.tdiv_eq_ediv_of_nonneg, Int.tmod_eq_emod_of_nonneg, x_bm32, mi_size hM]
  refine x_lpD (α := x_S) (fun i σi => x_eqo [(24, j), (25, j), (27, j), (28, j)] σ σi ∧ (∀ k, ¬ (7 ≤ k ∧ k ≤ 9) → σi 24 j k = σ 24 j k) ∧ ∀ f, i < f → f < w 0 → p_fr w top f → w_of w f 6 ≤ E → g_row 9223372036854775807 c E Wd w L (σi 25 j) f ∧ t_bd 9223372036854775807 w (σi 25 j) f) (fun i σi => x_Wp 5 1 (x_blk 1 1) [xR 24 j, xI top, xI i] [] σi Q) (lo := top - 1) (hi := w 0 - 1) (by omega) (a0 := σ) ⟨eqo_refl, fun _ _ => rfl, fun f p q => by omega⟩ ?_ ?_
  · intro i σi i0 i1 ⟨j1, j2, j3⟩
    have hMi : mir σi 1 w := mir_eq hM (fun c q1 q2 => j1 c 1 (by simp; omega))
    have gE : σi 24 j 2 = E := by rw [j2 2 (by omega)]; exact hE
    have gW : σi 24 j 1 = Wd := by rw [j2 1 (by omega)]; exact hWd
    have gm : σi 24 j 3 = c := by rw [j2 3 (by omega)]; exact hm
    have gL : σi 26 j = L := by rw [j1 26 j (by simp)]; exact hL0
    have o := wf_f hw (f := i) (by omega) (by omega)
    unfold wf_one at o
    by_cases cf : w_of w i 6 ≤ E
    · by_cases cr : p_fr w top i
      · have hT : ¬ p_end w E i → ∀ k, 0 ≤ k → k < w_of w i 7 → t_bd 9223372036854775807 w (σi 25 j) (w_of w i (8 + k)) := by
          intro ne k k0 k1
          have kk := wf_k hw (f := i) (i := k) (by omega) (by omega) k0 k1
          have nE : ¬ E ≤ w_of w i 6 := fun z => ne (Or.inr z)
          exact (j3 _ (by omega) (by omega) (fr_kid hw h0 cr (by omega) (by omega) k0 k1) (by omega)).2
        obtain ⟨r, σ', ⟨hr, e, k, oo, g, b⟩, x⟩ := x_ex (h_fillFork hMi hj hw (f := i) (by omega) (by omega) gm hc gW hW2 gE hE2 rfl gL hT (fun z y => hL i (by omega) (by omega) cr z y))
        subst hr
        refine ⟨σ', ⟨eqo_trans j1 e, fun q hq => by rw [k q hq, j2 q hq], ?_⟩, fun H => ?_⟩
        · intro f p q pr pf
          by_cases cs : f = i
          · subst cs
            exact ⟨g, b⟩
          · obtain ⟨g2, b2⟩ := j3 f (by omega) q pr pf
            have er : ∀ s, 0 ≤ s → s < 42 → σ' 25 j (42 * f + s) = σi 25 j (42 * f + s) := fun s s0 s1 => oo _ (by omega)
            have ek : k_eq w (σi 25 j) (σ' 25 j) f := by
              intro q2 p3 q3 s s0 s1
              have kk := wf_k hw (f := f) (i := q2) (by omega) q p3 q3
              exact oo _ (by omega)
            exact ⟨gr_cg hw (by omega) q er ek g2, fun s s0 s1 => by rw [er s s0 s1]; exact b2 s s0 s1⟩
        · rw [bk_1_1]
          simp (disch := first | omega | (simp only [x_wtI, x_wtJ, x_wtR, x_wtN]; omega) | assumption | (simp (disch := omega) only [x_st_o, x_rd_ne]; first | assumption | omega) | (apply mir_eq; assumption; (intro c h1 h2; simp (disch := omega) only [x_st_o])) | (apply mis_eq; assumption; (intro c h1 h2; simp (disch := omega) only [x_st_o])) | rfl) only [bk_1_0, bk_1_2, bk_1_3, wp_ald0, wr_24_0, wp_geti kd_6, wp_ic, wp_isub, wp_ist2, wp_fall, wp_ild2, wp_ild1, wp_iclt, wr_6_13, wl_13, wp_cald, wp_geti kd_24, wp_icgt, wk_65, wp_ifeq, wk_2, wp_inc2, wp_goto, wp_ret, x_clr_I, x_clr_J, x_clr_R, x_clr_U, ct_some, ct_none, lc_lt, lc_ge, lc_gt, lc_le, lc_eq, lc_r, xI_inj, xJ_inj, Option.some.injEq, eq_self, bi_r, bi_0, bi_1, bi_n, Classical.not_not, and_true, true_and, ite_true, ite_false, ↓reduceIte, ↓x_andl, z_le, z_nle, z_lt, z_nlt, z_eq, z_neq, if_pos, if_neg, x_andl, false_and, and_false, or_true, true_or, or_false, false_or, not_true, not_false_iff, x_rd_eq, x_rd_ne, x_st_o, Int.cast_ofNat_Int, Int.ofNat_zero, Int.ofNat_one, not_true_eq_false, not_false_eq_true, if_true, if_false, ite_self, and_self, Int.ofNat_eq_natCast, Int.tdiv_eq_ediv_of_nonneg, Int.tmod_eq_emod_of_nonneg, x_bm32, mi_far hMi, gE, k_isFrom hMi hw, bi_t]
          rw [show (4 : Nat) = 0 + 4 from rfl, x]
          simp (disch := first | omega | (simp only [x_wtI, x_wtJ, x_wtR, x_wtN]; omega) | assumption | (simp (disch := omega) only [x_st_o, x_rd_ne]; first | assumption | omega) | (apply mir_eq; assumption; (intro c h1 h2; simp (disch := omega) only [x_st_o])) | (apply mis_eq; assumption; (intro c h1 h2; simp (disch := omega) only [x_st_o])) | rfl) only [bk_1_0, bk_1_2, bk_1_3, wp_ald0, wr_24_0, wp_geti kd_6, wp_ic, wp_isub, wp_ist2, wp_fall, wp_ild2, wp_ild1, wp_iclt, wr_6_13, wl_13, wp_cald, wp_geti kd_24, wp_icgt, wk_65, wp_ifeq, wk_2, wp_inc2, wp_goto, wp_ret, x_clr_I, x_clr_J, x_clr_R, x_clr_U, ct_some, ct_none, lc_lt, lc_ge, lc_gt, lc_le, lc_eq, lc_r, xI_inj, xJ_inj, Option.some.injEq, eq_self, bi_r, bi_0, bi_1, bi_n, Classical.not_not, and_true, true_and, ite_true, ite_false, ↓reduceIte, ↓x_andl, z_le, z_nle, z_lt, z_nlt, z_eq, z_neq, if_pos, if_neg, x_andl, false_and, and_false, or_true, true_or, or_false, false_or, not_true, not_false_iff, x_rd_eq, x_rd_ne, x_st_o, Int.cast_ofNat_Int, Int.ofNat_zero, Int.ofNat_one, not_true_eq_false, not_false_eq_true, if_true, if_false, ite_self, and_self, Int.ofNat_eq_natCast, Int.tdiv_eq_ediv_of_nonneg, Int.tmod_eq_emod_of_nonneg, x_bm32]
          exact H
      · refine ⟨σi, ⟨j1, j2, ?_⟩, fun H => ?_⟩
        · intro f p q pr pf
          by_cases cs : f = i
          · subst cs
            exact absurd pr cr
          · exact j3 f (by omega) q pr pf
        · rw [bk_1_1]
          simp (disch := first | omega | (simp only [x_wtI, x_wtJ, x_wtR, x_wtN]; omega) | assumption | (simp (disch := omega) only [x_st_o, x_rd_ne]; first | assumption | omega) | (apply mir_eq; assumption; (intro c h1 h2; simp (disch := omega) only [x_st_o])) | (apply mis_eq; assumption; (intro c h1 h2; simp (disch := omega) only [x_st_o])) | rfl) only [bk_1_0, bk_1_2, bk_1_3, wp_ald0, wr_24_0, wp_geti kd_6, wp_ic, wp_isub, wp_ist2, wp_fall, wp_ild2, wp_ild1, wp_iclt, wr_6_13, wl_13, wp_cald, wp_geti kd_24, wp_icgt, wk_65, wp_ifeq, wk_2, wp_inc2, wp_goto, wp_ret, x_clr_I, x_clr_J, x_clr_R, x_clr_U, ct_some, ct_none, lc_lt, lc_ge, lc_gt, lc_le, lc_eq, lc_r, xI_inj, xJ_inj, Option.some.injEq, eq_self, bi_r, bi_0, bi_1, bi_n, Classical.not_not, and_true, true_and, ite_true, ite_false, ↓reduceIte, ↓x_andl, z_le, z_nle, z_lt, z_nlt, z_eq, z_neq, if_pos, if_neg, x_andl, false_and, and_false, or_true, true_or, or_false, false_or, not_true, not_false_iff, x_rd_eq, x_rd_ne, x_st_o, Int.cast_ofNat_Int, Int.ofNat_zero, Int.ofNat_one, not_true_eq_false, not_false_eq_true, if_true, if_false, ite_self, and_self, Int.ofNat_eq_natCast, Int.tdiv_eq_ediv_of_nonneg, Int.tmod_eq_emod_of_nonneg, x_bm32, mi_far hMi, gE, k_isFrom hMi hw, bi_f]
          exact H
    · refine ⟨σi, ⟨j1, j2, ?_⟩, fun H => ?_⟩
      · intro f p q pr pf
        by_cases cs : f = i
        · subst cs
          exact absurd pf cf
        · exact j3 f (by omega) q pr pf
      · rw [bk_1_1]
        simp (disch := first | omega | (simp only [x_wtI, x_wtJ, x_wtR, x_wtN]; omega) | assumption | (simp (disch := omega) only [x_st_o, x_rd_ne]; first | assumption | omega) | (apply mir_eq; assumption; (intro c h1 h2; simp (disch := omega) only [x_st_o])) | (apply mis_eq; assumption; (intro c h1 h2; simp (disch := omega) only [x_st_o])) | rfl) only [bk_1_0, bk_1_2, bk_1_3, wp_ald0, wr_24_0, wp_geti kd_6, wp_ic, wp_isub, wp_ist2, wp_fall, wp_ild2, wp_ild1, wp_iclt, wr_6_13, wl_13, wp_cald, wp_geti kd_24, wp_icgt, wk_65, wp_ifeq, wk_2, wp_inc2, wp_goto, wp_ret, x_clr_I, x_clr_J, x_clr_R, x_clr_U, ct_some, ct_none, lc_lt, lc_ge, lc_gt, lc_le, lc_eq, lc_r, xI_inj, xJ_inj, Option.some.injEq, eq_self, bi_r, bi_0, bi_1, bi_n, Classical.not_not, and_true, true_and, ite_true, ite_false, ↓reduceIte, ↓x_andl, z_le, z_nle, z_lt, z_nlt, z_eq, z_neq, if_pos, if_neg, x_andl, false_and, and_false, or_true, true_or, or_false, false_or, not_true, not_false_iff, x_rd_eq, x_rd_ne, x_st_o, Int.cast_ofNat_Int, Int.ofNat_zero, Int.ofNat_one, not_true_eq_false, not_false_eq_true, if_true, if_false, ite_self, and_self, Int.ofNat_eq_natCast, Int.tdiv_eq_ediv_of_nonneg, Int.tmod_eq_emod_of_nonneg, x_bm32, mi_far hMi, gE]
        exact H
  · intro σi ⟨j1, j2, j3⟩
    rw [bk_1_1]
    simp (disch := first | omega | (simp only [x_wtI, x_wtJ, x_wtR, x_wtN]; omega) | assumption | (simp (disch := omega) only [x_st_o, x_rd_ne]; first | assumption | omega) | (apply mir_eq; assumption; (intro c h1 h2; simp (disch := omega) only [x_st_o])) | (apply mis_eq; assumption; (intro c h1 h2; simp (disch := omega) only [x_st_o])) | rfl) only [bk_1_0, bk_1_2, bk_1_3, wp_ald0, wr_24_0, wp_geti kd_6, wp_ic, wp_isub, wp_ist2, wp_fall, wp_ild2, wp_ild1, wp_iclt, wr_6_13, wl_13, wp_cald, wp_geti kd_24, wp_icgt, wk_65, wp_ifeq, wk_2, wp_inc2, wp_goto, wp_ret, x_clr_I, x_clr_J, x_clr_R, x_clr_U, ct_some, ct_none, lc_lt, lc_ge, lc_gt, lc_le, lc_eq, lc_r, xI_inj, xJ_inj, Option.some.injEq, eq_self, bi_r, bi_0, bi_1, bi_n, Classical.not_not, and_true, true_and, ite_true, ite_false, ↓reduceIte, ↓x_andl, z_le, z_nle, z_lt, z_nlt, z_eq, z_neq, if_pos, if_neg, x_andl, false_and, and_false, or_true, true_or, or_false, false_or, not_true, not_false_iff, x_rd_eq, x_rd_ne, x_st_o, Int.cast_ofNat_Int, Int.ofNat_zero, Int.ofNat_one, not_true_eq_false, not_false_eq_true, if_true, if_false, ite_self, and_self, Int.ofNat_eq_natCast, Int.tdiv_eq_ediv_of_nonneg, Int.tmod_eq_emod_of_nonneg, x_bm32]
    exact hQ _ _ ⟨rfl, j1, j2, fun f p q pr pf => j3 f (by omega) q pr pf⟩

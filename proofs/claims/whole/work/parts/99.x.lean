/-! the ways of both sides are the same -/
def wg (a b : Int) : Prop := (a = (-9223372036854775808) ∧ b = 2147483647) ∨ (a = b ∧ ¬ a = (-9223372036854775808) ∧ ¬ b = 2147483647)
section WG
variable {w Ym Yc L Lc : Int → Int} {f t u : Int}
theorem wg_set (h : ∀ s, 0 ≤ s → s < 42 → wg (Ym (42 * f + s)) (Yc (42 * f + s))) : y_set (-9223372036854775808) w Ym f t u ↔ y_set 2147483647 w Yc f t u := by
  unfold y_set
  constructor
  · rintro ⟨st, wd, b, z, p1, p2, p3, p4, p5, p6⟩
    rcases h (21 * wd + st) (by omega) (by omega) with ⟨e, _⟩ | ⟨e, _, n⟩
    · exact absurd e p3
    · exact ⟨st, wd, b, z, p1, p2, n, p4, p5, by rw [← e]; exact p6⟩
  · rintro ⟨st, wd, b, z, p1, p2, p3, p4, p5, p6⟩
    rcases h (21 * wd + st) (by omega) (by omega) with ⟨_, e⟩ | ⟨e, n, _⟩
    · exact absurd e p3
    · exact ⟨st, wd, b, z, p1, p2, n, p4, p5, by rw [e]; exact p6⟩
theorem way_wg (hw : wf w) (hn : wn w) (hm : g_way (-9223372036854775808) w Ym) (hc : g_way 2147483647 w Yc) : ∀ f, w 8 ≤ f → f < w 0 → p_fr w (w 8) f → ∀ s, 0 ≤ s → s < 42 → wg (Ym (42 * f + s)) (Yc (42 * f + s)) := by
  have n8 := hn.1
  have gm : gwn (-9223372036854775808) w Ym (w 0) := ⟨hm.1, fun k k0 k1 fr _ => hm.2 k k0 k1 fr⟩
  have bm := gwn_b hw hn gm
  have key : ∀ m : Nat, ∀ f, f - w 8 < m → w 8 ≤ f → f < w 0 → p_fr w (w 8) f → ∀ s, 0 ≤ s → s < 42 → wg (Ym (42 * f + s)) (Yc (42 * f + s)) := by
    intro m
    induction m with
    | zero => intro f p q; omega
    | succ m ih =>
      intro f hm2 f0 f1 fr s s0 s1
      by_cases c : f = w 8
      · subst c
        rw [hm.1 s s0 s1, hc.1 s s0 s1]
        by_cases c2 : s = 21 * w 10 + w 9
        · rw [if_pos c2, if_pos c2]
          exact Or.inr ⟨rfl, by omega, by omega⟩
        · rw [if_neg c2, if_neg c2]
          exact Or.inl ⟨rfl, rfl⟩
      · have p := fr_par hw n8.1 fr c f1
        have i := ih (w_of w f 0) (by omega) p.2.2.2 (by omega) p.1
        have m1 := hm.2 f (by omega) f1 fr s s0 s1
        have m2 := hc.2 f (by omega) f1 fr s s0 s1
        rcases ml_tr m1 (ml_cg m2 (fun u => (wg_set (t := s) i).symm)) with ⟨z1, z2, _⟩ | ⟨z1, z2, _⟩
        · exact Or.inl ⟨z1, z2⟩
        · have pu := wf_f hw (f := w_of w f 0) (by omega) (by omega)
          unfold wf_one at pu
          have b := ys_b hw (by omega) (by omega) (bm (w_of w f 0) p.2.2.2 (by omega) p.1 (by
            by_cases cq : w_of w f 0 = w 8
            · exact Or.inl cq
            · have := (fr_par hw n8.1 p.1 cq (by omega)).2.2.1
              exact Or.inr (by omega))) z2
          exact Or.inr ⟨z1, by omega, by omega⟩
  exact fun f a b => key (f - w 8 + 1).toNat f (by omega) a b
theorem mwy_b (hw : wf w) (hn : wn w) (h : mwy w Ym L) : (∀ f, w 8 ≤ f → f < w 0 → p_fr w (w 8) f → ybg (-9223372036854775808) w Ym f) ∧ ∀ f, 0 ≤ f → f < w 0 → L f = (-9223372036854775808) ∨ (-150000 ≤ L f ∧ L f ≤ 150000) := by
  have n8 := hn.1
  have gm : gwn (-9223372036854775808) w Ym (w 0) := ⟨h.1.1, fun k k0 k1 fr _ => h.1.2 k k0 k1 fr⟩
  have bm : ∀ f, w 8 ≤ f → f < w 0 → p_fr w (w 8) f → ybg (-9223372036854775808) w Ym f := fun f f0 f1 fr => gwn_b hw hn gm f f0 f1 fr (by
    by_cases c : f = w 8
    · exact Or.inl c
    · have := (fr_par hw hn.1.1 fr c f1).2.2.1
      exact Or.inr (by omega))
  refine ⟨bm, fun f f0 f1 => ?_⟩
  by_cases c : p_fr w (w 8) f ∧ w_of w f 7 = 0
  · have ge : w 8 ≤ f := by
      by_cases q : f < w 8
      · exact absurd c.1 (fr_lt q)
      · omega
    have o := wf_f hw (f := f) f0 f1
    unfold wf_one at o
    rcases h.2.1 f ge f1 c.1 c.2 with ⟨z, _⟩ | ⟨⟨t, p, q⟩, _⟩
    · exact Or.inl z
    · have := ys_b hw f0 f1 (bm f ge f1 c.1) q
      exact Or.inr ⟨by omega, by omega⟩
  · exact Or.inl (h.2.2 f f0 f1 c)
theorem way_least (hw : wf w) (hn : wn w) (hm : mwy w Ym L) (hc : g_wayC w Yc Lc) {e : Int} (e0 : w 8 ≤ e) (e1 : e < w 0) (fr : p_fr w (w 8) e) (ke : w_of w e 7 = 0) : ((L e = (-9223372036854775808) ∧ Lc e = 0) ∧ ∀ u, ¬ y_end (-9223372036854775808) w Ym e u) ∨ (L e = Lc e ∧ ¬ L e = (-9223372036854775808) ∧ -150000 ≤ L e ∧ L e ≤ 150000) := by
  have n8 := hn.1
  have ag := way_wg hw hn hm.1 hc.1 e e0 e1 fr
  have m1 := hm.2.1 e e0 e1 fr ke
  obtain ⟨z, mz, ez⟩ := hc.2 e e0 e1 fr ke
  have same : ∀ u, y_end (-9223372036854775808) w Ym e u ↔ y_end 2147483647 w Yc e u := by
    intro u
    unfold y_end
    constructor
    · rintro ⟨t, p, q⟩
      exact ⟨t, p, (wg_set ag).mp q⟩
    · rintro ⟨t, p, q⟩
      exact ⟨t, p, (wg_set ag).mpr q⟩
  have b := (mwy_b hw hn hm).2 e (by omega) e1
  rcases ml_tr m1 (ml_cg mz (fun u => (same u).symm)) with ⟨z1, z2, z3⟩ | ⟨z1, ⟨t, p, q⟩, _⟩
  · rw [if_pos z2] at ez
    exact Or.inl ⟨⟨z1, ez⟩, z3⟩
  · have bq := ys_b hw (by omega) e1 ((mwy_b hw hn hm).1 e e0 e1 fr) q
    have o := wf_f hw (f := e) (by omega) e1
    unfold wf_one at o
    rw [if_neg (by omega)] at ez
    exact Or.inr ⟨by omega, by omega, by omega, by omega⟩
end WG
/-! what a table of the class holds, and that it agrees with the model's -/
def cT (c : Int) (w T L : Int → Int) : Prop := (∀ f, w 8 ≤ f → f < w 0 → p_fr w (w 8) f → g_row 9223372036854775807 c 5 4 w L T f ∧ t_bd 9223372036854775807 w T f) ∧ (c = 2 → ∃ Y, g_wayC w Y L)
theorem gr_bd {w T L : Int → Int} {c : Int} (hw : wf w) (hn : wn w) (hc : 0 ≤ c ∧ c ≤ 3) (hL : c = 2 → ∃ Y, g_wayC w Y L) (h : ∀ f, w 8 ≤ f → f < w 0 → p_fr w (w 8) f → g_row 9223372036854775807 c 5 4 w L T f) : cT c w T L := by
  have n8 := hn.1
  have key : ∀ n : Nat, ∀ f, w 0 - f ≤ n → w 8 ≤ f → f < w 0 → p_fr w (w 8) f → t_bd 9223372036854775807 w T f := by
    intro n
    induction n with
    | zero => intro f p _ q; omega
    | succ n ih =>
      intro f hn2 f0 f1 fr s s0 s1
      have z := h f f0 f1 fr (s % 21) (s / 21) (by omega) (by omega) (by omega) (by omega)
      rw [show 21 * (s / 21) + s % 21 = s by omega] at z
      rcases z with ⟨z, _⟩ | ⟨z, _⟩
      · exact Or.inl z
      · rw [← zst_val] at z
        obtain ⟨b, t, zz⟩ := z
        refine Or.inr (zst_bd hw (by omega) f1 ⟨by omega, by omega⟩ ⟨by omega, by omega⟩ (fun i i0 i1 => ?_) (fun c2 pe => ?_) hc zz)
        · have kk := wf_k hw (f := f) (i := i) (by omega) f1 i0 i1
          exact ih _ (by omega) (by omega) kk.2.1 (fr_kid hw n8.1 fr (by omega) f1 i0 i1)
        · obtain ⟨Y, hY⟩ := hL c2
          have o := wf_f hw (f := f) (by omega) f1
          unfold wf_one at o
          have := (wayC_b hw hn hY).2 f f0 f1 fr (pe.elim id (fun q => by omega))
          omega
  exact ⟨fun f f0 f1 fr => ⟨h f f0 f1 fr, key (w 0 - f).toNat f (by omega) f0 f1 fr⟩, hL⟩
theorem tab_ag {w T T2 L L2 Ym : Int → Int} {c : Int} (hw : wf w) (hn : wn w) (hc : 0 ≤ c ∧ c ≤ 2) (hG : gT c 5 4 (-1) w L T (w 8)) (hM : c = 2 → mwy w Ym L) (hC : cT c w T2 L2) : ∀ f, w 8 ≤ f → f < w 0 → p_fr w (w 8) f → ∀ st wd, 0 ≤ st → st ≤ 20 → 0 ≤ wd → wd ≤ 1 → (c = 2 → ¬ Ym (42 * f + (21 * wd + st)) = (-9223372036854775808)) → tg (T (42 * f + (21 * wd + st))) (T2 (42 * f + (21 * wd + st))) := by
  have n8 := hn.1
  have far4 : ∀ f, w 8 ≤ f → f < w 0 → w_of w f 6 ≤ 4 := by
    intro f f0 f1
    have o := wf_f hw (f := f) (by omega) f1
    unfold wf_one at o
    omega
  intro f f0 f1 fr
  refine tabs (Rc := fun f s => c = 2 → ¬ Ym (42 * f + s) = (-9223372036854775808)) (L := L) (L2 := L2) (E := 5) (Wd := 4) (ea := -1) hw n8.1 (by omega) hG ?_ ?_ ?_ f f0 f1 fr (by have := far4 f f0 f1; omega)
  · intro f f0 f1 fr _ st wd p q p2 q2
    exact Or.inr ⟨fun z => by omega, (hC.1 f f0 f1 fr).1 st wd p q p2 q2⟩
  · intro f st wd b t i f0 f1 fr p q p2 q2 rc l i0 i1 c2
    have kk := wf_k hw (f := f) (i := i) (by omega) f1 i0 i1
    have sb := sl_b hw (by omega) f1 ⟨p, q⟩ l
    have po := p_or_01 (a := wd) (b := b)
    have m := (hM c2).1.2 _ (by omega) kk.2.1 (fr_kid hw n8.1 fr (by omega) f1 i0 i1) (21 * p_or wd b + t) (by omega) (by omega)
    rw [kk.2.2.1] at m
    have y : y_set (-9223372036854775808) w Ym f (21 * p_or wd b + t) (Ym (42 * f + (21 * wd + st)) + p_cost w 5 f (t + w_of w f 5 - st) b t) := ⟨st, wd, b, t, ⟨p, q⟩, ⟨p2, q2⟩, rc c2, l, rfl, rfl⟩
    rcases m with ⟨_, z⟩ | ⟨z, _⟩
    · exact absurd y (z _)
    · have := ys_b hw (by omega) f1 ((mwy_b hw hn (hM c2)).1 f f0 f1 fr) z
      have := far4 f f0 f1
      omega
  · intro f st wd b t f0 f1 fr p q p2 q2 rc pe l
    have fz := far4 f f0 f1
    have kz : w_of w f 7 = 0 := pe.elim id (fun z => by omega)
    by_cases c2 : c = 2
    · have sb := sl_b hw (by omega) f1 ⟨p, q⟩ l
      have po := p_or_01 (a := wd) (b := b)
      obtain ⟨Y, hY⟩ := hC.2 c2
      have y : y_end (-9223372036854775808) w Ym f (Ym (42 * f + (21 * wd + st)) + p_cost w 5 f (t + w_of w f 5 - st) b t) := ⟨21 * p_or wd b + t, by omega, st, wd, b, t, ⟨p, q⟩, ⟨p2, q2⟩, rc c2, l, rfl, rfl⟩
      rcases way_least hw hn (hM c2) hY f0 f1 fr kz with ⟨_, z⟩ | ⟨z1, z2, z3⟩
      · exact absurd y (z _)
      · exact ⟨Or.inr (Or.inr z2), fun _ => ⟨z1.symm, by omega, by omega⟩⟩
    · exact ⟨Or.inl c2, fun z => absurd z c2⟩
theorem h_solveF {σ : x_S} {w : Int → Int} {c E Wd ea : Int} (h51 : σ 51 0 = w) (hE : σ 50 0 17 = E) (hWd : σ 50 0 18 = Wd) (hea : σ 50 0 19 = ea) (hw : wf w) (hn : wn w) (hE2 : 0 ≤ E ∧ E ≤ 100) (hW2 : 0 ≤ Wd ∧ Wd ≤ 100) (hea2 : -1 ≤ ea ∧ ea < 40) (hc : 0 ≤ c ∧ c ≤ 3) (hc5 : c = 2 → E = 5) : x_Sp 7 195 [xR 50 0, xI c] σ (fun r σ' => r = some (xJ (σ' 59 0 (42 * w 8 + (21 * w 10 + w 9)))) ∧ x_eqo [(59, 0), (60, 0), (61, 0)] σ σ' ∧ gT c E Wd ea w (σ' 60 0) (σ' 59 0) (w 8) ∧ (c = 2 → mwy w (σ' 61 0) (σ' 60 0))) := by
  refine x_gen (fun Q hQ => ?_)
  by_cases c2 : c = 2
  · have hE5 : σ 50 0 17 = 5 := by rw [hE]; exact hc5 c2
    subst c2
    simp (disch := first | omega | (simp only [x_wtI, x_wtJ, x_wtR, x_wtN]; omega) | assumption | (simp (disch := omega) only [x_st_o, x_rd_ne]; first | assumption | omega) | (apply mir_eq; assumption; (intro c h1 h2; simp (disch := omega) only [x_st_o])) | (apply mis_eq; assumption; (intro c h1 h2; simp (disch := omega) only [x_st_o])) | rfl) only [sp_195, bk_195_0, bk_195_2, bk_195_3, bk_195_4, bk_195_5, bk_195_6, bk_195_7, bk_195_8, bk_195_9, bk_195_10, wp_ild1, wp_ic, wp_icne, wp_ald0, wk_196, wp_fall, wr_50_1, wl_51, wp_cald, wp_isub, wp_ist2, wp_ild2, wp_iclt, wk_199, wp_ifeq, wk_192, wp_ifgt, wr_50_21, wl_59, wl_60, wp_pald, wp_lc, wp_lcmp, wp_goto, wp_ist3, wp_ist4, wp_ild4, wp_icge, wr_50_20, wp_imul, wp_iadd, wp_ild3, wk_204, ws_59, ws_60, wp_inc4, wp_inc2, wk_197, wp_lret, x_clr_I, x_clr_J, x_clr_R, x_clr_U, ct_some, ct_none, lc_lt, lc_ge, lc_gt, lc_le, lc_eq, lc_r, xI_inj, xJ_inj, Option.some.injEq, eq_self, bi_r, bi_0, bi_1, bi_n, Classical.not_not, and_true, true_and, ite_true, ite_false, ↓reduceIte, ↓x_andl, z_le, z_nle, z_lt, z_nlt, z_eq, z_neq, if_pos, if_neg, x_andl, false_and, and_false, or_true, true_or, or_false, false_or, not_true, not_false_iff, x_rd_eq, x_rd_ne, x_st_o, Int.cast_ofNat_Int, Int.ofNat_zero, Int.ofNat_one, not_true_eq_false, not_false_eq_true, if_true, if_false, ite_self, and_self, Int.ofNat_eq_natCast, Int.tdiv_eq_ediv_of_nonneg, Int.tmod_eq_emod_of_nonneg, x_bm32]
    refine x_use (d := 2) (h_findLeast h51 hE5 hw hn) ?_
    rintro r σ1 ⟨rfl, e1, m1⟩
    have g50 : σ1 50 0 = σ 50 0 := e1 50 0 (by simp)
    have b := (mwy_b hw hn m1).2
    simp (disch := first | omega | (simp only [x_wtI, x_wtJ, x_wtR, x_wtN]; omega) | assumption | (simp (disch := omega) only [x_st_o, x_rd_ne]; first | assumption | omega) | (apply mir_eq; assumption; (intro c h1 h2; simp (disch := omega) only [x_st_o])) | (apply mis_eq; assumption; (intro c h1 h2; simp (disch := omega) only [x_st_o])) | rfl) only [bk_195_0, bk_195_2, bk_195_3, bk_195_4, bk_195_5, bk_195_6, bk_195_7, bk_195_8, bk_195_9, bk_195_10, wp_ild1, wp_ic, wp_icne, wp_ald0, wk_196, wp_fall, wr_50_1, wl_51, wp_cald, wp_isub, wp_ist2, wp_ild2, wp_iclt, wk_199, wp_ifeq, wk_192, wp_ifgt, wr_50_21, wl_59, wl_60, wp_pald, wp_lc, wp_lcmp, wp_goto, wp_ist3, wp_ist4, wp_ild4, wp_icge, wr_50_20, wp_imul, wp_iadd, wp_ild3, wk_204, ws_59, ws_60, wp_inc4, wp_inc2, wk_197, wp_lret, x_clr_I, x_clr_J, x_clr_R, x_clr_U, ct_some, ct_none, lc_lt, lc_ge, lc_gt, lc_le, lc_eq, lc_r, xI_inj, xJ_inj, Option.some.injEq, eq_self, bi_r, bi_0, bi_1, bi_n, Classical.not_not, and_true, true_and, ite_true, ite_false, ↓reduceIte, ↓x_andl, z_le, z_nle, z_lt, z_nlt, z_eq, z_neq, if_pos, if_neg, x_andl, false_and, and_false, or_true, true_or, or_false, false_or, not_true, not_false_iff, x_rd_eq, x_rd_ne, x_st_o, Int.cast_ofNat_Int, Int.ofNat_zero, Int.ofNat_one, not_true_eq_false, not_false_eq_true, if_true, if_false, ite_self, and_self, Int.ofNat_eq_natCast, Int.tdiv_eq_ediv_of_nonneg, Int.tmod_eq_emod_of_nonneg, x_bm32]
    refine x_mono (h_solve (σ := σ1) (by rw [e1 51 0 (by simp)]; exact h51) (by rw [g50]; exact hE) (by rw [g50]; exact hWd) (by rw [g50]; exact hea) rfl hw hn hE2 hW2 hea2 hc (fun z => ⟨hc5 rfl, fun f f0 f1 => by have := b f f0 f1; omega⟩)) ?_
    rintro r σ2 ⟨rfl, e2, g2⟩
    refine hQ _ _ ⟨rfl, eqo_trans (eqo_mono (by simp) e1) (eqo_mono (by simp) e2), ?_, fun _ => ?_⟩
    · rw [e2 60 0 (by simp)]
      exact g2
    · rw [e2 60 0 (by simp), e2 61 0 (by simp)]
      exact m1
  · simp (disch := first | omega | (simp only [x_wtI, x_wtJ, x_wtR, x_wtN]; omega) | assumption | (simp (disch := omega) only [x_st_o, x_rd_ne]; first | assumption | omega) | (apply mir_eq; assumption; (intro c h1 h2; simp (disch := omega) only [x_st_o])) | (apply mis_eq; assumption; (intro c h1 h2; simp (disch := omega) only [x_st_o])) | rfl) only [sp_195, bk_195_0, bk_195_2, bk_195_3, bk_195_4, bk_195_5, bk_195_6, bk_195_7, bk_195_8, bk_195_9, bk_195_10, wp_ild1, wp_ic, wp_icne, wp_ald0, wk_196, wp_fall, wr_50_1, wl_51, wp_cald, wp_isub, wp_ist2, wp_ild2, wp_iclt, wk_199, wp_ifeq, wk_192, wp_ifgt, wr_50_21, wl_59, wl_60, wp_pald, wp_lc, wp_lcmp, wp_goto, wp_ist3, wp_ist4, wp_ild4, wp_icge, wr_50_20, wp_imul, wp_iadd, wp_ild3, wk_204, ws_59, ws_60, wp_inc4, wp_inc2, wk_197, wp_lret, x_clr_I, x_clr_J, x_clr_R, x_clr_U, ct_some, ct_none, lc_lt, lc_ge, lc_gt, lc_le, lc_eq, lc_r, xI_inj, xJ_inj, Option.some.injEq, eq_self, bi_r, bi_0, bi_1, bi_n, Classical.not_not, and_true, true_and, ite_true, ite_false, ↓reduceIte, ↓x_andl, z_le, z_nle, z_lt, z_nlt, z_eq, z_neq, if_pos, if_neg, x_andl, false_and, and_false, or_true, true_or, or_false, false_or, not_true, not_false_iff, x_rd_eq, x_rd_ne, x_st_o, Int.cast_ofNat_Int, Int.ofNat_zero, Int.ofNat_one, not_true_eq_false, not_false_eq_true, if_true, if_false, ite_self, and_self, Int.ofNat_eq_natCast, Int.tdiv_eq_ediv_of_nonneg, Int.tmod_eq_emod_of_nonneg, x_bm32]
    refine x_mono (h_solve (σ := σ) h51 hE hWd hea rfl hw hn hE2 hW2 hea2 hc (fun z => absurd z c2)) ?_
    rintro r σ2 ⟨rfl, e2, g2⟩
    refine hQ _ _ ⟨rfl, eqo_mono (by simp) e2, ?_, fun z => absurd z c2⟩
    rw [e2 60 0 (by simp)]
    exact g2

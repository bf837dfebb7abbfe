/-! the model reads all lines -/
def ME (σ : x_S) (b : Int → Int) (n : Int) (x' : PS) (fr' wo' : Int → Int) : Prop := (σ 50 0 12 = x'.1 ∧ σ 50 0 13 = x'.2.1) ∧ (0 ≤ x'.1 ∧ x'.1 ≤ 4) ∧ (x'.1 = 0 → σ 50 0 9 = tF b n x'.2.2 ∧ σ 56 0 = fr' ∧ σ 57 0 = wo')
theorem h_mread {b : Int → Int} {n p : Int} {Q : Option x_V → x_S → Prop} : ∀ (m : Nat) (A : Int) (σ : x_S) (fr td wo : Int → Int) (x' : PS) (fr' td' wo' : Int → Int), LR b n m A fr td wo x' fr' td' wo' → MS σ b n (0, -1, A) → σ 56 0 = fr → σ 58 0 = td → σ 57 0 = wo → dW fr → tdW td → (∀ σ' : x_S, mlF σ σ' → (0 ≤ σ' 56 0 0 ∧ σ' 56 0 0 ≤ 40) → ME σ' b n x' fr' wo' → x_Wp 10 174 (x_blk 174 4) [xR 50 0, xI p] [] σ' Q) → x_Wp 10 174 (x_blk 174 3) [xR 50 0, xI p] [] σ Q := by
  intro m
  induction m with
  | zero =>
    intro A σ fr td wo x' fr' td' wo' hR h e6 e8 e7 hW ht H
    obtain ⟨k0, rfl, rfl, rfl, rfl⟩ := hR
    obtain ⟨hB, ⟨h12, h13⟩, hc, hx, h10⟩ := id h
    obtain ⟨pr, hm, t9, t10, t8, t11⟩ := hx rfl
    have z12 : σ 50 0 12 = 0 := h12
    have t10' : σ 50 0 10 = 0 := t10.trans k0
    have kg := fun (d' : Nat) (Q' : Option x_V → x_S → Prop) => k_good (d := d') (σ := σ) (Q := Q') (by omega)
    simp only [if_pos z12] at kg
    have K := H σ mlF_r (by rw [e6]; exact dW_m hW) ⟨⟨h12, h13⟩, hc, fun _ => ⟨t9, e6, e7⟩⟩
    rw [bk_174_3]
    simp (disch := first | omega | (simp only [x_wtI, x_wtJ, x_wtR, x_wtN]; omega) | assumption | (simp (disch := omega) only [x_st_o, x_rd_ne]; first | assumption | omega) | (apply mir_eq; assumption; (intro c h1 h2; simp (disch := omega) only [x_st_o])) | (apply mis_eq; assumption; (intro c h1 h2; simp (disch := omega) only [x_st_o])) | rfl) only [bk_174_0, bk_174_1, bk_174_2, bk_174_5, bk_174_6, bk_174_7, bk_174_8, wp_ald0, wp_geti kd_50, wp_puti kd_50, wp_ic, wr_50_14, wk_167, wp_ist1, wp_fall, wp_ild1, wp_icge, wr_50_16, ws_58, wp_inc1, wp_goto, wk_175, wk_177, wp_ifeq, wk_178, wl_51, wl_56, wp_cald, wp_ifne, wk_182, wk_189, wp_iret mz_174, wr_50_1, ws_51, ws_56, x_clr_I, x_clr_J, x_clr_R, x_clr_U, ct_some, ct_none, lc_lt, lc_ge, lc_gt, lc_le, lc_eq, lc_r, xI_inj, xJ_inj, Option.some.injEq, eq_self, bi_r, bi_0, bi_1, bi_n, Classical.not_not, and_true, true_and, ite_true, ite_false, ↓reduceIte, ↓x_andl, z_le, z_nle, z_lt, z_nlt, z_eq, z_neq, if_pos, if_neg, x_andl, false_and, and_false, or_true, true_or, or_false, false_or, not_true, not_false_iff, x_rd_eq, x_rd_ne, x_st_o, Int.cast_ofNat_Int, Int.ofNat_zero, Int.ofNat_one, not_true_eq_false, not_false_eq_true, if_true, if_false, ite_self, and_self, Int.ofNat_eq_natCast, Int.tdiv_eq_ediv_of_nonneg, Int.tmod_eq_emod_of_nonneg, x_bm32, kg, t10']
    exact K
  | succ m ih =>
    intro A σ fr td wo x' fr' td' wo' hR h e6 e8 e7 hW ht H
    obtain ⟨k0, x1, fr1, td1, wo1, hL, hh⟩ := hR
    obtain ⟨hB, ⟨h12, h13⟩, hc, hx, h10⟩ := id h
    obtain ⟨pr, hm, t9, t10, t8, t11⟩ := hx rfl
    have z12 : σ 50 0 12 = 0 := h12
    have t10n : ¬ σ 50 0 10 = 0 := by rw [t10]; exact k0
    have kg := fun (d' : Nat) (Q' : Option x_V → x_S → Prop) => k_good (d := d') (σ := σ) (Q := Q') (by omega)
    simp only [if_pos z12] at kg
    obtain ⟨r1, σ1, ⟨hr1, f1, g1, m1, w1⟩, ev1⟩ := x_ex (h_mline h e6 e8 e7 hW ht hL)
    subst hr1
    have K : x_Wp 10 174 (x_blk 174 3) [xR 50 0, xI p] [] σ1 Q := by
      rcases hh with ⟨g, rfl, rfl, rfl, rfl⟩ | ⟨ex, dw, tw, hR⟩
      · obtain ⟨hB1, ⟨h121, h131⟩, hc1, hx1, h101⟩ := id m1
        have K := H σ1 f1 g1 ⟨⟨h121, h131⟩, hc1, fun z => absurd z g⟩
        have kg1 := fun (d' : Nat) (Q' : Option x_V → x_S → Prop) => k_good (d := d') (σ := σ1) (Q := Q') (by omega)
        simp only [if_neg (show ¬ σ1 50 0 12 = 0 by rw [h121]; exact g)] at kg1
        rw [bk_174_3]
        simp (disch := first | omega | (simp only [x_wtI, x_wtJ, x_wtR, x_wtN]; omega) | assumption | (simp (disch := omega) only [x_st_o, x_rd_ne]; first | assumption | omega) | (apply mir_eq; assumption; (intro c h1 h2; simp (disch := omega) only [x_st_o])) | (apply mis_eq; assumption; (intro c h1 h2; simp (disch := omega) only [x_st_o])) | rfl) only [bk_174_0, bk_174_1, bk_174_2, bk_174_5, bk_174_6, bk_174_7, bk_174_8, wp_ald0, wp_geti kd_50, wp_puti kd_50, wp_ic, wr_50_14, wk_167, wp_ist1, wp_fall, wp_ild1, wp_icge, wr_50_16, ws_58, wp_inc1, wp_goto, wk_175, wk_177, wp_ifeq, wk_178, wl_51, wl_56, wp_cald, wp_ifne, wk_182, wk_189, wp_iret mz_174, wr_50_1, ws_51, ws_56, x_clr_I, x_clr_J, x_clr_R, x_clr_U, ct_some, ct_none, lc_lt, lc_ge, lc_gt, lc_le, lc_eq, lc_r, xI_inj, xJ_inj, Option.some.injEq, eq_self, bi_r, bi_0, bi_1, bi_n, Classical.not_not, and_true, true_and, ite_true, ite_false, ↓reduceIte, ↓x_andl, z_le, z_nle, z_lt, z_nlt, z_eq, z_neq, if_pos, if_neg, x_andl, false_and, and_false, or_true, true_or, or_false, false_or, not_true, not_false_iff, x_rd_eq, x_rd_ne, x_st_o, Int.cast_ofNat_Int, Int.ofNat_zero, Int.ofNat_one, not_true_eq_false, not_false_eq_true, if_true, if_false, ite_self, and_self, Int.ofNat_eq_natCast, Int.tdiv_eq_ediv_of_nonneg, Int.tmod_eq_emod_of_nonneg, x_bm32, kg1]
        exact K
      · have x10 : x1.1 = 0 := by rw [ex]
        have w := w1 x10
        have m1' : MS σ1 b n (0, -1, x1.2.2) := by
          rw [ex] at m1
          exact m1
        exact ih x1.2.2 σ1 fr1 td1 wo1 x' fr' td' wo' hR m1' w.1 w.2.1 w.2.2 dw tw (fun σ' f' g' me => H σ' (mlF_t f1 f') g' me)
    clear ih H hh w1 hL
    rw [bk_174_3]
    simp (disch := first | omega | (simp only [x_wtI, x_wtJ, x_wtR, x_wtN]; omega) | assumption | (simp (disch := omega) only [x_st_o, x_rd_ne]; first | assumption | omega) | (apply mir_eq; assumption; (intro c h1 h2; simp (disch := omega) only [x_st_o])) | (apply mis_eq; assumption; (intro c h1 h2; simp (disch := omega) only [x_st_o])) | rfl) only [bk_174_0, bk_174_1, bk_174_2, bk_174_5, bk_174_6, bk_174_7, bk_174_8, wp_ald0, wp_geti kd_50, wp_puti kd_50, wp_ic, wr_50_14, wk_167, wp_ist1, wp_fall, wp_ild1, wp_icge, wr_50_16, ws_58, wp_inc1, wp_goto, wk_175, wk_177, wp_ifeq, wk_178, wl_51, wl_56, wp_cald, wp_ifne, wk_182, wk_189, wp_iret mz_174, wr_50_1, ws_51, ws_56, x_clr_I, x_clr_J, x_clr_R, x_clr_U, ct_some, ct_none, lc_lt, lc_ge, lc_gt, lc_le, lc_eq, lc_r, xI_inj, xJ_inj, Option.some.injEq, eq_self, bi_r, bi_0, bi_1, bi_n, Classical.not_not, and_true, true_and, ite_true, ite_false, ↓reduceIte, ↓x_andl, z_le, z_nle, z_lt, z_nlt, z_eq, z_neq, if_pos, if_neg, x_andl, false_and, and_false, or_true, true_or, or_false, false_or, not_true, not_false_iff, x_rd_eq, x_rd_ne, x_st_o, Int.cast_ofNat_Int, Int.ofNat_zero, Int.ofNat_one, not_true_eq_false, not_false_eq_true, if_true, if_false, ite_self, and_self, Int.ofNat_eq_natCast, Int.tdiv_eq_ediv_of_nonneg, Int.tmod_eq_emod_of_nonneg, x_bm32, kg]
    refine (ev1 0 _).mpr ?_
    simp (disch := first | omega | (simp only [x_wtI, x_wtJ, x_wtR, x_wtN]; omega) | assumption | (simp (disch := omega) only [x_st_o, x_rd_ne]; first | assumption | omega) | (apply mir_eq; assumption; (intro c h1 h2; simp (disch := omega) only [x_st_o])) | (apply mis_eq; assumption; (intro c h1 h2; simp (disch := omega) only [x_st_o])) | rfl) only [bk_174_0, bk_174_1, bk_174_2, bk_174_5, bk_174_6, bk_174_7, bk_174_8, wp_ald0, wp_geti kd_50, wp_puti kd_50, wp_ic, wr_50_14, wk_167, wp_ist1, wp_fall, wp_ild1, wp_icge, wr_50_16, ws_58, wp_inc1, wp_goto, wk_175, wk_177, wp_ifeq, wk_178, wl_51, wl_56, wp_cald, wp_ifne, wk_182, wk_189, wp_iret mz_174, wr_50_1, ws_51, ws_56, x_clr_I, x_clr_J, x_clr_R, x_clr_U, ct_some, ct_none, lc_lt, lc_ge, lc_gt, lc_le, lc_eq, lc_r, xI_inj, xJ_inj, Option.some.injEq, eq_self, bi_r, bi_0, bi_1, bi_n, Classical.not_not, and_true, true_and, ite_true, ite_false, ↓reduceIte, ↓x_andl, z_le, z_nle, z_lt, z_nlt, z_eq, z_neq, if_pos, if_neg, x_andl, false_and, and_false, or_true, true_or, or_false, false_or, not_true, not_false_iff, x_rd_eq, x_rd_ne, x_st_o, Int.cast_ofNat_Int, Int.ofNat_zero, Int.ofNat_one, not_true_eq_false, not_false_eq_true, if_true, if_false, ite_self, and_self, Int.ofNat_eq_natCast, Int.tdiv_eq_ediv_of_nonneg, Int.tmod_eq_emod_of_nonneg, x_bm32]
    exact K
/-! the sums of the chances are looked at -/
abbrev cBad (fr : Int → Int) (f : Int) : Prop := 0 < w_of fr f 7 ∧ ¬ w_sum fr f (w_of fr f 7).toNat = 100
def ccR (fr wo : Int → Int) : Nat → Int → Int × Int
  | 0, _ => (0, -1)
  | m + 1, f => if cBad fr f then (4, wo (w_of fr f 8)) else ccR fr wo m (f + 1)
theorem ccR_b {fr wo : Int → Int} : ∀ (m : Nat) (f : Int), ((ccR fr wo m f).1 = 0 ∧ (ccR fr wo m f).2 = -1 ∧ ∀ g, f ≤ g → g < f + m → ¬ cBad fr g) ∨ (ccR fr wo m f).1 = 4 := by
  intro m
  induction m with
  | zero => intro f; exact Or.inl ⟨rfl, rfl, fun g a c => by omega⟩
  | succ m ih =>
    intro f
    have e : ccR fr wo (m + 1) f = if cBad fr f then (4, wo (w_of fr f 8)) else ccR fr wo m (f + 1) := rfl
    rw [e]
    by_cases c : cBad fr f
    · rw [if_pos c]
      exact Or.inr rfl
    · rw [if_neg c]
      rcases ih (f + 1) with ⟨a1, a2, a3⟩ | a
      · refine Or.inl ⟨a1, a2, fun g g0 g1 => ?_⟩
        by_cases z : g = f
        · rw [z]
          exact c
        · exact a3 g (by omega) (by omega)
      · exact Or.inr a
theorem sum_b {w : Int → Int} {f : Int} (hw : wf w) (h0 : 0 ≤ f) (h1 : f < w 0) : ∀ n : Nat, (n : Int) ≤ w_of w f 7 → 0 ≤ w_sum w f n ∧ w_sum w f n ≤ 200 * n := by
  intro n
  induction n with
  | zero => intro _; exact ⟨Int.le_refl _, Int.le_refl _⟩
  | succ n ih =>
    intro hn
    have q := ih (by omega)
    have kk := wf_k hw (i := (n : Int)) h0 h1 (by omega) (by omega)
    have o := wf_f hw (f := w_of w f (8 + n)) (by omega) (by omega)
    unfold wf_one at o
    have e : w_sum w f (n + 1) = w_sum w f n + w_of w (w_of w f (8 + n)) 1 := rfl
    rw [e]
    omega
def rcp (σ σ' : x_S) : Prop := x_eqo [(3, 0)] σ σ' ∧ ∀ k, ¬ (k = 2 ∨ k = 3 ∨ k = 7) → σ' 3 0 k = σ 3 0 k
theorem c_sum {σ : x_S} {fr : Int → Int} {f : Int} {Q : Option x_V → x_S → Prop} (hM : mir σ 0 fr) (hw : wf fr) (hf : 0 ≤ f ∧ f < fr 0) : ∀ (m i : Nat), (i : Int) + m = w_of fr f 7 → x_Wp 4 40 (x_blk 40 3) [xR 3 0, xI f, xI (w_sum fr f (w_of fr f 7).toNat), xI (w_of fr f 7)] [] σ Q → x_Wp 4 40 (x_blk 40 2) [xR 3 0, xI f, xI (w_sum fr f i), xI (i : Int)] [] σ Q := by
  have mb := (wf_h hw).1
  have o := wf_f hw hf.1 hf.2
  unfold wf_one at o
  have k7 := mi_kids hM hf.1 hf.2
  intro m
  induction m with
  | zero =>
    intro i hi H
    have e : (w_of fr f 7).toNat = i := by omega
    have ei : (i : Int) = w_of fr f 7 := by omega
    rw [e] at H
    rw [ei]
    generalize w_sum fr f i = s at H
    generalize w_of fr f 7 = k at H k7 o
    rw [bk_40_2]
    simp (disch := first | omega | (simp only [x_wtI, x_wtJ, x_wtR, x_wtN]; omega) | assumption | (simp (disch := omega) only [x_st_o, x_rd_ne]; first | assumption | omega) | (apply mir_eq; assumption; (intro c h1 h2; simp (disch := omega) only [x_st_o])) | (apply mis_eq; assumption; (intro c h1 h2; simp (disch := omega) only [x_st_o])) | rfl) only [bk_40_0, bk_40_1, bk_40_4, bk_40_5, wp_ic, wp_ist1, wp_fall, wp_ild1, wp_ald0, wr_3_0, wp_geti kd_6, wp_icge, wp_geti kd_3, wp_ifne, wp_ist2, wp_ist3, wp_ild3, wr_6_14, wl_5, wl_8, wl_14, wp_cald, wp_ild2, wr_6_8, wk_61, wp_iadd, wp_inc3, wp_goto, wp_ifle, wp_iceq, wr_3_5, wp_puti kd_3, wk_33, wp_inc1, wp_ret, x_clr_I, x_clr_J, x_clr_R, x_clr_U, ct_some, ct_none, lc_lt, lc_ge, lc_gt, lc_le, lc_eq, lc_r, xI_inj, xJ_inj, Option.some.injEq, eq_self, bi_r, bi_0, bi_1, bi_n, Classical.not_not, and_true, true_and, ite_true, ite_false, ↓reduceIte, ↓x_andl, z_le, z_nle, z_lt, z_nlt, z_eq, z_neq, if_pos, if_neg, x_andl, false_and, and_false, or_true, true_or, or_false, false_or, not_true, not_false_iff, x_rd_eq, x_rd_ne, x_st_o, Int.cast_ofNat_Int, Int.ofNat_zero, Int.ofNat_one, not_true_eq_false, not_false_eq_true, if_true, if_false, ite_self, and_self, Int.ofNat_eq_natCast, Int.tdiv_eq_ediv_of_nonneg, Int.tmod_eq_emod_of_nonneg, x_bm32, k7]
    exact H
  | succ m ih =>
    intro i hi H
    have K := ih (i + 1) (by omega) H
    have es : w_sum fr f (i + 1) = w_sum fr f i + w_of fr (w_of fr f (8 + i)) 1 := rfl
    have sb := sum_b hw hf.1 hf.2 i (by omega)
    have kk := wf_k hw (i := (i : Int)) hf.1 hf.2 (by omega) (by omega)
    have ok := wf_f hw (f := w_of fr f (8 + i)) (by omega) kk.2.1
    unfold wf_one at ok
    have ek : p_kid fr f i = w_of fr f (8 + i) := if_pos ⟨hf, by omega, by omega⟩
    have ec := mi_chance (f := w_of fr f (8 + i)) hM (by omega) kk.2.1
    have ei : ((i + 1 : Nat) : Int) = (i : Int) + 1 := by omega
    have kd := fun (d' : Nat) (Q' : Option x_V → x_S → Prop) => k_kidAt (d := d') (Q := Q') (f := f) (i := (i : Int)) hM hw (by omega) (by omega) (by omega)
    rw [ek] at kd
    rw [ei, es] at K
    have ob := ok.2.1
    have c15 : w_of fr f 7 ≤ 5 := by omega
    generalize w_of fr (w_of fr f (8 + i)) 1 = c at K ec ob
    generalize w_sum fr f i = s at K sb
    generalize w_of fr f 7 = k at k7 hi c15
    have kk2 : f < w_of fr f (8 + i) ∧ w_of fr f (8 + i) < 40 := by omega
    clear o ok kk ek es
    generalize w_of fr f (8 + i) = g at kd ec kk2
    generalize (i : Int) = ii at K kd hi sb
    rw [bk_40_2]
    simp (disch := first | omega | (simp only [x_wtI, x_wtJ, x_wtR, x_wtN]; omega) | assumption | (simp (disch := omega) only [x_st_o, x_rd_ne]; first | assumption | omega) | (apply mir_eq; assumption; (intro c h1 h2; simp (disch := omega) only [x_st_o])) | (apply mis_eq; assumption; (intro c h1 h2; simp (disch := omega) only [x_st_o])) | rfl) only [bk_40_0, bk_40_1, bk_40_4, bk_40_5, wp_ic, wp_ist1, wp_fall, wp_ild1, wp_ald0, wr_3_0, wp_geti kd_6, wp_icge, wp_geti kd_3, wp_ifne, wp_ist2, wp_ist3, wp_ild3, wr_6_14, wl_5, wl_8, wl_14, wp_cald, wp_ild2, wr_6_8, wk_61, wp_iadd, wp_inc3, wp_goto, wp_ifle, wp_iceq, wr_3_5, wp_puti kd_3, wk_33, wp_inc1, wp_ret, x_clr_I, x_clr_J, x_clr_R, x_clr_U, ct_some, ct_none, lc_lt, lc_ge, lc_gt, lc_le, lc_eq, lc_r, xI_inj, xJ_inj, Option.some.injEq, eq_self, bi_r, bi_0, bi_1, bi_n, Classical.not_not, and_true, true_and, ite_true, ite_false, ↓reduceIte, ↓x_andl, z_le, z_nle, z_lt, z_nlt, z_eq, z_neq, if_pos, if_neg, x_andl, false_and, and_false, or_true, true_or, or_false, false_or, not_true, not_false_iff, x_rd_eq, x_rd_ne, x_st_o, Int.cast_ofNat_Int, Int.ofNat_zero, Int.ofNat_one, not_true_eq_false, not_false_eq_true, if_true, if_false, ite_self, and_self, Int.ofNat_eq_natCast, Int.tdiv_eq_ediv_of_nonneg, Int.tmod_eq_emod_of_nonneg, x_bm32, k7, kd, ec]
    exact K

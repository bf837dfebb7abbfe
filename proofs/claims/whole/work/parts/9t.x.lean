/-! at which change the step now is another one -/
def ansP (W : Int → Int → Int) (b0 t0 N v : Int) : Prop := (v = -1 ∧ ∀ m, 1 ≤ m → m ≤ N → pkw (W m) b0 t0) ∨ ((1 ≤ v ∧ v ≤ N) ∧ (∀ m, 1 ≤ m → m < v → pkw (W m) b0 t0) ∧ ∃ b t, pkw (W v) b t ∧ ¬ (b = b0 ∧ t = t0))
theorem ans_at {W : Int → Int → Int} {b0 t0 N v n : Int} (h : ansP W b0 t0 N v) (n1 : 1 ≤ n) (n2 : n ≤ N) (hv : v = -1 ∨ n ≤ v) : (¬ n = v ∧ pkw (W n) b0 t0) ∨ (n = v ∧ ∃ b t, pkw (W n) b t ∧ ¬ (b = b0 ∧ t = t0)) := by
  rcases h with ⟨z, y⟩ | ⟨z, y, x⟩
  · exact Or.inl ⟨by omega, y n n1 n2⟩
  · by_cases c : n = v
    · subst c
      exact Or.inr ⟨rfl, x⟩
    · exact Or.inl ⟨c, y n n1 (by omega)⟩
def w_rs (w : Int → Int) (f n : Int) : Int → Int := w_up w (16 + 13 * f + 2) (w_of w f 2 + n)
section RS
variable {w : Int → Int} {f n : Int}
theorem rs_wf (hw : wf w) (hq : wq w) (h0 : 0 ≤ f) (h1 : f < w 0) (hn : 0 ≤ n ∧ n ≤ 99) : wf (w_rs w f n) := by
  have o := wf_f hw h0 h1
  unfold wf_one at o
  have q := (hq f h0 h1).1
  exact wf_set hw h0 h1 (by omega) (by omega)
theorem rs_ws (h0 : 0 ≤ f) : ws w (w_rs w f n) := ⟨fun i hi => hd_up h0 (by omega) hi, fun g k _ _ k0 k1 _ k2 => of_nek (by omega) (by omega) k2⟩
theorem rs_z (hw : wf w) (h0 : 0 ≤ f) : ∀ g, 0 ≤ g → g < w 0 → ¬ g = f → ∀ (L T : Int → Int) st wd b t u, zst 9223372036854775807 0 5 4 (w_rs w f n) L T g st wd b t u ↔ zst 9223372036854775807 0 5 4 w L T g st wd b t u := fun g g0 g1 ne L T st wd b t u => zst_loc hw (rs_ws h0) g0 g1 (of_nef (by omega) (by omega) ne) (fun i i0 i1 => of_nek (by omega) (by omega) (by omega)) _ _ _ _ _ _ _ _ _ _ _
end RS
theorem pk_far {w W V0 L0 : Int → Int} {f b0 t0 low : Int} (hw : wf w) (hn : wn w) (hW : wf W) (s : ws w W) (hz : ∀ g, 0 ≤ g → g < w 0 → ¬ g = f → ∀ (L T : Int → Int) st wd b t u, zst 9223372036854775807 0 5 4 W L T g st wd b t u ↔ zst 9223372036854775807 0 5 4 w L T g st wd b t u) (nf : ¬ p_fr w (w 8) f) (rows : ∀ h, w 8 ≤ h → h < w 0 → p_fr w (w 8) h → g_row 9223372036854775807 0 5 4 w L0 V0 h) (hfl : fL (zst 9223372036854775807 0 5 4 w L0 V0 (w 8) (w 9) (w 10)) b0 t0 low) : pkw W b0 t0 := by
  obtain ⟨n8, n9, n10, _⟩ := id hn
  have e8 := s.1 8 (by omega)
  have e9 := s.1 9 (by omega)
  have e10 := s.1 10 (by omega)
  have e0 := s.1 0 (by omega)
  refine pk_of (L2 := L0) (V := V0) (u := low) hW (ws_n hw hn s) ?_ ?_
  · intro g p q gf
    rw [e8] at p gf
    rw [e0] at q
    have gf2 := (ws_fr hw s n8.1 (by omega) q).mp gf
    exact (gr_loc (fun st wd b t u => hz g (by omega) q (fun z => nf (by rw [← z]; exact gf2)) _ _ st wd b t u)).mpr (rows g (by omega) q gf2)
  · rw [e8, e9, e10]
    exact fL_cg hfl (fun b t u => hz (w 8) n8.1 n8.2 (fun z => nf (by rw [← z]; exact fr_self)) _ _ _ _ b t u)
section ORI
variable {L : Int} {S0 : Int → Int}
set_option maxHeartbeats 4000000 in
theorem h_riseM {σ : x_S} {w : Int → Int} {f b0 t0 v : Int} (hh : iN L S0 σ) (h51 : σ 51 0 = w) (h0 : 0 ≤ f) (h1 : f < w 0) (al : alv w) (p0 : pkw w b0 t0) (hv : ansP (w_rs w f) b0 t0 99 v) : x_Sp 999 259 [xR 50 0, xI f] σ (fun r2 σ2 => r2 = some (xI v) ∧ iN L S0 σ2) := by
  obtain ⟨w', h51', hw, h100, hn, hq, hM, hS⟩ := iN_w hh
  have ew : w' = w := h51'.symm.trans h51
  subst ew
  have a := wf_h hw
  unfold wf_hdr at a
  obtain ⟨n8, n9, n10, _⟩ := id hn
  have o := wf_f hw (f := w' 8) n8.1 n8.2
  unfold wf_one at o
  have of := wf_f hw h0 h1
  unfold wf_one at of
  have qf := (hq f h0 h1).1
  have m := hh.2.2.2.1
  simp (disch := first | omega | (simp only [x_wtI, x_wtJ, x_wtR, x_wtN]; omega) | assumption | (simp (disch := omega) only [x_st_o, x_rd_ne]; first | assumption | omega) | (apply mir_eq; assumption; (intro c h1 h2; simp (disch := omega) only [x_st_o])) | (apply mis_eq; assumption; (intro c h1 h2; simp (disch := omega) only [x_st_o])) | rfl) only [sp_259, bk_259_0, bk_259_1, bk_259_2, bk_259_4, bk_259_5, wp_ald0, wp_ild1, wk_191, wp_ifne, wp_ic, wp_iret mz_259, wk_195, wp_lst2, wp_lld2, wp_lc, wp_lcmp, wr_50_1, wl_51, wp_cald, wk_197, wk_209, wp_geti kd_50, wp_ist4, wp_ist5, wp_imul, wp_iadd, wp_ist6, wp_ild6, wp_ist7, wp_ist8, wp_ist9, wp_fall, wp_ild9, wp_icgt, wp_ild8, wp_icne, wp_ild7, ws_51, wp_ild4, wp_ild5, wk_258, wp_ifeq, wp_inc9, wp_goto, x_clr_I, x_clr_J, x_clr_R, x_clr_U, ct_some, ct_none, lc_lt, lc_ge, lc_gt, lc_le, lc_eq, lc_r, xI_inj, xJ_inj, Option.some.injEq, eq_self, bi_r, bi_0, bi_1, bi_n, Classical.not_not, and_true, true_and, ite_true, ite_false, ↓reduceIte, ↓x_andl, z_le, z_nle, z_lt, z_nlt, z_eq, z_neq, if_pos, if_neg, x_andl, false_and, and_false, or_true, true_or, or_false, false_or, not_true, not_false_iff, x_rd_eq, x_rd_ne, x_st_o, Int.cast_ofNat_Int, Int.ofNat_zero, Int.ofNat_one, not_true_eq_false, not_false_eq_true, if_true, if_false, ite_self, and_self, Int.ofNat_eq_natCast, Int.tdiv_eq_ediv_of_nonneg, Int.tmod_eq_emod_of_nonneg, x_bm32, k_isFork h51, bi_t]
  refine x_use (d := 991) (h_solveI (c := 0) hh (by omega)) ?_
  rintro r σ5 ⟨rfl, e5, hh5, g5, m5⟩
  rw [h51] at g5 m5 ⊢
  have g515 : σ5 51 0 = w' := (e5 51 0 (by simp)).trans h51
  have nv := al _ _ g5
  have fl := p0 _ _ g5
  have sb := sl_b hw n8.1 n8.2 n9 fl.1.1.1
  have hTk : ∀ q, 0 ≤ q → q < w_of w' (w' 8) 7 → t_bd (-9223372036854775808) w' (σ5 59 0) (w_of w' (w' 8) (8 + q)) := by
    intro q q0 q1
    have kk := wf_k hw (f := w' 8) (i := q) n8.1 n8.2 q0 q1
    exact (g5 _ (by omega) (by omega)).1
  have nb := zst_bd hw n8.1 n8.2 n9 n10 hTk (fun z => by omega) (by omega) fl.1
  have gp := gb_pos (k := w_of w' (w' 8) 6)
  generalize htn : σ5 59 0 (42 * w' 8 + (21 * w' 10 + w' 9)) = tn at fl nb nv
  simp (disch := first | omega | (simp only [x_wtI, x_wtJ, x_wtR, x_wtN]; omega) | assumption | (simp (disch := omega) only [x_st_o, x_rd_ne]; first | assumption | omega) | (apply mir_eq; assumption; (intro c h1 h2; simp (disch := omega) only [x_st_o])) | (apply mis_eq; assumption; (intro c h1 h2; simp (disch := omega) only [x_st_o])) | rfl) only [bk_259_0, bk_259_1, bk_259_2, bk_259_4, bk_259_5, wp_ald0, wp_ild1, wk_191, wp_ifne, wp_ic, wp_iret mz_259, wk_195, wp_lst2, wp_lld2, wp_lc, wp_lcmp, wr_50_1, wl_51, wp_cald, wk_197, wk_209, wp_geti kd_50, wp_ist4, wp_ist5, wp_imul, wp_iadd, wp_ist6, wp_ild6, wp_ist7, wp_ist8, wp_ist9, wp_fall, wp_ild9, wp_icgt, wp_ild8, wp_icne, wp_ild7, ws_51, wp_ild4, wp_ild5, wk_258, wp_ifeq, wp_inc9, wp_goto, x_clr_I, x_clr_J, x_clr_R, x_clr_U, ct_some, ct_none, lc_lt, lc_ge, lc_gt, lc_le, lc_eq, lc_r, xI_inj, xJ_inj, Option.some.injEq, eq_self, bi_r, bi_0, bi_1, bi_n, Classical.not_not, and_true, true_and, ite_true, ite_false, ↓reduceIte, ↓x_andl, z_le, z_nle, z_lt, z_nlt, z_eq, z_neq, if_pos, if_neg, x_andl, false_and, and_false, or_true, true_or, or_false, false_or, not_true, not_false_iff, x_rd_eq, x_rd_ne, x_st_o, Int.cast_ofNat_Int, Int.ofNat_zero, Int.ofNat_one, not_true_eq_false, not_false_eq_true, if_true, if_false, ite_self, and_self, Int.ofNat_eq_natCast, Int.tdiv_eq_ediv_of_nonneg, Int.tmod_eq_emod_of_nonneg, x_bm32, g515, k_stateNow]
  refine x_use (d := 992) (h_stepM (c := 0) hh5 g515 rfl rfl hw n8.1 n8.2 (by omega) n9 n10 hTk (fun z => by omega) (by omega) fl) ?_
  rintro r σ6 ⟨rfl, k6, hh6, x6, b6⟩
  have g516 : σ6 51 0 = w' := by rw [k6.1 51 0 (by simp)]; exact g515
  have m6 := hh6.2.2.2.1
  have wk : w' (16 + 13 * f + 2) = w_of w' f 2 := rfl
  have hx0 : 0 ≤ 16 + 13 * f + 2 ∧ 16 + 13 * f + 2 < 616 := by omega
  simp (disch := first | omega | (simp only [x_wtI, x_wtJ, x_wtR, x_wtN]; omega) | assumption | (simp (disch := omega) only [x_st_o, x_rd_ne]; first | assumption | omega) | (apply mir_eq; assumption; (intro c h1 h2; simp (disch := omega) only [x_st_o])) | (apply mis_eq; assumption; (intro c h1 h2; simp (disch := omega) only [x_st_o])) | rfl) only [bk_259_0, bk_259_1, bk_259_2, bk_259_4, bk_259_5, wp_ald0, wp_ild1, wk_191, wp_ifne, wp_ic, wp_iret mz_259, wk_195, wp_lst2, wp_lld2, wp_lc, wp_lcmp, wr_50_1, wl_51, wp_cald, wk_197, wk_209, wp_geti kd_50, wp_ist4, wp_ist5, wp_imul, wp_iadd, wp_ist6, wp_ild6, wp_ist7, wp_ist8, wp_ist9, wp_fall, wp_ild9, wp_icgt, wp_ild8, wp_icne, wp_ild7, ws_51, wp_ild4, wp_ild5, wk_258, wp_ifeq, wp_inc9, wp_goto, x_clr_I, x_clr_J, x_clr_R, x_clr_U, ct_some, ct_none, lc_lt, lc_ge, lc_gt, lc_le, lc_eq, lc_r, xI_inj, xJ_inj, Option.some.injEq, eq_self, bi_r, bi_0, bi_1, bi_n, Classical.not_not, and_true, true_and, ite_true, ite_false, ↓reduceIte, ↓x_andl, z_le, z_nle, z_lt, z_nlt, z_eq, z_neq, if_pos, if_neg, x_andl, false_and, and_false, or_true, true_or, or_false, false_or, not_true, not_false_iff, x_rd_eq, x_rd_ne, x_st_o, Int.cast_ofNat_Int, Int.ofNat_zero, Int.ofNat_one, not_true_eq_false, not_false_eq_true, if_true, if_false, ite_self, and_self, Int.ofNat_eq_natCast, Int.tdiv_eq_ediv_of_nonneg, Int.tmod_eq_emod_of_nonneg, x_bm32, x6, b6, g516, wk]
  obtain ⟨X, hX⟩ : ∃ X, X = t0 + w_of w' (w' 8) 5 - w' 9 := ⟨_, rfl⟩
  rw [← hX]
  generalize hwas : w_of w' f 2 = was at of qf
  have inv0 : ∀ σ' : x_S, x_eqo [(50, 0), (51, 0), (59, 0), (60, 0), (61, 0)] σ6 σ' → (∀ k, ¬ (k = 23 ∨ k = 24) → σ' 50 0 k = σ6 50 0 k) → (∀ i, ¬ i = 16 + 13 * f + 2 → σ' 51 0 i = w' i) → iN L S0 (x_st σ' 51 0 (16 + 13 * f + 2) was) := by
    intro σ' e k o
    have ee : (x_st σ' 51 0 (16 + 13 * f + 2) was) 51 0 = σ6 51 0 := by
      rw [g516]
      funext i
      by_cases z : i = 16 + 13 * f + 2
      · rw [z, x_rd_eq, ← hwas]
        rfl
      · rw [x_rd_ne (by omega)]
        exact o i z
    refine iN_scr hh6 (eqo_mono (S := [(50, 0), (59, 0), (60, 0), (61, 0)]) (by decide) ?_) ?_ ?_
    · intro c j hc
      by_cases z : c = 51 ∧ j = 0
      · obtain ⟨rfl, rfl⟩ := z
        exact ee
      · rw [x_st_o (by omega)]
        exact e c j (fun y => by
          simp only [List.mem_cons, Prod.mk.injEq, List.not_mem_nil, or_false] at y hc
          omega)
    · intro j k _ _ _
      rw [x_st_o (by omega), e 24 j (by simp)]
    · intro k' hk
      rw [x_st_o (by omega)]
      exact k k' (by omega)
  have exitM : ∀ (σ' : x_S) (n ls : Int), 1 ≤ n → n ≤ 100 → -1 ≤ ls → ls ≤ 99 → (n = 100 ∨ ¬ ls = -1) → iN L S0 (x_st σ' 51 0 (16 + 13 * f + 2) was) → x_Wp 999 259 (x_blk 259 3) [xR 50 0, xI f, xJ tn, xU, xI X, xI b0, xI (16 + 13 * f + 2), xI was, xI ls, xI n] [] σ' (fun r2 σ2 => r2 = some (xI ls) ∧ iN L S0 σ2) := by
    intro σ' n ls n1 n2 l1 l2 hx hi
    rw [bk_259_3]
    by_cases c : n = 100
    · simp (disch := first | omega | (simp only [x_wtI, x_wtJ, x_wtR, x_wtN]; omega) | assumption | (simp (disch := omega) only [x_st_o, x_rd_ne]; first | assumption | omega) | (apply mir_eq; assumption; (intro c h1 h2; simp (disch := omega) only [x_st_o])) | (apply mis_eq; assumption; (intro c h1 h2; simp (disch := omega) only [x_st_o])) | rfl) only [bk_259_0, bk_259_1, bk_259_2, bk_259_4, bk_259_5, wp_ald0, wp_ild1, wk_191, wp_ifne, wp_ic, wp_iret mz_259, wk_195, wp_lst2, wp_lld2, wp_lc, wp_lcmp, wr_50_1, wl_51, wp_cald, wk_197, wk_209, wp_geti kd_50, wp_ist4, wp_ist5, wp_imul, wp_iadd, wp_ist6, wp_ild6, wp_ist7, wp_ist8, wp_ist9, wp_fall, wp_ild9, wp_icgt, wp_ild8, wp_icne, wp_ild7, ws_51, wp_ild4, wp_ild5, wk_258, wp_ifeq, wp_inc9, wp_goto, x_clr_I, x_clr_J, x_clr_R, x_clr_U, ct_some, ct_none, lc_lt, lc_ge, lc_gt, lc_le, lc_eq, lc_r, xI_inj, xJ_inj, Option.some.injEq, eq_self, bi_r, bi_0, bi_1, bi_n, Classical.not_not, and_true, true_and, ite_true, ite_false, ↓reduceIte, ↓x_andl, z_le, z_nle, z_lt, z_nlt, z_eq, z_neq, if_pos, if_neg, x_andl, false_and, and_false, or_true, true_or, or_false, false_or, not_true, not_false_iff, x_rd_eq, x_rd_ne, x_st_o, Int.cast_ofNat_Int, Int.ofNat_zero, Int.ofNat_one, not_true_eq_false, not_false_eq_true, if_true, if_false, ite_self, and_self, Int.ofNat_eq_natCast, Int.tdiv_eq_ediv_of_nonneg, Int.tmod_eq_emod_of_nonneg, x_bm32]
      exact hi
    · have c2 : ¬ ls = -1 := by omega
      simp (disch := first | omega | (simp only [x_wtI, x_wtJ, x_wtR, x_wtN]; omega) | assumption | (simp (disch := omega) only [x_st_o, x_rd_ne]; first | assumption | omega) | (apply mir_eq; assumption; (intro c h1 h2; simp (disch := omega) only [x_st_o])) | (apply mis_eq; assumption; (intro c h1 h2; simp (disch := omega) only [x_st_o])) | rfl) only [bk_259_0, bk_259_1, bk_259_2, bk_259_4, bk_259_5, wp_ald0, wp_ild1, wk_191, wp_ifne, wp_ic, wp_iret mz_259, wk_195, wp_lst2, wp_lld2, wp_lc, wp_lcmp, wr_50_1, wl_51, wp_cald, wk_197, wk_209, wp_geti kd_50, wp_ist4, wp_ist5, wp_imul, wp_iadd, wp_ist6, wp_ild6, wp_ist7, wp_ist8, wp_ist9, wp_fall, wp_ild9, wp_icgt, wp_ild8, wp_icne, wp_ild7, ws_51, wp_ild4, wp_ild5, wk_258, wp_ifeq, wp_inc9, wp_goto, x_clr_I, x_clr_J, x_clr_R, x_clr_U, ct_some, ct_none, lc_lt, lc_ge, lc_gt, lc_le, lc_eq, lc_r, xI_inj, xJ_inj, Option.some.injEq, eq_self, bi_r, bi_0, bi_1, bi_n, Classical.not_not, and_true, true_and, ite_true, ite_false, ↓reduceIte, ↓x_andl, z_le, z_nle, z_lt, z_nlt, z_eq, z_neq, if_pos, if_neg, x_andl, false_and, and_false, or_true, true_or, or_false, false_or, not_true, not_false_iff, x_rd_eq, x_rd_ne, x_st_o, Int.cast_ofNat_Int, Int.ofNat_zero, Int.ofNat_one, not_true_eq_false, not_false_eq_true, if_true, if_false, ite_self, and_self, Int.ofNat_eq_natCast, Int.tdiv_eq_ediv_of_nonneg, Int.tmod_eq_emod_of_nonneg, x_bm32]
      exact hi
  have key : ∀ q : Nat, ∀ (n : Int) (σ' : x_S), n + q = 100 → 1 ≤ n → (v = -1 ∨ n ≤ v) → x_eqo [(50, 0), (51, 0), (59, 0), (60, 0), (61, 0)] σ6 σ' → (∀ k, ¬ (k = 23 ∨ k = 24) → σ' 50 0 k = σ6 50 0 k) → (∀ i, ¬ i = 16 + 13 * f + 2 → σ' 51 0 i = w' i) → x_Wp 999 259 (x_blk 259 3) [xR 50 0, xI f, xJ tn, xU, xI X, xI b0, xI (16 + 13 * f + 2), xI was, xI (-1), xI n] [] σ' (fun r2 σ2 => r2 = some (xI v) ∧ iN L S0 σ2) := by
    intro q
    induction q with
    | zero =>
      intro n σ' hn1 n1 hvn e k o
      have v1 : v = -1 := by
        rcases hv with ⟨z, _⟩ | ⟨z, _⟩
        · exact z
        · omega
      rw [v1]
      exact exitM σ' n (-1) n1 (by omega) (by omega) (by omega) (Or.inl (by omega)) (inv0 σ' e k o)
    | succ q ih =>
      intro n σ' hn1 n1 hvn e k o
      have n2 : n ≤ 99 := by omega
      have WW : (x_st σ' 51 0 (16 + 13 * f + 2) (was + n)) 51 0 = w_rs w' f n := by
        funext i
        unfold w_rs
        by_cases z : i = 16 + 13 * f + 2
        · rw [z, x_rd_eq, up_eq, hwas]
        · rw [x_rd_ne (by omega), up_ne z]
          exact o i z
      have s : ws w' (w_rs w' f n) := rs_ws h0
      have hWf := rs_wf (f := f) (n := n) hw hq h0 h1 (by omega)
      have hWn := ws_n hw hn s
      have eq1 : ∀ t1, t1 + w_of (w_rs w' f n) (w_rs w' f n 8) 5 - w_rs w' f n 9 = t1 + w_of w' (w' 8) 5 - w' 9 := by
        intro t1
        rw [s.1 8 (by omega), s.1 9 (by omega), s.2 (w' 8) 5 n8.1 (by omega) (by omega) (by omega) (by omega) (by omega)]
      have k' : ∀ k, (x_st σ' 51 0 (16 + 13 * f + 2) (was + n)) 50 0 k = σ' 50 0 k := fun k => by rw [x_st_o (by omega)]
      have mk : ∀ b1 t1, pkw (w_rs w' f n) b1 t1 → x_Sp 8 258 [xR 50 0, xI X, xI b0] (x_st σ' 51 0 (16 + 13 * f + 2) (was + n)) (fun r σ2 => r = some (xI (if t1 + w_of w' (w' 8) 5 - w' 9 = X ∧ b1 = b0 then 0 else 1)) ∧ x_eqo [(50, 0), (59, 0), (60, 0), (61, 0)] (x_st σ' 51 0 (16 + 13 * f + 2) (was + n)) σ2 ∧ ∀ k, ¬ (k = 23 ∨ k = 24) → σ2 50 0 k = σ' 50 0 k) := by
        intro b1 t1 hp
        refine x_use (d := 0) (h_isOther WW (by rw [k', k 17 (by omega)]; exact m6.1) (by rw [k', k 18 (by omega)]; exact m6.2.1) (by rw [k', k 19 (by omega)]; exact m6.2.2.1) hWf hWn hp (by omega) sb.1) ?_
        rintro r σ2 ⟨q1, q2, q3⟩
        rw [eq1] at q1
        exact ⟨q1, q2, fun k hk => by rw [q3 k hk, k']⟩
      have nx : ∀ σ2 : x_S, x_eqo [(50, 0), (59, 0), (60, 0), (61, 0)] (x_st σ' 51 0 (16 + 13 * f + 2) (was + n)) σ2 → x_eqo [(50, 0), (51, 0), (59, 0), (60, 0), (61, 0)] σ6 σ2 ∧ ∀ i, ¬ i = 16 + 13 * f + 2 → σ2 51 0 i = w' i := by
        intro σ2 e2
        refine ⟨eqo_trans e (eqo_trans (eqo_st (by simp) eqo_refl) (eqo_mono (by simp) e2)), fun i hi => ?_⟩
        rw [e2 51 0 (by simp), x_rd_ne (by omega)]
        exact o i hi
      rcases ans_at hv n1 n2 hvn with ⟨z1, z2⟩ | ⟨z1, b1, t1, z2, z3⟩
      · obtain ⟨r, σ2, ⟨hr, e2, k2⟩, ev⟩ := x_ex (mk b0 t0 z2)
        rw [if_pos ⟨hX.symm, rfl⟩] at hr
        subst hr
        obtain ⟨y1, y2⟩ := nx σ2 e2
        have K := ih (n + 1) σ2 (by omega) (by omega) (by omega) y1 (fun q hq => by rw [k2 q hq]; exact k q hq) y2
        rw [bk_259_3]
        simp (disch := first | omega | (simp only [x_wtI, x_wtJ, x_wtR, x_wtN]; omega) | assumption | (simp (disch := omega) only [x_st_o, x_rd_ne]; first | assumption | omega) | (apply mir_eq; assumption; (intro c h1 h2; simp (disch := omega) only [x_st_o])) | (apply mis_eq; assumption; (intro c h1 h2; simp (disch := omega) only [x_st_o])) | rfl) only [bk_259_0, bk_259_1, bk_259_2, bk_259_4, bk_259_5, wp_ald0, wp_ild1, wk_191, wp_ifne, wp_ic, wp_iret mz_259, wk_195, wp_lst2, wp_lld2, wp_lc, wp_lcmp, wr_50_1, wl_51, wp_cald, wk_197, wk_209, wp_geti kd_50, wp_ist4, wp_ist5, wp_imul, wp_iadd, wp_ist6, wp_ild6, wp_ist7, wp_ist8, wp_ist9, wp_fall, wp_ild9, wp_icgt, wp_ild8, wp_icne, wp_ild7, ws_51, wp_ild4, wp_ild5, wk_258, wp_ifeq, wp_inc9, wp_goto, x_clr_I, x_clr_J, x_clr_R, x_clr_U, ct_some, ct_none, lc_lt, lc_ge, lc_gt, lc_le, lc_eq, lc_r, xI_inj, xJ_inj, Option.some.injEq, eq_self, bi_r, bi_0, bi_1, bi_n, Classical.not_not, and_true, true_and, ite_true, ite_false, ↓reduceIte, ↓x_andl, z_le, z_nle, z_lt, z_nlt, z_eq, z_neq, if_pos, if_neg, x_andl, false_and, and_false, or_true, true_or, or_false, false_or, not_true, not_false_iff, x_rd_eq, x_rd_ne, x_st_o, Int.cast_ofNat_Int, Int.ofNat_zero, Int.ofNat_one, not_true_eq_false, not_false_eq_true, if_true, if_false, ite_self, and_self, Int.ofNat_eq_natCast, Int.tdiv_eq_ediv_of_nonneg, Int.tmod_eq_emod_of_nonneg, x_bm32]
        refine (ev 990 _).mpr ?_
        simp (disch := first | omega | (simp only [x_wtI, x_wtJ, x_wtR, x_wtN]; omega) | assumption | (simp (disch := omega) only [x_st_o, x_rd_ne]; first | assumption | omega) | (apply mir_eq; assumption; (intro c h1 h2; simp (disch := omega) only [x_st_o])) | (apply mis_eq; assumption; (intro c h1 h2; simp (disch := omega) only [x_st_o])) | rfl) only [bk_259_0, bk_259_1, bk_259_2, bk_259_4, bk_259_5, wp_ald0, wp_ild1, wk_191, wp_ifne, wp_ic, wp_iret mz_259, wk_195, wp_lst2, wp_lld2, wp_lc, wp_lcmp, wr_50_1, wl_51, wp_cald, wk_197, wk_209, wp_geti kd_50, wp_ist4, wp_ist5, wp_imul, wp_iadd, wp_ist6, wp_ild6, wp_ist7, wp_ist8, wp_ist9, wp_fall, wp_ild9, wp_icgt, wp_ild8, wp_icne, wp_ild7, ws_51, wp_ild4, wp_ild5, wk_258, wp_ifeq, wp_inc9, wp_goto, x_clr_I, x_clr_J, x_clr_R, x_clr_U, ct_some, ct_none, lc_lt, lc_ge, lc_gt, lc_le, lc_eq, lc_r, xI_inj, xJ_inj, Option.some.injEq, eq_self, bi_r, bi_0, bi_1, bi_n, Classical.not_not, and_true, true_and, ite_true, ite_false, ↓reduceIte, ↓x_andl, z_le, z_nle, z_lt, z_nlt, z_eq, z_neq, if_pos, if_neg, x_andl, false_and, and_false, or_true, true_or, or_false, false_or, not_true, not_false_iff, x_rd_eq, x_rd_ne, x_st_o, Int.cast_ofNat_Int, Int.ofNat_zero, Int.ofNat_one, not_true_eq_false, not_false_eq_true, if_true, if_false, ite_self, and_self, Int.ofNat_eq_natCast, Int.tdiv_eq_ediv_of_nonneg, Int.tmod_eq_emod_of_nonneg, x_bm32]
        exact K
      · obtain ⟨r, σ2, ⟨hr, e2, k2⟩, ev⟩ := x_ex (mk b1 t1 z2)
        rw [if_neg (fun y => z3 ⟨y.2, by omega⟩)] at hr
        subst hr
        obtain ⟨y1, y2⟩ := nx σ2 e2
        have K := exitM σ2 (n + 1) v (by omega) (by omega) (by omega) (by omega) (Or.inr (by omega)) (inv0 σ2 y1 (fun q hq => by rw [k2 q hq]; exact k q hq) y2)
        rw [← z1] at K ⊢
        rw [bk_259_3]
        simp (disch := first | omega | (simp only [x_wtI, x_wtJ, x_wtR, x_wtN]; omega) | assumption | (simp (disch := omega) only [x_st_o, x_rd_ne]; first | assumption | omega) | (apply mir_eq; assumption; (intro c h1 h2; simp (disch := omega) only [x_st_o])) | (apply mis_eq; assumption; (intro c h1 h2; simp (disch := omega) only [x_st_o])) | rfl) only [bk_259_0, bk_259_1, bk_259_2, bk_259_4, bk_259_5, wp_ald0, wp_ild1, wk_191, wp_ifne, wp_ic, wp_iret mz_259, wk_195, wp_lst2, wp_lld2, wp_lc, wp_lcmp, wr_50_1, wl_51, wp_cald, wk_197, wk_209, wp_geti kd_50, wp_ist4, wp_ist5, wp_imul, wp_iadd, wp_ist6, wp_ild6, wp_ist7, wp_ist8, wp_ist9, wp_fall, wp_ild9, wp_icgt, wp_ild8, wp_icne, wp_ild7, ws_51, wp_ild4, wp_ild5, wk_258, wp_ifeq, wp_inc9, wp_goto, x_clr_I, x_clr_J, x_clr_R, x_clr_U, ct_some, ct_none, lc_lt, lc_ge, lc_gt, lc_le, lc_eq, lc_r, xI_inj, xJ_inj, Option.some.injEq, eq_self, bi_r, bi_0, bi_1, bi_n, Classical.not_not, and_true, true_and, ite_true, ite_false, ↓reduceIte, ↓x_andl, z_le, z_nle, z_lt, z_nlt, z_eq, z_neq, if_pos, if_neg, x_andl, false_and, and_false, or_true, true_or, or_false, false_or, not_true, not_false_iff, x_rd_eq, x_rd_ne, x_st_o, Int.cast_ofNat_Int, Int.ofNat_zero, Int.ofNat_one, not_true_eq_false, not_false_eq_true, if_true, if_false, ite_self, and_self, Int.ofNat_eq_natCast, Int.tdiv_eq_ediv_of_nonneg, Int.tmod_eq_emod_of_nonneg, x_bm32]
        refine (ev 990 _).mpr ?_
        simp (disch := first | omega | (simp only [x_wtI, x_wtJ, x_wtR, x_wtN]; omega) | assumption | (simp (disch := omega) only [x_st_o, x_rd_ne]; first | assumption | omega) | (apply mir_eq; assumption; (intro c h1 h2; simp (disch := omega) only [x_st_o])) | (apply mis_eq; assumption; (intro c h1 h2; simp (disch := omega) only [x_st_o])) | rfl) only [bk_259_0, bk_259_1, bk_259_2, bk_259_4, bk_259_5, wp_ald0, wp_ild1, wk_191, wp_ifne, wp_ic, wp_iret mz_259, wk_195, wp_lst2, wp_lld2, wp_lc, wp_lcmp, wr_50_1, wl_51, wp_cald, wk_197, wk_209, wp_geti kd_50, wp_ist4, wp_ist5, wp_imul, wp_iadd, wp_ist6, wp_ild6, wp_ist7, wp_ist8, wp_ist9, wp_fall, wp_ild9, wp_icgt, wp_ild8, wp_icne, wp_ild7, ws_51, wp_ild4, wp_ild5, wk_258, wp_ifeq, wp_inc9, wp_goto, x_clr_I, x_clr_J, x_clr_R, x_clr_U, ct_some, ct_none, lc_lt, lc_ge, lc_gt, lc_le, lc_eq, lc_r, xI_inj, xJ_inj, Option.some.injEq, eq_self, bi_r, bi_0, bi_1, bi_n, Classical.not_not, and_true, true_and, ite_true, ite_false, ↓reduceIte, ↓x_andl, z_le, z_nle, z_lt, z_nlt, z_eq, z_neq, if_pos, if_neg, x_andl, false_and, and_false, or_true, true_or, or_false, false_or, not_true, not_false_iff, x_rd_eq, x_rd_ne, x_st_o, Int.cast_ofNat_Int, Int.ofNat_zero, Int.ofNat_one, not_true_eq_false, not_false_eq_true, if_true, if_false, ite_self, and_self, Int.ofNat_eq_natCast, Int.tdiv_eq_ediv_of_nonneg, Int.tmod_eq_emod_of_nonneg, x_bm32]
        exact K
  have vr : v = -1 ∨ 1 ≤ v := by
    rcases hv with ⟨z, _⟩ | ⟨z, _⟩
    · exact Or.inl z
    · exact Or.inr z.1
  exact key 99 1 σ6 (by omega) (by omega) vr eqo_refl (fun _ _ => rfl) (fun i _ => by rw [g516])
set_option maxHeartbeats 4000000 in
theorem h_riseC {σ2 : x_S} {w : Int → Int} {f b0 t0 low : Int} {Q : Option x_V → x_S → Prop} (hh : iN L S0 σ2) (h51 : σ2 51 0 = w) (h0 : 0 ≤ f) (h1 : f < w 0) (fr : p_fr w (w 8) f) (ha : σ2 24 3 1 = 4 ∧ σ2 24 3 2 = 5 ∧ σ2 24 3 3 = 0) (rows : ∀ h, w 8 ≤ h → h < w 0 → p_fr w (w 8) h → g_row 9223372036854775807 0 5 4 w (σ2 26 3) (σ2 25 3) h ∧ t_bd 9223372036854775807 w (σ2 25 3) h) (hb : 0 ≤ b0 ∧ b0 ≤ 1) (ht : 0 ≤ t0 ∧ t0 ≤ 20) (hfl : fL (zst 9223372036854775807 0 5 4 w (σ2 26 3) (σ2 25 3) (w 8) (w 9) (w 10)) b0 t0 low)
    (hQ : ∀ v σF, (-1 ≤ v ∧ v ≤ 99) → ansP (w_rs w f) b0 t0 99 v → x_f100 σ2 σF → iN L S0 σF → σF 51 0 = w → Q (some (xI v)) σF) : x_Wp 999 153 (x_blk 153 4) [xR 0 0, xI f, xR 6 1, xI (b0 * 21 + t0), xI (w_of w f 2), xI (-1), xI 1] [] σ2 Q := by
  obtain ⟨w', h51', hw, h100, hn, hq, hM, hS⟩ := iN_w hh
  have ew : w' = w := h51'.symm.trans h51
  subst ew
  have a := wf_h hw
  unfold wf_hdr at a
  obtain ⟨n8, n9, n10, _⟩ := id hn
  have of := wf_f hw h0 h1
  unfold wf_one at of
  have qf := (hq f h0 h1).1
  have p2 := mi_price hM h0 h1
  generalize hwas : w_of w' f 2 = was at of qf p2
  have fin : ∀ (σ : x_S), x_eqo [(9, 1), (24, 3), (25, 3), (27, 3), (28, 3)] σ2 σ → (∀ g, ¬ g = f → σ 9 1 g = σ2 9 1 g) → x_f100 σ2 (x_st σ 9 1 f was) ∧ iN L S0 (x_st σ 9 1 f was) ∧ (x_st σ 9 1 f was) 51 0 = w' := by
    intro σ e k9
    have ee : x_eqo [(24, 3), (25, 3), (27, 3), (28, 3)] σ2 (x_st σ 9 1 f was) := by
      intro c j hc
      by_cases z : c = 9 ∧ j = 1
      · obtain ⟨rfl, rfl⟩ := z
        funext i
        by_cases y : i = f
        · rw [y, x_rd_eq, p2]
        · rw [x_rd_ne (by omega)]
          exact k9 i y
      · rw [x_st_o (by omega)]
        exact e c j (fun y => by
          simp only [List.mem_cons, Prod.mk.injEq, List.not_mem_nil, or_false] at y hc
          omega)
    exact ⟨tr_100 ee, iN_tr hh ee, (ee 51 0 (by simp)).trans h51⟩
  have exitC : ∀ (σ : x_S) (n v : Int), 1 ≤ n → n ≤ 100 → -1 ≤ v → v ≤ 99 → (n = 100 ∨ ¬ v = -1) → Q (some (xI v)) (x_st σ 9 1 f was) → x_Wp 999 153 (x_blk 153 4) [xR 0 0, xI f, xR 6 1, xI (b0 * 21 + t0), xI was, xI v, xI n] [] σ Q := by
    intro σ n v n1 n2 l1 l2 hx hi
    rw [bk_153_4]
    by_cases c : n = 100
    · simp (disch := first | omega | (simp only [x_wtI, x_wtJ, x_wtR, x_wtN]; omega) | assumption | (simp (disch := omega) only [x_st_o, x_rd_ne]; first | assumption | omega) | (apply mir_eq; assumption; (intro c h1 h2; simp (disch := omega) only [x_st_o])) | (apply mis_eq; assumption; (intro c h1 h2; simp (disch := omega) only [x_st_o])) | rfl) only [bk_153_0, bk_153_1, bk_153_2, bk_153_3, bk_153_5, bk_153_6, bk_153_7, wp_ald0, wr_0_2, wr_20_0, wp_ast2, wp_ald2, wp_ild1, wk_60, wp_ifne, wp_ic, wp_iret mz_153, wk_133, wp_ifeq, wk_104, wp_lc, wp_lcmp, wp_fall, wk_151, wp_ist3, wr_6_9, wl_9, wp_cald, wp_ist4, wp_ist5, wp_ist6, wp_ild6, wp_icgt, wp_ild5, wp_icne, wp_ild4, wp_iadd, ws_9, wk_152, wp_ild3, wp_goto, wp_inc6, x_clr_I, x_clr_J, x_clr_R, x_clr_U, ct_some, ct_none, lc_lt, lc_ge, lc_gt, lc_le, lc_eq, lc_r, xI_inj, xJ_inj, Option.some.injEq, eq_self, bi_r, bi_0, bi_1, bi_n, Classical.not_not, and_true, true_and, ite_true, ite_false, ↓reduceIte, ↓x_andl, z_le, z_nle, z_lt, z_nlt, z_eq, z_neq, if_pos, if_neg, x_andl, false_and, and_false, or_true, true_or, or_false, false_or, not_true, not_false_iff, x_rd_eq, x_rd_ne, x_st_o, Int.cast_ofNat_Int, Int.ofNat_zero, Int.ofNat_one, not_true_eq_false, not_false_eq_true, if_true, if_false, ite_self, and_self, Int.ofNat_eq_natCast, Int.tdiv_eq_ediv_of_nonneg, Int.tmod_eq_emod_of_nonneg, x_bm32]
      exact hi
    · have c2 : ¬ v = -1 := by omega
      simp (disch := first | omega | (simp only [x_wtI, x_wtJ, x_wtR, x_wtN]; omega) | assumption | (simp (disch := omega) only [x_st_o, x_rd_ne]; first | assumption | omega) | (apply mir_eq; assumption; (intro c h1 h2; simp (disch := omega) only [x_st_o])) | (apply mis_eq; assumption; (intro c h1 h2; simp (disch := omega) only [x_st_o])) | rfl) only [bk_153_0, bk_153_1, bk_153_2, bk_153_3, bk_153_5, bk_153_6, bk_153_7, wp_ald0, wr_0_2, wr_20_0, wp_ast2, wp_ald2, wp_ild1, wk_60, wp_ifne, wp_ic, wp_iret mz_153, wk_133, wp_ifeq, wk_104, wp_lc, wp_lcmp, wp_fall, wk_151, wp_ist3, wr_6_9, wl_9, wp_cald, wp_ist4, wp_ist5, wp_ist6, wp_ild6, wp_icgt, wp_ild5, wp_icne, wp_ild4, wp_iadd, ws_9, wk_152, wp_ild3, wp_goto, wp_inc6, x_clr_I, x_clr_J, x_clr_R, x_clr_U, ct_some, ct_none, lc_lt, lc_ge, lc_gt, lc_le, lc_eq, lc_r, xI_inj, xJ_inj, Option.some.injEq, eq_self, bi_r, bi_0, bi_1, bi_n, Classical.not_not, and_true, true_and, ite_true, ite_false, ↓reduceIte, ↓x_andl, z_le, z_nle, z_lt, z_nlt, z_eq, z_neq, if_pos, if_neg, x_andl, false_and, and_false, or_true, true_or, or_false, false_or, not_true, not_false_iff, x_rd_eq, x_rd_ne, x_st_o, Int.cast_ofNat_Int, Int.ofNat_zero, Int.ofNat_one, not_true_eq_false, not_false_eq_true, if_true, if_false, ite_self, and_self, Int.ofNat_eq_natCast, Int.tdiv_eq_ediv_of_nonneg, Int.tmod_eq_emod_of_nonneg, x_bm32]
      exact hi
  have key : ∀ q : Nat, ∀ (n : Int) (σ : x_S), n + q = 100 → 1 ≤ n → x_eqo [(9, 1), (24, 3), (25, 3), (27, 3), (28, 3)] σ2 σ → (∀ k, ¬ (7 ≤ k ∧ k ≤ 9) → σ 24 3 k = σ2 24 3 k) → (∀ g, ¬ g = f → σ 9 1 g = σ2 9 1 g) → (∀ h, w' 8 < h → h < w' 0 → p_fr w' (w' 8) h → ¬ h = f → g_row 9223372036854775807 0 5 4 w' (σ2 26 3) (σ 25 3) h ∧ t_bd 9223372036854775807 w' (σ 25 3) h) → (∀ m, 1 ≤ m → m < n → pkw (w_rs w' f m) b0 t0) → x_Wp 999 153 (x_blk 153 4) [xR 0 0, xI f, xR 6 1, xI (b0 * 21 + t0), xI was, xI (-1), xI n] [] σ Q := by
    intro q
    induction q with
    | zero =>
      intro n σ hn1 n1 e k k9 hr hp
      obtain ⟨y1, y2, y3⟩ := fin σ e k9
      exact exitC σ n (-1) n1 (by omega) (by omega) (by omega) (Or.inl (by omega)) (hQ _ _ (by omega) (Or.inl ⟨rfl, fun m m1 m2 => hp m m1 (by omega)⟩) y1 y2 y3)
    | succ q ih =>
      intro n σ hn1 n1 e k k9 hr hp
      have n2 : n ≤ 99 := by omega
      have s : ws w' (w_rs w' f n) := rs_ws h0
      have hWf := rs_wf (f := f) (n := n) hw hq h0 h1 (by omega)
      generalize hσa : x_st σ 9 1 f (was + n) = σa
      have ea : x_eqo [(9, 1)] σ σa := by
        subst hσa
        exact eqo_st (by simp) eqo_refl
      have a9 : ∀ g, σa 9 1 g = if g = f then was + n else σ2 9 1 g := by
        intro g
        subst hσa
        by_cases z : g = f
        · rw [if_pos z, z, x_rd_eq]
        · rw [if_neg z, x_rd_ne (by omega)]
          exact k9 g z
      have hMa : mir σa 1 (w_rs w' f n) := by
        refine mir_ws hw hM s (fun c c6 c15 c8 c9 => ?_) (fun g g0 g1 => ?_) (fun g g0 g1 => ?_)
        · rw [ea c 1 (by simp; omega), e c 1 (by simp; omega)]
        · rw [ea 8 1 (by simp), e 8 1 (by simp), mi_chance hM g0 g1]
          exact (of_nek (by omega) (by omega) (by omega)).symm
        · rw [a9]
          by_cases z : g = f
          · rw [if_pos z, z, ← hwas]
            exact of_eq.symm
          · rw [if_neg z, mi_price hM g0 g1]
            exact (of_nef (by omega) (by omega) z).symm
      have hSa : mis σa 1 (w_rs w' f n) := by
        have b20 : σa 20 1 = σ2 20 1 := by rw [ea 20 1 (by simp), e 20 1 (by simp)]
        refine ⟨?_, fun g g0 g1 => ?_⟩
        · rw [b20, s.1 8 (by omega), s.1 9 (by omega), s.1 10 (by omega), s.1 11 (by omega), s.1 12 (by omega)]
          exact hS.1
        · rw [s.1 0 (by omega)] at g1
          rw [ea 21 1 (by simp), e 21 1 (by simp), ea 22 1 (by simp), e 22 1 (by simp)]
          unfold w_rs
          rw [up_ne (by omega), up_ne (by omega)]
          exact hS.2 g g0 g1
      have k24 : ∀ k, ¬ (7 ≤ k ∧ k ≤ 9) → σa 24 3 k = σ2 24 3 k := fun q hq => by rw [ea 24 3 (by simp)]; exact k q hq
      have a25 : σa 25 3 = σ 25 3 := ea 25 3 (by simp)
      have a26 : σa 26 3 = σ2 26 3 := by rw [ea 26 3 (by simp), e 26 3 (by simp)]
      obtain ⟨r, σb, ⟨eb, kb, rb, b, t, bb, tb, hr2, hpk⟩, ev⟩ := x_ex (h_try (σ := σa) (f := f) (V0 := σ2 25 3) (L0 := σ2 26 3) (b0 := b0) (t0 := t0) (low0 := low) hw hn hWf s (rs_z hw h0) hMa hSa h1 fr (by rw [k24 3 (by omega)]; exact ha.2.2) (by rw [k24 1 (by omega)]; exact ha.1) (by rw [k24 2 (by omega)]; exact ha.2.1) (fun h p q hf => (rows h (by omega) q hf).1) hfl.1 (fun h p q hf nf => by rw [a25, a26]; exact hr h p q hf nf))
      subst hr2
      rw [a26] at rb
      have e' : x_eqo [(9, 1), (24, 3), (25, 3), (27, 3), (28, 3)] σ2 σb := eqo_trans e (eqo_trans (eqo_mono (by simp) ea) (eqo_mono (by simp) eb))
      have k9' : ∀ g, ¬ g = f → σb 9 1 g = σ2 9 1 g := fun g hg => by rw [eb 9 1 (by simp), a9, if_neg hg]
      by_cases cp : b * 21 + t = b0 * 21 + t0
      · have ebt : b = b0 ∧ t = t0 := by omega
        rw [ebt.1, ebt.2] at hpk
        have K := ih (n + 1) σb (by omega) (by omega) e' (fun q hq => by rw [kb q hq]; exact k24 q hq) k9' rb (fun m m1 m2 => by
          by_cases z : m = n
          · rw [z]
            exact hpk
          · exact hp m m1 (by omega))
        rw [bk_153_4]
        simp (disch := first | omega | (simp only [x_wtI, x_wtJ, x_wtR, x_wtN]; omega) | assumption | (simp (disch := omega) only [x_st_o, x_rd_ne]; first | assumption | omega) | (apply mir_eq; assumption; (intro c h1 h2; simp (disch := omega) only [x_st_o])) | (apply mis_eq; assumption; (intro c h1 h2; simp (disch := omega) only [x_st_o])) | rfl) only [bk_153_0, bk_153_1, bk_153_2, bk_153_3, bk_153_5, bk_153_6, bk_153_7, wp_ald0, wr_0_2, wr_20_0, wp_ast2, wp_ald2, wp_ild1, wk_60, wp_ifne, wp_ic, wp_iret mz_153, wk_133, wp_ifeq, wk_104, wp_lc, wp_lcmp, wp_fall, wk_151, wp_ist3, wr_6_9, wl_9, wp_cald, wp_ist4, wp_ist5, wp_ist6, wp_ild6, wp_icgt, wp_ild5, wp_icne, wp_ild4, wp_iadd, ws_9, wk_152, wp_ild3, wp_goto, wp_inc6, x_clr_I, x_clr_J, x_clr_R, x_clr_U, ct_some, ct_none, lc_lt, lc_ge, lc_gt, lc_le, lc_eq, lc_r, xI_inj, xJ_inj, Option.some.injEq, eq_self, bi_r, bi_0, bi_1, bi_n, Classical.not_not, and_true, true_and, ite_true, ite_false, ↓reduceIte, ↓x_andl, z_le, z_nle, z_lt, z_nlt, z_eq, z_neq, if_pos, if_neg, x_andl, false_and, and_false, or_true, true_or, or_false, false_or, not_true, not_false_iff, x_rd_eq, x_rd_ne, x_st_o, Int.cast_ofNat_Int, Int.ofNat_zero, Int.ofNat_one, not_true_eq_false, not_false_eq_true, if_true, if_false, ite_self, and_self, Int.ofNat_eq_natCast, Int.tdiv_eq_ediv_of_nonneg, Int.tmod_eq_emod_of_nonneg, x_bm32, hσa]
        refine (ev 992 _).mpr ?_
        simp (disch := first | omega | (simp only [x_wtI, x_wtJ, x_wtR, x_wtN]; omega) | assumption | (simp (disch := omega) only [x_st_o, x_rd_ne]; first | assumption | omega) | (apply mir_eq; assumption; (intro c h1 h2; simp (disch := omega) only [x_st_o])) | (apply mis_eq; assumption; (intro c h1 h2; simp (disch := omega) only [x_st_o])) | rfl) only [bk_153_0, bk_153_1, bk_153_2, bk_153_3, bk_153_5, bk_153_6, bk_153_7, wp_ald0, wr_0_2, wr_20_0, wp_ast2, wp_ald2, wp_ild1, wk_60, wp_ifne, wp_ic, wp_iret mz_153, wk_133, wp_ifeq, wk_104, wp_lc, wp_lcmp, wp_fall, wk_151, wp_ist3, wr_6_9, wl_9, wp_cald, wp_ist4, wp_ist5, wp_ist6, wp_ild6, wp_icgt, wp_ild5, wp_icne, wp_ild4, wp_iadd, ws_9, wk_152, wp_ild3, wp_goto, wp_inc6, x_clr_I, x_clr_J, x_clr_R, x_clr_U, ct_some, ct_none, lc_lt, lc_ge, lc_gt, lc_le, lc_eq, lc_r, xI_inj, xJ_inj, Option.some.injEq, eq_self, bi_r, bi_0, bi_1, bi_n, Classical.not_not, and_true, true_and, ite_true, ite_false, ↓reduceIte, ↓x_andl, z_le, z_nle, z_lt, z_nlt, z_eq, z_neq, if_pos, if_neg, x_andl, false_and, and_false, or_true, true_or, or_false, false_or, not_true, not_false_iff, x_rd_eq, x_rd_ne, x_st_o, Int.cast_ofNat_Int, Int.ofNat_zero, Int.ofNat_one, not_true_eq_false, not_false_eq_true, if_true, if_false, ite_self, and_self, Int.ofNat_eq_natCast, Int.tdiv_eq_ediv_of_nonneg, Int.tmod_eq_emod_of_nonneg, x_bm32, cp]
        exact K
      · obtain ⟨y1, y2, y3⟩ := fin σb e' k9'
        have K := exitC σb (n + 1) n (by omega) (by omega) (by omega) (by omega) (Or.inr (by omega)) (hQ _ _ (by omega) (Or.inr ⟨by omega, hp, b, t, hpk, fun z => cp (by omega)⟩) y1 y2 y3)
        rw [bk_153_4]
        simp (disch := first | omega | (simp only [x_wtI, x_wtJ, x_wtR, x_wtN]; omega) | assumption | (simp (disch := omega) only [x_st_o, x_rd_ne]; first | assumption | omega) | (apply mir_eq; assumption; (intro c h1 h2; simp (disch := omega) only [x_st_o])) | (apply mis_eq; assumption; (intro c h1 h2; simp (disch := omega) only [x_st_o])) | rfl) only [bk_153_0, bk_153_1, bk_153_2, bk_153_3, bk_153_5, bk_153_6, bk_153_7, wp_ald0, wr_0_2, wr_20_0, wp_ast2, wp_ald2, wp_ild1, wk_60, wp_ifne, wp_ic, wp_iret mz_153, wk_133, wp_ifeq, wk_104, wp_lc, wp_lcmp, wp_fall, wk_151, wp_ist3, wr_6_9, wl_9, wp_cald, wp_ist4, wp_ist5, wp_ist6, wp_ild6, wp_icgt, wp_ild5, wp_icne, wp_ild4, wp_iadd, ws_9, wk_152, wp_ild3, wp_goto, wp_inc6, x_clr_I, x_clr_J, x_clr_R, x_clr_U, ct_some, ct_none, lc_lt, lc_ge, lc_gt, lc_le, lc_eq, lc_r, xI_inj, xJ_inj, Option.some.injEq, eq_self, bi_r, bi_0, bi_1, bi_n, Classical.not_not, and_true, true_and, ite_true, ite_false, ↓reduceIte, ↓x_andl, z_le, z_nle, z_lt, z_nlt, z_eq, z_neq, if_pos, if_neg, x_andl, false_and, and_false, or_true, true_or, or_false, false_or, not_true, not_false_iff, x_rd_eq, x_rd_ne, x_st_o, Int.cast_ofNat_Int, Int.ofNat_zero, Int.ofNat_one, not_true_eq_false, not_false_eq_true, if_true, if_false, ite_self, and_self, Int.ofNat_eq_natCast, Int.tdiv_eq_ediv_of_nonneg, Int.tmod_eq_emod_of_nonneg, x_bm32, hσa]
        refine (ev 992 _).mpr ?_
        simp (disch := first | omega | (simp only [x_wtI, x_wtJ, x_wtR, x_wtN]; omega) | assumption | (simp (disch := omega) only [x_st_o, x_rd_ne]; first | assumption | omega) | (apply mir_eq; assumption; (intro c h1 h2; simp (disch := omega) only [x_st_o])) | (apply mis_eq; assumption; (intro c h1 h2; simp (disch := omega) only [x_st_o])) | rfl) only [bk_153_0, bk_153_1, bk_153_2, bk_153_3, bk_153_5, bk_153_6, bk_153_7, wp_ald0, wr_0_2, wr_20_0, wp_ast2, wp_ald2, wp_ild1, wk_60, wp_ifne, wp_ic, wp_iret mz_153, wk_133, wp_ifeq, wk_104, wp_lc, wp_lcmp, wp_fall, wk_151, wp_ist3, wr_6_9, wl_9, wp_cald, wp_ist4, wp_ist5, wp_ist6, wp_ild6, wp_icgt, wp_ild5, wp_icne, wp_ild4, wp_iadd, ws_9, wk_152, wp_ild3, wp_goto, wp_inc6, x_clr_I, x_clr_J, x_clr_R, x_clr_U, ct_some, ct_none, lc_lt, lc_ge, lc_gt, lc_le, lc_eq, lc_r, xI_inj, xJ_inj, Option.some.injEq, eq_self, bi_r, bi_0, bi_1, bi_n, Classical.not_not, and_true, true_and, ite_true, ite_false, ↓reduceIte, ↓x_andl, z_le, z_nle, z_lt, z_nlt, z_eq, z_neq, if_pos, if_neg, x_andl, false_and, and_false, or_true, true_or, or_false, false_or, not_true, not_false_iff, x_rd_eq, x_rd_ne, x_st_o, Int.cast_ofNat_Int, Int.ofNat_zero, Int.ofNat_one, not_true_eq_false, not_false_eq_true, if_true, if_false, ite_self, and_self, Int.ofNat_eq_natCast, Int.tdiv_eq_ediv_of_nonneg, Int.tmod_eq_emod_of_nonneg, x_bm32]
        exact K
  exact key 99 1 σ2 (by omega) (by omega) eqo_refl (fun _ _ => rfl) (fun _ _ => rfl) (fun h p q hf nf => rows h (by omega) q hf) (fun m m1 m2 => by omega)
theorem o_rise : x_o38 (iN L S0) := by
  intro σ hh f hf
  refine ag_I ?_
  obtain ⟨w, h51, hw, h100, hn, hq, hM, hS⟩ := iN_w hh
  have a := wf_h hw
  unfold wf_hdr at a
  obtain ⟨n8, n9, n10, _⟩ := id hn
  by_cases cf : 0 ≤ f ∧ f < w 0
  · have of := wf_f hw cf.1 cf.2
    unfold wf_one at of
    by_cases fr : p_fr w (w 8) f
    · have ah : (0 ≤ f ∧ f < w 0) ∧ p_fr w (w 8) f := ⟨cf, fr⟩
      simp (disch := first | omega | (simp only [x_wtI, x_wtJ, x_wtR, x_wtN]; omega) | assumption | (simp (disch := omega) only [x_st_o, x_rd_ne]; first | assumption | omega) | (apply mir_eq; assumption; (intro c h1 h2; simp (disch := omega) only [x_st_o])) | (apply mis_eq; assumption; (intro c h1 h2; simp (disch := omega) only [x_st_o])) | rfl) only [sp_153, bk_153_0, bk_153_1, bk_153_2, bk_153_3, bk_153_5, bk_153_6, bk_153_7, wp_ald0, wr_0_2, wr_20_0, wp_ast2, wp_ald2, wp_ild1, wk_60, wp_ifne, wp_ic, wp_iret mz_153, wk_133, wp_ifeq, wk_104, wp_lc, wp_lcmp, wp_fall, wk_151, wp_ist3, wr_6_9, wl_9, wp_cald, wp_ist4, wp_ist5, wp_ist6, wp_ild6, wp_icgt, wp_ild5, wp_icne, wp_ild4, wp_iadd, ws_9, wk_152, wp_ild3, wp_goto, wp_inc6, x_clr_I, x_clr_J, x_clr_R, x_clr_U, ct_some, ct_none, lc_lt, lc_ge, lc_gt, lc_le, lc_eq, lc_r, xI_inj, xJ_inj, Option.some.injEq, eq_self, bi_r, bi_0, bi_1, bi_n, Classical.not_not, and_true, true_and, ite_true, ite_false, ↓reduceIte, ↓x_andl, z_le, z_nle, z_lt, z_nlt, z_eq, z_neq, if_pos, if_neg, x_andl, false_and, and_false, or_true, true_or, or_false, false_or, not_true, not_false_iff, x_rd_eq, x_rd_ne, x_st_o, Int.cast_ofNat_Int, Int.ofNat_zero, Int.ofNat_one, not_true_eq_false, not_false_eq_true, if_true, if_false, ite_self, and_self, Int.ofNat_eq_natCast, Int.tdiv_eq_ediv_of_nonneg, Int.tmod_eq_emod_of_nonneg, x_bm32, k_has hM, bi_t, k_isAhead hM hS hw hn, bi_t ah]
      refine x_use (d := 991) (h_leastNow (j := 0) hh (by omega) rfl) ?_
      rintro r σ1 ⟨rfl, tk, hh1, f1, ct⟩
      have g51 : σ1 51 0 = w := (tk.1 51 0 (by decide)).trans h51
      rw [h51] at ct ⊢
      have gp := gb_pos (k := w_of w (w 8) 6)
      have tb := (ct.1 (w 8) (Int.le_refl _) n8.2 fr_self).2 (21 * w 10 + w 9) (by omega) (by omega)
      have na : ∀ (T L' : Int → Int), gT 0 5 4 (-1) w L' T (w 8) → tg (T (42 * w 8 + (21 * w 10 + w 9))) (σ1 25 0 (42 * w 8 + (21 * w 10 + w 9))) := fun T L' gt => now_ag (Ym := w) hw hn (by omega) gt (fun z => by omega) ct
      by_cases cd : σ1 25 0 (42 * w 8 + (21 * w 10 + w 9)) = 9223372036854775807
      · rw [cd]
        simp (disch := first | omega | (simp only [x_wtI, x_wtJ, x_wtR, x_wtN]; omega) | assumption | (simp (disch := omega) only [x_st_o, x_rd_ne]; first | assumption | omega) | (apply mir_eq; assumption; (intro c h1 h2; simp (disch := omega) only [x_st_o])) | (apply mis_eq; assumption; (intro c h1 h2; simp (disch := omega) only [x_st_o])) | rfl) only [bk_153_0, bk_153_1, bk_153_2, bk_153_3, bk_153_5, bk_153_6, bk_153_7, wp_ald0, wr_0_2, wr_20_0, wp_ast2, wp_ald2, wp_ild1, wk_60, wp_ifne, wp_ic, wp_iret mz_153, wk_133, wp_ifeq, wk_104, wp_lc, wp_lcmp, wp_fall, wk_151, wp_ist3, wr_6_9, wl_9, wp_cald, wp_ist4, wp_ist5, wp_ist6, wp_ild6, wp_icgt, wp_ild5, wp_icne, wp_ild4, wp_iadd, ws_9, wk_152, wp_ild3, wp_goto, wp_inc6, x_clr_I, x_clr_J, x_clr_R, x_clr_U, ct_some, ct_none, lc_lt, lc_ge, lc_gt, lc_le, lc_eq, lc_r, xI_inj, xJ_inj, Option.some.injEq, eq_self, bi_r, bi_0, bi_1, bi_n, Classical.not_not, and_true, true_and, ite_true, ite_false, ↓reduceIte, ↓x_andl, z_le, z_nle, z_lt, z_nlt, z_eq, z_neq, if_pos, if_neg, x_andl, false_and, and_false, or_true, true_or, or_false, false_or, not_true, not_false_iff, x_rd_eq, x_rd_ne, x_st_o, Int.cast_ofNat_Int, Int.ofNat_zero, Int.ofNat_one, not_true_eq_false, not_false_eq_true, if_true, if_false, ite_self, and_self, Int.ofNat_eq_natCast, Int.tdiv_eq_ediv_of_nonneg, Int.tmod_eq_emod_of_nonneg, x_bm32]
        refine ⟨-1, rfl, tk_100 tk, ?_⟩
        simp (disch := first | omega | (simp only [x_wtI, x_wtJ, x_wtR, x_wtN]; omega) | assumption | (simp (disch := omega) only [x_st_o, x_rd_ne]; first | assumption | omega) | (apply mir_eq; assumption; (intro c h1 h2; simp (disch := omega) only [x_st_o])) | (apply mis_eq; assumption; (intro c h1 h2; simp (disch := omega) only [x_st_o])) | rfl) only [sp_259, bk_259_0, bk_259_1, bk_259_2, bk_259_4, bk_259_5, wp_ald0, wp_ild1, wk_191, wp_ifne, wp_ic, wp_iret mz_259, wk_195, wp_lst2, wp_lld2, wp_lc, wp_lcmp, wr_50_1, wl_51, wp_cald, wk_197, wk_209, wp_geti kd_50, wp_ist4, wp_ist5, wp_imul, wp_iadd, wp_ist6, wp_ild6, wp_ist7, wp_ist8, wp_ist9, wp_fall, wp_ild9, wp_icgt, wp_ild8, wp_icne, wp_ild7, ws_51, wp_ild4, wp_ild5, wk_258, wp_ifeq, wp_inc9, wp_goto, x_clr_I, x_clr_J, x_clr_R, x_clr_U, ct_some, ct_none, lc_lt, lc_ge, lc_gt, lc_le, lc_eq, lc_r, xI_inj, xJ_inj, Option.some.injEq, eq_self, bi_r, bi_0, bi_1, bi_n, Classical.not_not, and_true, true_and, ite_true, ite_false, ↓reduceIte, ↓x_andl, z_le, z_nle, z_lt, z_nlt, z_eq, z_neq, if_pos, if_neg, x_andl, false_and, and_false, or_true, true_or, or_false, false_or, not_true, not_false_iff, x_rd_eq, x_rd_ne, x_st_o, Int.cast_ofNat_Int, Int.ofNat_zero, Int.ofNat_one, not_true_eq_false, not_false_eq_true, if_true, if_false, ite_self, and_self, Int.ofNat_eq_natCast, Int.tdiv_eq_ediv_of_nonneg, Int.tmod_eq_emod_of_nonneg, x_bm32, k_isFork g51, bi_t]
        refine x_use (d := 991) (h_solveI (c := 0) hh1 (by omega)) ?_
        rintro r σ5 ⟨rfl, e5, hh5, g5, m5⟩
        rw [g51] at g5 m5 ⊢
        have e : σ5 59 0 (42 * w 8 + (21 * w 10 + w 9)) = (-9223372036854775808) := by
          rcases na _ _ g5 with ⟨z, _⟩ | ⟨_, _, z⟩
          · exact z
          · exact absurd cd z
        rw [e]
        simp (disch := first | omega | (simp only [x_wtI, x_wtJ, x_wtR, x_wtN]; omega) | assumption | (simp (disch := omega) only [x_st_o, x_rd_ne]; first | assumption | omega) | (apply mir_eq; assumption; (intro c h1 h2; simp (disch := omega) only [x_st_o])) | (apply mis_eq; assumption; (intro c h1 h2; simp (disch := omega) only [x_st_o])) | rfl) only [bk_259_0, bk_259_1, bk_259_2, bk_259_4, bk_259_5, wp_ald0, wp_ild1, wk_191, wp_ifne, wp_ic, wp_iret mz_259, wk_195, wp_lst2, wp_lld2, wp_lc, wp_lcmp, wr_50_1, wl_51, wp_cald, wk_197, wk_209, wp_geti kd_50, wp_ist4, wp_ist5, wp_imul, wp_iadd, wp_ist6, wp_ild6, wp_ist7, wp_ist8, wp_ist9, wp_fall, wp_ild9, wp_icgt, wp_ild8, wp_icne, wp_ild7, ws_51, wp_ild4, wp_ild5, wk_258, wp_ifeq, wp_inc9, wp_goto, x_clr_I, x_clr_J, x_clr_R, x_clr_U, ct_some, ct_none, lc_lt, lc_ge, lc_gt, lc_le, lc_eq, lc_r, xI_inj, xJ_inj, Option.some.injEq, eq_self, bi_r, bi_0, bi_1, bi_n, Classical.not_not, and_true, true_and, ite_true, ite_false, ↓reduceIte, ↓x_andl, z_le, z_nle, z_lt, z_nlt, z_eq, z_neq, if_pos, if_neg, x_andl, false_and, and_false, or_true, true_or, or_false, false_or, not_true, not_false_iff, x_rd_eq, x_rd_ne, x_st_o, Int.cast_ofNat_Int, Int.ofNat_zero, Int.ofNat_one, not_true_eq_false, not_false_eq_true, if_true, if_false, ite_self, and_self, Int.ofNat_eq_natCast, Int.tdiv_eq_ediv_of_nonneg, Int.tmod_eq_emod_of_nonneg, x_bm32]
        exact hh5
      · have al : alv w := by
          intro T L' gt z
          rcases na T L' gt with ⟨_, y⟩ | ⟨_, y, _⟩
          · exact cd y
          · exact y z
        have tb2 := tb.resolve_left cd
        generalize hat : σ1 25 0 (42 * w 8 + (21 * w 10 + w 9)) = at0 at tb2
        have nd : ¬ at0 = 9223372036854775807 := by omega
        simp (disch := first | omega | (simp only [x_wtI, x_wtJ, x_wtR, x_wtN]; omega) | assumption | (simp (disch := omega) only [x_st_o, x_rd_ne]; first | assumption | omega) | (apply mir_eq; assumption; (intro c h1 h2; simp (disch := omega) only [x_st_o])) | (apply mis_eq; assumption; (intro c h1 h2; simp (disch := omega) only [x_st_o])) | rfl) only [bk_153_0, bk_153_1, bk_153_2, bk_153_3, bk_153_5, bk_153_6, bk_153_7, wp_ald0, wr_0_2, wr_20_0, wp_ast2, wp_ald2, wp_ild1, wk_60, wp_ifne, wp_ic, wp_iret mz_153, wk_133, wp_ifeq, wk_104, wp_lc, wp_lcmp, wp_fall, wk_151, wp_ist3, wr_6_9, wl_9, wp_cald, wp_ist4, wp_ist5, wp_ist6, wp_ild6, wp_icgt, wp_ild5, wp_icne, wp_ild4, wp_iadd, ws_9, wk_152, wp_ild3, wp_goto, wp_inc6, x_clr_I, x_clr_J, x_clr_R, x_clr_U, ct_some, ct_none, lc_lt, lc_ge, lc_gt, lc_le, lc_eq, lc_r, xI_inj, xJ_inj, Option.some.injEq, eq_self, bi_r, bi_0, bi_1, bi_n, Classical.not_not, and_true, true_and, ite_true, ite_false, ↓reduceIte, ↓x_andl, z_le, z_nle, z_lt, z_nlt, z_eq, z_neq, if_pos, if_neg, x_andl, false_and, and_false, or_true, true_or, or_false, false_or, not_true, not_false_iff, x_rd_eq, x_rd_ne, x_st_o, Int.cast_ofNat_Int, Int.ofNat_zero, Int.ofNat_one, not_true_eq_false, not_false_eq_true, if_true, if_false, ite_self, and_self, Int.ofNat_eq_natCast, Int.tdiv_eq_ediv_of_nonneg, Int.tmod_eq_emod_of_nonneg, x_bm32]
        refine x_use (d := 991) (h_begin hh1 g51 (f1 rfl) al) ?_
        rintro r σ2 ⟨f2, hh2, g512, ha, rows, b0, t0, low, hb, ht, hr, hfl⟩
        subst hr
        obtain ⟨w2, h512, _, _, _, _, hM2, hS2⟩ := iN_w hh2
        have ew : w2 = w := h512.symm.trans g512
        subst ew
        simp (disch := first | omega | (simp only [x_wtI, x_wtJ, x_wtR, x_wtN]; omega) | assumption | (simp (disch := omega) only [x_st_o, x_rd_ne]; first | assumption | omega) | (apply mir_eq; assumption; (intro c h1 h2; simp (disch := omega) only [x_st_o])) | (apply mis_eq; assumption; (intro c h1 h2; simp (disch := omega) only [x_st_o])) | rfl) only [bk_153_0, bk_153_1, bk_153_2, bk_153_3, bk_153_5, bk_153_6, bk_153_7, wp_ald0, wr_0_2, wr_20_0, wp_ast2, wp_ald2, wp_ild1, wk_60, wp_ifne, wp_ic, wp_iret mz_153, wk_133, wp_ifeq, wk_104, wp_lc, wp_lcmp, wp_fall, wk_151, wp_ist3, wr_6_9, wl_9, wp_cald, wp_ist4, wp_ist5, wp_ist6, wp_ild6, wp_icgt, wp_ild5, wp_icne, wp_ild4, wp_iadd, ws_9, wk_152, wp_ild3, wp_goto, wp_inc6, x_clr_I, x_clr_J, x_clr_R, x_clr_U, ct_some, ct_none, lc_lt, lc_ge, lc_gt, lc_le, lc_eq, lc_r, xI_inj, xJ_inj, Option.some.injEq, eq_self, bi_r, bi_0, bi_1, bi_n, Classical.not_not, and_true, true_and, ite_true, ite_false, ↓reduceIte, ↓x_andl, z_le, z_nle, z_lt, z_nlt, z_eq, z_neq, if_pos, if_neg, x_andl, false_and, and_false, or_true, true_or, or_false, false_or, not_true, not_false_iff, x_rd_eq, x_rd_ne, x_st_o, Int.cast_ofNat_Int, Int.ofNat_zero, Int.ofNat_one, not_true_eq_false, not_false_eq_true, if_true, if_false, ite_self, and_self, Int.ofNat_eq_natCast, Int.tdiv_eq_ediv_of_nonneg, Int.tmod_eq_emod_of_nonneg, x_bm32, mi_price hM2]
        refine h_riseC hh2 g512 cf.1 cf.2 fr ha rows hb ht hfl ?_
        intro v σF vb hans fF hhF gF
        refine ⟨v, rfl, fun j i => by rw [fF j i, f2 j i, tk_100 tk j i], h_riseM hhF gF cf.1 cf.2 al ?_ hans⟩
        exact pk_of hw hn (fun h p q hf => (rows h (by omega) q hf).1) hfl
    · have ah : ¬ ((0 ≤ f ∧ f < w 0) ∧ p_fr w (w 8) f) := fun z => fr z.2
      simp (disch := first | omega | (simp only [x_wtI, x_wtJ, x_wtR, x_wtN]; omega) | assumption | (simp (disch := omega) only [x_st_o, x_rd_ne]; first | assumption | omega) | (apply mir_eq; assumption; (intro c h1 h2; simp (disch := omega) only [x_st_o])) | (apply mis_eq; assumption; (intro c h1 h2; simp (disch := omega) only [x_st_o])) | rfl) only [sp_153, bk_153_0, bk_153_1, bk_153_2, bk_153_3, bk_153_5, bk_153_6, bk_153_7, wp_ald0, wr_0_2, wr_20_0, wp_ast2, wp_ald2, wp_ild1, wk_60, wp_ifne, wp_ic, wp_iret mz_153, wk_133, wp_ifeq, wk_104, wp_lc, wp_lcmp, wp_fall, wk_151, wp_ist3, wr_6_9, wl_9, wp_cald, wp_ist4, wp_ist5, wp_ist6, wp_ild6, wp_icgt, wp_ild5, wp_icne, wp_ild4, wp_iadd, ws_9, wk_152, wp_ild3, wp_goto, wp_inc6, x_clr_I, x_clr_J, x_clr_R, x_clr_U, ct_some, ct_none, lc_lt, lc_ge, lc_gt, lc_le, lc_eq, lc_r, xI_inj, xJ_inj, Option.some.injEq, eq_self, bi_r, bi_0, bi_1, bi_n, Classical.not_not, and_true, true_and, ite_true, ite_false, ↓reduceIte, ↓x_andl, z_le, z_nle, z_lt, z_nlt, z_eq, z_neq, if_pos, if_neg, x_andl, false_and, and_false, or_true, true_or, or_false, false_or, not_true, not_false_iff, x_rd_eq, x_rd_ne, x_st_o, Int.cast_ofNat_Int, Int.ofNat_zero, Int.ofNat_one, not_true_eq_false, not_false_eq_true, if_true, if_false, ite_self, and_self, Int.ofNat_eq_natCast, Int.tdiv_eq_ediv_of_nonneg, Int.tmod_eq_emod_of_nonneg, x_bm32, k_has hM, bi_t, k_isAhead hM hS hw hn, bi_f ah]
      refine ⟨-1, rfl, fun _ _ => rfl, ?_⟩
      by_cases cd : alv w
      · obtain ⟨_, σ8, ⟨_, tk8, hh8, f8, _⟩, _⟩ := x_ex (h_leastNow (j := 0) (c := 0) hh (by omega) rfl)
        obtain ⟨_, σ2, ⟨_, _, _, _, rows, b0, t0, low, hb, ht, _, hfl⟩, _⟩ := x_ex (h_begin hh8 ((tk8.1 51 0 (by decide)).trans h51) (f8 rfl) cd)
        refine h_riseM hh h51 cf.1 cf.2 cd (pk_of hw hn (fun h p q hf => (rows h (by omega) q hf).1) hfl) (Or.inl ⟨rfl, fun m m1 m2 => ?_⟩)
        exact pk_far hw hn (rs_wf hw hq cf.1 cf.2 (by omega)) (rs_ws cf.1) (rs_z hw cf.1) fr (fun h p q hf => (rows h p q hf).1) hfl
      · simp (disch := first | omega | (simp only [x_wtI, x_wtJ, x_wtR, x_wtN]; omega) | assumption | (simp (disch := omega) only [x_st_o, x_rd_ne]; first | assumption | omega) | (apply mir_eq; assumption; (intro c h1 h2; simp (disch := omega) only [x_st_o])) | (apply mis_eq; assumption; (intro c h1 h2; simp (disch := omega) only [x_st_o])) | rfl) only [sp_259, bk_259_0, bk_259_1, bk_259_2, bk_259_4, bk_259_5, wp_ald0, wp_ild1, wk_191, wp_ifne, wp_ic, wp_iret mz_259, wk_195, wp_lst2, wp_lld2, wp_lc, wp_lcmp, wr_50_1, wl_51, wp_cald, wk_197, wk_209, wp_geti kd_50, wp_ist4, wp_ist5, wp_imul, wp_iadd, wp_ist6, wp_ild6, wp_ist7, wp_ist8, wp_ist9, wp_fall, wp_ild9, wp_icgt, wp_ild8, wp_icne, wp_ild7, ws_51, wp_ild4, wp_ild5, wk_258, wp_ifeq, wp_inc9, wp_goto, x_clr_I, x_clr_J, x_clr_R, x_clr_U, ct_some, ct_none, lc_lt, lc_ge, lc_gt, lc_le, lc_eq, lc_r, xI_inj, xJ_inj, Option.some.injEq, eq_self, bi_r, bi_0, bi_1, bi_n, Classical.not_not, and_true, true_and, ite_true, ite_false, ↓reduceIte, ↓x_andl, z_le, z_nle, z_lt, z_nlt, z_eq, z_neq, if_pos, if_neg, x_andl, false_and, and_false, or_true, true_or, or_false, false_or, not_true, not_false_iff, x_rd_eq, x_rd_ne, x_st_o, Int.cast_ofNat_Int, Int.ofNat_zero, Int.ofNat_one, not_true_eq_false, not_false_eq_true, if_true, if_false, ite_self, and_self, Int.ofNat_eq_natCast, Int.tdiv_eq_ediv_of_nonneg, Int.tmod_eq_emod_of_nonneg, x_bm32, k_isFork h51, bi_t]
        refine x_use (d := 991) (h_solveI (c := 0) hh (by omega)) ?_
        rintro r σ5 ⟨rfl, e5, hh5, g5, m5⟩
        rw [h51] at g5 m5 ⊢
        obtain ⟨_, σ1, ⟨_, _, _, _, ct⟩, _⟩ := x_ex (h_leastNow (j := 0) (c := 0) hh (by omega) rfl)
        rw [h51] at ct
        have e : σ5 59 0 (42 * w 8 + (21 * w 10 + w 9)) = (-9223372036854775808) := by
          by_cases z : σ5 59 0 (42 * w 8 + (21 * w 10 + w 9)) = (-9223372036854775808)
          · exact z
          · exfalso
            refine cd (fun T L' gt y => ?_)
            have n1 := now_ag (Ym := w) hw hn (by omega) gt (fun z => by omega) ct
            have n2 := now_ag (Ym := w) hw hn (by omega) g5 (fun z => by omega) ct
            rcases n2 with ⟨x, _⟩ | ⟨_, _, x⟩
            · exact z x
            · rcases n1 with ⟨_, x'⟩ | ⟨_, x', _⟩
              · exact x x'
              · exact x' y
        rw [e]
        simp (disch := first | omega | (simp only [x_wtI, x_wtJ, x_wtR, x_wtN]; omega) | assumption | (simp (disch := omega) only [x_st_o, x_rd_ne]; first | assumption | omega) | (apply mir_eq; assumption; (intro c h1 h2; simp (disch := omega) only [x_st_o])) | (apply mis_eq; assumption; (intro c h1 h2; simp (disch := omega) only [x_st_o])) | rfl) only [bk_259_0, bk_259_1, bk_259_2, bk_259_4, bk_259_5, wp_ald0, wp_ild1, wk_191, wp_ifne, wp_ic, wp_iret mz_259, wk_195, wp_lst2, wp_lld2, wp_lc, wp_lcmp, wr_50_1, wl_51, wp_cald, wk_197, wk_209, wp_geti kd_50, wp_ist4, wp_ist5, wp_imul, wp_iadd, wp_ist6, wp_ild6, wp_ist7, wp_ist8, wp_ist9, wp_fall, wp_ild9, wp_icgt, wp_ild8, wp_icne, wp_ild7, ws_51, wp_ild4, wp_ild5, wk_258, wp_ifeq, wp_inc9, wp_goto, x_clr_I, x_clr_J, x_clr_R, x_clr_U, ct_some, ct_none, lc_lt, lc_ge, lc_gt, lc_le, lc_eq, lc_r, xI_inj, xJ_inj, Option.some.injEq, eq_self, bi_r, bi_0, bi_1, bi_n, Classical.not_not, and_true, true_and, ite_true, ite_false, ↓reduceIte, ↓x_andl, z_le, z_nle, z_lt, z_nlt, z_eq, z_neq, if_pos, if_neg, x_andl, false_and, and_false, or_true, true_or, or_false, false_or, not_true, not_false_iff, x_rd_eq, x_rd_ne, x_st_o, Int.cast_ofNat_Int, Int.ofNat_zero, Int.ofNat_one, not_true_eq_false, not_false_eq_true, if_true, if_false, ite_self, and_self, Int.ofNat_eq_natCast, Int.tdiv_eq_ediv_of_nonneg, Int.tmod_eq_emod_of_nonneg, x_bm32]
        exact hh5
  · simp (disch := first | omega | (simp only [x_wtI, x_wtJ, x_wtR, x_wtN]; omega) | assumption | (simp (disch := omega) only [x_st_o, x_rd_ne]; first | assumption | omega) | (apply mir_eq; assumption; (intro c h1 h2; simp (disch := omega) only [x_st_o])) | (apply mis_eq; assumption; (intro c h1 h2; simp (disch := omega) only [x_st_o])) | rfl) only [sp_153, bk_153_0, bk_153_1, bk_153_2, bk_153_3, bk_153_5, bk_153_6, bk_153_7, wp_ald0, wr_0_2, wr_20_0, wp_ast2, wp_ald2, wp_ild1, wk_60, wp_ifne, wp_ic, wp_iret mz_153, wk_133, wp_ifeq, wk_104, wp_lc, wp_lcmp, wp_fall, wk_151, wp_ist3, wr_6_9, wl_9, wp_cald, wp_ist4, wp_ist5, wp_ist6, wp_ild6, wp_icgt, wp_ild5, wp_icne, wp_ild4, wp_iadd, ws_9, wk_152, wp_ild3, wp_goto, wp_inc6, x_clr_I, x_clr_J, x_clr_R, x_clr_U, ct_some, ct_none, lc_lt, lc_ge, lc_gt, lc_le, lc_eq, lc_r, xI_inj, xJ_inj, Option.some.injEq, eq_self, bi_r, bi_0, bi_1, bi_n, Classical.not_not, and_true, true_and, ite_true, ite_false, ↓reduceIte, ↓x_andl, z_le, z_nle, z_lt, z_nlt, z_eq, z_neq, if_pos, if_neg, x_andl, false_and, and_false, or_true, true_or, or_false, false_or, not_true, not_false_iff, x_rd_eq, x_rd_ne, x_st_o, Int.cast_ofNat_Int, Int.ofNat_zero, Int.ofNat_one, not_true_eq_false, not_false_eq_true, if_true, if_false, ite_self, and_self, Int.ofNat_eq_natCast, Int.tdiv_eq_ediv_of_nonneg, Int.tmod_eq_emod_of_nonneg, x_bm32, k_has hM, bi_f]
    refine ⟨-2, rfl, fun _ _ => rfl, ?_⟩
    simp (disch := first | omega | (simp only [x_wtI, x_wtJ, x_wtR, x_wtN]; omega) | assumption | (simp (disch := omega) only [x_st_o, x_rd_ne]; first | assumption | omega) | (apply mir_eq; assumption; (intro c h1 h2; simp (disch := omega) only [x_st_o])) | (apply mis_eq; assumption; (intro c h1 h2; simp (disch := omega) only [x_st_o])) | rfl) only [sp_259, bk_259_0, bk_259_1, bk_259_2, bk_259_4, bk_259_5, wp_ald0, wp_ild1, wk_191, wp_ifne, wp_ic, wp_iret mz_259, wk_195, wp_lst2, wp_lld2, wp_lc, wp_lcmp, wr_50_1, wl_51, wp_cald, wk_197, wk_209, wp_geti kd_50, wp_ist4, wp_ist5, wp_imul, wp_iadd, wp_ist6, wp_ild6, wp_ist7, wp_ist8, wp_ist9, wp_fall, wp_ild9, wp_icgt, wp_ild8, wp_icne, wp_ild7, ws_51, wp_ild4, wp_ild5, wk_258, wp_ifeq, wp_inc9, wp_goto, x_clr_I, x_clr_J, x_clr_R, x_clr_U, ct_some, ct_none, lc_lt, lc_ge, lc_gt, lc_le, lc_eq, lc_r, xI_inj, xJ_inj, Option.some.injEq, eq_self, bi_r, bi_0, bi_1, bi_n, Classical.not_not, and_true, true_and, ite_true, ite_false, ↓reduceIte, ↓x_andl, z_le, z_nle, z_lt, z_nlt, z_eq, z_neq, if_pos, if_neg, x_andl, false_and, and_false, or_true, true_or, or_false, false_or, not_true, not_false_iff, x_rd_eq, x_rd_ne, x_st_o, Int.cast_ofNat_Int, Int.ofNat_zero, Int.ofNat_one, not_true_eq_false, not_false_eq_true, if_true, if_false, ite_self, and_self, Int.ofNat_eq_natCast, Int.tdiv_eq_ediv_of_nonneg, Int.tmod_eq_emod_of_nonneg, x_bm32, k_isFork h51, bi_f]
    exact hh
end ORI

theorem h_trialPick {σ : x_S} {W : Int → Int} {f : Int} (hM : mir σ 1 W) (hS : mis σ 1 W) (hw : wf W) (hn : wn W) (h1 : f < W 0) (fr : p_fr W (W 8) f) (hm : σ 24 3 3 = 0) (hWd : σ 24 3 1 = 4) (hE : σ 24 3 2 = 5)
    (hr : ∀ h, W 8 < h → h < W 0 → p_fr W (W 8) h → ¬ h = f → g_row 9223372036854775807 0 5 4 W (σ 26 3) (σ 25 3) h ∧ t_bd 9223372036854775807 W (σ 25 3) h) :
    x_Sp 6 152 [xR 0 0, xI f] σ (fun r σ' => x_eqo [(24, 3), (25, 3), (27, 3), (28, 3)] σ σ' ∧ (∀ k, ¬ (7 ≤ k ∧ k ≤ 9) → σ' 24 3 k = σ 24 3 k) ∧ (∀ h, W 8 < h → h < W 0 → p_fr W (W 8) h → g_row 9223372036854775807 0 5 4 W (σ 26 3) (σ' 25 3) h ∧ t_bd 9223372036854775807 W (σ' 25 3) h) ∧ ∃ pick low, r = some (xI pick) ∧ ((pick = -1 ∧ ∀ b t u, ¬ zst 9223372036854775807 0 5 4 W (σ 26 3) (σ' 25 3) (W 8) (W 9) (W 10) b t u) ∨ ∃ b0 t0, (0 ≤ b0 ∧ b0 ≤ 1) ∧ (0 ≤ t0 ∧ t0 ≤ 20) ∧ pick = b0 * 21 + t0 ∧ fL (zst 9223372036854775807 0 5 4 W (σ 26 3) (σ' 25 3) (W 8) (W 9) (W 10)) b0 t0 low)) := by
  obtain ⟨n8, n9, n10, _⟩ := id hn
  have ge : W 8 ≤ f := by
    by_cases q : f < W 8
    · exact absurd fr (fr_lt q)
    · omega
  refine x_gen (fun Q hQ => ?_)
  simp (disch := first | omega | (simp only [x_wtI, x_wtJ, x_wtR, x_wtN]; omega) | assumption | (simp (disch := omega) only [x_st_o, x_rd_ne]; first | assumption | omega) | (apply mir_eq; assumption; (intro c h1 h2; simp (disch := omega) only [x_st_o])) | (apply mis_eq; assumption; (intro c h1 h2; simp (disch := omega) only [x_st_o])) | rfl) only [sp_152, bk_152_0, wp_ald0, wp_ild1, wr_0_2, wp_geti kd_20, wk_139, wr_0_7, wk_109, wp_iret mz_152, x_clr_I, x_clr_J, x_clr_R, x_clr_U, ct_some, ct_none, lc_lt, lc_ge, lc_gt, lc_le, lc_eq, lc_r, xI_inj, xJ_inj, Option.some.injEq, eq_self, bi_r, bi_0, bi_1, bi_n, Classical.not_not, and_true, true_and, ite_true, ite_false, ↓reduceIte, ↓x_andl, z_le, z_nle, z_lt, z_nlt, z_eq, z_neq, if_pos, if_neg, x_andl, false_and, and_false, or_true, true_or, or_false, false_or, not_true, not_false_iff, x_rd_eq, x_rd_ne, x_st_o, Int.cast_ofNat_Int, Int.ofNat_zero, Int.ofNat_one, not_true_eq_false, not_false_eq_true, if_true, if_false, ite_self, and_self, Int.ofNat_eq_natCast, Int.tdiv_eq_ediv_of_nonneg, Int.tmod_eq_emod_of_nonneg, x_bm32, hS.1.1]
  refine x_use (d := 0) (h_refillG (w := W) (G := fun T h => g_row 9223372036854775807 0 5 4 W (σ 26 3) T h ∧ t_bd 9223372036854775807 W T h) (D := fun h => p_fr W (W 8) h) (top := W 8) (g0 := f) (c := 0) (L1 := σ 26 3) hw n8.1 h1 fr ?_ ?_ hM hWd hE hm rfl (fun h h0 h1 hd hn => hr h h0 h1 hd (fun z => hn (by rw [z]; exact fr_self)))) ?_
  · intro σ2 g hM2 w1 w2 w3 hL2 gt g1 gf gg hG
    refine x_use (d := 0) (h_fillFork (j := 3) (c := 0) (E := 5) (Wd := 4) hM2 (by omega) hw (by omega) g1 w3 (by omega) w1 (by omega) w2 (by omega) rfl hL2 (fun _ i i0 i1 => ?_) (fun z => by omega)) ?_
    · have kk := wf_k hw (f := g) (i := i) (by omega) g1 i0 i1
      exact (hG _ (by omega) kk.2.1 (Or.inl (fr_kid hw n8.1 gf (by omega) g1 i0 i1)) (fr_lt kk.1)).2
    · rintro r σ3 ⟨rfl, a, b, c, d, e⟩
      exact ⟨rfl, a, b, c, d, e⟩
  · intro T T' h h0 h1 er ek hG
    exact ⟨gr_cg hw (by omega) h1 er ek hG.1, fun s s0 s1 => by rw [er s s0 s1]; exact hG.2 s s0 s1⟩
  rintro r σ1 ⟨rfl, e1, k1, o1, g1⟩
  have hM1 : mir σ1 1 W := mir_eq hM (fun c q1 q2 => e1 c 1 (by simp))
  have hS1 : mis σ1 1 W := mis_eq hS (fun c q1 q2 => e1 c 1 (by simp))
  simp (disch := first | omega | (simp only [x_wtI, x_wtJ, x_wtR, x_wtN]; omega) | assumption | (simp (disch := omega) only [x_st_o, x_rd_ne]; first | assumption | omega) | (apply mir_eq; assumption; (intro c h1 h2; simp (disch := omega) only [x_st_o])) | (apply mis_eq; assumption; (intro c h1 h2; simp (disch := omega) only [x_st_o])) | rfl) only [bk_152_0, wp_ald0, wp_ild1, wr_0_2, wp_geti kd_20, wk_139, wr_0_7, wk_109, wp_iret mz_152, x_clr_I, x_clr_J, x_clr_R, x_clr_U, ct_some, ct_none, lc_lt, lc_ge, lc_gt, lc_le, lc_eq, lc_r, xI_inj, xJ_inj, Option.some.injEq, eq_self, bi_r, bi_0, bi_1, bi_n, Classical.not_not, and_true, true_and, ite_true, ite_false, ↓reduceIte, ↓x_andl, z_le, z_nle, z_lt, z_nlt, z_eq, z_neq, if_pos, if_neg, x_andl, false_and, and_false, or_true, true_or, or_false, false_or, not_true, not_false_iff, x_rd_eq, x_rd_ne, x_st_o, Int.cast_ofNat_Int, Int.ofNat_zero, Int.ofNat_one, not_true_eq_false, not_false_eq_true, if_true, if_false, ite_self, and_self, Int.ofNat_eq_natCast, Int.tdiv_eq_ediv_of_nonneg, Int.tmod_eq_emod_of_nonneg, x_bm32]
  refine x_use (d := 0) (h_pickT (c := 0) (E := 5) hM1 hS1 hw hn (by rw [k1 3 (by omega)]; exact hm) (by omega) (by omega) (by rw [k1 1 (by omega)]; exact hWd) (by rw [k1 2 (by omega)]; exact hE) (by omega) (fun _ i i0 i1 => by
    have kk := wf_k hw (f := W 8) (i := i) n8.1 n8.2 i0 i1
    exact (g1 _ kk.1 kk.2.1 (Or.inl (fr_kid hw n8.1 fr_self n8.1 n8.2 i0 i1))).2)) ?_
  rintro r σ2 ⟨e2, k2, pick, low, hr2, hp⟩
  subst hr2
  have e25 : σ2 25 3 = σ1 25 3 := e2 25 3 (by simp)
  have e26 : σ1 26 3 = σ 26 3 := e1 26 3 (by simp)
  rw [e26] at hp
  simp (disch := first | omega | (simp only [x_wtI, x_wtJ, x_wtR, x_wtN]; omega) | assumption | (simp (disch := omega) only [x_st_o, x_rd_ne]; first | assumption | omega) | (apply mir_eq; assumption; (intro c h1 h2; simp (disch := omega) only [x_st_o])) | (apply mis_eq; assumption; (intro c h1 h2; simp (disch := omega) only [x_st_o])) | rfl) only [bk_152_0, wp_ald0, wp_ild1, wr_0_2, wp_geti kd_20, wk_139, wr_0_7, wk_109, wp_iret mz_152, x_clr_I, x_clr_J, x_clr_R, x_clr_U, ct_some, ct_none, lc_lt, lc_ge, lc_gt, lc_le, lc_eq, lc_r, xI_inj, xJ_inj, Option.some.injEq, eq_self, bi_r, bi_0, bi_1, bi_n, Classical.not_not, and_true, true_and, ite_true, ite_false, ↓reduceIte, ↓x_andl, z_le, z_nle, z_lt, z_nlt, z_eq, z_neq, if_pos, if_neg, x_andl, false_and, and_false, or_true, true_or, or_false, false_or, not_true, not_false_iff, x_rd_eq, x_rd_ne, x_st_o, Int.cast_ofNat_Int, Int.ofNat_zero, Int.ofNat_one, not_true_eq_false, not_false_eq_true, if_true, if_false, ite_self, and_self, Int.ofNat_eq_natCast, Int.tdiv_eq_ediv_of_nonneg, Int.tmod_eq_emod_of_nonneg, x_bm32]
  refine hQ _ _ ⟨eqo_trans e1 (eqo_mono (by simp) e2), fun k hk => by rw [k2 k hk]; exact k1 k hk, ?_, pick, low, rfl, ?_⟩
  · intro h h0 h1 hf
    rw [e25]
    exact g1 h h0 h1 (Or.inl hf)
  · rw [e25]
    exact hp
theorem h_try {σ : x_S} {w W V0 L0 : Int → Int} {f b0 t0 low0 : Int} (hw : wf w) (hn : wn w) (hW : wf W) (s : ws w W) (hz : ∀ g, 0 ≤ g → g < w 0 → ¬ g = f → ∀ (L T : Int → Int) st wd b t u, zst 9223372036854775807 0 5 4 W L T g st wd b t u ↔ zst 9223372036854775807 0 5 4 w L T g st wd b t u) (hM : mir σ 1 W) (hS : mis σ 1 W) (h1 : f < w 0) (fr : p_fr w (w 8) f) (hm : σ 24 3 3 = 0) (hWd : σ 24 3 1 = 4) (hE : σ 24 3 2 = 5) (hV0 : ∀ h, w 8 < h → h < w 0 → p_fr w (w 8) h → g_row 9223372036854775807 0 5 4 w L0 V0 h) (h00 : zst 9223372036854775807 0 5 4 w L0 V0 (w 8) (w 9) (w 10) b0 t0 low0)
    (hr : ∀ h, w 8 < h → h < w 0 → p_fr w (w 8) h → ¬ h = f → g_row 9223372036854775807 0 5 4 w (σ 26 3) (σ 25 3) h ∧ t_bd 9223372036854775807 w (σ 25 3) h) :
    x_Sp 6 152 [xR 0 0, xI f] σ (fun r σ' => x_eqo [(24, 3), (25, 3), (27, 3), (28, 3)] σ σ' ∧ (∀ k, ¬ (7 ≤ k ∧ k ≤ 9) → σ' 24 3 k = σ 24 3 k) ∧ (∀ h, w 8 < h → h < w 0 → p_fr w (w 8) h → ¬ h = f → g_row 9223372036854775807 0 5 4 w (σ 26 3) (σ' 25 3) h ∧ t_bd 9223372036854775807 w (σ' 25 3) h) ∧ ∃ b t, (0 ≤ b ∧ b ≤ 1) ∧ (0 ≤ t ∧ t ≤ 20) ∧ r = some (xI (b * 21 + t)) ∧ pkw W b t) := by
  obtain ⟨n8, n9, n10, _⟩ := id hn
  have a := wf_h hw
  unfold wf_hdr at a
  have e8 := s.1 8 (by omega)
  have e9 := s.1 9 (by omega)
  have e10 := s.1 10 (by omega)
  have e0 := s.1 0 (by omega)
  have hnW := ws_n hw hn s
  have frW : ∀ h, 0 ≤ h → h < w 0 → (p_fr W (W 8) h ↔ p_fr w (w 8) h) := fun h p q => by rw [e8]; exact ws_fr hw s n8.1 p q
  have ge : w 8 ≤ f := by
    by_cases q : f < w 8
    · exact absurd fr (fr_lt q)
    · omega
  refine x_use (d := 0) (h_trialPick hM hS hW hnW (by rw [e0]; exact h1) ((frW f (by omega) h1).mpr fr) hm hWd hE (fun h p q hf nf => ?_)) ?_
  · rw [e8] at p
    rw [e0] at q
    have x := hr h p q ((frW h (by omega) q).mp hf) nf
    exact ⟨(gr_loc (fun st wd b t u => hz h (by omega) q nf _ _ st wd b t u)).mpr x.1, (ws_bd s (by omega) (by omega)).mpr x.2⟩
  · rintro r σ' ⟨e, k, rows, pick, low, hr2, hp⟩
    rw [e8, e0] at rows
    refine ⟨e, k, fun h p q hf nf => ?_, ?_⟩
    · have x := rows h p q (by rw [← e8]; exact (frW h (by omega) q).mpr hf)
      exact ⟨(gr_loc (fun st wd b t u => hz h (by omega) q nf _ _ st wd b t u)).mp x.1, (ws_bd s (by omega) (by omega)).mp x.2⟩
    · have rW : ∀ f, W 8 < f → f < W 0 → p_fr W (W 8) f → g_row 9223372036854775807 0 5 4 W (σ 26 3) (σ' 25 3) f := by
        intro g p q gf
        rw [e8] at p gf
        rw [e0] at q
        exact (rows g p q gf).1
      rcases hp with ⟨_, hno⟩ | ⟨b, t, hb, ht, hpk, hfl⟩
      · exfalso
        obtain ⟨⟨l, r0⟩, _⟩ := h00
        have sb := sl_b hw n8.1 n8.2 n9 l
        have po := p_or_01 (a := w 10) (b := b0)
        refine hno b0 t0 _ ⟨⟨?_, ?_⟩, rfl⟩
        · rw [e8, e9, e10]
          exact (ws_law s n8.1 (by omega)).mpr l
        · rw [e8, e10]
          rcases r0 with z | z
          · exact Or.inl ((ws_end s n8.1 (by omega)).mpr z)
          · refine Or.inr (fun ⟨i, i0, i1, y⟩ => ?_)
            have o := wf_f hw (f := w 8) n8.1 n8.2
            unfold wf_one at o
            rw [s.2 (w 8) 7 n8.1 (by omega) (by omega) (by omega) (by omega) (by omega)] at i1
            rw [s.2 (w 8) (8 + i) n8.1 (by omega) (by omega) (by omega) (by omega) (by omega)] at y
            have kk := wf_k hw (f := w 8) (i := i) n8.1 n8.2 i0 i1
            exact dead2 hw hn hW s hV0 (fun g p q gf => rows g p q (by rw [← e8]; exact (frW g (by omega) q).mpr gf)) _ kk.1 kk.2.1 (fr_kid hw n8.1 fr_self n8.1 n8.2 i0 i1) t0 (p_or (w 10) b0) (by omega) (by omega) (by omega) (by omega) (fun x => z ⟨i, i0, i1, x⟩) y
      · exact ⟨b, t, hb, ht, by rw [hr2, hpk], pk_of hW hnW rW hfl⟩
theorem h_isOther {σ : x_S} {W : Int → Int} {x b b1 t1 : Int} (h51 : σ 51 0 = W) (hE : σ 50 0 17 = 5) (hWd : σ 50 0 18 = 4) (hea : σ 50 0 19 = -1) (hw : wf W) (hn : wn W) (hp : pkw W b1 t1) (hx : -100 ≤ x ∧ x ≤ 100) (hb : 0 ≤ b ∧ b ≤ 1) : x_Sp 8 258 [xR 50 0, xI x, xI b] σ (fun r σ' => r = some (xI (if t1 + w_of W (W 8) 5 - W 9 = x ∧ b1 = b then 0 else 1)) ∧ x_eqo [(50, 0), (59, 0), (60, 0), (61, 0)] σ σ' ∧ ∀ k, ¬ (k = 23 ∨ k = 24) → σ' 50 0 k = σ 50 0 k) := by
  have a := wf_h hw
  unfold wf_hdr at a
  obtain ⟨n8, n9, n10, _⟩ := id hn
  have o := wf_f hw (f := W 8) n8.1 n8.2
  unfold wf_one at o
  refine x_gen (fun Q hQ => ?_)
  simp (disch := first | omega | (simp only [x_wtI, x_wtJ, x_wtR, x_wtN]; omega) | assumption | (simp (disch := omega) only [x_st_o, x_rd_ne]; first | assumption | omega) | (apply mir_eq; assumption; (intro c h1 h2; simp (disch := omega) only [x_st_o])) | (apply mis_eq; assumption; (intro c h1 h2; simp (disch := omega) only [x_st_o])) | rfl) only [sp_258, bk_258_0, bk_258_1, bk_258_2, bk_258_3, wp_ald0, wp_ic, wr_50_1, wl_51, wp_cald, wk_197, wk_195, wk_209, wp_geti kd_50, wp_ild1, wp_icne, wp_ild2, wp_iceq, wp_fall, wp_goto, wp_zret0 mz_258, wp_zret1 mz_258, wp_zretb mz_258, wp_zret mz_258, x_clr_I, x_clr_J, x_clr_R, x_clr_U, ct_some, ct_none, lc_lt, lc_ge, lc_gt, lc_le, lc_eq, lc_r, xI_inj, xJ_inj, Option.some.injEq, eq_self, bi_r, bi_0, bi_1, bi_n, Classical.not_not, and_true, true_and, ite_true, ite_false, ↓reduceIte, ↓x_andl, z_le, z_nle, z_lt, z_nlt, z_eq, z_neq, if_pos, if_neg, x_andl, false_and, and_false, or_true, true_or, or_false, false_or, not_true, not_false_iff, x_rd_eq, x_rd_ne, x_st_o, Int.cast_ofNat_Int, Int.ofNat_zero, Int.ofNat_one, not_true_eq_false, not_false_eq_true, if_true, if_false, ite_self, and_self, Int.ofNat_eq_natCast, Int.tdiv_eq_ediv_of_nonneg, Int.tmod_eq_emod_of_nonneg, x_bm32, h51, k_stateNow]
  refine x_use (d := 0) (h_solveF (w := W) (E := 5) (Wd := 4) (ea := -1) (c := 0) h51 hE hWd hea hw hn (by omega) (by omega) (by omega) (by omega) (fun z => by omega)) ?_
  rintro r σ4 ⟨rfl, e4, g4, m4⟩
  have g514 : σ4 51 0 = W := (e4 51 0 (by simp)).trans h51
  have e50 : σ4 50 0 = σ 50 0 := e4 50 0 (by simp)
  have fl := hp _ _ g4
  have sb := sl_b hw n8.1 n8.2 n9 fl.1.1.1
  have hTk : ∀ q, 0 ≤ q → q < w_of W (W 8) 7 → t_bd (-9223372036854775808) W (σ4 59 0) (w_of W (W 8) (8 + q)) := by
    intro q q0 q1
    have kk := wf_k hw (f := W 8) (i := q) n8.1 n8.2 q0 q1
    exact (g4 _ (by omega) (by omega)).1
  have nb := zst_bd hw n8.1 n8.2 n9 n10 hTk (fun z => by omega) (by omega) fl.1
  have gp := gb_pos (k := w_of W (W 8) 6)
  generalize htn : σ4 59 0 (42 * W 8 + (21 * W 10 + W 9)) = tn at fl nb
  simp (disch := first | omega | (simp only [x_wtI, x_wtJ, x_wtR, x_wtN]; omega) | assumption | (simp (disch := omega) only [x_st_o, x_rd_ne]; first | assumption | omega) | (apply mir_eq; assumption; (intro c h1 h2; simp (disch := omega) only [x_st_o])) | (apply mis_eq; assumption; (intro c h1 h2; simp (disch := omega) only [x_st_o])) | rfl) only [bk_258_0, bk_258_1, bk_258_2, bk_258_3, wp_ald0, wp_ic, wr_50_1, wl_51, wp_cald, wk_197, wk_195, wk_209, wp_geti kd_50, wp_ild1, wp_icne, wp_ild2, wp_iceq, wp_fall, wp_goto, wp_zret0 mz_258, wp_zret1 mz_258, wp_zretb mz_258, wp_zret mz_258, x_clr_I, x_clr_J, x_clr_R, x_clr_U, ct_some, ct_none, lc_lt, lc_ge, lc_gt, lc_le, lc_eq, lc_r, xI_inj, xJ_inj, Option.some.injEq, eq_self, bi_r, bi_0, bi_1, bi_n, Classical.not_not, and_true, true_and, ite_true, ite_false, ↓reduceIte, ↓x_andl, z_le, z_nle, z_lt, z_nlt, z_eq, z_neq, if_pos, if_neg, x_andl, false_and, and_false, or_true, true_or, or_false, false_or, not_true, not_false_iff, x_rd_eq, x_rd_ne, x_st_o, Int.cast_ofNat_Int, Int.ofNat_zero, Int.ofNat_one, not_true_eq_false, not_false_eq_true, if_true, if_false, ite_self, and_self, Int.ofNat_eq_natCast, Int.tdiv_eq_ediv_of_nonneg, Int.tmod_eq_emod_of_nonneg, x_bm32]
  refine x_use (d := 1) (h_findStep (c := 0) (E := 5) (Wd := 4) g514 (by rw [e50]; exact hE) (by rw [e50]; exact hWd) rfl rfl hw n8.1 n8.2 (by omega) (by omega) (by omega) n9 n10 hTk (fun z => by omega) (by omega) fl) ?_
  rintro r σ5 ⟨rfl, e5, x5, b5⟩
  have fin : x_eqo [(50, 0), (59, 0), (60, 0), (61, 0)] σ σ5 ∧ ∀ k, ¬ (k = 23 ∨ k = 24) → σ5 50 0 k = σ 50 0 k := ⟨eqo_trans (eqo_mono (by simp) e4) (eqo_mono (by simp) e5.1), fun k hk => by rw [e5.2 k hk, e50]⟩
  generalize hX : t1 + w_of W (W 8) 5 - W 9 = X at x5 hQ
  by_cases cx : X = x
  · by_cases cb : b1 = b
    · have q := hQ (some (xI 0)) σ5 ⟨by rw [if_pos ⟨cx, cb⟩], fin⟩
      simp (disch := first | omega | (simp only [x_wtI, x_wtJ, x_wtR, x_wtN]; omega) | assumption | (simp (disch := omega) only [x_st_o, x_rd_ne]; first | assumption | omega) | (apply mir_eq; assumption; (intro c h1 h2; simp (disch := omega) only [x_st_o])) | (apply mis_eq; assumption; (intro c h1 h2; simp (disch := omega) only [x_st_o])) | rfl) only [bk_258_0, bk_258_1, bk_258_2, bk_258_3, wp_ald0, wp_ic, wr_50_1, wl_51, wp_cald, wk_197, wk_195, wk_209, wp_geti kd_50, wp_ild1, wp_icne, wp_ild2, wp_iceq, wp_fall, wp_goto, wp_zret0 mz_258, wp_zret1 mz_258, wp_zretb mz_258, wp_zret mz_258, x_clr_I, x_clr_J, x_clr_R, x_clr_U, ct_some, ct_none, lc_lt, lc_ge, lc_gt, lc_le, lc_eq, lc_r, xI_inj, xJ_inj, Option.some.injEq, eq_self, bi_r, bi_0, bi_1, bi_n, Classical.not_not, and_true, true_and, ite_true, ite_false, ↓reduceIte, ↓x_andl, z_le, z_nle, z_lt, z_nlt, z_eq, z_neq, if_pos, if_neg, x_andl, false_and, and_false, or_true, true_or, or_false, false_or, not_true, not_false_iff, x_rd_eq, x_rd_ne, x_st_o, Int.cast_ofNat_Int, Int.ofNat_zero, Int.ofNat_one, not_true_eq_false, not_false_eq_true, if_true, if_false, ite_self, and_self, Int.ofNat_eq_natCast, Int.tdiv_eq_ediv_of_nonneg, Int.tmod_eq_emod_of_nonneg, x_bm32, x5, b5]
      exact q
    · have q := hQ (some (xI 1)) σ5 ⟨by rw [if_neg (fun z => cb z.2)], fin⟩
      simp (disch := first | omega | (simp only [x_wtI, x_wtJ, x_wtR, x_wtN]; omega) | assumption | (simp (disch := omega) only [x_st_o, x_rd_ne]; first | assumption | omega) | (apply mir_eq; assumption; (intro c h1 h2; simp (disch := omega) only [x_st_o])) | (apply mis_eq; assumption; (intro c h1 h2; simp (disch := omega) only [x_st_o])) | rfl) only [bk_258_0, bk_258_1, bk_258_2, bk_258_3, wp_ald0, wp_ic, wr_50_1, wl_51, wp_cald, wk_197, wk_195, wk_209, wp_geti kd_50, wp_ild1, wp_icne, wp_ild2, wp_iceq, wp_fall, wp_goto, wp_zret0 mz_258, wp_zret1 mz_258, wp_zretb mz_258, wp_zret mz_258, x_clr_I, x_clr_J, x_clr_R, x_clr_U, ct_some, ct_none, lc_lt, lc_ge, lc_gt, lc_le, lc_eq, lc_r, xI_inj, xJ_inj, Option.some.injEq, eq_self, bi_r, bi_0, bi_1, bi_n, Classical.not_not, and_true, true_and, ite_true, ite_false, ↓reduceIte, ↓x_andl, z_le, z_nle, z_lt, z_nlt, z_eq, z_neq, if_pos, if_neg, x_andl, false_and, and_false, or_true, true_or, or_false, false_or, not_true, not_false_iff, x_rd_eq, x_rd_ne, x_st_o, Int.cast_ofNat_Int, Int.ofNat_zero, Int.ofNat_one, not_true_eq_false, not_false_eq_true, if_true, if_false, ite_self, and_self, Int.ofNat_eq_natCast, Int.tdiv_eq_ediv_of_nonneg, Int.tmod_eq_emod_of_nonneg, x_bm32, x5, b5]
      exact q
  · have q := hQ (some (xI 1)) σ5 ⟨by rw [if_neg (fun z => cx z.1)], fin⟩
    simp (disch := first | omega | (simp only [x_wtI, x_wtJ, x_wtR, x_wtN]; omega) | assumption | (simp (disch := omega) only [x_st_o, x_rd_ne]; first | assumption | omega) | (apply mir_eq; assumption; (intro c h1 h2; simp (disch := omega) only [x_st_o])) | (apply mis_eq; assumption; (intro c h1 h2; simp (disch := omega) only [x_st_o])) | rfl) only [bk_258_0, bk_258_1, bk_258_2, bk_258_3, wp_ald0, wp_ic, wr_50_1, wl_51, wp_cald, wk_197, wk_195, wk_209, wp_geti kd_50, wp_ild1, wp_icne, wp_ild2, wp_iceq, wp_fall, wp_goto, wp_zret0 mz_258, wp_zret1 mz_258, wp_zretb mz_258, wp_zret mz_258, x_clr_I, x_clr_J, x_clr_R, x_clr_U, ct_some, ct_none, lc_lt, lc_ge, lc_gt, lc_le, lc_eq, lc_r, xI_inj, xJ_inj, Option.some.injEq, eq_self, bi_r, bi_0, bi_1, bi_n, Classical.not_not, and_true, true_and, ite_true, ite_false, ↓reduceIte, ↓x_andl, z_le, z_nle, z_lt, z_nlt, z_eq, z_neq, if_pos, if_neg, x_andl, false_and, and_false, or_true, true_or, or_false, false_or, not_true, not_false_iff, x_rd_eq, x_rd_ne, x_st_o, Int.cast_ofNat_Int, Int.ofNat_zero, Int.ofNat_one, not_true_eq_false, not_false_eq_true, if_true, if_false, ite_self, and_self, Int.ofNat_eq_natCast, Int.tdiv_eq_ediv_of_nonneg, Int.tmod_eq_emod_of_nonneg, x_bm32, x5, b5]
    exact q
/-! the trial begins with the values of the means -/
section OBT
variable {L : Int} {S0 : Int → Int}
def alv (w : Int → Int) : Prop := ∀ T L' : Int → Int, gT 0 5 4 (-1) w L' T (w 8) → ¬ T (42 * w 8 + (21 * w 10 + w 9)) = (-9223372036854775808)
theorem h_begin {σ : x_S} {w : Int → Int} (hh : iN L S0 σ) (h51 : σ 51 0 = w) (h13 : σ 0 0 13 = 1) (al : alv w) : x_Sp 7 151 [xR 0 0] σ (fun r σ' => x_f100 σ σ' ∧ iN L S0 σ' ∧ σ' 51 0 = w ∧ (σ' 24 3 1 = 4 ∧ σ' 24 3 2 = 5 ∧ σ' 24 3 3 = 0) ∧ (∀ h, w 8 ≤ h → h < w 0 → p_fr w (w 8) h → g_row 9223372036854775807 0 5 4 w (σ' 26 3) (σ' 25 3) h ∧ t_bd 9223372036854775807 w (σ' 25 3) h) ∧ ∃ b0 t0 low, (0 ≤ b0 ∧ b0 ≤ 1) ∧ (0 ≤ t0 ∧ t0 ≤ 20) ∧ r = some (xI (b0 * 21 + t0)) ∧ fL (zst 9223372036854775807 0 5 4 w (σ' 26 3) (σ' 25 3) (w 8) (w 9) (w 10)) b0 t0 low) := by
  obtain ⟨w', h51', hw, h100, hn, hq, hM, hS⟩ := iN_w hh
  have ew : w' = w := h51'.symm.trans h51
  subst ew
  have a := wf_h hw
  unfold wf_hdr at a
  obtain ⟨n8, n9, n10, _⟩ := id hn
  refine x_gen (fun Q hQ => ?_)
  have ct : cT 0 w' (σ 25 0) (σ 26 0) := by
    have t1 := hh.2.1.1.2 h13
    rw [h51] at t1
    exact gr_bd hw hn (by omega) (fun z => by omega) (fun f f0 f1 _ => gr_L (by omega) (t1 f (by omega) f1))
  simp (disch := first | omega | (simp only [x_wtI, x_wtJ, x_wtR, x_wtN]; omega) | assumption | (simp (disch := omega) only [x_st_o, x_rd_ne]; first | assumption | omega) | (apply mir_eq; assumption; (intro c h1 h2; simp (disch := omega) only [x_st_o])) | (apply mis_eq; assumption; (intro c h1 h2; simp (disch := omega) only [x_st_o])) | rfl) only [sp_151, bk_151_0, wp_ald0, wr_0_7, wp_ic, wk_14, wk_105, wk_15, wk_109, wp_iret mz_151, sp_14, bk_14_0, wp_ild1, wp_puti kd_24, wp_ret, sp_105, bk_105_0, bk_105_1, bk_105_2, bk_105_3, bk_105_4, bk_105_5, wp_icne, wp_geti kd_0, wp_ifne, wr_0_5, wk_1, wp_putz kd_0, wp_fall, wp_aret, wk_106, wr_0_6, wr_0_8, wr_29_1, wk_10, wr_0_2, wp_geti kd_20, wr_0_4, sp_15, bk_15_0, wp_ald1, wr_24_4, wp_acpy kd_25 kd_25 (Or.inr rfl), x_clr_I, x_clr_J, x_clr_R, x_clr_U, ct_some, ct_none, lc_lt, lc_ge, lc_gt, lc_le, lc_eq, lc_r, xI_inj, xJ_inj, Option.some.injEq, eq_self, bi_r, bi_0, bi_1, bi_n, Classical.not_not, and_true, true_and, ite_true, ite_false, ↓reduceIte, ↓x_andl, z_le, z_nle, z_lt, z_nlt, z_eq, z_neq, if_pos, if_neg, x_andl, false_and, and_false, or_true, true_or, or_false, false_or, not_true, not_false_iff, x_rd_eq, x_rd_ne, x_st_o, Int.cast_ofNat_Int, Int.ofNat_zero, Int.ofNat_one, not_true_eq_false, not_false_eq_true, if_true, if_false, ite_self, and_self, Int.ofNat_eq_natCast, Int.tdiv_eq_ediv_of_nonneg, Int.tmod_eq_emod_of_nonneg, x_bm32, h13]
  generalize hσ0 : x_st (x_st (x_st σ 24 3 3 0) 24 3 1 4) 24 3 2 5 = σ0
  have e0 : x_eqo [(24, 3), (25, 3), (27, 3), (28, 3)] σ σ0 := by
    subst hσ0
    repeat (first | exact eqo_refl | refine eqo_st (by simp) ?_)
  have f0 : σ0 24 3 3 = 0 ∧ σ0 24 3 1 = 4 ∧ σ0 24 3 2 = 5 := by
    subst hσ0
    refine ⟨?_, ?_, ?_⟩ <;> simp (disch := omega) only [x_st_o, x_rd_ne, x_rd_eq, s_fl_o, s_fl_in, s_fl_out, x_cp_o, x_cp_in, x_cp_out]
  have hh1 := iN_tr hh e0
  have g511 : σ0 51 0 = w' := (e0 51 0 (by simp)).trans h51
  generalize hσ2 : x_cp σ0 25 0 0 25 3 0 1680 = σ2
  have e2 : x_eqo [(24, 3), (25, 3), (27, 3), (28, 3)] σ0 σ2 := by
    subst hσ2
    exact eqo_cp (by simp) eqo_refl
  have c2 : ∀ i, 0 ≤ i → i < 1680 → σ2 25 3 i = σ 25 0 i := by
    intro i i0 i1
    rw [← e0 25 0 (by simp)]
    subst hσ2
    simp (disch := omega) only [x_st_o, x_rd_ne, x_rd_eq, s_fl_o, s_fl_in, s_fl_out, x_cp_o, x_cp_in, x_cp_out]
    rw [show (0 : Int) + (i - 0) = i by omega]
  have hh2 := iN_tr hh1 e2
  have g512 : σ2 51 0 = w' := (e2 51 0 (by simp)).trans g511
  obtain ⟨w2, h512, _, _, _, _, hM2, hS2⟩ := iN_w hh2
  have ew : w2 = w' := h512.symm.trans g512
  subst ew
  have k2 : σ2 24 3 = σ0 24 3 := by
    rw [← hσ2]
    funext i
    simp (disch := omega) only [x_st_o, x_rd_ne, x_rd_eq, s_fl_o, s_fl_in, s_fl_out, x_cp_o, x_cp_in, x_cp_out]
  have rows : ∀ (L9 : Int → Int) h, w2 8 ≤ h → h < w2 0 → p_fr w2 (w2 8) h → g_row 9223372036854775807 0 5 4 w2 L9 (σ2 25 3) h ∧ t_bd 9223372036854775807 w2 (σ2 25 3) h := by
    intro L9 h h0 h1 hf
    have x := ct.1 h h0 h1 hf
    refine ⟨gr_L (by omega) (gr_cg hw (by omega) h1 (fun s s0 s1 => c2 _ (by omega) (by omega)) (fun i i0 i1 s s0 s1 => ?_) x.1), fun s s0 s1 => ?_⟩
    · have kk := wf_k hw (f := h) (i := i) (by omega) h1 i0 i1
      exact c2 _ (by omega) (by omega)
    · rw [c2 _ (by omega) (by omega)]
      exact x.2 s s0 s1
  refine x_use (d := 1) (h_pickT (c := 0) (E := 5) hM2 hS2 hw hn (by rw [k2]; exact f0.1) (by omega) (by omega) (by rw [k2]; exact f0.2.1) (by rw [k2]; exact f0.2.2) (by omega) (fun _ i i0 i1 => by
    have kk := wf_k hw (f := w2 8) (i := i) n8.1 n8.2 i0 i1
    exact (rows w2 _ (by omega) kk.2.1 (fr_kid hw n8.1 fr_self n8.1 n8.2 i0 i1)).2)) ?_
  rintro r σ3 ⟨e3, k3, pick, low, hr3, hp⟩
  subst hr3
  have hh3 := iN_look hh2 (by omega) e3 k3
  have e25 : σ3 25 3 = σ2 25 3 := e3 25 3 (by simp)
  have e26 : σ3 26 3 = σ2 26 3 := e3 26 3 (by simp)
  simp (disch := first | omega | (simp only [x_wtI, x_wtJ, x_wtR, x_wtN]; omega) | assumption | (simp (disch := omega) only [x_st_o, x_rd_ne]; first | assumption | omega) | (apply mir_eq; assumption; (intro c h1 h2; simp (disch := omega) only [x_st_o])) | (apply mis_eq; assumption; (intro c h1 h2; simp (disch := omega) only [x_st_o])) | rfl) only [bk_151_0, wp_ald0, wr_0_7, wp_ic, wk_14, wk_105, wk_15, wk_109, wp_iret mz_151, x_clr_I, x_clr_J, x_clr_R, x_clr_U, ct_some, ct_none, lc_lt, lc_ge, lc_gt, lc_le, lc_eq, lc_r, xI_inj, xJ_inj, Option.some.injEq, eq_self, bi_r, bi_0, bi_1, bi_n, Classical.not_not, and_true, true_and, ite_true, ite_false, ↓reduceIte, ↓x_andl, z_le, z_nle, z_lt, z_nlt, z_eq, z_neq, if_pos, if_neg, x_andl, false_and, and_false, or_true, true_or, or_false, false_or, not_true, not_false_iff, x_rd_eq, x_rd_ne, x_st_o, Int.cast_ofNat_Int, Int.ofNat_zero, Int.ofNat_one, not_true_eq_false, not_false_eq_true, if_true, if_false, ite_self, and_self, Int.ofNat_eq_natCast, Int.tdiv_eq_ediv_of_nonneg, Int.tmod_eq_emod_of_nonneg, x_bm32]
  refine hQ _ _ ⟨fun j i => by rw [e3 100 j (by simp), e2 100 j (by simp), e0 100 j (by simp)], hh3, (e3 51 0 (by simp)).trans g512, ⟨by rw [k3 1 (by omega), k2]; exact f0.2.1, by rw [k3 2 (by omega), k2]; exact f0.2.2, by rw [k3 3 (by omega), k2]; exact f0.1⟩, fun h h0 h1 hf => by rw [e25]; exact rows _ h h0 h1 hf, ?_⟩
  rcases hp with ⟨_, hno⟩ | ⟨b0, t0, hb, ht, hpk, hfl⟩
  · exfalso
    obtain ⟨r', σ9, ⟨_, _, _, g9, m9⟩, _⟩ := x_ex (h_solveI (c := 0) hh (by omega))
    rw [h51] at g9 m9
    have ag := tabsN hw hn (by omega) (by omega) g9 (fun f p q fr pf => (rows (σ2 26 3) f p q fr).1) (w2 8) (Int.le_refl _) n8.2 fr_self (by have o := wf_f hw (f := w2 8) n8.1 n8.2; unfold wf_one at o; omega) (w2 9) (w2 10) n9.1 n9.2 n10.1 n10.2
    rcases ag with ⟨z, _⟩ | ⟨_, _, z⟩
    · exact al _ _ g9 z
    · rcases (rows (σ2 26 3) (w2 8) (Int.le_refl _) n8.2 fr_self).1 (w2 9) (w2 10) n9.1 n9.2 n10.1 n10.2 with ⟨y, _⟩ | ⟨y, _⟩
      · exact z y
      · obtain ⟨b, t, y2⟩ := zst_val.mpr y
        exact hno _ _ _ y2
  · exact ⟨b0, t0, low, hb, ht, by rw [hpk], by rw [e25, e26]; exact hfl⟩
end OBT

/-! the model reads a line: frames, the line's end, the first word -/
def mlF (σ σ' : x_S) : Prop := x_eqo [(50, 0), (56, 0), (57, 0), (58, 0)] σ σ' ∧ ∀ q, ¬ (q = 8 ∨ q = 9 ∨ q = 10 ∨ q = 11 ∨ q = 12 ∨ q = 13) → σ' 50 0 q = σ 50 0 q
theorem mlF_r {σ : x_S} : mlF σ σ := ⟨eqo_refl, fun _ _ => rfl⟩
theorem mlF_t {σ σ1 σ2 : x_S} (a : mlF σ σ1) (c : mlF σ1 σ2) : mlF σ σ2 := ⟨eqo_trans a.1 c.1, fun k hk => by rw [c.2 k hk]; exact a.2 k hk⟩
theorem mlF_m {σ σ' : x_S} (h : mkp σ σ') : mlF σ σ' := ⟨eqo_mono (by simp) h.1, h.2⟩
theorem mlF_s {σ : x_S} {c : Nat} {i v : Int} (hc : c = 56 ∨ c = 57 ∨ c = 58) : mlF σ (x_st σ c 0 i v) := by
  refine ⟨eqo_st ?_ eqo_refl, fun q hq => x_rd_ne (by omega)⟩
  rcases hc with rfl | rfl | rfl <;> simp
theorem mkp_o {σ σ' : x_S} (h : mkp σ σ') {c : Nat} (hc : 51 ≤ c) : σ' c 0 = σ c 0 := h.1 c 0 (by simp; omega)
theorem MS_p {σ : x_S} {b : Int → Int} {n c f p p' : Int} (h : MS σ b n (c, f, p)) (hc : ¬ c = 0) : MS σ b n (c, f, p') := ⟨h.1, h.2.1, h.2.2.1, fun z => absurd z hc, h.2.2.2.2⟩
theorem h_mend {σ : x_S} {b : Int → Int} {n p q : Int} {x : PS} {Q : Option x_V → x_S → Prop} (h : MS σ b n x) (hQ : ∀ σ', mkp σ σ' → MS σ' b n (psS b n x) → Q none σ') : x_Wp 9 178 (x_blk 178 7) [xR 50 0, xI p, xI q] [] σ Q := by
  obtain ⟨hB, ⟨h12, h13⟩, hc, hx, h10⟩ := id h
  have kg := fun (d' : Nat) (Q' : Option x_V → x_S → Prop) => k_good (d := d') (σ := σ) (Q := Q') (by omega)
  have kw := fun (d' : Nat) (Q' : Option x_V → x_S → Prop) => k_wrong (d := d') (σ := σ) (Q := Q') (c := 1) (by omega)
  by_cases c : x.1 = 0
  · obtain ⟨pr, hm, t9, t10, t8, t11⟩ := hx c
    have z12 : σ 50 0 12 = 0 := h12.trans c
    simp only [if_pos z12] at kg kw
    have kb := tK_b (b := b) pr.2
    by_cases ck : tK b n x.2.2 = 3
    · have ps : psS b n x = (0, -1, tA b n x.2.2) := by
        unfold psS
        rw [if_neg (fun z => z c), if_pos ck]
      obtain ⟨r, σ2, ⟨hr, ms, m2⟩, ev⟩ := x_ex (h_mgo h c)
      subst hr
      have F := hQ σ2 (msp_m ms) (by rw [ps]; exact m2)
      rw [ck] at t10
      rw [bk_178_7]
      simp (disch := first | omega | (simp only [x_wtI, x_wtJ, x_wtR, x_wtN]; omega) | assumption | (simp (disch := omega) only [x_st_o, x_rd_ne]; first | assumption | omega) | (apply mir_eq; assumption; (intro c h1 h2; simp (disch := omega) only [x_st_o])) | (apply mis_eq; assumption; (intro c h1 h2; simp (disch := omega) only [x_st_o])) | rfl) only [bk_178_0, bk_178_1, bk_178_2, bk_178_3, bk_178_4, bk_178_5, bk_178_6, bk_178_7, bk_178_8, bk_178_9, wp_ald0, wk_179, wp_ist1, wr_50_14, wp_ic, wl_56, wp_cald, wp_ifle, wp_goto, wp_fall, wp_ist2, wp_ild1, wp_iceq, wp_ild2, wp_ifne, wk_181, wp_lds, wk_180, wp_ifeq, wk_182, wk_177, wk_175, wk_187, ws_56, wk_188, wp_geti kd_50, wp_ret, x_clr_I, x_clr_J, x_clr_R, x_clr_U, ct_some, ct_none, lc_lt, lc_ge, lc_gt, lc_le, lc_eq, lc_r, xI_inj, xJ_inj, Option.some.injEq, eq_self, bi_r, bi_0, bi_1, bi_n, Classical.not_not, and_true, true_and, ite_true, ite_false, ↓reduceIte, ↓x_andl, z_le, z_nle, z_lt, z_nlt, z_eq, z_neq, if_pos, if_neg, x_andl, false_and, and_false, or_true, true_or, or_false, false_or, not_true, not_false_iff, x_rd_eq, x_rd_ne, x_st_o, Int.cast_ofNat_Int, Int.ofNat_zero, Int.ofNat_one, not_true_eq_false, not_false_eq_true, if_true, if_false, ite_self, and_self, Int.ofNat_eq_natCast, Int.tdiv_eq_ediv_of_nonneg, Int.tmod_eq_emod_of_nonneg, x_bm32, t10, kg]
      refine (ev 7 _).mpr ?_
      simp (disch := first | omega | (simp only [x_wtI, x_wtJ, x_wtR, x_wtN]; omega) | assumption | (simp (disch := omega) only [x_st_o, x_rd_ne]; first | assumption | omega) | (apply mir_eq; assumption; (intro c h1 h2; simp (disch := omega) only [x_st_o])) | (apply mis_eq; assumption; (intro c h1 h2; simp (disch := omega) only [x_st_o])) | rfl) only [bk_178_0, bk_178_1, bk_178_2, bk_178_3, bk_178_4, bk_178_5, bk_178_6, bk_178_7, bk_178_8, bk_178_9, wp_ald0, wk_179, wp_ist1, wr_50_14, wp_ic, wl_56, wp_cald, wp_ifle, wp_goto, wp_fall, wp_ist2, wp_ild1, wp_iceq, wp_ild2, wp_ifne, wk_181, wp_lds, wk_180, wp_ifeq, wk_182, wk_177, wk_175, wk_187, ws_56, wk_188, wp_geti kd_50, wp_ret, x_clr_I, x_clr_J, x_clr_R, x_clr_U, ct_some, ct_none, lc_lt, lc_ge, lc_gt, lc_le, lc_eq, lc_r, xI_inj, xJ_inj, Option.some.injEq, eq_self, bi_r, bi_0, bi_1, bi_n, Classical.not_not, and_true, true_and, ite_true, ite_false, ↓reduceIte, ↓x_andl, z_le, z_nle, z_lt, z_nlt, z_eq, z_neq, if_pos, if_neg, x_andl, false_and, and_false, or_true, true_or, or_false, false_or, not_true, not_false_iff, x_rd_eq, x_rd_ne, x_st_o, Int.cast_ofNat_Int, Int.ofNat_zero, Int.ofNat_one, not_true_eq_false, not_false_eq_true, if_true, if_false, ite_self, and_self, Int.ofNat_eq_natCast, Int.tdiv_eq_ediv_of_nonneg, Int.tmod_eq_emod_of_nonneg, x_bm32]
      exact F
    · have ps : psS b n x = (1, tF b n x.2.2, x.2.2) := by
        unfold psS
        rw [if_neg (fun z => z c), if_neg ck]
      obtain ⟨mk, e9, m2⟩ := MS_f (c := 1) h c (by omega)
      have F := hQ _ mk (by rw [ps]; exact m2)
      have kg2 := fun (d' : Nat) (Q' : Option x_V → x_S → Prop) => k_good (d := d') (σ := x_st (x_st σ 50 0 12 1) 50 0 13 (σ 50 0 9)) (Q := Q') (by rw [m2.2.1.1]; exact m2.2.2.1)
      have ne2 : ¬ x_st (x_st σ 50 0 12 1) 50 0 13 (σ 50 0 9) 50 0 12 = 0 := by rw [m2.2.1.1]; (show ¬ (1 : Int) = 0); omega
      simp only [if_neg ne2] at kg2
      generalize tK b n x.2.2 = tk at t10 ck kb
      rw [bk_178_7]
      simp (disch := first | omega | (simp only [x_wtI, x_wtJ, x_wtR, x_wtN]; omega) | assumption | (simp (disch := omega) only [x_st_o, x_rd_ne]; first | assumption | omega) | (apply mir_eq; assumption; (intro c h1 h2; simp (disch := omega) only [x_st_o])) | (apply mis_eq; assumption; (intro c h1 h2; simp (disch := omega) only [x_st_o])) | rfl) only [bk_178_0, bk_178_1, bk_178_2, bk_178_3, bk_178_4, bk_178_5, bk_178_6, bk_178_7, bk_178_8, bk_178_9, wp_ald0, wk_179, wp_ist1, wr_50_14, wp_ic, wl_56, wp_cald, wp_ifle, wp_goto, wp_fall, wp_ist2, wp_ild1, wp_iceq, wp_ild2, wp_ifne, wk_181, wp_lds, wk_180, wp_ifeq, wk_182, wk_177, wk_175, wk_187, ws_56, wk_188, wp_geti kd_50, wp_ret, x_clr_I, x_clr_J, x_clr_R, x_clr_U, ct_some, ct_none, lc_lt, lc_ge, lc_gt, lc_le, lc_eq, lc_r, xI_inj, xJ_inj, Option.some.injEq, eq_self, bi_r, bi_0, bi_1, bi_n, Classical.not_not, and_true, true_and, ite_true, ite_false, ↓reduceIte, ↓x_andl, z_le, z_nle, z_lt, z_nlt, z_eq, z_neq, if_pos, if_neg, x_andl, false_and, and_false, or_true, true_or, or_false, false_or, not_true, not_false_iff, x_rd_eq, x_rd_ne, x_st_o, Int.cast_ofNat_Int, Int.ofNat_zero, Int.ofNat_one, not_true_eq_false, not_false_eq_true, if_true, if_false, ite_self, and_self, Int.ofNat_eq_natCast, Int.tdiv_eq_ediv_of_nonneg, Int.tmod_eq_emod_of_nonneg, x_bm32, t10, kw, kg2]
      exact F
  · have z12 : ¬ σ 50 0 12 = 0 := by rw [h12]; exact c
    simp only [if_neg z12] at kg kw
    have F := hQ σ mkp_r (by rw [psS_f c]; exact h)
    rw [bk_178_7]
    by_cases ck : σ 50 0 10 = 3
    · simp (disch := first | omega | (simp only [x_wtI, x_wtJ, x_wtR, x_wtN]; omega) | assumption | (simp (disch := omega) only [x_st_o, x_rd_ne]; first | assumption | omega) | (apply mir_eq; assumption; (intro c h1 h2; simp (disch := omega) only [x_st_o])) | (apply mis_eq; assumption; (intro c h1 h2; simp (disch := omega) only [x_st_o])) | rfl) only [bk_178_0, bk_178_1, bk_178_2, bk_178_3, bk_178_4, bk_178_5, bk_178_6, bk_178_7, bk_178_8, bk_178_9, wp_ald0, wk_179, wp_ist1, wr_50_14, wp_ic, wl_56, wp_cald, wp_ifle, wp_goto, wp_fall, wp_ist2, wp_ild1, wp_iceq, wp_ild2, wp_ifne, wk_181, wp_lds, wk_180, wp_ifeq, wk_182, wk_177, wk_175, wk_187, ws_56, wk_188, wp_geti kd_50, wp_ret, x_clr_I, x_clr_J, x_clr_R, x_clr_U, ct_some, ct_none, lc_lt, lc_ge, lc_gt, lc_le, lc_eq, lc_r, xI_inj, xJ_inj, Option.some.injEq, eq_self, bi_r, bi_0, bi_1, bi_n, Classical.not_not, and_true, true_and, ite_true, ite_false, ↓reduceIte, ↓x_andl, z_le, z_nle, z_lt, z_nlt, z_eq, z_neq, if_pos, if_neg, x_andl, false_and, and_false, or_true, true_or, or_false, false_or, not_true, not_false_iff, x_rd_eq, x_rd_ne, x_st_o, Int.cast_ofNat_Int, Int.ofNat_zero, Int.ofNat_one, not_true_eq_false, not_false_eq_true, if_true, if_false, ite_self, and_self, Int.ofNat_eq_natCast, Int.tdiv_eq_ediv_of_nonneg, Int.tmod_eq_emod_of_nonneg, x_bm32, ck, kg]
      exact F
    · simp (disch := first | omega | (simp only [x_wtI, x_wtJ, x_wtR, x_wtN]; omega) | assumption | (simp (disch := omega) only [x_st_o, x_rd_ne]; first | assumption | omega) | (apply mir_eq; assumption; (intro c h1 h2; simp (disch := omega) only [x_st_o])) | (apply mis_eq; assumption; (intro c h1 h2; simp (disch := omega) only [x_st_o])) | rfl) only [bk_178_0, bk_178_1, bk_178_2, bk_178_3, bk_178_4, bk_178_5, bk_178_6, bk_178_7, bk_178_8, bk_178_9, wp_ald0, wk_179, wp_ist1, wr_50_14, wp_ic, wl_56, wp_cald, wp_ifle, wp_goto, wp_fall, wp_ist2, wp_ild1, wp_iceq, wp_ild2, wp_ifne, wk_181, wp_lds, wk_180, wp_ifeq, wk_182, wk_177, wk_175, wk_187, ws_56, wk_188, wp_geti kd_50, wp_ret, x_clr_I, x_clr_J, x_clr_R, x_clr_U, ct_some, ct_none, lc_lt, lc_ge, lc_gt, lc_le, lc_eq, lc_r, xI_inj, xJ_inj, Option.some.injEq, eq_self, bi_r, bi_0, bi_1, bi_n, Classical.not_not, and_true, true_and, ite_true, ite_false, ↓reduceIte, ↓x_andl, z_le, z_nle, z_lt, z_nlt, z_eq, z_neq, if_pos, if_neg, x_andl, false_and, and_false, or_true, true_or, or_false, false_or, not_true, not_false_iff, x_rd_eq, x_rd_ne, x_st_o, Int.cast_ofNat_Int, Int.ofNat_zero, Int.ofNat_one, not_true_eq_false, not_false_eq_true, if_true, if_false, ite_self, and_self, Int.ofNat_eq_natCast, Int.tdiv_eq_ediv_of_nonneg, Int.tmod_eq_emod_of_nonneg, x_bm32, kw, kg]
      exact F
theorem k_mw {d : Nat} {Q : Option x_V → x_S → Prop} {σ : x_S} {b : Int → Int} {n A : Int} {j : Nat} (i : Nat) (hj : j < 28) (e : xst j = xst i) (h : MS σ b n (0, -1, A)) : (wrd b n A i → (x_Sp (d + 4) 180 [xR 50 0, xR 101 j] σ Q ↔ Q (some (xI 1)) σ)) ∧ (¬ wrd b n A i → (x_Sp (d + 4) 180 [xR 50 0, xR 101 j] σ Q ↔ Q (some (xI 0)) σ)) := by
  have k := k_mis (d := d) (Q := Q) hj h
  rw [e] at k
  refine ⟨fun z => ?_, fun z => ?_⟩
  · rw [if_pos ⟨rfl, z⟩] at k
    exact k
  · rw [if_neg (fun y => z y.2)] at k
    exact k
theorem wrd_u {b : Int → Int} {n A : Int} {i j : Nat} (h : wrd b n A i) (h' : wrd b n A j) : xst i = xst j := isW_u h h'
theorem xw_d : ¬ xst 0 = xst 1 ∧ ¬ xst 0 = xst 2 ∧ ¬ xst 0 = xst 4 ∧ ¬ xst 0 = xst 5 ∧ ¬ xst 1 = xst 2 ∧ ¬ xst 1 = xst 4 ∧ ¬ xst 1 = xst 5 ∧ ¬ xst 2 = xst 4 ∧ ¬ xst 2 = xst 5 ∧ ¬ xst 4 = xst 5 ∧ ¬ xst 6 = xst 11 := by decide +kernel
theorem xw_r : ¬ xst 0 = xst 6 ∧ ¬ xst 1 = xst 6 ∧ ¬ xst 2 = xst 6 ∧ ¬ xst 4 = xst 6 ∧ ¬ xst 5 = xst 6 ∧ ¬ xst 0 = xst 11 ∧ ¬ xst 1 = xst 11 ∧ ¬ xst 2 = xst 11 ∧ ¬ xst 4 = xst 11 ∧ ¬ xst 5 = xst 11 := by decide +kernel
theorem fw_d {b : Int → Int} {n A k : Int} (h : fivW b n A k) : ¬ wrd b n A 6 ∧ ¬ wrd b n A 11 := by
  have x := xw_r
  rcases h with ⟨_, h⟩ | ⟨_, h⟩ | ⟨_, h⟩ | ⟨_, h⟩ | ⟨_, h⟩
  · exact ⟨fun z => x.1 (wrd_u h z), fun z => x.2.2.2.2.2.1 (wrd_u h z)⟩
  · exact ⟨fun z => x.2.1 (wrd_u h z), fun z => x.2.2.2.2.2.2.1 (wrd_u h z)⟩
  · exact ⟨fun z => x.2.2.1 (wrd_u h z), fun z => x.2.2.2.2.2.2.2.1 (wrd_u h z)⟩
  · exact ⟨fun z => x.2.2.2.1 (wrd_u h z), fun z => x.2.2.2.2.2.2.2.2.1 (wrd_u h z)⟩
  · exact ⟨fun z => x.2.2.2.2.1 (wrd_u h z), fun z => x.2.2.2.2.2.2.2.2.2 (wrd_u h z)⟩
theorem k_five {d : Nat} {Q : Option x_V → x_S → Prop} {σ : x_S} {b : Int → Int} {n A k : Int} (h : MS σ b n (0, -1, A)) (hk : fivW b n A k) : x_Sp (d + 5) 179 [xR 50 0] σ Q ↔ Q (some (xI k)) σ := by
  have x := xw_d
  refine x_sp_of ?_
  have w0 := fun (d' : Nat) (Q' : Option x_V → x_S → Prop) => k_mw (d := d') (Q := Q') (j := 14) 0 (by decide) rfl h
  have w1 := fun (d' : Nat) (Q' : Option x_V → x_S → Prop) => k_mw (d := d') (Q := Q') (j := 15) 1 (by decide) rfl h
  have w2 := fun (d' : Nat) (Q' : Option x_V → x_S → Prop) => k_mw (d := d') (Q := Q') (j := 16) 2 (by decide) rfl h
  have w4 := fun (d' : Nat) (Q' : Option x_V → x_S → Prop) => k_mw (d := d') (Q := Q') (j := 17) 4 (by decide) rfl h
  have w5 := fun (d' : Nat) (Q' : Option x_V → x_S → Prop) => k_mw (d := d') (Q := Q') (j := 18) 5 (by decide) rfl h
  rcases hk with ⟨rfl, hk⟩ | ⟨rfl, hk⟩ | ⟨rfl, hk⟩ | ⟨rfl, hk⟩ | ⟨rfl, hk⟩
  · have a0 := fun d' Q' => (w0 d' Q').1 hk
    clear w0 w1 w2 w4 w5
    simp (disch := first | omega | (simp only [x_wtI, x_wtJ, x_wtR, x_wtN]; omega) | assumption | (simp (disch := omega) only [x_st_o, x_rd_ne]; first | assumption | omega) | (apply mir_eq; assumption; (intro c h1 h2; simp (disch := omega) only [x_st_o])) | (apply mis_eq; assumption; (intro c h1 h2; simp (disch := omega) only [x_st_o])) | rfl) only [sp_179, bk_179_0, bk_179_1, bk_179_2, bk_179_3, bk_179_4, bk_179_5, bk_179_6, wp_ald0, wp_lds, wk_180, wp_ifeq, wp_ic, wp_goto, wp_fall, wp_iret mz_179, x_clr_I, x_clr_J, x_clr_R, x_clr_U, ct_some, ct_none, lc_lt, lc_ge, lc_gt, lc_le, lc_eq, lc_r, xI_inj, xJ_inj, Option.some.injEq, eq_self, bi_r, bi_0, bi_1, bi_n, Classical.not_not, and_true, true_and, ite_true, ite_false, ↓reduceIte, ↓x_andl, z_le, z_nle, z_lt, z_nlt, z_eq, z_neq, if_pos, if_neg, x_andl, false_and, and_false, or_true, true_or, or_false, false_or, not_true, not_false_iff, x_rd_eq, x_rd_ne, x_st_o, Int.cast_ofNat_Int, Int.ofNat_zero, Int.ofNat_one, not_true_eq_false, not_false_eq_true, if_true, if_false, ite_self, and_self, Int.ofNat_eq_natCast, Int.tdiv_eq_ediv_of_nonneg, Int.tmod_eq_emod_of_nonneg, x_bm32, a0]
  · have a0 := fun d' Q' => (w0 d' Q').2 (fun z => x.1 (wrd_u z hk))
    have a1 := fun d' Q' => (w1 d' Q').1 hk
    clear w0 w1 w2 w4 w5
    simp (disch := first | omega | (simp only [x_wtI, x_wtJ, x_wtR, x_wtN]; omega) | assumption | (simp (disch := omega) only [x_st_o, x_rd_ne]; first | assumption | omega) | (apply mir_eq; assumption; (intro c h1 h2; simp (disch := omega) only [x_st_o])) | (apply mis_eq; assumption; (intro c h1 h2; simp (disch := omega) only [x_st_o])) | rfl) only [sp_179, bk_179_0, bk_179_1, bk_179_2, bk_179_3, bk_179_4, bk_179_5, bk_179_6, wp_ald0, wp_lds, wk_180, wp_ifeq, wp_ic, wp_goto, wp_fall, wp_iret mz_179, x_clr_I, x_clr_J, x_clr_R, x_clr_U, ct_some, ct_none, lc_lt, lc_ge, lc_gt, lc_le, lc_eq, lc_r, xI_inj, xJ_inj, Option.some.injEq, eq_self, bi_r, bi_0, bi_1, bi_n, Classical.not_not, and_true, true_and, ite_true, ite_false, ↓reduceIte, ↓x_andl, z_le, z_nle, z_lt, z_nlt, z_eq, z_neq, if_pos, if_neg, x_andl, false_and, and_false, or_true, true_or, or_false, false_or, not_true, not_false_iff, x_rd_eq, x_rd_ne, x_st_o, Int.cast_ofNat_Int, Int.ofNat_zero, Int.ofNat_one, not_true_eq_false, not_false_eq_true, if_true, if_false, ite_self, and_self, Int.ofNat_eq_natCast, Int.tdiv_eq_ediv_of_nonneg, Int.tmod_eq_emod_of_nonneg, x_bm32, a0, a1]
  · have a0 := fun d' Q' => (w0 d' Q').2 (fun z => x.2.1 (wrd_u z hk))
    have a1 := fun d' Q' => (w1 d' Q').2 (fun z => x.2.2.2.2.1 (wrd_u z hk))
    have a2 := fun d' Q' => (w2 d' Q').1 hk
    clear w0 w1 w2 w4 w5
    simp (disch := first | omega | (simp only [x_wtI, x_wtJ, x_wtR, x_wtN]; omega) | assumption | (simp (disch := omega) only [x_st_o, x_rd_ne]; first | assumption | omega) | (apply mir_eq; assumption; (intro c h1 h2; simp (disch := omega) only [x_st_o])) | (apply mis_eq; assumption; (intro c h1 h2; simp (disch := omega) only [x_st_o])) | rfl) only [sp_179, bk_179_0, bk_179_1, bk_179_2, bk_179_3, bk_179_4, bk_179_5, bk_179_6, wp_ald0, wp_lds, wk_180, wp_ifeq, wp_ic, wp_goto, wp_fall, wp_iret mz_179, x_clr_I, x_clr_J, x_clr_R, x_clr_U, ct_some, ct_none, lc_lt, lc_ge, lc_gt, lc_le, lc_eq, lc_r, xI_inj, xJ_inj, Option.some.injEq, eq_self, bi_r, bi_0, bi_1, bi_n, Classical.not_not, and_true, true_and, ite_true, ite_false, ↓reduceIte, ↓x_andl, z_le, z_nle, z_lt, z_nlt, z_eq, z_neq, if_pos, if_neg, x_andl, false_and, and_false, or_true, true_or, or_false, false_or, not_true, not_false_iff, x_rd_eq, x_rd_ne, x_st_o, Int.cast_ofNat_Int, Int.ofNat_zero, Int.ofNat_one, not_true_eq_false, not_false_eq_true, if_true, if_false, ite_self, and_self, Int.ofNat_eq_natCast, Int.tdiv_eq_ediv_of_nonneg, Int.tmod_eq_emod_of_nonneg, x_bm32, a0, a1, a2]
  · have a0 := fun d' Q' => (w0 d' Q').2 (fun z => x.2.2.1 (wrd_u z hk))
    have a1 := fun d' Q' => (w1 d' Q').2 (fun z => x.2.2.2.2.2.1 (wrd_u z hk))
    have a2 := fun d' Q' => (w2 d' Q').2 (fun z => x.2.2.2.2.2.2.2.1 (wrd_u z hk))
    have a4 := fun d' Q' => (w4 d' Q').1 hk
    clear w0 w1 w2 w4 w5
    simp (disch := first | omega | (simp only [x_wtI, x_wtJ, x_wtR, x_wtN]; omega) | assumption | (simp (disch := omega) only [x_st_o, x_rd_ne]; first | assumption | omega) | (apply mir_eq; assumption; (intro c h1 h2; simp (disch := omega) only [x_st_o])) | (apply mis_eq; assumption; (intro c h1 h2; simp (disch := omega) only [x_st_o])) | rfl) only [sp_179, bk_179_0, bk_179_1, bk_179_2, bk_179_3, bk_179_4, bk_179_5, bk_179_6, wp_ald0, wp_lds, wk_180, wp_ifeq, wp_ic, wp_goto, wp_fall, wp_iret mz_179, x_clr_I, x_clr_J, x_clr_R, x_clr_U, ct_some, ct_none, lc_lt, lc_ge, lc_gt, lc_le, lc_eq, lc_r, xI_inj, xJ_inj, Option.some.injEq, eq_self, bi_r, bi_0, bi_1, bi_n, Classical.not_not, and_true, true_and, ite_true, ite_false, ↓reduceIte, ↓x_andl, z_le, z_nle, z_lt, z_nlt, z_eq, z_neq, if_pos, if_neg, x_andl, false_and, and_false, or_true, true_or, or_false, false_or, not_true, not_false_iff, x_rd_eq, x_rd_ne, x_st_o, Int.cast_ofNat_Int, Int.ofNat_zero, Int.ofNat_one, not_true_eq_false, not_false_eq_true, if_true, if_false, ite_self, and_self, Int.ofNat_eq_natCast, Int.tdiv_eq_ediv_of_nonneg, Int.tmod_eq_emod_of_nonneg, x_bm32, a0, a1, a2, a4]
  · have a0 := fun d' Q' => (w0 d' Q').2 (fun z => x.2.2.2.1 (wrd_u z hk))
    have a1 := fun d' Q' => (w1 d' Q').2 (fun z => x.2.2.2.2.2.2.1 (wrd_u z hk))
    have a2 := fun d' Q' => (w2 d' Q').2 (fun z => x.2.2.2.2.2.2.2.2.1 (wrd_u z hk))
    have a4 := fun d' Q' => (w4 d' Q').2 (fun z => x.2.2.2.2.2.2.2.2.2.1 (wrd_u z hk))
    have a5 := fun d' Q' => (w5 d' Q').1 hk
    clear w0 w1 w2 w4 w5
    simp (disch := first | omega | (simp only [x_wtI, x_wtJ, x_wtR, x_wtN]; omega) | assumption | (simp (disch := omega) only [x_st_o, x_rd_ne]; first | assumption | omega) | (apply mir_eq; assumption; (intro c h1 h2; simp (disch := omega) only [x_st_o])) | (apply mis_eq; assumption; (intro c h1 h2; simp (disch := omega) only [x_st_o])) | rfl) only [sp_179, bk_179_0, bk_179_1, bk_179_2, bk_179_3, bk_179_4, bk_179_5, bk_179_6, wp_ald0, wp_lds, wk_180, wp_ifeq, wp_ic, wp_goto, wp_fall, wp_iret mz_179, x_clr_I, x_clr_J, x_clr_R, x_clr_U, ct_some, ct_none, lc_lt, lc_ge, lc_gt, lc_le, lc_eq, lc_r, xI_inj, xJ_inj, Option.some.injEq, eq_self, bi_r, bi_0, bi_1, bi_n, Classical.not_not, and_true, true_and, ite_true, ite_false, ↓reduceIte, ↓x_andl, z_le, z_nle, z_lt, z_nlt, z_eq, z_neq, if_pos, if_neg, x_andl, false_and, and_false, or_true, true_or, or_false, false_or, not_true, not_false_iff, x_rd_eq, x_rd_ne, x_st_o, Int.cast_ofNat_Int, Int.ofNat_zero, Int.ofNat_one, not_true_eq_false, not_false_eq_true, if_true, if_false, ite_self, and_self, Int.ofNat_eq_natCast, Int.tdiv_eq_ediv_of_nonneg, Int.tmod_eq_emod_of_nonneg, x_bm32, a0, a1, a2, a4, a5]
theorem k_fiveN {d : Nat} {Q : Option x_V → x_S → Prop} {σ : x_S} {b : Int → Int} {n A : Int} (h : MS σ b n (0, -1, A)) (hk : ∀ k, ¬ fivW b n A k) : x_Sp (d + 5) 179 [xR 50 0] σ Q ↔ Q (some (xI (-1))) σ := by
  refine x_sp_of ?_
  have a0 := fun (d' : Nat) (Q' : Option x_V → x_S → Prop) => (k_mw (d := d') (Q := Q') (j := 14) 0 (by decide) rfl h).2 (fun z => hk 0 (Or.inl ⟨rfl, z⟩))
  have a1 := fun (d' : Nat) (Q' : Option x_V → x_S → Prop) => (k_mw (d := d') (Q := Q') (j := 15) 1 (by decide) rfl h).2 (fun z => hk 1 (Or.inr (Or.inl ⟨rfl, z⟩)))
  have a2 := fun (d' : Nat) (Q' : Option x_V → x_S → Prop) => (k_mw (d := d') (Q := Q') (j := 16) 2 (by decide) rfl h).2 (fun z => hk 2 (Or.inr (Or.inr (Or.inl ⟨rfl, z⟩))))
  have a4 := fun (d' : Nat) (Q' : Option x_V → x_S → Prop) => (k_mw (d := d') (Q := Q') (j := 17) 4 (by decide) rfl h).2 (fun z => hk 3 (Or.inr (Or.inr (Or.inr (Or.inl ⟨rfl, z⟩)))))
  have a5 := fun (d' : Nat) (Q' : Option x_V → x_S → Prop) => (k_mw (d := d') (Q := Q') (j := 18) 5 (by decide) rfl h).2 (fun z => hk 4 (Or.inr (Or.inr (Or.inr (Or.inr ⟨rfl, z⟩)))))
  simp (disch := first | omega | (simp only [x_wtI, x_wtJ, x_wtR, x_wtN]; omega) | assumption | (simp (disch := omega) only [x_st_o, x_rd_ne]; first | assumption | omega) | (apply mir_eq; assumption; (intro c h1 h2; simp (disch := omega) only [x_st_o])) | (apply mis_eq; assumption; (intro c h1 h2; simp (disch := omega) only [x_st_o])) | rfl) only [sp_179, bk_179_0, bk_179_1, bk_179_2, bk_179_3, bk_179_4, bk_179_5, bk_179_6, wp_ald0, wp_lds, wk_180, wp_ifeq, wp_ic, wp_goto, wp_fall, wp_iret mz_179, x_clr_I, x_clr_J, x_clr_R, x_clr_U, ct_some, ct_none, lc_lt, lc_ge, lc_gt, lc_le, lc_eq, lc_r, xI_inj, xJ_inj, Option.some.injEq, eq_self, bi_r, bi_0, bi_1, bi_n, Classical.not_not, and_true, true_and, ite_true, ite_false, ↓reduceIte, ↓x_andl, z_le, z_nle, z_lt, z_nlt, z_eq, z_neq, if_pos, if_neg, x_andl, false_and, and_false, or_true, true_or, or_false, false_or, not_true, not_false_iff, x_rd_eq, x_rd_ne, x_st_o, Int.cast_ofNat_Int, Int.ofNat_zero, Int.ofNat_one, not_true_eq_false, not_false_eq_true, if_true, if_false, ite_self, and_self, Int.ofNat_eq_natCast, Int.tdiv_eq_ediv_of_nonneg, Int.tmod_eq_emod_of_nonneg, x_bm32, a0, a1, a2, a4, a5]

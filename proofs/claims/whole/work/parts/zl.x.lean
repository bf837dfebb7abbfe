theorem k_mayC {d : Nat} {σ : x_S} {Q : Option x_V → x_S → Prop} {fr : Int → Int} {v : Int} (hM : mir σ 0 fr) (hW : dW fr) (hv : 0 ≤ v ∧ v ≤ 100000) : x_Sp (d + 1) 59 [xR 6 0, xI v] σ Q ↔ Q (some (xI (if mayF fr v then 1 else 0))) σ := by
  refine x_sp_of ?_
  have mb := dW_m hW
  have sz := mi_size hM
  by_cases c1 : v < fr 0
  · have hw : wf fr := (hW.2.2.resolve_left (fun z => by omega)).1
    have o := wf_f hw hv.1 c1
    unfold wf_one at o
    have f6 := mi_far hM hv.1 c1
    have f7 := mi_kids hM hv.1 c1
    by_cases c2 : w_of fr v 6 < 4
    · by_cases c3 : w_of fr v 7 < 5
      · rw [if_pos ⟨⟨hv.1, c1⟩, c2, c3⟩]
        simp (disch := first | omega | (simp only [x_wtI, x_wtJ, x_wtR, x_wtN]; omega) | assumption | (simp (disch := omega) only [x_st_o, x_rd_ne]; first | assumption | omega) | (apply mir_eq; assumption; (intro c h1 h2; simp (disch := omega) only [x_st_o])) | (apply mis_eq; assumption; (intro c h1 h2; simp (disch := omega) only [x_st_o])) | rfl) only [sp_59, bk_59_0, bk_59_1, bk_59_2, wp_ald0, wp_ild1, wk_60, wp_ifeq, wr_6_13, wl_13, wl_14, wp_cald, wp_ic, wp_icge, wr_6_14, wp_goto, wp_fall, wp_zret0 mz_59, wp_zret1 mz_59, wp_zretb mz_59, wp_zret mz_59, sp_60, bk_60_0, bk_60_1, bk_60_2, wp_iflt, wp_geti kd_6, wp_zret0 mz_60, wp_zret1 mz_60, wp_zretb mz_60, wp_zret mz_60, x_clr_I, x_clr_J, x_clr_R, x_clr_U, ct_some, ct_none, lc_lt, lc_ge, lc_gt, lc_le, lc_eq, lc_r, xI_inj, xJ_inj, Option.some.injEq, eq_self, bi_r, bi_0, bi_1, bi_n, Classical.not_not, and_true, true_and, ite_true, ite_false, ↓reduceIte, ↓x_andl, z_le, z_nle, z_lt, z_nlt, z_eq, z_neq, if_pos, if_neg, x_andl, false_and, and_false, or_true, true_or, or_false, false_or, not_true, not_false_iff, x_rd_eq, x_rd_ne, x_st_o, Int.cast_ofNat_Int, Int.ofNat_zero, Int.ofNat_one, not_true_eq_false, not_false_eq_true, if_true, if_false, ite_self, and_self, Int.ofNat_eq_natCast, Int.tdiv_eq_ediv_of_nonneg, Int.tmod_eq_emod_of_nonneg, x_bm32, sz, f6, f7]
      · rw [if_neg (fun z => c3 z.2.2)]
        simp (disch := first | omega | (simp only [x_wtI, x_wtJ, x_wtR, x_wtN]; omega) | assumption | (simp (disch := omega) only [x_st_o, x_rd_ne]; first | assumption | omega) | (apply mir_eq; assumption; (intro c h1 h2; simp (disch := omega) only [x_st_o])) | (apply mis_eq; assumption; (intro c h1 h2; simp (disch := omega) only [x_st_o])) | rfl) only [sp_59, bk_59_0, bk_59_1, bk_59_2, wp_ald0, wp_ild1, wk_60, wp_ifeq, wr_6_13, wl_13, wl_14, wp_cald, wp_ic, wp_icge, wr_6_14, wp_goto, wp_fall, wp_zret0 mz_59, wp_zret1 mz_59, wp_zretb mz_59, wp_zret mz_59, sp_60, bk_60_0, bk_60_1, bk_60_2, wp_iflt, wp_geti kd_6, wp_zret0 mz_60, wp_zret1 mz_60, wp_zretb mz_60, wp_zret mz_60, x_clr_I, x_clr_J, x_clr_R, x_clr_U, ct_some, ct_none, lc_lt, lc_ge, lc_gt, lc_le, lc_eq, lc_r, xI_inj, xJ_inj, Option.some.injEq, eq_self, bi_r, bi_0, bi_1, bi_n, Classical.not_not, and_true, true_and, ite_true, ite_false, ↓reduceIte, ↓x_andl, z_le, z_nle, z_lt, z_nlt, z_eq, z_neq, if_pos, if_neg, x_andl, false_and, and_false, or_true, true_or, or_false, false_or, not_true, not_false_iff, x_rd_eq, x_rd_ne, x_st_o, Int.cast_ofNat_Int, Int.ofNat_zero, Int.ofNat_one, not_true_eq_false, not_false_eq_true, if_true, if_false, ite_self, and_self, Int.ofNat_eq_natCast, Int.tdiv_eq_ediv_of_nonneg, Int.tmod_eq_emod_of_nonneg, x_bm32, sz, f6, f7]
    · rw [if_neg (fun z => c2 z.2.1)]
      simp (disch := first | omega | (simp only [x_wtI, x_wtJ, x_wtR, x_wtN]; omega) | assumption | (simp (disch := omega) only [x_st_o, x_rd_ne]; first | assumption | omega) | (apply mir_eq; assumption; (intro c h1 h2; simp (disch := omega) only [x_st_o])) | (apply mis_eq; assumption; (intro c h1 h2; simp (disch := omega) only [x_st_o])) | rfl) only [sp_59, bk_59_0, bk_59_1, bk_59_2, wp_ald0, wp_ild1, wk_60, wp_ifeq, wr_6_13, wl_13, wl_14, wp_cald, wp_ic, wp_icge, wr_6_14, wp_goto, wp_fall, wp_zret0 mz_59, wp_zret1 mz_59, wp_zretb mz_59, wp_zret mz_59, sp_60, bk_60_0, bk_60_1, bk_60_2, wp_iflt, wp_geti kd_6, wp_zret0 mz_60, wp_zret1 mz_60, wp_zretb mz_60, wp_zret mz_60, x_clr_I, x_clr_J, x_clr_R, x_clr_U, ct_some, ct_none, lc_lt, lc_ge, lc_gt, lc_le, lc_eq, lc_r, xI_inj, xJ_inj, Option.some.injEq, eq_self, bi_r, bi_0, bi_1, bi_n, Classical.not_not, and_true, true_and, ite_true, ite_false, ↓reduceIte, ↓x_andl, z_le, z_nle, z_lt, z_nlt, z_eq, z_neq, if_pos, if_neg, x_andl, false_and, and_false, or_true, true_or, or_false, false_or, not_true, not_false_iff, x_rd_eq, x_rd_ne, x_st_o, Int.cast_ofNat_Int, Int.ofNat_zero, Int.ofNat_one, not_true_eq_false, not_false_eq_true, if_true, if_false, ite_self, and_self, Int.ofNat_eq_natCast, Int.tdiv_eq_ediv_of_nonneg, Int.tmod_eq_emod_of_nonneg, x_bm32, sz, f6]
  · rw [if_neg (fun z => c1 z.1.2)]
    simp (disch := first | omega | (simp only [x_wtI, x_wtJ, x_wtR, x_wtN]; omega) | assumption | (simp (disch := omega) only [x_st_o, x_rd_ne]; first | assumption | omega) | (apply mir_eq; assumption; (intro c h1 h2; simp (disch := omega) only [x_st_o])) | (apply mis_eq; assumption; (intro c h1 h2; simp (disch := omega) only [x_st_o])) | rfl) only [sp_59, bk_59_0, bk_59_1, bk_59_2, wp_ald0, wp_ild1, wk_60, wp_ifeq, wr_6_13, wl_13, wl_14, wp_cald, wp_ic, wp_icge, wr_6_14, wp_goto, wp_fall, wp_zret0 mz_59, wp_zret1 mz_59, wp_zretb mz_59, wp_zret mz_59, sp_60, bk_60_0, bk_60_1, bk_60_2, wp_iflt, wp_geti kd_6, wp_zret0 mz_60, wp_zret1 mz_60, wp_zretb mz_60, wp_zret mz_60, x_clr_I, x_clr_J, x_clr_R, x_clr_U, ct_some, ct_none, lc_lt, lc_ge, lc_gt, lc_le, lc_eq, lc_r, xI_inj, xJ_inj, Option.some.injEq, eq_self, bi_r, bi_0, bi_1, bi_n, Classical.not_not, and_true, true_and, ite_true, ite_false, ↓reduceIte, ↓x_andl, z_le, z_nle, z_lt, z_nlt, z_eq, z_neq, if_pos, if_neg, x_andl, false_and, and_false, or_true, true_or, or_false, false_or, not_true, not_false_iff, x_rd_eq, x_rd_ne, x_st_o, Int.cast_ofNat_Int, Int.ofNat_zero, Int.ofNat_one, not_true_eq_false, not_false_eq_true, if_true, if_false, ite_self, and_self, Int.ofNat_eq_natCast, Int.tdiv_eq_ediv_of_nonneg, Int.tmod_eq_emod_of_nonneg, x_bm32, sz]
/-! the class reads the fork that it comes under -/
theorem h_parent {σ : x_S} {b : Int → Int} {n : Int} {fr : Int → Int} {x : PS} (hM : mir σ 0 fr) (hW : dW fr) (h : CS σ b n x) : ∃ σ1 σ2 v, (∀ (d : Nat) (Q : Option x_V → x_S → Prop), x_Sp (d + 2) 34 [xR 3 0, xI 0, xI 100000] σ Q ↔ Q (some (xI v)) σ1) ∧ ((mayF fr v ∧ (∀ (d : Nat) (Q : Option x_V → x_S → Prop), x_Sp (d + 1) 59 [xR 6 0, xI v] σ1 Q ↔ Q (some (xI 1)) σ1) ∧ σ2 = σ1) ∨ (¬ mayF fr v ∧ (∀ (d : Nat) (Q : Option x_V → x_S → Prop), x_Sp (d + 1) 59 [xR 6 0, xI v] σ1 Q ↔ Q (some (xI 0)) σ1) ∧ ∀ (d : Nat) (Q : Option x_V → x_S → Prop), x_Sp d 33 [xR 3 0, xI 2] σ1 Q ↔ Q none σ2)) ∧ rkp σ σ2 ∧ CS σ2 b n (psP b n fr x) ∧ ((psP b n fr x).1 = 0 → v = psV b n x) := by
  obtain ⟨r, σ1, ⟨rk, c1, v, hr, vb, hv, h7⟩, ev⟩ := x_ex (h_num (lo := 0) (hi := 100000) (by omega) (by omega) h)
  subst hr
  have hM1 : mir σ1 0 fr := mir_eq hM (fun c q1 q2 => rk.1 c 0 (by simp; omega))
  obtain ⟨hB1, ⟨h21, h31⟩, hS1, hx1, hc1⟩ := id c1
  have km := fun (d : Nat) (Q : Option x_V → x_S → Prop) => k_mayC (d := d) (Q := Q) hM1 hW vb
  have kf := fun (d' : Nat) (Q' : Option x_V → x_S → Prop) => k_fail (d := d') (σ := σ1) (Q := Q') (c := 2) (by omega)
  by_cases c0 : x.1 = 0
  · by_cases ck : tK b n x.2.2 = 2
    · have ev5 := hv c0 ck
      have ps1 : psN b n 0 100000 x = (0, -1, tA b n x.2.2) := by
        unfold psN
        rw [if_neg (fun z => z c0), if_neg (fun z => z ck), if_neg (fun z => z (by rw [← ev5]; exact vb))]
      rw [ps1] at c1 h21
      have z2 : σ1 3 0 2 = 0 := h21
      by_cases cm : mayF fr v
      · have ps : psP b n fr x = (0, -1, tA b n x.2.2) := by
          unfold psP
          rw [if_neg (fun z => z c0), if_neg (fun z => z ck), if_neg (fun z => z (by rw [← ev5]; exact cm))]
        simp only [if_pos cm] at km
        exact ⟨σ1, σ1, v, ev, Or.inl ⟨cm, km, rfl⟩, rk, by rw [ps]; exact c1, fun _ => ev5⟩
      · have ps : psP b n fr x = (2, tF b n x.2.2, x.2.2) := by
          unfold psP
          rw [if_neg (fun z => z c0), if_neg (fun z => z ck), if_pos (by rw [← ev5]; exact cm)]
        simp only [if_neg cm] at km
        simp only [if_pos z2] at kf
        obtain ⟨rk2, cs2⟩ := CS_f (c := 2) hB1 hS1 z2 (by omega)
        refine ⟨σ1, _, v, ev, Or.inr ⟨cm, km, kf⟩, rkp_t rk rk2, ?_, fun _ => ev5⟩
        rw [ps, ← h7 c0]
        exact cs2 x.2.2
    · have ps1 : psN b n 0 100000 x = (1, tF b n x.2.2, x.2.2) := by
        unfold psN
        rw [if_neg (fun z => z c0), if_pos ck]
      have ps : psP b n fr x = (1, tF b n x.2.2, x.2.2) := by
        unfold psP
        rw [if_neg (fun z => z c0), if_pos ck]
      rw [ps1] at c1 h21
      have z2 : ¬ σ1 3 0 2 = 0 := by
        have : σ1 3 0 2 = 1 := h21
        omega
      simp only [if_neg z2] at kf
      have nz : (psP b n fr x).1 = 0 → v = psV b n x := fun z => by
        rw [ps] at z
        exact absurd z ne11'
      by_cases cm : mayF fr v
      · simp only [if_pos cm] at km
        exact ⟨σ1, σ1, v, ev, Or.inl ⟨cm, km, rfl⟩, rk, by rw [ps]; exact c1, nz⟩
      · simp only [if_neg cm] at km
        exact ⟨σ1, σ1, v, ev, Or.inr ⟨cm, km, kf⟩, rk, by rw [ps]; exact c1, nz⟩
  · have ps1 : psN b n 0 100000 x = x := if_pos c0
    have ps : psP b n fr x = x := if_pos c0
    rw [ps1] at c1 h21
    have z2 : ¬ σ1 3 0 2 = 0 := by rw [h21]; exact c0
    simp only [if_neg z2] at kf
    have nz : (psP b n fr x).1 = 0 → v = psV b n x := fun z => by
      rw [ps] at z
      exact absurd z c0
    by_cases cm : mayF fr v
    · simp only [if_pos cm] at km
      exact ⟨σ1, σ1, v, ev, Or.inl ⟨cm, km, rfl⟩, rk, by rw [ps]; exact c1, nz⟩
    · simp only [if_neg cm] at km
      exact ⟨σ1, σ1, v, ev, Or.inr ⟨cm, km, kf⟩, rk, by rw [ps]; exact c1, nz⟩

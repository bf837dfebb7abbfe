theorem nv_in {b : Int → Int} {n p lo hi : Int} (h : p ≤ n) (hk : tK b n p = 2) (hh : hi ≤ 9998) : ((lo ≤ nv 9999 b (tF b n p) (tA b n p) ∧ nv 9999 b (tF b n p) (tA b n p) ≤ hi) ↔ (lo ≤ nv 100000 b (tF b n p) (tA b n p) ∧ nv 100000 b (tF b n p) (tA b n p) ≤ hi)) ∧ (nv 9999 b (tF b n p) (tA b n p) ≤ 9998 → nv 9999 b (tF b n p) (tA b n p) = nv 100000 b (tF b n p) (tA b n p)) := by
  have e := nv_2 h hk
  have v := nv_b (cap := 100000) h hk (by omega)
  omega
theorem ne12' {a c : Int} : ¬ ((2, a, c) : PS).1 = 0 := fun z => by (have : (2 : Int) = 0 := z; omega)
theorem ne11' {a c : Int} : ¬ ((1, a, c) : PS).1 = 0 := fun z => by (have : (1 : Int) = 0 := z; omega)
theorem h_mnum {σ : x_S} {b : Int → Int} {n lo hi : Int} {x : PS} (hlo : 0 ≤ lo ∧ lo ≤ 1) (hhi : 0 ≤ hi ∧ hi ≤ 9998) (h : MS σ b n x) : x_Sp 4 184 [xR 50 0, xI lo, xI hi] σ (fun r σ' => mkp σ σ' ∧ MS σ' b n (psN b n lo hi x) ∧ ∃ v, r = some (xI v) ∧ (0 ≤ v ∧ v ≤ 9999) ∧ ((psN b n lo hi x).1 = 0 → v = psV b n x)) := by
  obtain ⟨hB, ⟨h12, h13⟩, hc, hx, h10⟩ := id h
  refine x_gen (fun Q hQ => ?_)
  by_cases c : x.1 = 0
  · obtain ⟨pr, hm, t9, t10, t8, t11⟩ := hx c
    have z12 : σ 50 0 12 = 0 := h12.trans c
    have kg := fun (d' : Nat) (Q' : Option x_V → x_S → Prop) => k_good (d := d') (σ := σ) (Q := Q') (by omega)
    simp only [if_pos z12] at kg
    have kb := tK_b (b := b) pr.2
    by_cases ck : tK b n x.2.2 = 2
    · have e11 := t11 ck
      have vb := nv_b (cap := 9999) pr.2 ck (by omega)
      have ni := nv_in (lo := lo) (hi := hi) pr.2 ck hhi.2
      have ev5 : psV b n x = nv 100000 b (tF b n x.2.2) (tA b n x.2.2) := rfl
      rw [← ev5] at ni
      rw [ck] at t10
      by_cases cv : lo ≤ nv 9999 b (tF b n x.2.2) (tA b n x.2.2) ∧ nv 9999 b (tF b n x.2.2) (tA b n x.2.2) ≤ hi
      · have ps : psN b n lo hi x = (0, -1, tA b n x.2.2) := by
          unfold psN
          rw [if_neg (fun z => z c), if_neg (fun z => z ck), if_neg (fun z => z (ni.1.mp cv))]
        obtain ⟨r, σ2, ⟨hr, ms, m2⟩, ev⟩ := x_ex (h_mgo h c)
        subst hr
        have F := hQ (some (xI (nv 9999 b (tF b n x.2.2) (tA b n x.2.2)))) σ2 ⟨msp_m ms, by rw [ps]; exact m2, _, rfl, vb, fun _ => ni.2 (by omega)⟩
        generalize nv 9999 b (tF b n x.2.2) (tA b n x.2.2) = v at e11 vb cv F
        simp (disch := first | omega | (simp only [x_wtI, x_wtJ, x_wtR, x_wtN]; omega) | assumption | (simp (disch := omega) only [x_st_o, x_rd_ne]; first | assumption | omega) | (apply mir_eq; assumption; (intro c h1 h2; simp (disch := omega) only [x_st_o])) | (apply mis_eq; assumption; (intro c h1 h2; simp (disch := omega) only [x_st_o])) | rfl) only [sp_184, bk_184_0, bk_184_1, bk_184_2, bk_184_3, wp_ald0, wk_177, wp_ifeq, wp_geti kd_50, wp_ic, wp_iceq, wk_182, wp_fall, wp_i2l, wp_ild1, wp_ild2, wk_169, wp_ifne, wp_iret mz_184, wp_ist3, wk_175, wp_ild3, x_clr_I, x_clr_J, x_clr_R, x_clr_U, ct_some, ct_none, lc_lt, lc_ge, lc_gt, lc_le, lc_eq, lc_r, xI_inj, xJ_inj, Option.some.injEq, eq_self, bi_r, bi_0, bi_1, bi_n, Classical.not_not, and_true, true_and, ite_true, ite_false, ↓reduceIte, ↓x_andl, z_le, z_nle, z_lt, z_nlt, z_eq, z_neq, if_pos, if_neg, x_andl, false_and, and_false, or_true, true_or, or_false, false_or, not_true, not_false_iff, x_rd_eq, x_rd_ne, x_st_o, Int.cast_ofNat_Int, Int.ofNat_zero, Int.ofNat_one, not_true_eq_false, not_false_eq_true, if_true, if_false, ite_self, and_self, Int.ofNat_eq_natCast, Int.tdiv_eq_ediv_of_nonneg, Int.tmod_eq_emod_of_nonneg, x_bm32, kg, t10, e11, c_in, bi_t cv]
        refine (ev 2 _).mpr ?_
        simp (disch := first | omega | (simp only [x_wtI, x_wtJ, x_wtR, x_wtN]; omega) | assumption | (simp (disch := omega) only [x_st_o, x_rd_ne]; first | assumption | omega) | (apply mir_eq; assumption; (intro c h1 h2; simp (disch := omega) only [x_st_o])) | (apply mis_eq; assumption; (intro c h1 h2; simp (disch := omega) only [x_st_o])) | rfl) only [bk_184_0, bk_184_1, bk_184_2, bk_184_3, wp_ald0, wk_177, wp_ifeq, wp_geti kd_50, wp_ic, wp_iceq, wk_182, wp_fall, wp_i2l, wp_ild1, wp_ild2, wk_169, wp_ifne, wp_iret mz_184, wp_ist3, wk_175, wp_ild3, x_clr_I, x_clr_J, x_clr_R, x_clr_U, ct_some, ct_none, lc_lt, lc_ge, lc_gt, lc_le, lc_eq, lc_r, xI_inj, xJ_inj, Option.some.injEq, eq_self, bi_r, bi_0, bi_1, bi_n, Classical.not_not, and_true, true_and, ite_true, ite_false, ↓reduceIte, ↓x_andl, z_le, z_nle, z_lt, z_nlt, z_eq, z_neq, if_pos, if_neg, x_andl, false_and, and_false, or_true, true_or, or_false, false_or, not_true, not_false_iff, x_rd_eq, x_rd_ne, x_st_o, Int.cast_ofNat_Int, Int.ofNat_zero, Int.ofNat_one, not_true_eq_false, not_false_eq_true, if_true, if_false, ite_self, and_self, Int.ofNat_eq_natCast, Int.tdiv_eq_ediv_of_nonneg, Int.tmod_eq_emod_of_nonneg, x_bm32]
        exact F
      · have ps : psN b n lo hi x = (2, tF b n x.2.2, x.2.2) := by
          unfold psN
          rw [if_neg (fun z => z c), if_neg (fun z => z ck), if_pos (fun z => cv (ni.1.mpr z))]
        obtain ⟨mk, e9, m2⟩ := MS_f (c := 2) h c (by omega)
        have F := hQ (some (xI 0)) _ ⟨mk, by rw [ps]; exact m2, 0, rfl, by omega, fun z => by (rw [ps] at z; exact absurd z ne12')⟩
        have kw := fun (d' : Nat) (Q' : Option x_V → x_S → Prop) => k_wrong (d := d') (σ := σ) (Q := Q') (c := 2) (by omega)
        simp only [if_pos z12] at kw
        have kg2 := fun (d' : Nat) (Q' : Option x_V → x_S → Prop) => k_good (d := d') (σ := x_st (x_st σ 50 0 12 2) 50 0 13 (σ 50 0 9)) (Q := Q') (by rw [m2.2.1.1]; exact m2.2.2.1)
        have ne2 : ¬ x_st (x_st σ 50 0 12 2) 50 0 13 (σ 50 0 9) 50 0 12 = 0 := by rw [m2.2.1.1]; (show ¬ (2 : Int) = 0); omega
        simp only [if_neg ne2] at kg2
        generalize nv 9999 b (tF b n x.2.2) (tA b n x.2.2) = v at e11 vb cv
        simp (disch := first | omega | (simp only [x_wtI, x_wtJ, x_wtR, x_wtN]; omega) | assumption | (simp (disch := omega) only [x_st_o, x_rd_ne]; first | assumption | omega) | (apply mir_eq; assumption; (intro c h1 h2; simp (disch := omega) only [x_st_o])) | (apply mis_eq; assumption; (intro c h1 h2; simp (disch := omega) only [x_st_o])) | rfl) only [sp_184, bk_184_0, bk_184_1, bk_184_2, bk_184_3, wp_ald0, wk_177, wp_ifeq, wp_geti kd_50, wp_ic, wp_iceq, wk_182, wp_fall, wp_i2l, wp_ild1, wp_ild2, wk_169, wp_ifne, wp_iret mz_184, wp_ist3, wk_175, wp_ild3, x_clr_I, x_clr_J, x_clr_R, x_clr_U, ct_some, ct_none, lc_lt, lc_ge, lc_gt, lc_le, lc_eq, lc_r, xI_inj, xJ_inj, Option.some.injEq, eq_self, bi_r, bi_0, bi_1, bi_n, Classical.not_not, and_true, true_and, ite_true, ite_false, ↓reduceIte, ↓x_andl, z_le, z_nle, z_lt, z_nlt, z_eq, z_neq, if_pos, if_neg, x_andl, false_and, and_false, or_true, true_or, or_false, false_or, not_true, not_false_iff, x_rd_eq, x_rd_ne, x_st_o, Int.cast_ofNat_Int, Int.ofNat_zero, Int.ofNat_one, not_true_eq_false, not_false_eq_true, if_true, if_false, ite_self, and_self, Int.ofNat_eq_natCast, Int.tdiv_eq_ediv_of_nonneg, Int.tmod_eq_emod_of_nonneg, x_bm32, kg, t10, e11, c_in, bi_f cv, kw, kg2]
        exact F
    · have ps : psN b n lo hi x = (1, tF b n x.2.2, x.2.2) := by
        unfold psN
        rw [if_neg (fun z => z c), if_pos ck]
      obtain ⟨mk, e9, m2⟩ := MS_f (c := 1) h c (by omega)
      have F := hQ (some (xI 0)) _ ⟨mk, by rw [ps]; exact m2, 0, rfl, by omega, fun z => by (rw [ps] at z; exact absurd z ne11')⟩
      have kw := fun (d' : Nat) (Q' : Option x_V → x_S → Prop) => k_wrong (d := d') (σ := σ) (Q := Q') (c := 1) (by omega)
      simp only [if_pos z12] at kw
      have kg2 := fun (d' : Nat) (Q' : Option x_V → x_S → Prop) => k_good (d := d') (σ := x_st (x_st σ 50 0 12 1) 50 0 13 (σ 50 0 9)) (Q := Q') (by rw [m2.2.1.1]; exact m2.2.2.1)
      have ne2 : ¬ x_st (x_st σ 50 0 12 1) 50 0 13 (σ 50 0 9) 50 0 12 = 0 := by rw [m2.2.1.1]; (show ¬ (1 : Int) = 0); omega
      simp only [if_neg ne2] at kg2
      generalize tK b n x.2.2 = tk at t10 ck kb
      simp (disch := first | omega | (simp only [x_wtI, x_wtJ, x_wtR, x_wtN]; omega) | assumption | (simp (disch := omega) only [x_st_o, x_rd_ne]; first | assumption | omega) | (apply mir_eq; assumption; (intro c h1 h2; simp (disch := omega) only [x_st_o])) | (apply mis_eq; assumption; (intro c h1 h2; simp (disch := omega) only [x_st_o])) | rfl) only [sp_184, bk_184_0, bk_184_1, bk_184_2, bk_184_3, wp_ald0, wk_177, wp_ifeq, wp_geti kd_50, wp_ic, wp_iceq, wk_182, wp_fall, wp_i2l, wp_ild1, wp_ild2, wk_169, wp_ifne, wp_iret mz_184, wp_ist3, wk_175, wp_ild3, x_clr_I, x_clr_J, x_clr_R, x_clr_U, ct_some, ct_none, lc_lt, lc_ge, lc_gt, lc_le, lc_eq, lc_r, xI_inj, xJ_inj, Option.some.injEq, eq_self, bi_r, bi_0, bi_1, bi_n, Classical.not_not, and_true, true_and, ite_true, ite_false, ↓reduceIte, ↓x_andl, z_le, z_nle, z_lt, z_nlt, z_eq, z_neq, if_pos, if_neg, x_andl, false_and, and_false, or_true, true_or, or_false, false_or, not_true, not_false_iff, x_rd_eq, x_rd_ne, x_st_o, Int.cast_ofNat_Int, Int.ofNat_zero, Int.ofNat_one, not_true_eq_false, not_false_eq_true, if_true, if_false, ite_self, and_self, Int.ofNat_eq_natCast, Int.tdiv_eq_ediv_of_nonneg, Int.tmod_eq_emod_of_nonneg, x_bm32, kg, t10, kw, kg2]
      exact F
  · have z12 : ¬ σ 50 0 12 = 0 := by rw [h12]; exact c
    have kg := fun (d' : Nat) (Q' : Option x_V → x_S → Prop) => k_good (d := d') (σ := σ) (Q := Q') (by omega)
    simp only [if_neg z12] at kg
    have ps : psN b n lo hi x = x := if_pos c
    have F := hQ (some (xI 0)) σ ⟨mkp_r, by rw [ps]; exact h, 0, rfl, by omega, fun z => by rw [ps] at z; exact absurd z c⟩
    simp (disch := first | omega | (simp only [x_wtI, x_wtJ, x_wtR, x_wtN]; omega) | assumption | (simp (disch := omega) only [x_st_o, x_rd_ne]; first | assumption | omega) | (apply mir_eq; assumption; (intro c h1 h2; simp (disch := omega) only [x_st_o])) | (apply mis_eq; assumption; (intro c h1 h2; simp (disch := omega) only [x_st_o])) | rfl) only [sp_184, bk_184_0, bk_184_1, bk_184_2, bk_184_3, wp_ald0, wk_177, wp_ifeq, wp_geti kd_50, wp_ic, wp_iceq, wk_182, wp_fall, wp_i2l, wp_ild1, wp_ild2, wk_169, wp_ifne, wp_iret mz_184, wp_ist3, wk_175, wp_ild3, x_clr_I, x_clr_J, x_clr_R, x_clr_U, ct_some, ct_none, lc_lt, lc_ge, lc_gt, lc_le, lc_eq, lc_r, xI_inj, xJ_inj, Option.some.injEq, eq_self, bi_r, bi_0, bi_1, bi_n, Classical.not_not, and_true, true_and, ite_true, ite_false, ↓reduceIte, ↓x_andl, z_le, z_nle, z_lt, z_nlt, z_eq, z_neq, if_pos, if_neg, x_andl, false_and, and_false, or_true, true_or, or_false, false_or, not_true, not_false_iff, x_rd_eq, x_rd_ne, x_st_o, Int.cast_ofNat_Int, Int.ofNat_zero, Int.ofNat_one, not_true_eq_false, not_false_eq_true, if_true, if_false, ite_self, and_self, Int.ofNat_eq_natCast, Int.tdiv_eq_ediv_of_nonneg, Int.tmod_eq_emod_of_nonneg, x_bm32, kg]
    exact F
theorem h_mW {σ : x_S} {b : Int → Int} {n : Int} {x : PS} {j : Nat} (hj : j < 28) (h : MS σ b n x) : ∃ r σ1 σ2, (∀ (d : Nat) (Q : Option x_V → x_S → Prop), x_Sp (d + 5) 186 [xR 50 0, xR 101 j] σ Q ↔ Q r σ1) ∧ mkp σ σ2 ∧ MS σ2 b n (psW b n (xst j) x) ∧ ((r = some (xI 1) ∧ σ2 = σ1) ∨ (r = some (xI 0) ∧ ∀ (d : Nat) (Q : Option x_V → x_S → Prop), x_Sp (d + 2) 182 [xR 50 0, xI 1] σ1 Q ↔ Q none σ2)) := by
  obtain ⟨r, σ1, ⟨mk, hr⟩, ev⟩ := x_ex (h_mtakes hj h)
  obtain ⟨hB, ⟨h12, h13⟩, hc, hx, h10⟩ := id h
  rcases hr with ⟨c, hr, m1⟩ | ⟨c, hr, hσ⟩
  · have ps : psW b n (xst j) x = (0, -1, tA b n x.2.2) := by
      unfold psW
      rw [if_neg (fun z => z c.1), if_pos c.2]
    exact ⟨r, σ1, σ1, ev, mk, by rw [ps]; exact m1, Or.inl ⟨hr, rfl⟩⟩
  · subst hσ
    by_cases c0 : x.1 = 0
    · have ps : psW b n (xst j) x = (1, tF b n x.2.2, x.2.2) := by
        unfold psW
        rw [if_neg (fun z => z c0), if_neg (fun z => c ⟨c0, z⟩)]
      obtain ⟨mk2, e9, m2⟩ := MS_f (c := 1) h c0 (by omega)
      refine ⟨r, σ1, _, ev, mk2, by rw [ps]; exact m2, Or.inr ⟨hr, fun d Q => ?_⟩⟩
      have kw := k_wrong (d := d) (σ := σ1) (Q := Q) (c := 1) (by omega)
      rw [if_pos (h12.trans c0)] at kw
      exact kw
    · have ps : psW b n (xst j) x = x := if_pos c0
      refine ⟨r, σ1, σ1, ev, mkp_r, by rw [ps]; exact h, Or.inr ⟨hr, fun d Q => ?_⟩⟩
      have kw := k_wrong (d := d) (σ := σ1) (Q := Q) (c := 1) (by omega)
      rw [if_neg (by rw [h12]; exact c0)] at kw
      exact kw
theorem h_mtold {σ : x_S} {b : Int → Int} {n lo hi : Int} {x : PS} {j : Nat} (hj : j < 28) (hlo : 0 ≤ lo ∧ lo ≤ 1) (hhi : 0 ≤ hi ∧ hi ≤ 9998) (h : MS σ b n x) : x_Sp 6 185 [xR 50 0, xR 101 j, xI lo, xI hi] σ (fun r σ' => mkp σ σ' ∧ MS σ' b n (psN b n lo hi (psW b n (xst j) x)) ∧ ∃ v, r = some (xI v) ∧ (0 ≤ v ∧ v ≤ 9999) ∧ ((psN b n lo hi (psW b n (xst j) x)).1 = 0 → v = psV b n (psW b n (xst j) x))) := by
  refine x_gen (fun Q hQ => ?_)
  obtain ⟨r, σ1, σ2, ev, mk, m2, hr⟩ := h_mW hj h
  obtain ⟨r3, σ3, ⟨mk3, m3, v, hr3, vb, hv⟩, ev3⟩ := x_ex (h_mnum hlo hhi m2)
  subst hr3
  have F := hQ (some (xI v)) σ3 ⟨mkp_t mk mk3, m3, v, rfl, vb, hv⟩
  rcases hr with ⟨hr, hσ⟩ | ⟨hr, ew⟩
  · subst hσ
    subst hr
    simp (disch := first | omega | (simp only [x_wtI, x_wtJ, x_wtR, x_wtN]; omega) | assumption | (simp (disch := omega) only [x_st_o, x_rd_ne]; first | assumption | omega) | (apply mir_eq; assumption; (intro c h1 h2; simp (disch := omega) only [x_st_o])) | (apply mis_eq; assumption; (intro c h1 h2; simp (disch := omega) only [x_st_o])) | rfl) only [sp_185, bk_185_0, bk_185_1, wp_ald0, wp_ald1, wk_186, wp_ifne, wp_ic, wk_182, wp_fall, wp_ild2, wp_ild3, wk_184, wp_iret mz_185, x_clr_I, x_clr_J, x_clr_R, x_clr_U, ct_some, ct_none, lc_lt, lc_ge, lc_gt, lc_le, lc_eq, lc_r, xI_inj, xJ_inj, Option.some.injEq, eq_self, bi_r, bi_0, bi_1, bi_n, Classical.not_not, and_true, true_and, ite_true, ite_false, ↓reduceIte, ↓x_andl, z_le, z_nle, z_lt, z_nlt, z_eq, z_neq, if_pos, if_neg, x_andl, false_and, and_false, or_true, true_or, or_false, false_or, not_true, not_false_iff, x_rd_eq, x_rd_ne, x_st_o, Int.cast_ofNat_Int, Int.ofNat_zero, Int.ofNat_one, not_true_eq_false, not_false_eq_true, if_true, if_false, ite_self, and_self, Int.ofNat_eq_natCast, Int.tdiv_eq_ediv_of_nonneg, Int.tmod_eq_emod_of_nonneg, x_bm32]
    refine (ev 0 _).mpr ?_
    simp (disch := first | omega | (simp only [x_wtI, x_wtJ, x_wtR, x_wtN]; omega) | assumption | (simp (disch := omega) only [x_st_o, x_rd_ne]; first | assumption | omega) | (apply mir_eq; assumption; (intro c h1 h2; simp (disch := omega) only [x_st_o])) | (apply mis_eq; assumption; (intro c h1 h2; simp (disch := omega) only [x_st_o])) | rfl) only [bk_185_0, bk_185_1, wp_ald0, wp_ald1, wk_186, wp_ifne, wp_ic, wk_182, wp_fall, wp_ild2, wp_ild3, wk_184, wp_iret mz_185, x_clr_I, x_clr_J, x_clr_R, x_clr_U, ct_some, ct_none, lc_lt, lc_ge, lc_gt, lc_le, lc_eq, lc_r, xI_inj, xJ_inj, Option.some.injEq, eq_self, bi_r, bi_0, bi_1, bi_n, Classical.not_not, and_true, true_and, ite_true, ite_false, ↓reduceIte, ↓x_andl, z_le, z_nle, z_lt, z_nlt, z_eq, z_neq, if_pos, if_neg, x_andl, false_and, and_false, or_true, true_or, or_false, false_or, not_true, not_false_iff, x_rd_eq, x_rd_ne, x_st_o, Int.cast_ofNat_Int, Int.ofNat_zero, Int.ofNat_one, not_true_eq_false, not_false_eq_true, if_true, if_false, ite_self, and_self, Int.ofNat_eq_natCast, Int.tdiv_eq_ediv_of_nonneg, Int.tmod_eq_emod_of_nonneg, x_bm32]
    refine (ev3 1 _).mpr ?_
    simp (disch := first | omega | (simp only [x_wtI, x_wtJ, x_wtR, x_wtN]; omega) | assumption | (simp (disch := omega) only [x_st_o, x_rd_ne]; first | assumption | omega) | (apply mir_eq; assumption; (intro c h1 h2; simp (disch := omega) only [x_st_o])) | (apply mis_eq; assumption; (intro c h1 h2; simp (disch := omega) only [x_st_o])) | rfl) only [bk_185_0, bk_185_1, wp_ald0, wp_ald1, wk_186, wp_ifne, wp_ic, wk_182, wp_fall, wp_ild2, wp_ild3, wk_184, wp_iret mz_185, x_clr_I, x_clr_J, x_clr_R, x_clr_U, ct_some, ct_none, lc_lt, lc_ge, lc_gt, lc_le, lc_eq, lc_r, xI_inj, xJ_inj, Option.some.injEq, eq_self, bi_r, bi_0, bi_1, bi_n, Classical.not_not, and_true, true_and, ite_true, ite_false, ↓reduceIte, ↓x_andl, z_le, z_nle, z_lt, z_nlt, z_eq, z_neq, if_pos, if_neg, x_andl, false_and, and_false, or_true, true_or, or_false, false_or, not_true, not_false_iff, x_rd_eq, x_rd_ne, x_st_o, Int.cast_ofNat_Int, Int.ofNat_zero, Int.ofNat_one, not_true_eq_false, not_false_eq_true, if_true, if_false, ite_self, and_self, Int.ofNat_eq_natCast, Int.tdiv_eq_ediv_of_nonneg, Int.tmod_eq_emod_of_nonneg, x_bm32]
    exact F
  · subst hr
    simp (disch := first | omega | (simp only [x_wtI, x_wtJ, x_wtR, x_wtN]; omega) | assumption | (simp (disch := omega) only [x_st_o, x_rd_ne]; first | assumption | omega) | (apply mir_eq; assumption; (intro c h1 h2; simp (disch := omega) only [x_st_o])) | (apply mis_eq; assumption; (intro c h1 h2; simp (disch := omega) only [x_st_o])) | rfl) only [sp_185, bk_185_0, bk_185_1, wp_ald0, wp_ald1, wk_186, wp_ifne, wp_ic, wk_182, wp_fall, wp_ild2, wp_ild3, wk_184, wp_iret mz_185, x_clr_I, x_clr_J, x_clr_R, x_clr_U, ct_some, ct_none, lc_lt, lc_ge, lc_gt, lc_le, lc_eq, lc_r, xI_inj, xJ_inj, Option.some.injEq, eq_self, bi_r, bi_0, bi_1, bi_n, Classical.not_not, and_true, true_and, ite_true, ite_false, ↓reduceIte, ↓x_andl, z_le, z_nle, z_lt, z_nlt, z_eq, z_neq, if_pos, if_neg, x_andl, false_and, and_false, or_true, true_or, or_false, false_or, not_true, not_false_iff, x_rd_eq, x_rd_ne, x_st_o, Int.cast_ofNat_Int, Int.ofNat_zero, Int.ofNat_one, not_true_eq_false, not_false_eq_true, if_true, if_false, ite_self, and_self, Int.ofNat_eq_natCast, Int.tdiv_eq_ediv_of_nonneg, Int.tmod_eq_emod_of_nonneg, x_bm32]
    refine (ev 0 _).mpr ?_
    simp (disch := first | omega | (simp only [x_wtI, x_wtJ, x_wtR, x_wtN]; omega) | assumption | (simp (disch := omega) only [x_st_o, x_rd_ne]; first | assumption | omega) | (apply mir_eq; assumption; (intro c h1 h2; simp (disch := omega) only [x_st_o])) | (apply mis_eq; assumption; (intro c h1 h2; simp (disch := omega) only [x_st_o])) | rfl) only [bk_185_0, bk_185_1, wp_ald0, wp_ald1, wk_186, wp_ifne, wp_ic, wk_182, wp_fall, wp_ild2, wp_ild3, wk_184, wp_iret mz_185, x_clr_I, x_clr_J, x_clr_R, x_clr_U, ct_some, ct_none, lc_lt, lc_ge, lc_gt, lc_le, lc_eq, lc_r, xI_inj, xJ_inj, Option.some.injEq, eq_self, bi_r, bi_0, bi_1, bi_n, Classical.not_not, and_true, true_and, ite_true, ite_false, ↓reduceIte, ↓x_andl, z_le, z_nle, z_lt, z_nlt, z_eq, z_neq, if_pos, if_neg, x_andl, false_and, and_false, or_true, true_or, or_false, false_or, not_true, not_false_iff, x_rd_eq, x_rd_ne, x_st_o, Int.cast_ofNat_Int, Int.ofNat_zero, Int.ofNat_one, not_true_eq_false, not_false_eq_true, if_true, if_false, ite_self, and_self, Int.ofNat_eq_natCast, Int.tdiv_eq_ediv_of_nonneg, Int.tmod_eq_emod_of_nonneg, x_bm32]
    refine (ew 3 _).mpr ?_
    simp (disch := first | omega | (simp only [x_wtI, x_wtJ, x_wtR, x_wtN]; omega) | assumption | (simp (disch := omega) only [x_st_o, x_rd_ne]; first | assumption | omega) | (apply mir_eq; assumption; (intro c h1 h2; simp (disch := omega) only [x_st_o])) | (apply mis_eq; assumption; (intro c h1 h2; simp (disch := omega) only [x_st_o])) | rfl) only [bk_185_0, bk_185_1, wp_ald0, wp_ald1, wk_186, wp_ifne, wp_ic, wk_182, wp_fall, wp_ild2, wp_ild3, wk_184, wp_iret mz_185, x_clr_I, x_clr_J, x_clr_R, x_clr_U, ct_some, ct_none, lc_lt, lc_ge, lc_gt, lc_le, lc_eq, lc_r, xI_inj, xJ_inj, Option.some.injEq, eq_self, bi_r, bi_0, bi_1, bi_n, Classical.not_not, and_true, true_and, ite_true, ite_false, ↓reduceIte, ↓x_andl, z_le, z_nle, z_lt, z_nlt, z_eq, z_neq, if_pos, if_neg, x_andl, false_and, and_false, or_true, true_or, or_false, false_or, not_true, not_false_iff, x_rd_eq, x_rd_ne, x_st_o, Int.cast_ofNat_Int, Int.ofNat_zero, Int.ofNat_one, not_true_eq_false, not_false_eq_true, if_true, if_false, ite_self, and_self, Int.ofNat_eq_natCast, Int.tdiv_eq_ediv_of_nonneg, Int.tmod_eq_emod_of_nonneg, x_bm32]
    refine (ev3 1 _).mpr ?_
    simp (disch := first | omega | (simp only [x_wtI, x_wtJ, x_wtR, x_wtN]; omega) | assumption | (simp (disch := omega) only [x_st_o, x_rd_ne]; first | assumption | omega) | (apply mir_eq; assumption; (intro c h1 h2; simp (disch := omega) only [x_st_o])) | (apply mis_eq; assumption; (intro c h1 h2; simp (disch := omega) only [x_st_o])) | rfl) only [bk_185_0, bk_185_1, wp_ald0, wp_ald1, wk_186, wp_ifne, wp_ic, wk_182, wp_fall, wp_ild2, wp_ild3, wk_184, wp_iret mz_185, x_clr_I, x_clr_J, x_clr_R, x_clr_U, ct_some, ct_none, lc_lt, lc_ge, lc_gt, lc_le, lc_eq, lc_r, xI_inj, xJ_inj, Option.some.injEq, eq_self, bi_r, bi_0, bi_1, bi_n, Classical.not_not, and_true, true_and, ite_true, ite_false, ↓reduceIte, ↓x_andl, z_le, z_nle, z_lt, z_nlt, z_eq, z_neq, if_pos, if_neg, x_andl, false_and, and_false, or_true, true_or, or_false, false_or, not_true, not_false_iff, x_rd_eq, x_rd_ne, x_st_o, Int.cast_ofNat_Int, Int.ofNat_zero, Int.ofNat_one, not_true_eq_false, not_false_eq_true, if_true, if_false, ite_self, and_self, Int.ofNat_eq_natCast, Int.tdiv_eq_ediv_of_nonneg, Int.tmod_eq_emod_of_nonneg, x_bm32]
    exact F

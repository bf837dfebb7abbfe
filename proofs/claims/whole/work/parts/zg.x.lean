def psT (b : Int → Int) (n : Int) (s : List Int) (lo hi : Int) (x : PS) : PS := psN b n lo hi (psW b n s x)
def psU (b : Int → Int) (n : Int) (s : List Int) (x : PS) : Int := psV b n (psW b n s x)
theorem psW_c {b : Int → Int} {n : Int} {s : List Int} {x : PS} (h : (psW b n s x).1 = 0) : x.1 = 0 := by
  by_cases c : x.1 = 0
  · exact c
  · have : psW b n s x = x := if_pos c
    rw [this] at h
    exact h
theorem psN_c {b : Int → Int} {n lo hi : Int} {x : PS} (h : (psN b n lo hi x).1 = 0) : x.1 = 0 ∧ tK b n x.2.2 = 2 ∧ (lo ≤ psV b n x ∧ psV b n x ≤ hi) := by
  by_cases c : x.1 = 0
  · unfold psN at h
    rw [if_neg (fun z => z c)] at h
    by_cases c2 : tK b n x.2.2 = 2
    · rw [if_neg (fun z => z c2)] at h
      by_cases c3 : lo ≤ psV b n x ∧ psV b n x ≤ hi
      · exact ⟨c, c2, c3⟩
      · rw [if_pos c3] at h
        exact absurd h ne12'
    · rw [if_pos c2] at h
      exact absurd h ne11'
  · have : psN b n lo hi x = x := if_pos c
    rw [this] at h
    exact absurd h c
theorem psT_c {b : Int → Int} {n lo hi : Int} {s : List Int} {x : PS} (h : (psT b n s lo hi x).1 = 0) : x.1 = 0 ∧ (psW b n s x).1 = 0 ∧ tK b n (psW b n s x).2.2 = 2 ∧ (lo ≤ psU b n s x ∧ psU b n s x ≤ hi) := by
  obtain ⟨a, c, d⟩ := psN_c h
  exact ⟨psW_c a, a, c, d⟩
def psD1 (b : Int → Int) (n : Int) (x : PS) : PS := psT b n (xst 7) 0 99 x
def psD2 (b : Int → Int) (n : Int) (x : PS) : PS := psT b n (xst 8) 0 20 (psD1 b n x)
def psD3 (b : Int → Int) (n : Int) (x : PS) : PS := psT b n (xst 9) 0 99 (psD2 b n x)
def psD (b : Int → Int) (n : Int) (x : PS) : PS := psT b n (xst 10) 0 20 (psD3 b n x)
def dvs (b : Int → Int) (n : Int) (x : PS) (v0 v1 v2 v3 : Int) : Prop := v0 = psU b n (xst 7) x ∧ v1 = psU b n (xst 8) (psD1 b n x) ∧ v2 = psU b n (xst 9) (psD2 b n x) ∧ v3 = psU b n (xst 10) (psD3 b n x)
theorem psD_c {b : Int → Int} {n : Int} {x : PS} (h : (psD b n x).1 = 0) : x.1 = 0 ∧ ∀ v0 v1 v2 v3, dvs b n x v0 v1 v2 v3 → (0 ≤ v0 ∧ v0 ≤ 99) ∧ (0 ≤ v1 ∧ v1 ≤ 20) ∧ (0 ≤ v2 ∧ v2 ≤ 99) ∧ (0 ≤ v3 ∧ v3 ≤ 20) := by
  have a4 := psT_c h
  have a3 := psT_c a4.1
  have a2 := psT_c a3.1
  have a1 := psT_c a2.1
  refine ⟨a1.1, fun v0 v1 v2 v3 d => ?_⟩
  obtain ⟨rfl, rfl, rfl, rfl⟩ := d
  exact ⟨a1.2.2.2, a2.2.2.2, a3.2.2.2, a4.2.2.2⟩
theorem CS_e {σ σ' : x_S} {b : Int → Int} {n : Int} {x : PS} (h : CS σ b n x) (e3 : σ' 3 0 = σ 3 0) (e4 : σ' 4 0 = σ 4 0) : CS σ' b n x := by
  unfold CS rdB rdS at h ⊢
  rw [e3, e4]
  exact h
theorem MS_e {σ σ' : x_S} {b : Int → Int} {n : Int} {x : PS} (h : MS σ b n x) (e3 : σ' 50 0 = σ 50 0) (e4 : σ' 54 0 = σ 54 0) : MS σ' b n x := by
  unfold MS mdB MT at h ⊢
  rw [e3, e4]
  exact h
/-! a word and a number, and where the number goes -/
theorem h_ct {σ : x_S} {b : Int → Int} {n lo hi : Int} {x : PS} {j : Nat} (hj : j < 28) (hlo : 0 ≤ lo ∧ lo ≤ 1) (hhi : 0 ≤ hi ∧ hi ≤ 100000) (h : CS σ b n x) : ∃ σ1 σ2 v, (∀ (d : Nat) (Q : Option x_V → x_S → Prop), x_Sp (d + 5) 35 [xR 3 0, xR 101 j] σ Q ↔ Q none σ1) ∧ (∀ (d : Nat) (Q : Option x_V → x_S → Prop), x_Sp (d + 2) 34 [xR 3 0, xI lo, xI hi] σ1 Q ↔ Q (some (xI v)) σ2) ∧ rkp σ σ2 ∧ CS σ2 b n (psT b n (xst j) lo hi x) ∧ (0 ≤ v ∧ v ≤ 100000) ∧ ((psT b n (xst j) lo hi x).1 = 0 → v = psU b n (xst j) x) := by
  obtain ⟨r1, σ1, ⟨hr1, rk1, c1⟩, ev1⟩ := x_ex (h_dW hj h)
  obtain ⟨r2, σ2, ⟨rk2, c2, v, hr2, vb, hv, _⟩, ev2⟩ := x_ex (h_num hlo hhi c1)
  subst hr1
  subst hr2
  refine ⟨σ1, σ2, v, ev1, ev2, rkp_t rk1 rk2, c2, vb, fun z => ?_⟩
  have t := psT_c z
  exact hv t.2.1 t.2.2.1
set_option maxHeartbeats 4000000 in
theorem h_does {σ : x_S} {b : Int → Int} {n f : Int} {x : PS} (hf : 0 ≤ f ∧ f < 40) (h : CS σ b n x) : x_Sp 6 37 [xR 3 0, xI f] σ (fun r σ' => r = none ∧ CS σ' b n (psD b n x) ∧ x_eqo [(3, 0), (9, 0), (10, 0), (11, 0), (12, 0)] σ σ' ∧ (∀ k, ¬ (k = 2 ∨ k = 3 ∨ k = 6 ∨ k = 7 ∨ k = 8) → σ' 3 0 k = σ 3 0 k) ∧ (∀ g, ¬ g = f → σ' 9 0 g = σ 9 0 g ∧ σ' 10 0 g = σ 10 0 g ∧ σ' 11 0 g = σ 11 0 g ∧ σ' 12 0 g = σ 12 0 g) ∧ ((psD b n x).1 = 0 → dvs b n x (σ' 9 0 f) (σ' 10 0 f) (σ' 11 0 f) (σ' 12 0 f))) := by
  refine x_gen (fun Q hQ => ?_)
  obtain ⟨a1, a2, v0, ea1, ea2, rka, ca, vab, va⟩ := h_ct (j := 7) (lo := 0) (hi := 99) (by omega) (by omega) (by omega) h
  generalize hs1 : x_st a2 9 0 f v0 = s1
  have cs1 : CS s1 b n (psD1 b n x) := CS_e ca (by subst hs1; exact x_st_o (by omega)) (by subst hs1; exact x_st_o (by omega))
  obtain ⟨b1, b2, v1, eb1, eb2, rkb, cb, vbb, vb⟩ := h_ct (j := 8) (lo := 0) (hi := 20) (by omega) (by omega) (by omega) cs1
  generalize hs2 : x_st b2 10 0 f v1 = s2
  have cs2 : CS s2 b n (psD2 b n x) := CS_e cb (by subst hs2; exact x_st_o (by omega)) (by subst hs2; exact x_st_o (by omega))
  obtain ⟨c1, c2, v2, ec1, ec2, rkc, cc, vcb, vc⟩ := h_ct (j := 9) (lo := 0) (hi := 99) (by omega) (by omega) (by omega) cs2
  generalize hs3 : x_st c2 11 0 f v2 = s3
  have cs3 : CS s3 b n (psD3 b n x) := CS_e cc (by subst hs3; exact x_st_o (by omega)) (by subst hs3; exact x_st_o (by omega))
  obtain ⟨d1, d2, v3, ed1, ed2, rkd, cd, vdb, vd⟩ := h_ct (j := 10) (lo := 0) (hi := 20) (by omega) (by omega) (by omega) cs3
  generalize hs4 : x_st d2 12 0 f v3 = s4
  have cs4 : CS s4 b n (psD b n x) := CS_e cd (by subst hs4; exact x_st_o (by omega)) (by subst hs4; exact x_st_o (by omega))
  -- what stays
  have q1 : ∀ c j, ¬ (c = 3 ∧ j = 0) → a2 c j = σ c j := fun c j z => rka.1 c j (by simp; omega)
  have q2 : ∀ c j, ¬ (c = 3 ∧ j = 0) → b2 c j = s1 c j := fun c j z => rkb.1 c j (by simp; omega)
  have q3 : ∀ c j, ¬ (c = 3 ∧ j = 0) → c2 c j = s2 c j := fun c j z => rkc.1 c j (by simp; omega)
  have q4 : ∀ c j, ¬ (c = 3 ∧ j = 0) → d2 c j = s3 c j := fun c j z => rkd.1 c j (by simp; omega)
  have F := hQ none s4 ⟨rfl, cs4, ?_, ?_, ?_, ?_⟩
  · simp (disch := first | omega | (simp only [x_wtI, x_wtJ, x_wtR, x_wtN]; omega) | assumption | (simp (disch := omega) only [x_st_o, x_rd_ne]; first | assumption | omega) | (apply mir_eq; assumption; (intro c h1 h2; simp (disch := omega) only [x_st_o])) | (apply mis_eq; assumption; (intro c h1 h2; simp (disch := omega) only [x_st_o])) | rfl) only [sp_37, bk_37_0, wp_ald0, wp_lds, wk_35, wr_3_0, wr_6_9, wp_ild1, wp_ic, wk_34, ws_9, ws_10, ws_11, ws_12, wr_6_10, wr_6_11, wr_6_12, wp_ret, x_clr_I, x_clr_J, x_clr_R, x_clr_U, ct_some, ct_none, lc_lt, lc_ge, lc_gt, lc_le, lc_eq, lc_r, xI_inj, xJ_inj, Option.some.injEq, eq_self, bi_r, bi_0, bi_1, bi_n, Classical.not_not, and_true, true_and, ite_true, ite_false, ↓reduceIte, ↓x_andl, z_le, z_nle, z_lt, z_nlt, z_eq, z_neq, if_pos, if_neg, x_andl, false_and, and_false, or_true, true_or, or_false, false_or, not_true, not_false_iff, x_rd_eq, x_rd_ne, x_st_o, Int.cast_ofNat_Int, Int.ofNat_zero, Int.ofNat_one, not_true_eq_false, not_false_eq_true, if_true, if_false, ite_self, and_self, Int.ofNat_eq_natCast, Int.tdiv_eq_ediv_of_nonneg, Int.tmod_eq_emod_of_nonneg, x_bm32]
    refine (ea1 0 _).mpr ?_
    simp (disch := first | omega | (simp only [x_wtI, x_wtJ, x_wtR, x_wtN]; omega) | assumption | (simp (disch := omega) only [x_st_o, x_rd_ne]; first | assumption | omega) | (apply mir_eq; assumption; (intro c h1 h2; simp (disch := omega) only [x_st_o])) | (apply mis_eq; assumption; (intro c h1 h2; simp (disch := omega) only [x_st_o])) | rfl) only [bk_37_0, wp_ald0, wp_lds, wk_35, wr_3_0, wr_6_9, wp_ild1, wp_ic, wk_34, ws_9, ws_10, ws_11, ws_12, wr_6_10, wr_6_11, wr_6_12, wp_ret, x_clr_I, x_clr_J, x_clr_R, x_clr_U, ct_some, ct_none, lc_lt, lc_ge, lc_gt, lc_le, lc_eq, lc_r, xI_inj, xJ_inj, Option.some.injEq, eq_self, bi_r, bi_0, bi_1, bi_n, Classical.not_not, and_true, true_and, ite_true, ite_false, ↓reduceIte, ↓x_andl, z_le, z_nle, z_lt, z_nlt, z_eq, z_neq, if_pos, if_neg, x_andl, false_and, and_false, or_true, true_or, or_false, false_or, not_true, not_false_iff, x_rd_eq, x_rd_ne, x_st_o, Int.cast_ofNat_Int, Int.ofNat_zero, Int.ofNat_one, not_true_eq_false, not_false_eq_true, if_true, if_false, ite_self, and_self, Int.ofNat_eq_natCast, Int.tdiv_eq_ediv_of_nonneg, Int.tmod_eq_emod_of_nonneg, x_bm32]
    refine (ea2 3 _).mpr ?_
    simp (disch := first | omega | (simp only [x_wtI, x_wtJ, x_wtR, x_wtN]; omega) | assumption | (simp (disch := omega) only [x_st_o, x_rd_ne]; first | assumption | omega) | (apply mir_eq; assumption; (intro c h1 h2; simp (disch := omega) only [x_st_o])) | (apply mis_eq; assumption; (intro c h1 h2; simp (disch := omega) only [x_st_o])) | rfl) only [bk_37_0, wp_ald0, wp_lds, wk_35, wr_3_0, wr_6_9, wp_ild1, wp_ic, wk_34, ws_9, ws_10, ws_11, ws_12, wr_6_10, wr_6_11, wr_6_12, wp_ret, x_clr_I, x_clr_J, x_clr_R, x_clr_U, ct_some, ct_none, lc_lt, lc_ge, lc_gt, lc_le, lc_eq, lc_r, xI_inj, xJ_inj, Option.some.injEq, eq_self, bi_r, bi_0, bi_1, bi_n, Classical.not_not, and_true, true_and, ite_true, ite_false, ↓reduceIte, ↓x_andl, z_le, z_nle, z_lt, z_nlt, z_eq, z_neq, if_pos, if_neg, x_andl, false_and, and_false, or_true, true_or, or_false, false_or, not_true, not_false_iff, x_rd_eq, x_rd_ne, x_st_o, Int.cast_ofNat_Int, Int.ofNat_zero, Int.ofNat_one, not_true_eq_false, not_false_eq_true, if_true, if_false, ite_self, and_self, Int.ofNat_eq_natCast, Int.tdiv_eq_ediv_of_nonneg, Int.tmod_eq_emod_of_nonneg, x_bm32, hs1]
    refine (eb1 0 _).mpr ?_
    simp (disch := first | omega | (simp only [x_wtI, x_wtJ, x_wtR, x_wtN]; omega) | assumption | (simp (disch := omega) only [x_st_o, x_rd_ne]; first | assumption | omega) | (apply mir_eq; assumption; (intro c h1 h2; simp (disch := omega) only [x_st_o])) | (apply mis_eq; assumption; (intro c h1 h2; simp (disch := omega) only [x_st_o])) | rfl) only [bk_37_0, wp_ald0, wp_lds, wk_35, wr_3_0, wr_6_9, wp_ild1, wp_ic, wk_34, ws_9, ws_10, ws_11, ws_12, wr_6_10, wr_6_11, wr_6_12, wp_ret, x_clr_I, x_clr_J, x_clr_R, x_clr_U, ct_some, ct_none, lc_lt, lc_ge, lc_gt, lc_le, lc_eq, lc_r, xI_inj, xJ_inj, Option.some.injEq, eq_self, bi_r, bi_0, bi_1, bi_n, Classical.not_not, and_true, true_and, ite_true, ite_false, ↓reduceIte, ↓x_andl, z_le, z_nle, z_lt, z_nlt, z_eq, z_neq, if_pos, if_neg, x_andl, false_and, and_false, or_true, true_or, or_false, false_or, not_true, not_false_iff, x_rd_eq, x_rd_ne, x_st_o, Int.cast_ofNat_Int, Int.ofNat_zero, Int.ofNat_one, not_true_eq_false, not_false_eq_true, if_true, if_false, ite_self, and_self, Int.ofNat_eq_natCast, Int.tdiv_eq_ediv_of_nonneg, Int.tmod_eq_emod_of_nonneg, x_bm32]
    refine (eb2 3 _).mpr ?_
    simp (disch := first | omega | (simp only [x_wtI, x_wtJ, x_wtR, x_wtN]; omega) | assumption | (simp (disch := omega) only [x_st_o, x_rd_ne]; first | assumption | omega) | (apply mir_eq; assumption; (intro c h1 h2; simp (disch := omega) only [x_st_o])) | (apply mis_eq; assumption; (intro c h1 h2; simp (disch := omega) only [x_st_o])) | rfl) only [bk_37_0, wp_ald0, wp_lds, wk_35, wr_3_0, wr_6_9, wp_ild1, wp_ic, wk_34, ws_9, ws_10, ws_11, ws_12, wr_6_10, wr_6_11, wr_6_12, wp_ret, x_clr_I, x_clr_J, x_clr_R, x_clr_U, ct_some, ct_none, lc_lt, lc_ge, lc_gt, lc_le, lc_eq, lc_r, xI_inj, xJ_inj, Option.some.injEq, eq_self, bi_r, bi_0, bi_1, bi_n, Classical.not_not, and_true, true_and, ite_true, ite_false, ↓reduceIte, ↓x_andl, z_le, z_nle, z_lt, z_nlt, z_eq, z_neq, if_pos, if_neg, x_andl, false_and, and_false, or_true, true_or, or_false, false_or, not_true, not_false_iff, x_rd_eq, x_rd_ne, x_st_o, Int.cast_ofNat_Int, Int.ofNat_zero, Int.ofNat_one, not_true_eq_false, not_false_eq_true, if_true, if_false, ite_self, and_self, Int.ofNat_eq_natCast, Int.tdiv_eq_ediv_of_nonneg, Int.tmod_eq_emod_of_nonneg, x_bm32, hs2]
    refine (ec1 0 _).mpr ?_
    simp (disch := first | omega | (simp only [x_wtI, x_wtJ, x_wtR, x_wtN]; omega) | assumption | (simp (disch := omega) only [x_st_o, x_rd_ne]; first | assumption | omega) | (apply mir_eq; assumption; (intro c h1 h2; simp (disch := omega) only [x_st_o])) | (apply mis_eq; assumption; (intro c h1 h2; simp (disch := omega) only [x_st_o])) | rfl) only [bk_37_0, wp_ald0, wp_lds, wk_35, wr_3_0, wr_6_9, wp_ild1, wp_ic, wk_34, ws_9, ws_10, ws_11, ws_12, wr_6_10, wr_6_11, wr_6_12, wp_ret, x_clr_I, x_clr_J, x_clr_R, x_clr_U, ct_some, ct_none, lc_lt, lc_ge, lc_gt, lc_le, lc_eq, lc_r, xI_inj, xJ_inj, Option.some.injEq, eq_self, bi_r, bi_0, bi_1, bi_n, Classical.not_not, and_true, true_and, ite_true, ite_false, ↓reduceIte, ↓x_andl, z_le, z_nle, z_lt, z_nlt, z_eq, z_neq, if_pos, if_neg, x_andl, false_and, and_false, or_true, true_or, or_false, false_or, not_true, not_false_iff, x_rd_eq, x_rd_ne, x_st_o, Int.cast_ofNat_Int, Int.ofNat_zero, Int.ofNat_one, not_true_eq_false, not_false_eq_true, if_true, if_false, ite_self, and_self, Int.ofNat_eq_natCast, Int.tdiv_eq_ediv_of_nonneg, Int.tmod_eq_emod_of_nonneg, x_bm32]
    refine (ec2 3 _).mpr ?_
    simp (disch := first | omega | (simp only [x_wtI, x_wtJ, x_wtR, x_wtN]; omega) | assumption | (simp (disch := omega) only [x_st_o, x_rd_ne]; first | assumption | omega) | (apply mir_eq; assumption; (intro c h1 h2; simp (disch := omega) only [x_st_o])) | (apply mis_eq; assumption; (intro c h1 h2; simp (disch := omega) only [x_st_o])) | rfl) only [bk_37_0, wp_ald0, wp_lds, wk_35, wr_3_0, wr_6_9, wp_ild1, wp_ic, wk_34, ws_9, ws_10, ws_11, ws_12, wr_6_10, wr_6_11, wr_6_12, wp_ret, x_clr_I, x_clr_J, x_clr_R, x_clr_U, ct_some, ct_none, lc_lt, lc_ge, lc_gt, lc_le, lc_eq, lc_r, xI_inj, xJ_inj, Option.some.injEq, eq_self, bi_r, bi_0, bi_1, bi_n, Classical.not_not, and_true, true_and, ite_true, ite_false, ↓reduceIte, ↓x_andl, z_le, z_nle, z_lt, z_nlt, z_eq, z_neq, if_pos, if_neg, x_andl, false_and, and_false, or_true, true_or, or_false, false_or, not_true, not_false_iff, x_rd_eq, x_rd_ne, x_st_o, Int.cast_ofNat_Int, Int.ofNat_zero, Int.ofNat_one, not_true_eq_false, not_false_eq_true, if_true, if_false, ite_self, and_self, Int.ofNat_eq_natCast, Int.tdiv_eq_ediv_of_nonneg, Int.tmod_eq_emod_of_nonneg, x_bm32, hs3]
    refine (ed1 0 _).mpr ?_
    simp (disch := first | omega | (simp only [x_wtI, x_wtJ, x_wtR, x_wtN]; omega) | assumption | (simp (disch := omega) only [x_st_o, x_rd_ne]; first | assumption | omega) | (apply mir_eq; assumption; (intro c h1 h2; simp (disch := omega) only [x_st_o])) | (apply mis_eq; assumption; (intro c h1 h2; simp (disch := omega) only [x_st_o])) | rfl) only [bk_37_0, wp_ald0, wp_lds, wk_35, wr_3_0, wr_6_9, wp_ild1, wp_ic, wk_34, ws_9, ws_10, ws_11, ws_12, wr_6_10, wr_6_11, wr_6_12, wp_ret, x_clr_I, x_clr_J, x_clr_R, x_clr_U, ct_some, ct_none, lc_lt, lc_ge, lc_gt, lc_le, lc_eq, lc_r, xI_inj, xJ_inj, Option.some.injEq, eq_self, bi_r, bi_0, bi_1, bi_n, Classical.not_not, and_true, true_and, ite_true, ite_false, ↓reduceIte, ↓x_andl, z_le, z_nle, z_lt, z_nlt, z_eq, z_neq, if_pos, if_neg, x_andl, false_and, and_false, or_true, true_or, or_false, false_or, not_true, not_false_iff, x_rd_eq, x_rd_ne, x_st_o, Int.cast_ofNat_Int, Int.ofNat_zero, Int.ofNat_one, not_true_eq_false, not_false_eq_true, if_true, if_false, ite_self, and_self, Int.ofNat_eq_natCast, Int.tdiv_eq_ediv_of_nonneg, Int.tmod_eq_emod_of_nonneg, x_bm32]
    refine (ed2 3 _).mpr ?_
    simp (disch := first | omega | (simp only [x_wtI, x_wtJ, x_wtR, x_wtN]; omega) | assumption | (simp (disch := omega) only [x_st_o, x_rd_ne]; first | assumption | omega) | (apply mir_eq; assumption; (intro c h1 h2; simp (disch := omega) only [x_st_o])) | (apply mis_eq; assumption; (intro c h1 h2; simp (disch := omega) only [x_st_o])) | rfl) only [bk_37_0, wp_ald0, wp_lds, wk_35, wr_3_0, wr_6_9, wp_ild1, wp_ic, wk_34, ws_9, ws_10, ws_11, ws_12, wr_6_10, wr_6_11, wr_6_12, wp_ret, x_clr_I, x_clr_J, x_clr_R, x_clr_U, ct_some, ct_none, lc_lt, lc_ge, lc_gt, lc_le, lc_eq, lc_r, xI_inj, xJ_inj, Option.some.injEq, eq_self, bi_r, bi_0, bi_1, bi_n, Classical.not_not, and_true, true_and, ite_true, ite_false, ↓reduceIte, ↓x_andl, z_le, z_nle, z_lt, z_nlt, z_eq, z_neq, if_pos, if_neg, x_andl, false_and, and_false, or_true, true_or, or_false, false_or, not_true, not_false_iff, x_rd_eq, x_rd_ne, x_st_o, Int.cast_ofNat_Int, Int.ofNat_zero, Int.ofNat_one, not_true_eq_false, not_false_eq_true, if_true, if_false, ite_self, and_self, Int.ofNat_eq_natCast, Int.tdiv_eq_ediv_of_nonneg, Int.tmod_eq_emod_of_nonneg, x_bm32, hs4]
    exact F
  · intro c j hc
    have z : ¬ (c = 3 ∧ j = 0) ∧ ¬ (c = 9 ∧ j = 0) ∧ ¬ (c = 10 ∧ j = 0) ∧ ¬ (c = 11 ∧ j = 0) ∧ ¬ (c = 12 ∧ j = 0) := by
      simp only [List.mem_cons, Prod.mk.injEq, List.not_mem_nil, or_false] at hc
      omega
    rw [← hs4, x_st_o (by omega), q4 c j (by omega), ← hs3, x_st_o (by omega), q3 c j (by omega), ← hs2, x_st_o (by omega), q2 c j (by omega), ← hs1, x_st_o (by omega), q1 c j (by omega)]
  · intro k hk
    rw [← hs4, x_st_o (by omega), rkd.2 k hk, ← hs3, x_st_o (by omega), rkc.2 k hk, ← hs2, x_st_o (by omega), rkb.2 k hk, ← hs1, x_st_o (by omega), rka.2 k hk]
  · intro g hg
    refine ⟨?_, ?_, ?_, ?_⟩
    · rw [← hs4, x_st_o (by omega), q4 9 0 (by omega), ← hs3, x_st_o (by omega), q3 9 0 (by omega), ← hs2, x_st_o (by omega), q2 9 0 (by omega), ← hs1, x_rd_ne (by omega), q1 9 0 (by omega)]
    · rw [← hs4, x_st_o (by omega), q4 10 0 (by omega), ← hs3, x_st_o (by omega), q3 10 0 (by omega), ← hs2, x_rd_ne (by omega), q2 10 0 (by omega), ← hs1, x_st_o (by omega), q1 10 0 (by omega)]
    · rw [← hs4, x_st_o (by omega), q4 11 0 (by omega), ← hs3, x_rd_ne (by omega), q3 11 0 (by omega), ← hs2, x_st_o (by omega), q2 11 0 (by omega), ← hs1, x_st_o (by omega), q1 11 0 (by omega)]
    · rw [← hs4, x_rd_ne (by omega), q4 12 0 (by omega), ← hs3, x_st_o (by omega), q3 12 0 (by omega), ← hs2, x_st_o (by omega), q2 12 0 (by omega), ← hs1, x_st_o (by omega), q1 12 0 (by omega)]
  · intro z
    have a4 := psT_c z
    have a3 := psT_c a4.1
    have a2' := psT_c a3.1
    refine ⟨?_, ?_, ?_, ?_⟩
    · rw [← hs4, x_st_o (by omega), q4 9 0 (by omega), ← hs3, x_st_o (by omega), q3 9 0 (by omega), ← hs2, x_st_o (by omega), q2 9 0 (by omega), ← hs1, x_rd_eq]
      exact va a2'.1
    · rw [← hs4, x_st_o (by omega), q4 10 0 (by omega), ← hs3, x_st_o (by omega), q3 10 0 (by omega), ← hs2, x_rd_eq]
      exact vb a3.1
    · rw [← hs4, x_st_o (by omega), q4 11 0 (by omega), ← hs3, x_rd_eq]
      exact vc a4.1
    · rw [← hs4, x_rd_eq]
      exact vd z
set_option maxHeartbeats 4000000 in
theorem h_mdoes {σ : x_S} {b : Int → Int} {n k : Int} {x : PS} (hk : 0 ≤ k ∧ k + 5 < 616) (h : MS σ b n x) : x_Sp 7 187 [xR 50 0, xI k] σ (fun r σ' => r = none ∧ MS σ' b n (psD b n x) ∧ x_eqo [(50, 0), (56, 0)] σ σ' ∧ (∀ q, ¬ (q = 8 ∨ q = 9 ∨ q = 10 ∨ q = 11 ∨ q = 12 ∨ q = 13) → σ' 50 0 q = σ 50 0 q) ∧ ∃ v0 v1 v2 v3, σ' 56 0 = w_up (w_up (w_up (w_up (σ 56 0) (k + 2) v0) (k + 3) v1) (k + 4) v2) (k + 5) v3 ∧ ((psD b n x).1 = 0 → dvs b n x v0 v1 v2 v3)) := by
  refine x_gen (fun Q hQ => ?_)
  obtain ⟨r1, a2, ⟨mka, ca, v0, hr1, vab, va⟩, ea⟩ := x_ex (h_mtold (j := 21) (lo := 0) (hi := 99) (by omega) (by omega) (by omega) h)
  subst hr1
  generalize hs1 : x_st a2 56 0 (k + 2) v0 = s1
  have cs1 : MS s1 b n (psD1 b n x) := MS_e ca (by subst hs1; exact x_st_o (by omega)) (by subst hs1; exact x_st_o (by omega))
  obtain ⟨r2, b2, ⟨mkb, cb, v1, hr2, vbb, vb⟩, eb⟩ := x_ex (h_mtold (j := 22) (lo := 0) (hi := 20) (by omega) (by omega) (by omega) cs1)
  subst hr2
  generalize hs2 : x_st b2 56 0 (k + 3) v1 = s2
  have cs2 : MS s2 b n (psD2 b n x) := MS_e cb (by subst hs2; exact x_st_o (by omega)) (by subst hs2; exact x_st_o (by omega))
  obtain ⟨r3, c2, ⟨mkc, cc, v2, hr3, vcb, vc⟩, ec⟩ := x_ex (h_mtold (j := 23) (lo := 0) (hi := 99) (by omega) (by omega) (by omega) cs2)
  subst hr3
  generalize hs3 : x_st c2 56 0 (k + 4) v2 = s3
  have cs3 : MS s3 b n (psD3 b n x) := MS_e cc (by subst hs3; exact x_st_o (by omega)) (by subst hs3; exact x_st_o (by omega))
  obtain ⟨r4, d2, ⟨mkd, cd, v3, hr4, vdb, vd⟩, ed⟩ := x_ex (h_mtold (j := 24) (lo := 0) (hi := 20) (by omega) (by omega) (by omega) cs3)
  subst hr4
  generalize hs4 : x_st d2 56 0 (k + 5) v3 = s4
  have cs4 : MS s4 b n (psD b n x) := MS_e cd (by subst hs4; exact x_st_o (by omega)) (by subst hs4; exact x_st_o (by omega))
  have q1 : ∀ c j, ¬ (c = 50 ∧ j = 0) → a2 c j = σ c j := fun c j z => mka.1 c j (by simp; omega)
  have q2 : ∀ c j, ¬ (c = 50 ∧ j = 0) → b2 c j = s1 c j := fun c j z => mkb.1 c j (by simp; omega)
  have q3 : ∀ c j, ¬ (c = 50 ∧ j = 0) → c2 c j = s2 c j := fun c j z => mkc.1 c j (by simp; omega)
  have q4 : ∀ c j, ¬ (c = 50 ∧ j = 0) → d2 c j = s3 c j := fun c j z => mkd.1 c j (by simp; omega)
  have F := hQ none s4 ⟨rfl, cs4, ?_, ?_, v0, v1, v2, v3, ?_, ?_⟩
  · simp (disch := first | omega | (simp only [x_wtI, x_wtJ, x_wtR, x_wtN]; omega) | assumption | (simp (disch := omega) only [x_st_o, x_rd_ne]; first | assumption | omega) | (apply mir_eq; assumption; (intro c h1 h2; simp (disch := omega) only [x_st_o])) | (apply mis_eq; assumption; (intro c h1 h2; simp (disch := omega) only [x_st_o])) | rfl) only [sp_187, bk_187_0, wp_ald0, wr_50_14, wp_ild1, wp_ic, wp_iadd, wp_lds, wk_185, ws_56, wp_ret, x_clr_I, x_clr_J, x_clr_R, x_clr_U, ct_some, ct_none, lc_lt, lc_ge, lc_gt, lc_le, lc_eq, lc_r, xI_inj, xJ_inj, Option.some.injEq, eq_self, bi_r, bi_0, bi_1, bi_n, Classical.not_not, and_true, true_and, ite_true, ite_false, ↓reduceIte, ↓x_andl, z_le, z_nle, z_lt, z_nlt, z_eq, z_neq, if_pos, if_neg, x_andl, false_and, and_false, or_true, true_or, or_false, false_or, not_true, not_false_iff, x_rd_eq, x_rd_ne, x_st_o, Int.cast_ofNat_Int, Int.ofNat_zero, Int.ofNat_one, not_true_eq_false, not_false_eq_true, if_true, if_false, ite_self, and_self, Int.ofNat_eq_natCast, Int.tdiv_eq_ediv_of_nonneg, Int.tmod_eq_emod_of_nonneg, x_bm32]
    refine (ea 0 _).mpr ?_
    simp (disch := first | omega | (simp only [x_wtI, x_wtJ, x_wtR, x_wtN]; omega) | assumption | (simp (disch := omega) only [x_st_o, x_rd_ne]; first | assumption | omega) | (apply mir_eq; assumption; (intro c h1 h2; simp (disch := omega) only [x_st_o])) | (apply mis_eq; assumption; (intro c h1 h2; simp (disch := omega) only [x_st_o])) | rfl) only [bk_187_0, wp_ald0, wr_50_14, wp_ild1, wp_ic, wp_iadd, wp_lds, wk_185, ws_56, wp_ret, x_clr_I, x_clr_J, x_clr_R, x_clr_U, ct_some, ct_none, lc_lt, lc_ge, lc_gt, lc_le, lc_eq, lc_r, xI_inj, xJ_inj, Option.some.injEq, eq_self, bi_r, bi_0, bi_1, bi_n, Classical.not_not, and_true, true_and, ite_true, ite_false, ↓reduceIte, ↓x_andl, z_le, z_nle, z_lt, z_nlt, z_eq, z_neq, if_pos, if_neg, x_andl, false_and, and_false, or_true, true_or, or_false, false_or, not_true, not_false_iff, x_rd_eq, x_rd_ne, x_st_o, Int.cast_ofNat_Int, Int.ofNat_zero, Int.ofNat_one, not_true_eq_false, not_false_eq_true, if_true, if_false, ite_self, and_self, Int.ofNat_eq_natCast, Int.tdiv_eq_ediv_of_nonneg, Int.tmod_eq_emod_of_nonneg, x_bm32, hs1]
    refine (eb 0 _).mpr ?_
    simp (disch := first | omega | (simp only [x_wtI, x_wtJ, x_wtR, x_wtN]; omega) | assumption | (simp (disch := omega) only [x_st_o, x_rd_ne]; first | assumption | omega) | (apply mir_eq; assumption; (intro c h1 h2; simp (disch := omega) only [x_st_o])) | (apply mis_eq; assumption; (intro c h1 h2; simp (disch := omega) only [x_st_o])) | rfl) only [bk_187_0, wp_ald0, wr_50_14, wp_ild1, wp_ic, wp_iadd, wp_lds, wk_185, ws_56, wp_ret, x_clr_I, x_clr_J, x_clr_R, x_clr_U, ct_some, ct_none, lc_lt, lc_ge, lc_gt, lc_le, lc_eq, lc_r, xI_inj, xJ_inj, Option.some.injEq, eq_self, bi_r, bi_0, bi_1, bi_n, Classical.not_not, and_true, true_and, ite_true, ite_false, ↓reduceIte, ↓x_andl, z_le, z_nle, z_lt, z_nlt, z_eq, z_neq, if_pos, if_neg, x_andl, false_and, and_false, or_true, true_or, or_false, false_or, not_true, not_false_iff, x_rd_eq, x_rd_ne, x_st_o, Int.cast_ofNat_Int, Int.ofNat_zero, Int.ofNat_one, not_true_eq_false, not_false_eq_true, if_true, if_false, ite_self, and_self, Int.ofNat_eq_natCast, Int.tdiv_eq_ediv_of_nonneg, Int.tmod_eq_emod_of_nonneg, x_bm32, hs2]
    refine (ec 0 _).mpr ?_
    simp (disch := first | omega | (simp only [x_wtI, x_wtJ, x_wtR, x_wtN]; omega) | assumption | (simp (disch := omega) only [x_st_o, x_rd_ne]; first | assumption | omega) | (apply mir_eq; assumption; (intro c h1 h2; simp (disch := omega) only [x_st_o])) | (apply mis_eq; assumption; (intro c h1 h2; simp (disch := omega) only [x_st_o])) | rfl) only [bk_187_0, wp_ald0, wr_50_14, wp_ild1, wp_ic, wp_iadd, wp_lds, wk_185, ws_56, wp_ret, x_clr_I, x_clr_J, x_clr_R, x_clr_U, ct_some, ct_none, lc_lt, lc_ge, lc_gt, lc_le, lc_eq, lc_r, xI_inj, xJ_inj, Option.some.injEq, eq_self, bi_r, bi_0, bi_1, bi_n, Classical.not_not, and_true, true_and, ite_true, ite_false, ↓reduceIte, ↓x_andl, z_le, z_nle, z_lt, z_nlt, z_eq, z_neq, if_pos, if_neg, x_andl, false_and, and_false, or_true, true_or, or_false, false_or, not_true, not_false_iff, x_rd_eq, x_rd_ne, x_st_o, Int.cast_ofNat_Int, Int.ofNat_zero, Int.ofNat_one, not_true_eq_false, not_false_eq_true, if_true, if_false, ite_self, and_self, Int.ofNat_eq_natCast, Int.tdiv_eq_ediv_of_nonneg, Int.tmod_eq_emod_of_nonneg, x_bm32, hs3]
    refine (ed 0 _).mpr ?_
    simp (disch := first | omega | (simp only [x_wtI, x_wtJ, x_wtR, x_wtN]; omega) | assumption | (simp (disch := omega) only [x_st_o, x_rd_ne]; first | assumption | omega) | (apply mir_eq; assumption; (intro c h1 h2; simp (disch := omega) only [x_st_o])) | (apply mis_eq; assumption; (intro c h1 h2; simp (disch := omega) only [x_st_o])) | rfl) only [bk_187_0, wp_ald0, wr_50_14, wp_ild1, wp_ic, wp_iadd, wp_lds, wk_185, ws_56, wp_ret, x_clr_I, x_clr_J, x_clr_R, x_clr_U, ct_some, ct_none, lc_lt, lc_ge, lc_gt, lc_le, lc_eq, lc_r, xI_inj, xJ_inj, Option.some.injEq, eq_self, bi_r, bi_0, bi_1, bi_n, Classical.not_not, and_true, true_and, ite_true, ite_false, ↓reduceIte, ↓x_andl, z_le, z_nle, z_lt, z_nlt, z_eq, z_neq, if_pos, if_neg, x_andl, false_and, and_false, or_true, true_or, or_false, false_or, not_true, not_false_iff, x_rd_eq, x_rd_ne, x_st_o, Int.cast_ofNat_Int, Int.ofNat_zero, Int.ofNat_one, not_true_eq_false, not_false_eq_true, if_true, if_false, ite_self, and_self, Int.ofNat_eq_natCast, Int.tdiv_eq_ediv_of_nonneg, Int.tmod_eq_emod_of_nonneg, x_bm32, hs4]
    exact F
  · intro c j hc
    have z : ¬ (c = 50 ∧ j = 0) ∧ ¬ (c = 56 ∧ j = 0) := by
      simp only [List.mem_cons, Prod.mk.injEq, List.not_mem_nil, or_false] at hc
      omega
    rw [← hs4, x_st_o (by omega), q4 c j (by omega), ← hs3, x_st_o (by omega), q3 c j (by omega), ← hs2, x_st_o (by omega), q2 c j (by omega), ← hs1, x_st_o (by omega), q1 c j (by omega)]
  · intro q hq
    rw [← hs4, x_st_o (by omega), mkd.2 q hq, ← hs3, x_st_o (by omega), mkc.2 q hq, ← hs2, x_st_o (by omega), mkb.2 q hq, ← hs1, x_st_o (by omega), mka.2 q hq]
  · rw [← hs4, x_st_w, q4 56 0 (by omega), ← hs3, x_st_w, q3 56 0 (by omega), ← hs2, x_st_w, q2 56 0 (by omega), ← hs1, x_st_w, q1 56 0 (by omega)]
  · intro z
    have a4 := psT_c z
    have a3 := psT_c a4.1
    have a2' := psT_c a3.1
    exact ⟨va a2'.1, vb a3.1, vc a4.1, vd z⟩

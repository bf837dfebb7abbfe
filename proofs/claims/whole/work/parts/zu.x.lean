theorem x_and_r {x y : Int} : -2147483648 ≤ x_and x y ∧ x_and x y < 2147483648 := by
  have a := Int32.le_toInt (Int32.ofInt x &&& Int32.ofInt y)
  have c := Int32.toInt_lt (Int32.ofInt x &&& Int32.ofInt y)
  unfold x_and
  omega
/-! every piece goes on in the text -/
section PM
variable {b : Int → Int} {n lo hi : Int} {s : List Int} {x : PS}
theorem tA_m {p : Int} (h : p ≤ n) : p ≤ tA b n p ∧ tA b n p ≤ n := by
  have a := tA_b (b := b) h
  have c := tF_b (b := b) h
  omega
theorem psW_m (h : (psW b n s x).1 = 0) (hx : x.2.2 ≤ n) : x.2.2 ≤ (psW b n s x).2.2 ∧ (psW b n s x).2.2 ≤ n := by
  have c := psW_c h
  unfold psW at h ⊢
  rw [if_neg (fun z => z c)] at h ⊢
  by_cases w : isW b s (tF b n x.2.2) (tK b n x.2.2) (tA b n x.2.2)
  · rw [if_pos w]
    exact tA_m hx
  · rw [if_neg w] at h
    exact absurd h ne11'
theorem psN_m (h : (psN b n lo hi x).1 = 0) (hx : x.2.2 ≤ n) : x.2.2 ≤ (psN b n lo hi x).2.2 ∧ (psN b n lo hi x).2.2 ≤ n := by
  have c := psN_c h
  unfold psN at h ⊢
  rw [if_neg (fun z => z c.1), if_neg (fun z => z c.2.1), if_neg (fun z => z c.2.2)]
  exact tA_m hx
theorem psP_m {fr : Int → Int} (h : (psP b n fr x).1 = 0) (hx : x.2.2 ≤ n) : x.2.2 ≤ (psP b n fr x).2.2 ∧ (psP b n fr x).2.2 ≤ n := by
  have c := psP_c h
  unfold psP at h ⊢
  rw [if_neg (fun z => z c.1), if_neg (fun z => z c.2.1), if_neg (fun z => z c.2.2)]
  exact tA_m hx
theorem psS_m (h : (psS b n x).1 = 0) (hx : x.2.2 ≤ n) : x.2.2 ≤ (psS b n x).2.2 ∧ (psS b n x).2.2 ≤ n := by
  have c := psS_c h
  unfold psS at h ⊢
  rw [if_neg (fun z => z c)] at h ⊢
  by_cases w : tK b n x.2.2 = 3
  · rw [if_pos w]
    exact tA_m hx
  · rw [if_neg w] at h
    exact absurd h ne11'
theorem psT_m (h : (psT b n s lo hi x).1 = 0) (hx : x.2.2 ≤ n) : x.2.2 ≤ (psT b n s lo hi x).2.2 ∧ (psT b n s lo hi x).2.2 ≤ n := by
  have c := psT_c h
  have a := psW_m c.2.1 hx
  have d := psN_m (lo := lo) (hi := hi) h a.2
  exact ⟨Int.le_trans a.1 d.1, d.2⟩
theorem psD_m (h : (psD b n x).1 = 0) (hx : x.2.2 ≤ n) : x.2.2 ≤ (psD b n x).2.2 ∧ (psD b n x).2.2 ≤ n := by
  have a4 := psT_c h
  have a3 := psT_c a4.1
  have a2 := psT_c a3.1
  have m1 := psT_m a2.1 hx
  have m2 := psT_m a3.1 m1.2
  have m3 := psT_m a4.1 m2.2
  have m4 := psT_m h m3.2
  exact ⟨Int.le_trans m1.1 (Int.le_trans m2.1 (Int.le_trans m3.1 m4.1)), m4.2⟩
end PM
theorem LN_m {b : Int → Int} {n A : Int} {fr td wo fr' td' wo' : Int → Int} {x' : PS} (hL : LN b n A fr td wo x' fr' td' wo') (h : x'.1 = 0) (hA : A ≤ n) (hk : ¬ tK b n A = 0) : A < x'.2.2 ∧ x'.2.2 ≤ n := by
  have f := tF_b (b := b) hA
  have k := tK_b (b := b) hA
  have a := tA_b (b := b) hA
  have lt : A < tA b n A := by
    have : ¬ tF b n A = n := fun z => hk (k.2.2.mpr z)
    have := a.2.2.1 (by omega)
    omega
  have y : (((0, -1, tA b n A) : PS).2.2 : Int) ≤ n := a.2.1
  have key : ∀ z : PS, x' = psS b n z → tA b n A ≤ z.2.2 ∧ z.2.2 ≤ n → A < x'.2.2 ∧ x'.2.2 ≤ n := by
    intro z ez hz
    rw [ez] at h ⊢
    have m := psS_m h hz.2
    exact ⟨Int.lt_of_lt_of_le lt (Int.le_trans hz.1 m.1), m.2⟩
  rcases hL with ⟨c, ex, hh⟩ | ⟨k, ix, hi, j, hf, hw, m0, t0, ex, _⟩ | ⟨hw, m0, t0, ex, _⟩ | ⟨hw, m0, ex, _⟩ | ⟨hw, m0, m40, ex, _⟩
  · rw [ex] at h
    have c0 : c = 0 := h
    rcases hh with z | z <;> (have := z.1; omega)
  · refine key _ ex ?_
    rw [ex] at h
    exact psN_m (psS_c h) y
  · refine key _ ex ?_
    rw [ex] at h
    have h1 := psS_c h
    have m1 := psN_m (psT_c h1).1 y
    have m2 := psT_m h1 m1.2
    exact ⟨Int.le_trans m1.1 m2.1, m2.2⟩
  · refine key _ ex ?_
    rw [ex] at h
    exact psD_m (psS_c h) y
  · refine key _ ex ?_
    rw [ex] at h
    have h1 := psS_c h
    have h2 := (psD_c h1).1
    have h3 := (psT_c h2).1
    have h4 := (psP_c h3).1
    have m1 := psW_m h4 y
    have m2 := psP_m h3 m1.2
    have m3 := psT_m h2 m2.2
    have m4 := psD_m h1 m3.2
    exact ⟨Int.le_trans m1.1 (Int.le_trans m2.1 (Int.le_trans m3.1 m4.1)), m4.2⟩
/-! all lines, from the token at A on -/
def LR (b : Int → Int) (n : Int) : Nat → Int → (Int → Int) → (Int → Int) → (Int → Int) → PS → (Int → Int) → (Int → Int) → (Int → Int) → Prop
  | 0, A, fr, td, wo, x', fr', td', wo' => tK b n A = 0 ∧ x' = (0, -1, A) ∧ fr' = fr ∧ td' = td ∧ wo' = wo
  | m + 1, A, fr, td, wo, x', fr', td', wo' => ¬ tK b n A = 0 ∧ ∃ x1 fr1 td1 wo1, LN b n A fr td wo x1 fr1 td1 wo1 ∧ ((¬ x1.1 = 0 ∧ x' = x1 ∧ fr' = fr1 ∧ td' = td1 ∧ wo' = wo1) ∨ (x1 = (0, -1, x1.2.2) ∧ dW fr1 ∧ tdW td1 ∧ LR b n m x1.2.2 fr1 td1 wo1 x' fr' td' wo'))
def CE (σ : x_S) (b : Int → Int) (n : Int) (x' : PS) (fr' td' wo' : Int → Int) : Prop := (σ 3 0 2 = x'.1 ∧ σ 3 0 3 = x'.2.1) ∧ (0 ≤ x'.1 ∧ x'.1 ≤ 4) ∧ (x'.1 = 0 → x'.2.1 = -1 ∧ σ 3 0 7 = tF b n x'.2.2 ∧ DR σ fr' td' wo' ∧ dW fr' ∧ tdW td')
set_option maxHeartbeats 4000000 in
theorem h_cread {b : Int → Int} {n : Int} {Q : Option x_V → x_S → Prop} : ∀ (m : Nat) (A i : Int) (σ : x_S) (fr td wo : Int → Int), n - A ≤ (m : Int) → (0 ≤ A ∧ A ≤ n) → (0 ≤ i ∧ i ≤ A) → CS σ b n (0, -1, tA b n A) → σ 3 0 7 = tF b n A → σ 3 0 8 = tK b n A → DR σ fr td wo → dW fr → tdW td → (∀ (m' : Nat) (i' : Int) (σ' : x_S) (x' : PS) (fr' td' wo' : Int → Int), LR b n m' A fr td wo x' fr' td' wo' → x_eqo dfS σ σ' → CE σ' b n x' fr' td' wo' → x_Wp 9 27 (x_blk 27 2) [xR 3 0, xI i'] [] σ' Q) → x_Wp 9 27 (x_blk 27 1) [xR 3 0, xI i] [] σ Q := by
  intro m
  induction m with
  | zero =>
    intro A i σ fr td wo hm hA hi hC h7 h8 hD hW ht H
    have kb := tK_b (b := b) hA.2
    have fb := tF_b (b := b) hA.2
    have k0 : tK b n A = 0 := kb.2.2.mpr (by omega)
    have z2 : σ 3 0 2 = 0 := hC.2.1.1
    have nb := hC.1.1
    have K := H 0 i σ (0, -1, A) fr td wo ⟨k0, rfl, rfl, rfl, rfl⟩ eqo_refl ⟨hC.2.1, ⟨Int.le_refl 0, by (show (0 : Int) ≤ 4; omega)⟩, fun _ => ⟨rfl, h7, hD, hW, ht⟩⟩
    rw [k0] at h8
    rw [bk_27_1]
    by_cases i18 : i < 1800
    · simp (disch := first | omega | (simp only [x_wtI, x_wtJ, x_wtR, x_wtN]; omega) | assumption | (simp (disch := omega) only [x_st_o, x_rd_ne]; first | assumption | omega) | (apply mir_eq; assumption; (intro c h1 h2; simp (disch := omega) only [x_st_o])) | (apply mis_eq; assumption; (intro c h1 h2; simp (disch := omega) only [x_st_o])) | rfl) only [bk_27_0, bk_27_3, bk_27_4, bk_27_5, bk_27_6, wp_ald0, wr_3_0, wk_58, wp_ic, wp_puti kd_3, wk_28, wp_ist1, wp_fall, wp_ild1, wp_icge, wp_geti kd_3, wp_ifne, wp_ifeq, wk_30, wp_inc1, wp_goto, wp_iand, wk_33, wk_40, wp_zret0 mz_27, wp_zret1 mz_27, wp_zretb mz_27, wp_zret mz_27, x_clr_I, x_clr_J, x_clr_R, x_clr_U, ct_some, ct_none, lc_lt, lc_ge, lc_gt, lc_le, lc_eq, lc_r, xI_inj, xJ_inj, Option.some.injEq, eq_self, bi_r, bi_0, bi_1, bi_n, Classical.not_not, and_true, true_and, ite_true, ite_false, ↓reduceIte, ↓x_andl, z_le, z_nle, z_lt, z_nlt, z_eq, z_neq, if_pos, if_neg, x_andl, false_and, and_false, or_true, true_or, or_false, false_or, not_true, not_false_iff, x_rd_eq, x_rd_ne, x_st_o, Int.cast_ofNat_Int, Int.ofNat_zero, Int.ofNat_one, not_true_eq_false, not_false_eq_true, if_true, if_false, ite_self, and_self, Int.ofNat_eq_natCast, Int.tdiv_eq_ediv_of_nonneg, Int.tmod_eq_emod_of_nonneg, x_bm32, z2, h8]
      exact K
    · simp (disch := first | omega | (simp only [x_wtI, x_wtJ, x_wtR, x_wtN]; omega) | assumption | (simp (disch := omega) only [x_st_o, x_rd_ne]; first | assumption | omega) | (apply mir_eq; assumption; (intro c h1 h2; simp (disch := omega) only [x_st_o])) | (apply mis_eq; assumption; (intro c h1 h2; simp (disch := omega) only [x_st_o])) | rfl) only [bk_27_0, bk_27_3, bk_27_4, bk_27_5, bk_27_6, wp_ald0, wr_3_0, wk_58, wp_ic, wp_puti kd_3, wk_28, wp_ist1, wp_fall, wp_ild1, wp_icge, wp_geti kd_3, wp_ifne, wp_ifeq, wk_30, wp_inc1, wp_goto, wp_iand, wk_33, wk_40, wp_zret0 mz_27, wp_zret1 mz_27, wp_zretb mz_27, wp_zret mz_27, x_clr_I, x_clr_J, x_clr_R, x_clr_U, ct_some, ct_none, lc_lt, lc_ge, lc_gt, lc_le, lc_eq, lc_r, xI_inj, xJ_inj, Option.some.injEq, eq_self, bi_r, bi_0, bi_1, bi_n, Classical.not_not, and_true, true_and, ite_true, ite_false, ↓reduceIte, ↓x_andl, z_le, z_nle, z_lt, z_nlt, z_eq, z_neq, if_pos, if_neg, x_andl, false_and, and_false, or_true, true_or, or_false, false_or, not_true, not_false_iff, x_rd_eq, x_rd_ne, x_st_o, Int.cast_ofNat_Int, Int.ofNat_zero, Int.ofNat_one, not_true_eq_false, not_false_eq_true, if_true, if_false, ite_self, and_self, Int.ofNat_eq_natCast, Int.tdiv_eq_ediv_of_nonneg, Int.tmod_eq_emod_of_nonneg, x_bm32, z2, h8]
      exact K
  | succ m ih =>
    intro A i σ fr td wo hm hA hi hC h7 h8 hD hW ht H
    have kb := tK_b (b := b) hA.2
    have fb := tF_b (b := b) hA.2
    have z2 : σ 3 0 2 = 0 := hC.2.1.1
    have nb := hC.1.1
    by_cases k0 : tK b n A = 0
    · have K := H 0 i σ (0, -1, A) fr td wo ⟨k0, rfl, rfl, rfl, rfl⟩ eqo_refl ⟨hC.2.1, ⟨Int.le_refl 0, by (show (0 : Int) ≤ 4; omega)⟩, fun _ => ⟨rfl, h7, hD, hW, ht⟩⟩
      rw [k0] at h8
      rw [bk_27_1]
      by_cases i18 : i < 1800
      · simp (disch := first | omega | (simp only [x_wtI, x_wtJ, x_wtR, x_wtN]; omega) | assumption | (simp (disch := omega) only [x_st_o, x_rd_ne]; first | assumption | omega) | (apply mir_eq; assumption; (intro c h1 h2; simp (disch := omega) only [x_st_o])) | (apply mis_eq; assumption; (intro c h1 h2; simp (disch := omega) only [x_st_o])) | rfl) only [bk_27_0, bk_27_3, bk_27_4, bk_27_5, bk_27_6, wp_ald0, wr_3_0, wk_58, wp_ic, wp_puti kd_3, wk_28, wp_ist1, wp_fall, wp_ild1, wp_icge, wp_geti kd_3, wp_ifne, wp_ifeq, wk_30, wp_inc1, wp_goto, wp_iand, wk_33, wk_40, wp_zret0 mz_27, wp_zret1 mz_27, wp_zretb mz_27, wp_zret mz_27, x_clr_I, x_clr_J, x_clr_R, x_clr_U, ct_some, ct_none, lc_lt, lc_ge, lc_gt, lc_le, lc_eq, lc_r, xI_inj, xJ_inj, Option.some.injEq, eq_self, bi_r, bi_0, bi_1, bi_n, Classical.not_not, and_true, true_and, ite_true, ite_false, ↓reduceIte, ↓x_andl, z_le, z_nle, z_lt, z_nlt, z_eq, z_neq, if_pos, if_neg, x_andl, false_and, and_false, or_true, true_or, or_false, false_or, not_true, not_false_iff, x_rd_eq, x_rd_ne, x_st_o, Int.cast_ofNat_Int, Int.ofNat_zero, Int.ofNat_one, not_true_eq_false, not_false_eq_true, if_true, if_false, ite_self, and_self, Int.ofNat_eq_natCast, Int.tdiv_eq_ediv_of_nonneg, Int.tmod_eq_emod_of_nonneg, x_bm32, z2, h8]
        exact K
      · simp (disch := first | omega | (simp only [x_wtI, x_wtJ, x_wtR, x_wtN]; omega) | assumption | (simp (disch := omega) only [x_st_o, x_rd_ne]; first | assumption | omega) | (apply mir_eq; assumption; (intro c h1 h2; simp (disch := omega) only [x_st_o])) | (apply mis_eq; assumption; (intro c h1 h2; simp (disch := omega) only [x_st_o])) | rfl) only [bk_27_0, bk_27_3, bk_27_4, bk_27_5, bk_27_6, wp_ald0, wr_3_0, wk_58, wp_ic, wp_puti kd_3, wk_28, wp_ist1, wp_fall, wp_ild1, wp_icge, wp_geti kd_3, wp_ifne, wp_ifeq, wk_30, wp_inc1, wp_goto, wp_iand, wk_33, wk_40, wp_zret0 mz_27, wp_zret1 mz_27, wp_zretb mz_27, wp_zret mz_27, x_clr_I, x_clr_J, x_clr_R, x_clr_U, ct_some, ct_none, lc_lt, lc_ge, lc_gt, lc_le, lc_eq, lc_r, xI_inj, xJ_inj, Option.some.injEq, eq_self, bi_r, bi_0, bi_1, bi_n, Classical.not_not, and_true, true_and, ite_true, ite_false, ↓reduceIte, ↓x_andl, z_le, z_nle, z_lt, z_nlt, z_eq, z_neq, if_pos, if_neg, x_andl, false_and, and_false, or_true, true_or, or_false, false_or, not_true, not_false_iff, x_rd_eq, x_rd_ne, x_st_o, Int.cast_ofNat_Int, Int.ofNat_zero, Int.ofNat_one, not_true_eq_false, not_false_eq_true, if_true, if_false, ite_self, and_self, Int.ofNat_eq_natCast, Int.tdiv_eq_ediv_of_nonneg, Int.tmod_eq_emod_of_nonneg, x_bm32, z2, h8]
        exact K
    · have i18 : i < 1800 := by
        have : ¬ tF b n A = n := fun z => k0 (kb.2.2.mpr z)
        omega
      obtain ⟨r1, σ1, ⟨hr1, e1, x1, fr1, td1, wo1, hL, c1, hg⟩, ev1⟩ := x_ex (h_cline hA hC h7 h8 hD hW ht)
      subst hr1
      obtain ⟨hB1, ⟨h21, h31⟩, hS1, hx1, hc1⟩ := id c1
      by_cases g : x1.1 = 0
      · obtain ⟨h61, p1⟩ := hx1 g
        have mm := LN_m hL g hA.2 k0
        have p0 : 0 ≤ x1.2.2 ∧ x1.2.2 ≤ n := by omega
        have ex : x1 = (0, -1, x1.2.2) := by
          rw [← g, ← p1]
        obtain ⟨r2, σ2, ⟨hr2, rk, e2, e3, e7, e8, e6⟩, ev2⟩ := x_ex (h_next hB1 (by rw [h21]; exact g) h61 p0)
        subst hr2
        have gg := hg g
        have cs2 : CS σ2 b n (0, -1, tA b n x1.2.2) := ⟨rdB_k hB1 rk, ⟨by rw [e2, h21]; exact g, by rw [e3, h31]; exact p1⟩, rdS_t p0.1 p0.2 e7 e8 e6, fun _ => ⟨e6, rfl⟩, by (show (0 : Int) ≤ 0 ∧ (0 : Int) ≤ 4; omega)⟩
        have K := ih x1.2.2 (i + 1) σ2 fr1 td1 wo1 (by omega) p0 (by omega) cs2 e7 e8 (DR_k gg.1 rk) gg.2.1 gg.2.2 (fun m' i' σ' x' fr' td' wo' hR eo ce => H (m' + 1) i' σ' x' fr' td' wo' ⟨k0, x1, fr1, td1, wo1, hL, Or.inr ⟨ex, gg.2.1, gg.2.2, hR⟩⟩ (eqo_trans e1 (eqo_trans (rkp_d rk) eo)) ce)
        generalize tK b n A = tk at h8 kb k0
        clear hL hg gg H ih
        rw [bk_27_1]
        simp (disch := first | omega | (simp only [x_wtI, x_wtJ, x_wtR, x_wtN]; omega) | assumption | (simp (disch := omega) only [x_st_o, x_rd_ne]; first | assumption | omega) | (apply mir_eq; assumption; (intro c h1 h2; simp (disch := omega) only [x_st_o])) | (apply mis_eq; assumption; (intro c h1 h2; simp (disch := omega) only [x_st_o])) | rfl) only [bk_27_0, bk_27_3, bk_27_4, bk_27_5, bk_27_6, wp_ald0, wr_3_0, wk_58, wp_ic, wp_puti kd_3, wk_28, wp_ist1, wp_fall, wp_ild1, wp_icge, wp_geti kd_3, wp_ifne, wp_ifeq, wk_30, wp_inc1, wp_goto, wp_iand, wk_33, wk_40, wp_zret0 mz_27, wp_zret1 mz_27, wp_zretb mz_27, wp_zret mz_27, x_clr_I, x_clr_J, x_clr_R, x_clr_U, ct_some, ct_none, lc_lt, lc_ge, lc_gt, lc_le, lc_eq, lc_r, xI_inj, xJ_inj, Option.some.injEq, eq_self, bi_r, bi_0, bi_1, bi_n, Classical.not_not, and_true, true_and, ite_true, ite_false, ↓reduceIte, ↓x_andl, z_le, z_nle, z_lt, z_nlt, z_eq, z_neq, if_pos, if_neg, x_andl, false_and, and_false, or_true, true_or, or_false, false_or, not_true, not_false_iff, x_rd_eq, x_rd_ne, x_st_o, Int.cast_ofNat_Int, Int.ofNat_zero, Int.ofNat_one, not_true_eq_false, not_false_eq_true, if_true, if_false, ite_self, and_self, Int.ofNat_eq_natCast, Int.tdiv_eq_ediv_of_nonneg, Int.tmod_eq_emod_of_nonneg, x_bm32, z2, h8]
        refine (ev1 0 _).mpr ?_
        simp (disch := first | omega | (simp only [x_wtI, x_wtJ, x_wtR, x_wtN]; omega) | assumption | (simp (disch := omega) only [x_st_o, x_rd_ne]; first | assumption | omega) | (apply mir_eq; assumption; (intro c h1 h2; simp (disch := omega) only [x_st_o])) | (apply mis_eq; assumption; (intro c h1 h2; simp (disch := omega) only [x_st_o])) | rfl) only [bk_27_0, bk_27_3, bk_27_4, bk_27_5, bk_27_6, wp_ald0, wr_3_0, wk_58, wp_ic, wp_puti kd_3, wk_28, wp_ist1, wp_fall, wp_ild1, wp_icge, wp_geti kd_3, wp_ifne, wp_ifeq, wk_30, wp_inc1, wp_goto, wp_iand, wk_33, wk_40, wp_zret0 mz_27, wp_zret1 mz_27, wp_zretb mz_27, wp_zret mz_27, x_clr_I, x_clr_J, x_clr_R, x_clr_U, ct_some, ct_none, lc_lt, lc_ge, lc_gt, lc_le, lc_eq, lc_r, xI_inj, xJ_inj, Option.some.injEq, eq_self, bi_r, bi_0, bi_1, bi_n, Classical.not_not, and_true, true_and, ite_true, ite_false, ↓reduceIte, ↓x_andl, z_le, z_nle, z_lt, z_nlt, z_eq, z_neq, if_pos, if_neg, x_andl, false_and, and_false, or_true, true_or, or_false, false_or, not_true, not_false_iff, x_rd_eq, x_rd_ne, x_st_o, Int.cast_ofNat_Int, Int.ofNat_zero, Int.ofNat_one, not_true_eq_false, not_false_eq_true, if_true, if_false, ite_self, and_self, Int.ofNat_eq_natCast, Int.tdiv_eq_ediv_of_nonneg, Int.tmod_eq_emod_of_nonneg, x_bm32]
        refine (ev2 7 _).mpr ?_
        simp (disch := first | omega | (simp only [x_wtI, x_wtJ, x_wtR, x_wtN]; omega) | assumption | (simp (disch := omega) only [x_st_o, x_rd_ne]; first | assumption | omega) | (apply mir_eq; assumption; (intro c h1 h2; simp (disch := omega) only [x_st_o])) | (apply mis_eq; assumption; (intro c h1 h2; simp (disch := omega) only [x_st_o])) | rfl) only [bk_27_0, bk_27_3, bk_27_4, bk_27_5, bk_27_6, wp_ald0, wr_3_0, wk_58, wp_ic, wp_puti kd_3, wk_28, wp_ist1, wp_fall, wp_ild1, wp_icge, wp_geti kd_3, wp_ifne, wp_ifeq, wk_30, wp_inc1, wp_goto, wp_iand, wk_33, wk_40, wp_zret0 mz_27, wp_zret1 mz_27, wp_zretb mz_27, wp_zret mz_27, x_clr_I, x_clr_J, x_clr_R, x_clr_U, ct_some, ct_none, lc_lt, lc_ge, lc_gt, lc_le, lc_eq, lc_r, xI_inj, xJ_inj, Option.some.injEq, eq_self, bi_r, bi_0, bi_1, bi_n, Classical.not_not, and_true, true_and, ite_true, ite_false, ↓reduceIte, ↓x_andl, z_le, z_nle, z_lt, z_nlt, z_eq, z_neq, if_pos, if_neg, x_andl, false_and, and_false, or_true, true_or, or_false, false_or, not_true, not_false_iff, x_rd_eq, x_rd_ne, x_st_o, Int.cast_ofNat_Int, Int.ofNat_zero, Int.ofNat_one, not_true_eq_false, not_false_eq_true, if_true, if_false, ite_self, and_self, Int.ofNat_eq_natCast, Int.tdiv_eq_ediv_of_nonneg, Int.tmod_eq_emod_of_nonneg, x_bm32]
        exact K
      · have n2 : ¬ σ1 3 0 2 = 0 := by rw [h21]; exact g
        have r2 : 0 ≤ σ1 3 0 2 ∧ σ1 3 0 2 ≤ 4 := by rw [h21]; exact hc1
        have kn := fun (d' : Nat) (Q' : Option x_V → x_S → Prop) => k_next1 (d := d') (σ := σ1) (Q := Q') r2 n2
        have K := H (m + 1) (i + 1) σ1 x1 fr1 td1 wo1 ⟨k0, x1, fr1, td1, wo1, hL, Or.inl ⟨g, rfl, rfl, rfl, rfl⟩⟩ e1 ⟨⟨h21, h31⟩, hc1, fun z => absurd z g⟩
        generalize tK b n A = tk at h8 kb k0
        clear hL hg H ih
        rw [bk_27_1]
        simp (disch := first | omega | (simp only [x_wtI, x_wtJ, x_wtR, x_wtN]; omega) | assumption | (simp (disch := omega) only [x_st_o, x_rd_ne]; first | assumption | omega) | (apply mir_eq; assumption; (intro c h1 h2; simp (disch := omega) only [x_st_o])) | (apply mis_eq; assumption; (intro c h1 h2; simp (disch := omega) only [x_st_o])) | rfl) only [bk_27_0, bk_27_3, bk_27_4, bk_27_5, bk_27_6, wp_ald0, wr_3_0, wk_58, wp_ic, wp_puti kd_3, wk_28, wp_ist1, wp_fall, wp_ild1, wp_icge, wp_geti kd_3, wp_ifne, wp_ifeq, wk_30, wp_inc1, wp_goto, wp_iand, wk_33, wk_40, wp_zret0 mz_27, wp_zret1 mz_27, wp_zretb mz_27, wp_zret mz_27, x_clr_I, x_clr_J, x_clr_R, x_clr_U, ct_some, ct_none, lc_lt, lc_ge, lc_gt, lc_le, lc_eq, lc_r, xI_inj, xJ_inj, Option.some.injEq, eq_self, bi_r, bi_0, bi_1, bi_n, Classical.not_not, and_true, true_and, ite_true, ite_false, ↓reduceIte, ↓x_andl, z_le, z_nle, z_lt, z_nlt, z_eq, z_neq, if_pos, if_neg, x_andl, false_and, and_false, or_true, true_or, or_false, false_or, not_true, not_false_iff, x_rd_eq, x_rd_ne, x_st_o, Int.cast_ofNat_Int, Int.ofNat_zero, Int.ofNat_one, not_true_eq_false, not_false_eq_true, if_true, if_false, ite_self, and_self, Int.ofNat_eq_natCast, Int.tdiv_eq_ediv_of_nonneg, Int.tmod_eq_emod_of_nonneg, x_bm32, z2, h8]
        refine (ev1 0 _).mpr ?_
        simp (disch := first | omega | (simp only [x_wtI, x_wtJ, x_wtR, x_wtN]; omega) | assumption | (simp (disch := omega) only [x_st_o, x_rd_ne]; first | assumption | omega) | (apply mir_eq; assumption; (intro c h1 h2; simp (disch := omega) only [x_st_o])) | (apply mis_eq; assumption; (intro c h1 h2; simp (disch := omega) only [x_st_o])) | rfl) only [bk_27_0, bk_27_3, bk_27_4, bk_27_5, bk_27_6, wp_ald0, wr_3_0, wk_58, wp_ic, wp_puti kd_3, wk_28, wp_ist1, wp_fall, wp_ild1, wp_icge, wp_geti kd_3, wp_ifne, wp_ifeq, wk_30, wp_inc1, wp_goto, wp_iand, wk_33, wk_40, wp_zret0 mz_27, wp_zret1 mz_27, wp_zretb mz_27, wp_zret mz_27, x_clr_I, x_clr_J, x_clr_R, x_clr_U, ct_some, ct_none, lc_lt, lc_ge, lc_gt, lc_le, lc_eq, lc_r, xI_inj, xJ_inj, Option.some.injEq, eq_self, bi_r, bi_0, bi_1, bi_n, Classical.not_not, and_true, true_and, ite_true, ite_false, ↓reduceIte, ↓x_andl, z_le, z_nle, z_lt, z_nlt, z_eq, z_neq, if_pos, if_neg, x_andl, false_and, and_false, or_true, true_or, or_false, false_or, not_true, not_false_iff, x_rd_eq, x_rd_ne, x_st_o, Int.cast_ofNat_Int, Int.ofNat_zero, Int.ofNat_one, not_true_eq_false, not_false_eq_true, if_true, if_false, ite_self, and_self, Int.ofNat_eq_natCast, Int.tdiv_eq_ediv_of_nonneg, Int.tmod_eq_emod_of_nonneg, x_bm32, kn]
        rw [bk_27_1]
        by_cases i2 : i + 1 < 1800
        · simp (disch := first | omega | (simp only [x_wtI, x_wtJ, x_wtR, x_wtN]; omega) | assumption | (simp (disch := omega) only [x_st_o, x_rd_ne]; first | assumption | omega) | (apply mir_eq; assumption; (intro c h1 h2; simp (disch := omega) only [x_st_o])) | (apply mis_eq; assumption; (intro c h1 h2; simp (disch := omega) only [x_st_o])) | rfl) only [bk_27_0, bk_27_3, bk_27_4, bk_27_5, bk_27_6, wp_ald0, wr_3_0, wk_58, wp_ic, wp_puti kd_3, wk_28, wp_ist1, wp_fall, wp_ild1, wp_icge, wp_geti kd_3, wp_ifne, wp_ifeq, wk_30, wp_inc1, wp_goto, wp_iand, wk_33, wk_40, wp_zret0 mz_27, wp_zret1 mz_27, wp_zretb mz_27, wp_zret mz_27, x_clr_I, x_clr_J, x_clr_R, x_clr_U, ct_some, ct_none, lc_lt, lc_ge, lc_gt, lc_le, lc_eq, lc_r, xI_inj, xJ_inj, Option.some.injEq, eq_self, bi_r, bi_0, bi_1, bi_n, Classical.not_not, and_true, true_and, ite_true, ite_false, ↓reduceIte, ↓x_andl, z_le, z_nle, z_lt, z_nlt, z_eq, z_neq, if_pos, if_neg, x_andl, false_and, and_false, or_true, true_or, or_false, false_or, not_true, not_false_iff, x_rd_eq, x_rd_ne, x_st_o, Int.cast_ofNat_Int, Int.ofNat_zero, Int.ofNat_one, not_true_eq_false, not_false_eq_true, if_true, if_false, ite_self, and_self, Int.ofNat_eq_natCast, Int.tdiv_eq_ediv_of_nonneg, Int.tmod_eq_emod_of_nonneg, x_bm32]
          exact K
        · simp (disch := first | omega | (simp only [x_wtI, x_wtJ, x_wtR, x_wtN]; omega) | assumption | (simp (disch := omega) only [x_st_o, x_rd_ne]; first | assumption | omega) | (apply mir_eq; assumption; (intro c h1 h2; simp (disch := omega) only [x_st_o])) | (apply mis_eq; assumption; (intro c h1 h2; simp (disch := omega) only [x_st_o])) | rfl) only [bk_27_0, bk_27_3, bk_27_4, bk_27_5, bk_27_6, wp_ald0, wr_3_0, wk_58, wp_ic, wp_puti kd_3, wk_28, wp_ist1, wp_fall, wp_ild1, wp_icge, wp_geti kd_3, wp_ifne, wp_ifeq, wk_30, wp_inc1, wp_goto, wp_iand, wk_33, wk_40, wp_zret0 mz_27, wp_zret1 mz_27, wp_zretb mz_27, wp_zret mz_27, x_clr_I, x_clr_J, x_clr_R, x_clr_U, ct_some, ct_none, lc_lt, lc_ge, lc_gt, lc_le, lc_eq, lc_r, xI_inj, xJ_inj, Option.some.injEq, eq_self, bi_r, bi_0, bi_1, bi_n, Classical.not_not, and_true, true_and, ite_true, ite_false, ↓reduceIte, ↓x_andl, z_le, z_nle, z_lt, z_nlt, z_eq, z_neq, if_pos, if_neg, x_andl, false_and, and_false, or_true, true_or, or_false, false_or, not_true, not_false_iff, x_rd_eq, x_rd_ne, x_st_o, Int.cast_ofNat_Int, Int.ofNat_zero, Int.ofNat_one, not_true_eq_false, not_false_eq_true, if_true, if_false, ite_self, and_self, Int.ofNat_eq_natCast, Int.tdiv_eq_ediv_of_nonneg, Int.tmod_eq_emod_of_nonneg, x_bm32]
          exact K

theorem sh_0 : ∀ j : Fin 28, x_shr (x_sln j.val) 0 = x_sln j.val ∧ 0 ≤ x_sln j.val ∧ x_sln j.val ≤ 6 := by decide +kernel
theorem ch_0 : ∀ j : Fin 28, ∀ i : Fin 6, x_and (x_chr j.val (i.val : Int)) 255 % 65536 = x_chr j.val (i.val : Int) ∧ 0 ≤ x_chr j.val (i.val : Int) ∧ x_chr j.val (i.val : Int) < 128 := by decide +kernel
theorem by_0 : ∀ k : Fin 256, x_and ((k.val : Int) - 128) 255 = ((k.val : Int) - 128) % 256 := by decide +kernel
theorem by_m {c : Int} (h : -128 ≤ c ∧ c < 128) : x_and c 255 = c % 256 := by
  have x := by_0 ⟨(c + 128).toNat, by omega⟩
  have e : (((⟨(c + 128).toNat, by omega⟩ : Fin 256).val : Nat) : Int) = c + 128 := Int.toNat_of_nonneg (by omega)
  rw [e, show c + 128 - 128 = c by omega] at x
  exact x
theorem xst_l {j : Nat} (hj : j < 28) : x_sln j = ((xst j).length : Int) ∧ 0 ≤ x_sln j ∧ x_sln j ≤ 6 := ⟨rfl, (sh_0 ⟨j, hj⟩).2⟩
theorem k_len {d : Nat} {σ : x_S} {Q : Option x_V → x_S → Prop} {j : Nat} (hj : j < 28) : x_Sp (d + 1) 279 [xR 101 j] σ Q ↔ Q (some (xI (x_sln j))) σ := by
  refine x_sp_of ?_
  have e := (sh_0 ⟨j, hj⟩).1
  simp (disch := first | omega | (simp only [x_wtI, x_wtJ, x_wtR, x_wtN]; omega) | assumption | (simp (disch := omega) only [x_st_o, x_rd_ne]; first | assumption | omega) | (apply mir_eq; assumption; (intro c h1 h2; simp (disch := omega) only [x_st_o])) | (apply mis_eq; assumption; (intro c h1 h2; simp (disch := omega) only [x_st_o])) | rfl) only [sp_279, bk_279_0, wp_ald0, wp_sval, wp_slen, wp_clen, wk_280, wp_ishr, wp_iret mz_279, sp_280, bk_280_0, bk_280_1, bk_280_2, wp_cmpct, wp_ifeq, wp_scod, wp_goto, wp_ic, wp_fall, wp_bret mz_280, x_clr_I, x_clr_J, x_clr_R, x_clr_U, ct_some, ct_none, lc_lt, lc_ge, lc_gt, lc_le, lc_eq, lc_r, xI_inj, xJ_inj, Option.some.injEq, eq_self, bi_r, bi_0, bi_1, bi_n, Classical.not_not, and_true, true_and, ite_true, ite_false, ↓reduceIte, ↓x_andl, z_le, z_nle, z_lt, z_nlt, z_eq, z_neq, if_pos, if_neg, x_andl, false_and, and_false, or_true, true_or, or_false, false_or, not_true, not_false_iff, x_rd_eq, x_rd_ne, x_st_o, Int.cast_ofNat_Int, Int.ofNat_zero, Int.ofNat_one, not_true_eq_false, not_false_eq_true, if_true, if_false, ite_self, and_self, Int.ofNat_eq_natCast, Int.tdiv_eq_ediv_of_nonneg, Int.tmod_eq_emod_of_nonneg, x_bm32]
theorem k_chr {d : Nat} {σ : x_S} {Q : Option x_V → x_S → Prop} {j : Nat} {i : Int} (hj : j < 28) (hi : 0 ≤ i ∧ i < x_sln j) : x_Sp (d + 3) 281 [xR 101 j, xI i] σ Q ↔ Q (some (xI (x_chr j i))) σ := by
  refine x_sp_of ?_
  have l := xst_l hj
  have e := (ch_0 ⟨j, hj⟩ ⟨i.toNat, by omega⟩).1
  have e2 : ((i.toNat : Nat) : Int) = i := Int.toNat_of_nonneg hi.1
  have e3 : x_and (x_chr j i) 255 % 65536 = x_chr j i := by
    have : (((⟨i.toNat, by omega⟩ : Fin 6).val : Nat) : Int) = i := e2
    rw [this] at e
    exact e
  simp (disch := first | omega | (simp only [x_wtI, x_wtJ, x_wtR, x_wtN]; omega) | assumption | (simp (disch := omega) only [x_st_o, x_rd_ne]; first | assumption | omega) | (apply mir_eq; assumption; (intro c h1 h2; simp (disch := omega) only [x_st_o])) | (apply mis_eq; assumption; (intro c h1 h2; simp (disch := omega) only [x_st_o])) | rfl) only [sp_281, bk_281_0, bk_281_1, wp_ald0, wk_282, wp_ifeq, wp_sval, wp_ild1, wk_284, wp_cret mz_281, sp_282, bk_282_0, bk_282_1, bk_282_2, wp_cmpct, wp_scod, wp_ifne, wp_ic, wp_goto, wp_fall, wp_zret0 mz_282, wp_zret1 mz_282, wp_zretb mz_282, wp_zret mz_282, sp_283, bk_283_0, wp_ild0, wp_fmt, wk_285, wp_pop, wp_ret, sp_284, bk_284_0, we_1, we_2, we_4, we_5, we_7, we_8, we_9, we_10, we_11, we_12, we_13, we_14, we_15, we_17, we_18, we_19, we_21, we_22, we_25, we_26, we_27, we_28, we_30, we_31, we_32, we_34, we_35, we_36, we_37, we_38, we_39, we_40, we_41, we_42, we_43, we_45, we_46, we_47, we_48, we_49, we_51, we_52, we_53, we_54, we_55, we_56, we_57, we_58, we_59, we_60, we_61, we_62, we_63, we_64, we_65, we_66, we_67, we_68, we_69, we_70, we_71, we_72, we_73, wp_slen, wp_clen, wk_283, wl_4, wl_34, wl_35, wl_43, wl_53, wl_54, wl_58, wl_68, wp_sbal, wp_iand, wp_i2c, wp_cret mz_284, sp_285, bk_285_0, bk_285_1, bk_285_2, wp_iflt, wp_iclt, wp_iret mz_285, x_clr_I, x_clr_J, x_clr_R, x_clr_U, ct_some, ct_none, lc_lt, lc_ge, lc_gt, lc_le, lc_eq, lc_r, xI_inj, xJ_inj, Option.some.injEq, eq_self, bi_r, bi_0, bi_1, bi_n, Classical.not_not, and_true, true_and, ite_true, ite_false, ↓reduceIte, ↓x_andl, z_le, z_nle, z_lt, z_nlt, z_eq, z_neq, if_pos, if_neg, x_andl, false_and, and_false, or_true, true_or, or_false, false_or, not_true, not_false_iff, x_rd_eq, x_rd_ne, x_st_o, Int.cast_ofNat_Int, Int.ofNat_zero, Int.ofNat_one, not_true_eq_false, not_false_eq_true, if_true, if_false, ite_self, and_self, Int.ofNat_eq_natCast, Int.tdiv_eq_ediv_of_nonneg, Int.tmod_eq_emod_of_nonneg, x_bm32]
abbrev PS := Int × Int × Int
def psW (b : Int → Int) (n : Int) (s : List Int) (x : PS) : PS := if ¬ x.1 = 0 then x else if isW b s (tF b n x.2.2) (tK b n x.2.2) (tA b n x.2.2) then (0, -1, tA b n x.2.2) else (1, tF b n x.2.2, x.2.2)
def psV (b : Int → Int) (n : Int) (x : PS) : Int := nv 100000 b (tF b n x.2.2) (tA b n x.2.2)
def psN (b : Int → Int) (n lo hi : Int) (x : PS) : PS := if ¬ x.1 = 0 then x else if ¬ tK b n x.2.2 = 2 then (1, tF b n x.2.2, x.2.2) else if ¬ (lo ≤ psV b n x ∧ psV b n x ≤ hi) then (2, tF b n x.2.2, x.2.2) else (0, -1, tA b n x.2.2)
def psS (b : Int → Int) (n : Int) (x : PS) : PS := if ¬ x.1 = 0 then x else if tK b n x.2.2 = 3 then (0, -1, tA b n x.2.2) else (1, tF b n x.2.2, x.2.2)
/-! the class's reader behind a piece -/
def rdS (σ : x_S) (b : Int → Int) (n : Int) : Prop := (0 ≤ σ 3 0 7 ∧ σ 3 0 7 ≤ σ 3 0 6 ∧ σ 3 0 6 ≤ n) ∧ (0 ≤ σ 3 0 8 ∧ σ 3 0 8 ≤ 4) ∧ (σ 3 0 8 = 2 → ∀ i, σ 3 0 7 ≤ i → i < σ 3 0 6 → 48 ≤ b i ∧ b i ≤ 57)
def CS (σ : x_S) (b : Int → Int) (n : Int) (x : PS) : Prop := rdB σ b n ∧ (σ 3 0 2 = x.1 ∧ σ 3 0 3 = x.2.1) ∧ rdS σ b n ∧ (x.1 = 0 → σ 3 0 6 = x.2.2 ∧ x.2.1 = -1) ∧ (0 ≤ x.1 ∧ x.1 ≤ 4)
theorem k_fail {d : Nat} {σ : x_S} {Q : Option x_V → x_S → Prop} {c : Int} (hr : 0 ≤ σ 3 0 2 ∧ σ 3 0 2 ≤ 4) : x_Sp d 33 [xR 3 0, xI c] σ Q ↔ Q none (if σ 3 0 2 = 0 then x_st (x_st σ 3 0 2 c) 3 0 3 (σ 3 0 7) else σ) := by
  refine x_sp_of ?_
  by_cases h : σ 3 0 2 = 0
  · rw [if_pos h]
    simp (disch := first | omega | (simp only [x_wtI, x_wtJ, x_wtR, x_wtN]; omega) | assumption | (simp (disch := omega) only [x_st_o, x_rd_ne]; first | assumption | omega) | (apply mir_eq; assumption; (intro c h1 h2; simp (disch := omega) only [x_st_o])) | (apply mis_eq; assumption; (intro c h1 h2; simp (disch := omega) only [x_st_o])) | rfl) only [sp_33, bk_33_0, bk_33_1, wp_ald0, wp_geti kd_3, wp_ifne, wp_ild1, wp_puti kd_3, wp_fall, wp_ret, x_clr_I, x_clr_J, x_clr_R, x_clr_U, ct_some, ct_none, lc_lt, lc_ge, lc_gt, lc_le, lc_eq, lc_r, xI_inj, xJ_inj, Option.some.injEq, eq_self, bi_r, bi_0, bi_1, bi_n, Classical.not_not, and_true, true_and, ite_true, ite_false, ↓reduceIte, ↓x_andl, z_le, z_nle, z_lt, z_nlt, z_eq, z_neq, if_pos, if_neg, x_andl, false_and, and_false, or_true, true_or, or_false, false_or, not_true, not_false_iff, x_rd_eq, x_rd_ne, x_st_o, Int.cast_ofNat_Int, Int.ofNat_zero, Int.ofNat_one, not_true_eq_false, not_false_eq_true, if_true, if_false, ite_self, and_self, Int.ofNat_eq_natCast, Int.tdiv_eq_ediv_of_nonneg, Int.tmod_eq_emod_of_nonneg, x_bm32, h]
  · rw [if_neg h]
    simp (disch := first | omega | (simp only [x_wtI, x_wtJ, x_wtR, x_wtN]; omega) | assumption | (simp (disch := omega) only [x_st_o, x_rd_ne]; first | assumption | omega) | (apply mir_eq; assumption; (intro c h1 h2; simp (disch := omega) only [x_st_o])) | (apply mis_eq; assumption; (intro c h1 h2; simp (disch := omega) only [x_st_o])) | rfl) only [sp_33, bk_33_0, bk_33_1, wp_ald0, wp_geti kd_3, wp_ifne, wp_ild1, wp_puti kd_3, wp_fall, wp_ret, x_clr_I, x_clr_J, x_clr_R, x_clr_U, ct_some, ct_none, lc_lt, lc_ge, lc_gt, lc_le, lc_eq, lc_r, xI_inj, xJ_inj, Option.some.injEq, eq_self, bi_r, bi_0, bi_1, bi_n, Classical.not_not, and_true, true_and, ite_true, ite_false, ↓reduceIte, ↓x_andl, z_le, z_nle, z_lt, z_nlt, z_eq, z_neq, if_pos, if_neg, x_andl, false_and, and_false, or_true, true_or, or_false, false_or, not_true, not_false_iff, x_rd_eq, x_rd_ne, x_st_o, Int.cast_ofNat_Int, Int.ofNat_zero, Int.ofNat_one, not_true_eq_false, not_false_eq_true, if_true, if_false, ite_self, and_self, Int.ofNat_eq_natCast, Int.tdiv_eq_ediv_of_nonneg, Int.tmod_eq_emod_of_nonneg, x_bm32]
theorem k_next1 {d : Nat} {σ : x_S} {Q : Option x_V → x_S → Prop} (hr : 0 ≤ σ 3 0 2 ∧ σ 3 0 2 ≤ 4) (h : ¬ σ 3 0 2 = 0) : x_Sp d 28 [xR 3 0] σ Q ↔ Q none σ := by
  refine x_sp_of ?_
  simp (disch := first | omega | (simp only [x_wtI, x_wtJ, x_wtR, x_wtN]; omega) | assumption | (simp (disch := omega) only [x_st_o, x_rd_ne]; first | assumption | omega) | (apply mir_eq; assumption; (intro c h1 h2; simp (disch := omega) only [x_st_o])) | (apply mis_eq; assumption; (intro c h1 h2; simp (disch := omega) only [x_st_o])) | rfl) only [sp_28, bk_28_0, bk_28_1, bk_28_2, bk_28_3, bk_28_4, bk_28_5, bk_28_6, bk_28_7, wp_ald0, wp_geti kd_3, wp_ifeq, wp_ret, wp_icge, wr_3_4, wl_4, wp_sbal, wk_29, wp_ic, wp_icne, wp_dupi, wp_dupr, wp_iadd, wp_puti kd_3, wp_goto, wp_fall, wp_iceq, x_clr_I, x_clr_J, x_clr_R, x_clr_U, ct_some, ct_none, lc_lt, lc_ge, lc_gt, lc_le, lc_eq, lc_r, xI_inj, xJ_inj, Option.some.injEq, eq_self, bi_r, bi_0, bi_1, bi_n, Classical.not_not, and_true, true_and, ite_true, ite_false, ↓reduceIte, ↓x_andl, z_le, z_nle, z_lt, z_nlt, z_eq, z_neq, if_pos, if_neg, x_andl, false_and, and_false, or_true, true_or, or_false, false_or, not_true, not_false_iff, x_rd_eq, x_rd_ne, x_st_o, Int.cast_ofNat_Int, Int.ofNat_zero, Int.ofNat_one, not_true_eq_false, not_false_eq_true, if_true, if_false, ite_self, and_self, Int.ofNat_eq_natCast, Int.tdiv_eq_ediv_of_nonneg, Int.tmod_eq_emod_of_nonneg, x_bm32]
def rat (σ σ' : x_S) : Prop := x_eqo [(3, 0)] σ σ' ∧ ∀ k, ¬ k = 6 → σ' 3 0 k = σ 3 0 k
set_option maxHeartbeats 4000000 in
theorem h_next {σ : x_S} {b : Int → Int} {n p : Int} (hB : rdB σ b n) (h2 : σ 3 0 2 = 0) (hp : σ 3 0 6 = p) (hp2 : 0 ≤ p ∧ p ≤ n) : x_Sp 1 28 [xR 3 0] σ (fun r σ' => r = none ∧ rkp σ σ' ∧ σ' 3 0 2 = σ 3 0 2 ∧ σ' 3 0 3 = σ 3 0 3 ∧ σ' 3 0 7 = tF b n p ∧ σ' 3 0 8 = tK b n p ∧ σ' 3 0 6 = tA b n p) := by
  obtain ⟨nb, h1, hby⟩ := id hB
  have fb := tF_b (b := b) hp2.2
  have kb := tK_b (b := b) hp2.2
  have ab := tA_b (b := b) hp2.2
  refine x_gen (fun Q hQ => ?_)
  -- the last loop
  have run : ∀ m : Nat, ∀ (q : Int) (σ' : x_S), n - q = m → tF b n p < q → rkp σ σ' → σ' 3 0 2 = σ 3 0 2 → σ' 3 0 3 = σ 3 0 3 → σ' 3 0 7 = tF b n p → σ' 3 0 8 = tK b n p → σ' 3 0 6 = q → ((tK b n p = 1 ∨ tK b n p = 2) → rnp b (tK b n p) m q = tA b n p) → (¬ (tK b n p = 1 ∨ tK b n p = 2) → q = tA b n p) → x_Wp 1 28 (x_blk 28 5) [xR 3 0] [] σ' Q := by
    intro m
    induction m with
    | zero =>
      intro q σ' hm hq rk e2 e3 e7 e8 e6 hr hn
      have eq : q = tA b n p := by
        by_cases z : tK b n p = 1 ∨ tK b n p = 2
        · exact hr z
        · exact hn z
      have F := hQ none σ' ⟨rfl, rk, e2, e3, e7, e8, by rw [e6]; exact eq⟩
      have e1 : σ' 3 0 1 = n := by rw [rk.2 1 (by omega)]; exact h1
      rw [bk_28_5]
      simp (disch := first | omega | (simp only [x_wtI, x_wtJ, x_wtR, x_wtN]; omega) | assumption | (simp (disch := omega) only [x_st_o, x_rd_ne]; first | assumption | omega) | (apply mir_eq; assumption; (intro c h1 h2; simp (disch := omega) only [x_st_o])) | (apply mis_eq; assumption; (intro c h1 h2; simp (disch := omega) only [x_st_o])) | rfl) only [bk_28_0, bk_28_1, bk_28_2, bk_28_3, bk_28_4, bk_28_6, bk_28_7, wp_ald0, wp_geti kd_3, wp_ifeq, wp_ret, wp_icge, wr_3_4, wl_4, wp_sbal, wk_29, wp_ic, wp_icne, wp_dupi, wp_dupr, wp_iadd, wp_puti kd_3, wp_goto, wp_fall, wp_iceq, x_clr_I, x_clr_J, x_clr_R, x_clr_U, ct_some, ct_none, lc_lt, lc_ge, lc_gt, lc_le, lc_eq, lc_r, xI_inj, xJ_inj, Option.some.injEq, eq_self, bi_r, bi_0, bi_1, bi_n, Classical.not_not, and_true, true_and, ite_true, ite_false, ↓reduceIte, ↓x_andl, z_le, z_nle, z_lt, z_nlt, z_eq, z_neq, if_pos, if_neg, x_andl, false_and, and_false, or_true, true_or, or_false, false_or, not_true, not_false_iff, x_rd_eq, x_rd_ne, x_st_o, Int.cast_ofNat_Int, Int.ofNat_zero, Int.ofNat_one, not_true_eq_false, not_false_eq_true, if_true, if_false, ite_self, and_self, Int.ofNat_eq_natCast, Int.tdiv_eq_ediv_of_nonneg, Int.tmod_eq_emod_of_nonneg, x_bm32, e6, e1]
      exact F
    | succ m ih =>
      intro q σ' hm hq rk e2 e3 e7 e8 e6 hr hn
      have e1 : σ' 3 0 1 = n := by rw [rk.2 1 (by omega)]; exact h1
      have bq : σ' 4 0 q = b q := by rw [rk.1 4 0 (by simp)]; exact (hby q (by omega) (by omega)).1
      have br := (hby q (by omega) (by omega)).2
      have cb := ckd_b (c := b q)
      generalize htk : tK b n p = tk at e8 hr hn kb hQ ih
      by_cases z : tk = 1 ∨ tk = 2
      · have hr2 := hr z
        by_cases c : ckd (b q) = tk
        · have er : rnp b tk (m + 1) q = rnp b tk m (q + 1) := if_pos c
          rw [er] at hr2
          have K := ih (q + 1) (x_st σ' 3 0 6 (q + 1)) (by omega) (by omega) ⟨eqo_st (by simp) rk.1, fun k hk => by rw [x_rd_ne (by omega)]; exact rk.2 k hk⟩ (by rw [x_rd_ne (by omega)]; exact e2) (by rw [x_rd_ne (by omega)]; exact e3) (by rw [x_rd_ne (by omega)]; exact e7) (by rw [x_rd_ne (by omega)]; exact e8) x_rd_eq (fun _ => hr2) (fun y => absurd z y)
          rw [bk_28_5]
          rcases z with z | z
          · subst z
            simp (disch := first | omega | (simp only [x_wtI, x_wtJ, x_wtR, x_wtN]; omega) | assumption | (simp (disch := omega) only [x_st_o, x_rd_ne]; first | assumption | omega) | (apply mir_eq; assumption; (intro c h1 h2; simp (disch := omega) only [x_st_o])) | (apply mis_eq; assumption; (intro c h1 h2; simp (disch := omega) only [x_st_o])) | rfl) only [bk_28_0, bk_28_1, bk_28_2, bk_28_3, bk_28_4, bk_28_6, bk_28_7, wp_ald0, wp_geti kd_3, wp_ifeq, wp_ret, wp_icge, wr_3_4, wl_4, wp_sbal, wk_29, wp_ic, wp_icne, wp_dupi, wp_dupr, wp_iadd, wp_puti kd_3, wp_goto, wp_fall, wp_iceq, x_clr_I, x_clr_J, x_clr_R, x_clr_U, ct_some, ct_none, lc_lt, lc_ge, lc_gt, lc_le, lc_eq, lc_r, xI_inj, xJ_inj, Option.some.injEq, eq_self, bi_r, bi_0, bi_1, bi_n, Classical.not_not, and_true, true_and, ite_true, ite_false, ↓reduceIte, ↓x_andl, z_le, z_nle, z_lt, z_nlt, z_eq, z_neq, if_pos, if_neg, x_andl, false_and, and_false, or_true, true_or, or_false, false_or, not_true, not_false_iff, x_rd_eq, x_rd_ne, x_st_o, Int.cast_ofNat_Int, Int.ofNat_zero, Int.ofNat_one, not_true_eq_false, not_false_eq_true, if_true, if_false, ite_self, and_self, Int.ofNat_eq_natCast, Int.tdiv_eq_ediv_of_nonneg, Int.tmod_eq_emod_of_nonneg, x_bm32, e6, e1, e8, bq, k_kindOf, c]
            exact K
          · subst z
            simp (disch := first | omega | (simp only [x_wtI, x_wtJ, x_wtR, x_wtN]; omega) | assumption | (simp (disch := omega) only [x_st_o, x_rd_ne]; first | assumption | omega) | (apply mir_eq; assumption; (intro c h1 h2; simp (disch := omega) only [x_st_o])) | (apply mis_eq; assumption; (intro c h1 h2; simp (disch := omega) only [x_st_o])) | rfl) only [bk_28_0, bk_28_1, bk_28_2, bk_28_3, bk_28_4, bk_28_6, bk_28_7, wp_ald0, wp_geti kd_3, wp_ifeq, wp_ret, wp_icge, wr_3_4, wl_4, wp_sbal, wk_29, wp_ic, wp_icne, wp_dupi, wp_dupr, wp_iadd, wp_puti kd_3, wp_goto, wp_fall, wp_iceq, x_clr_I, x_clr_J, x_clr_R, x_clr_U, ct_some, ct_none, lc_lt, lc_ge, lc_gt, lc_le, lc_eq, lc_r, xI_inj, xJ_inj, Option.some.injEq, eq_self, bi_r, bi_0, bi_1, bi_n, Classical.not_not, and_true, true_and, ite_true, ite_false, ↓reduceIte, ↓x_andl, z_le, z_nle, z_lt, z_nlt, z_eq, z_neq, if_pos, if_neg, x_andl, false_and, and_false, or_true, true_or, or_false, false_or, not_true, not_false_iff, x_rd_eq, x_rd_ne, x_st_o, Int.cast_ofNat_Int, Int.ofNat_zero, Int.ofNat_one, not_true_eq_false, not_false_eq_true, if_true, if_false, ite_self, and_self, Int.ofNat_eq_natCast, Int.tdiv_eq_ediv_of_nonneg, Int.tmod_eq_emod_of_nonneg, x_bm32, e6, e1, e8, bq, k_kindOf, c]
            exact K
        · have er : rnp b tk (m + 1) q = q := if_neg c
          rw [er] at hr2
          have F := hQ none σ' ⟨rfl, rk, e2, e3, e7, e8, by rw [e6]; exact hr2⟩
          rw [bk_28_5]
          rcases z with z | z
          · subst z
            simp (disch := first | omega | (simp only [x_wtI, x_wtJ, x_wtR, x_wtN]; omega) | assumption | (simp (disch := omega) only [x_st_o, x_rd_ne]; first | assumption | omega) | (apply mir_eq; assumption; (intro c h1 h2; simp (disch := omega) only [x_st_o])) | (apply mis_eq; assumption; (intro c h1 h2; simp (disch := omega) only [x_st_o])) | rfl) only [bk_28_0, bk_28_1, bk_28_2, bk_28_3, bk_28_4, bk_28_6, bk_28_7, wp_ald0, wp_geti kd_3, wp_ifeq, wp_ret, wp_icge, wr_3_4, wl_4, wp_sbal, wk_29, wp_ic, wp_icne, wp_dupi, wp_dupr, wp_iadd, wp_puti kd_3, wp_goto, wp_fall, wp_iceq, x_clr_I, x_clr_J, x_clr_R, x_clr_U, ct_some, ct_none, lc_lt, lc_ge, lc_gt, lc_le, lc_eq, lc_r, xI_inj, xJ_inj, Option.some.injEq, eq_self, bi_r, bi_0, bi_1, bi_n, Classical.not_not, and_true, true_and, ite_true, ite_false, ↓reduceIte, ↓x_andl, z_le, z_nle, z_lt, z_nlt, z_eq, z_neq, if_pos, if_neg, x_andl, false_and, and_false, or_true, true_or, or_false, false_or, not_true, not_false_iff, x_rd_eq, x_rd_ne, x_st_o, Int.cast_ofNat_Int, Int.ofNat_zero, Int.ofNat_one, not_true_eq_false, not_false_eq_true, if_true, if_false, ite_self, and_self, Int.ofNat_eq_natCast, Int.tdiv_eq_ediv_of_nonneg, Int.tmod_eq_emod_of_nonneg, x_bm32, e6, e1, e8, bq, k_kindOf]
            exact F
          · subst z
            simp (disch := first | omega | (simp only [x_wtI, x_wtJ, x_wtR, x_wtN]; omega) | assumption | (simp (disch := omega) only [x_st_o, x_rd_ne]; first | assumption | omega) | (apply mir_eq; assumption; (intro c h1 h2; simp (disch := omega) only [x_st_o])) | (apply mis_eq; assumption; (intro c h1 h2; simp (disch := omega) only [x_st_o])) | rfl) only [bk_28_0, bk_28_1, bk_28_2, bk_28_3, bk_28_4, bk_28_6, bk_28_7, wp_ald0, wp_geti kd_3, wp_ifeq, wp_ret, wp_icge, wr_3_4, wl_4, wp_sbal, wk_29, wp_ic, wp_icne, wp_dupi, wp_dupr, wp_iadd, wp_puti kd_3, wp_goto, wp_fall, wp_iceq, x_clr_I, x_clr_J, x_clr_R, x_clr_U, ct_some, ct_none, lc_lt, lc_ge, lc_gt, lc_le, lc_eq, lc_r, xI_inj, xJ_inj, Option.some.injEq, eq_self, bi_r, bi_0, bi_1, bi_n, Classical.not_not, and_true, true_and, ite_true, ite_false, ↓reduceIte, ↓x_andl, z_le, z_nle, z_lt, z_nlt, z_eq, z_neq, if_pos, if_neg, x_andl, false_and, and_false, or_true, true_or, or_false, false_or, not_true, not_false_iff, x_rd_eq, x_rd_ne, x_st_o, Int.cast_ofNat_Int, Int.ofNat_zero, Int.ofNat_one, not_true_eq_false, not_false_eq_true, if_true, if_false, ite_self, and_self, Int.ofNat_eq_natCast, Int.tdiv_eq_ediv_of_nonneg, Int.tmod_eq_emod_of_nonneg, x_bm32, e6, e1, e8, bq, k_kindOf]
            exact F
      · have F := hQ none σ' ⟨rfl, rk, e2, e3, e7, e8, by rw [e6]; exact hn z⟩
        have z1 : ¬ tk = 1 := fun y => z (Or.inl y)
        have z2 : ¬ tk = 2 := fun y => z (Or.inr y)
        rw [bk_28_5]
        simp (disch := first | omega | (simp only [x_wtI, x_wtJ, x_wtR, x_wtN]; omega) | assumption | (simp (disch := omega) only [x_st_o, x_rd_ne]; first | assumption | omega) | (apply mir_eq; assumption; (intro c h1 h2; simp (disch := omega) only [x_st_o])) | (apply mis_eq; assumption; (intro c h1 h2; simp (disch := omega) only [x_st_o])) | rfl) only [bk_28_0, bk_28_1, bk_28_2, bk_28_3, bk_28_4, bk_28_6, bk_28_7, wp_ald0, wp_geti kd_3, wp_ifeq, wp_ret, wp_icge, wr_3_4, wl_4, wp_sbal, wk_29, wp_ic, wp_icne, wp_dupi, wp_dupr, wp_iadd, wp_puti kd_3, wp_goto, wp_fall, wp_iceq, x_clr_I, x_clr_J, x_clr_R, x_clr_U, ct_some, ct_none, lc_lt, lc_ge, lc_gt, lc_le, lc_eq, lc_r, xI_inj, xJ_inj, Option.some.injEq, eq_self, bi_r, bi_0, bi_1, bi_n, Classical.not_not, and_true, true_and, ite_true, ite_false, ↓reduceIte, ↓x_andl, z_le, z_nle, z_lt, z_nlt, z_eq, z_neq, if_pos, if_neg, x_andl, false_and, and_false, or_true, true_or, or_false, false_or, not_true, not_false_iff, x_rd_eq, x_rd_ne, x_st_o, Int.cast_ofNat_Int, Int.ofNat_zero, Int.ofNat_one, not_true_eq_false, not_false_eq_true, if_true, if_false, ite_self, and_self, Int.ofNat_eq_natCast, Int.tdiv_eq_ediv_of_nonneg, Int.tmod_eq_emod_of_nonneg, x_bm32, e6, e1, e8]
        exact F
  -- the first byte of the token
  have mid : ∀ σ' : x_S, rat σ σ' → σ' 3 0 6 = tF b n p → x_Wp 1 28 (x_blk 28 2) [xR 3 0] [] σ' Q := by
    intro σ' ra e6
    have e1 : σ' 3 0 1 = n := by rw [ra.2 1 (by omega)]; exact h1
    have e2 : σ' 3 0 2 = σ 3 0 2 := ra.2 2 (by omega)
    have e3 : σ' 3 0 3 = σ 3 0 3 := ra.2 3 (by omega)
    by_cases c : tF b n p < n
    · have bq : σ' 4 0 (tF b n p) = b (tF b n p) := by rw [ra.1 4 0 (by simp)]; exact (hby _ (by omega) c).1
      have br := (hby (tF b n p) (by omega) c).2
      have ek : tK b n p = ckd (b (tF b n p)) := if_pos c
      have cb := ckd_b (c := b (tF b n p))
      have K := run (n - (tF b n p + 1)).toNat (tF b n p + 1) (x_st (x_st (x_st σ' 3 0 7 (tF b n p)) 3 0 8 (tK b n p)) 3 0 6 (tF b n p + 1)) (by omega) (by omega) ⟨eqo_st (by simp) (eqo_st (by simp) (eqo_st (by simp) ra.1)), fun k hk => by rw [x_rd_ne (by omega), x_rd_ne (by omega), x_rd_ne (by omega)]; exact ra.2 k (by omega)⟩ (by simp (disch := omega) only [x_st_o, x_rd_ne, x_rd_eq, s_fl_o, s_fl_in, s_fl_out, x_cp_o, x_cp_in, x_cp_out]; exact e2) (by simp (disch := omega) only [x_st_o, x_rd_ne, x_rd_eq, s_fl_o, s_fl_in, s_fl_out, x_cp_o, x_cp_in, x_cp_out]; exact e3) (by simp (disch := omega) only [x_st_o, x_rd_ne, x_rd_eq, s_fl_o, s_fl_in, s_fl_out, x_cp_o, x_cp_in, x_cp_out]) (by simp (disch := omega) only [x_st_o, x_rd_ne, x_rd_eq, s_fl_o, s_fl_in, s_fl_out, x_cp_o, x_cp_in, x_cp_out]) (by simp (disch := omega) only [x_st_o, x_rd_ne, x_rd_eq, s_fl_o, s_fl_in, s_fl_out, x_cp_o, x_cp_in, x_cp_out]) (fun z => by
        have : tA b n p = rnp b (tK b n p) (n - (tF b n p + 1)).toNat (tF b n p + 1) := by
          unfold tA
          rw [if_pos c, if_pos z]
        exact this.symm) (fun z => by
        have : tA b n p = tF b n p + 1 := by
          unfold tA
          rw [if_pos c, if_neg z]
        exact this.symm)
      rw [ek] at K
      generalize hck : ckd (b (tF b n p)) = ck at cb K
      generalize tF b n p = f at K bq br c e6 hck fb
      rw [bk_28_2]
      simp (disch := first | omega | (simp only [x_wtI, x_wtJ, x_wtR, x_wtN]; omega) | assumption | (simp (disch := omega) only [x_st_o, x_rd_ne]; first | assumption | omega) | (apply mir_eq; assumption; (intro c h1 h2; simp (disch := omega) only [x_st_o])) | (apply mis_eq; assumption; (intro c h1 h2; simp (disch := omega) only [x_st_o])) | rfl) only [bk_28_0, bk_28_1, bk_28_2, bk_28_3, bk_28_4, bk_28_6, bk_28_7, wp_ald0, wp_geti kd_3, wp_ifeq, wp_ret, wp_icge, wr_3_4, wl_4, wp_sbal, wk_29, wp_ic, wp_icne, wp_dupi, wp_dupr, wp_iadd, wp_puti kd_3, wp_goto, wp_fall, wp_iceq, x_clr_I, x_clr_J, x_clr_R, x_clr_U, ct_some, ct_none, lc_lt, lc_ge, lc_gt, lc_le, lc_eq, lc_r, xI_inj, xJ_inj, Option.some.injEq, eq_self, bi_r, bi_0, bi_1, bi_n, Classical.not_not, and_true, true_and, ite_true, ite_false, ↓reduceIte, ↓x_andl, z_le, z_nle, z_lt, z_nlt, z_eq, z_neq, if_pos, if_neg, x_andl, false_and, and_false, or_true, true_or, or_false, false_or, not_true, not_false_iff, x_rd_eq, x_rd_ne, x_st_o, Int.cast_ofNat_Int, Int.ofNat_zero, Int.ofNat_one, not_true_eq_false, not_false_eq_true, if_true, if_false, ite_self, and_self, Int.ofNat_eq_natCast, Int.tdiv_eq_ediv_of_nonneg, Int.tmod_eq_emod_of_nonneg, x_bm32, e6, e1, bq, k_kindOf, hck]
      exact K
    · have ek : tK b n p = 0 := if_neg c
      have ea : tA b n p = tF b n p := if_neg c
      have F := hQ none (x_st (x_st σ' 3 0 7 (tF b n p)) 3 0 8 0) ⟨rfl, ⟨eqo_st (by simp) (eqo_st (by simp) ra.1), fun k hk => by rw [x_rd_ne (by omega), x_rd_ne (by omega)]; exact ra.2 k (by omega)⟩, by simp (disch := omega) only [x_st_o, x_rd_ne, x_rd_eq, s_fl_o, s_fl_in, s_fl_out, x_cp_o, x_cp_in, x_cp_out]; exact e2, by simp (disch := omega) only [x_st_o, x_rd_ne, x_rd_eq, s_fl_o, s_fl_in, s_fl_out, x_cp_o, x_cp_in, x_cp_out]; exact e3, by simp (disch := omega) only [x_st_o, x_rd_ne, x_rd_eq, s_fl_o, s_fl_in, s_fl_out, x_cp_o, x_cp_in, x_cp_out], by simp (disch := omega) only [x_st_o, x_rd_ne, x_rd_eq, s_fl_o, s_fl_in, s_fl_out, x_cp_o, x_cp_in, x_cp_out]; exact ek.symm, by simp (disch := omega) only [x_st_o, x_rd_ne, x_rd_eq, s_fl_o, s_fl_in, s_fl_out, x_cp_o, x_cp_in, x_cp_out]; rw [e6, ea]⟩
      have fe : tF b n p = n := by omega
      generalize tF b n p = f at F e6 fe c
      rw [bk_28_2]
      simp (disch := first | omega | (simp only [x_wtI, x_wtJ, x_wtR, x_wtN]; omega) | assumption | (simp (disch := omega) only [x_st_o, x_rd_ne]; first | assumption | omega) | (apply mir_eq; assumption; (intro c h1 h2; simp (disch := omega) only [x_st_o])) | (apply mis_eq; assumption; (intro c h1 h2; simp (disch := omega) only [x_st_o])) | rfl) only [bk_28_0, bk_28_1, bk_28_2, bk_28_3, bk_28_4, bk_28_6, bk_28_7, wp_ald0, wp_geti kd_3, wp_ifeq, wp_ret, wp_icge, wr_3_4, wl_4, wp_sbal, wk_29, wp_ic, wp_icne, wp_dupi, wp_dupr, wp_iadd, wp_puti kd_3, wp_goto, wp_fall, wp_iceq, x_clr_I, x_clr_J, x_clr_R, x_clr_U, ct_some, ct_none, lc_lt, lc_ge, lc_gt, lc_le, lc_eq, lc_r, xI_inj, xJ_inj, Option.some.injEq, eq_self, bi_r, bi_0, bi_1, bi_n, Classical.not_not, and_true, true_and, ite_true, ite_false, ↓reduceIte, ↓x_andl, z_le, z_nle, z_lt, z_nlt, z_eq, z_neq, if_pos, if_neg, x_andl, false_and, and_false, or_true, true_or, or_false, false_or, not_true, not_false_iff, x_rd_eq, x_rd_ne, x_st_o, Int.cast_ofNat_Int, Int.ofNat_zero, Int.ofNat_one, not_true_eq_false, not_false_eq_true, if_true, if_false, ite_self, and_self, Int.ofNat_eq_natCast, Int.tdiv_eq_ediv_of_nonneg, Int.tmod_eq_emod_of_nonneg, x_bm32, e6, e1]
      rw [bk_28_5]
      simp (disch := first | omega | (simp only [x_wtI, x_wtJ, x_wtR, x_wtN]; omega) | assumption | (simp (disch := omega) only [x_st_o, x_rd_ne]; first | assumption | omega) | (apply mir_eq; assumption; (intro c h1 h2; simp (disch := omega) only [x_st_o])) | (apply mis_eq; assumption; (intro c h1 h2; simp (disch := omega) only [x_st_o])) | rfl) only [bk_28_0, bk_28_1, bk_28_2, bk_28_3, bk_28_4, bk_28_6, bk_28_7, wp_ald0, wp_geti kd_3, wp_ifeq, wp_ret, wp_icge, wr_3_4, wl_4, wp_sbal, wk_29, wp_ic, wp_icne, wp_dupi, wp_dupr, wp_iadd, wp_puti kd_3, wp_goto, wp_fall, wp_iceq, x_clr_I, x_clr_J, x_clr_R, x_clr_U, ct_some, ct_none, lc_lt, lc_ge, lc_gt, lc_le, lc_eq, lc_r, xI_inj, xJ_inj, Option.some.injEq, eq_self, bi_r, bi_0, bi_1, bi_n, Classical.not_not, and_true, true_and, ite_true, ite_false, ↓reduceIte, ↓x_andl, z_le, z_nle, z_lt, z_nlt, z_eq, z_neq, if_pos, if_neg, x_andl, false_and, and_false, or_true, true_or, or_false, false_or, not_true, not_false_iff, x_rd_eq, x_rd_ne, x_st_o, Int.cast_ofNat_Int, Int.ofNat_zero, Int.ofNat_one, not_true_eq_false, not_false_eq_true, if_true, if_false, ite_self, and_self, Int.ofNat_eq_natCast, Int.tdiv_eq_ediv_of_nonneg, Int.tmod_eq_emod_of_nonneg, x_bm32, e6, e1]
      exact F
  have skip : ∀ m : Nat, ∀ (q : Int) (σ' : x_S), n - q = m → 0 ≤ q → rat σ σ' → σ' 3 0 6 = q → skp b m q = tF b n p → x_Wp 1 28 (x_blk 28 1) [xR 3 0] [] σ' Q := by
    intro m
    induction m with
    | zero =>
      intro q σ' hm q0 ra e6 hs
      have e1 : σ' 3 0 1 = n := by rw [ra.2 1 (by omega)]; exact h1
      have eq : q = tF b n p := hs
      have K := mid σ' ra (e6.trans eq)
      rw [bk_28_1]
      simp (disch := first | omega | (simp only [x_wtI, x_wtJ, x_wtR, x_wtN]; omega) | assumption | (simp (disch := omega) only [x_st_o, x_rd_ne]; first | assumption | omega) | (apply mir_eq; assumption; (intro c h1 h2; simp (disch := omega) only [x_st_o])) | (apply mis_eq; assumption; (intro c h1 h2; simp (disch := omega) only [x_st_o])) | rfl) only [bk_28_0, bk_28_3, bk_28_4, bk_28_5, bk_28_6, bk_28_7, wp_ald0, wp_geti kd_3, wp_ifeq, wp_ret, wp_icge, wr_3_4, wl_4, wp_sbal, wk_29, wp_ic, wp_icne, wp_dupi, wp_dupr, wp_iadd, wp_puti kd_3, wp_goto, wp_fall, wp_iceq, x_clr_I, x_clr_J, x_clr_R, x_clr_U, ct_some, ct_none, lc_lt, lc_ge, lc_gt, lc_le, lc_eq, lc_r, xI_inj, xJ_inj, Option.some.injEq, eq_self, bi_r, bi_0, bi_1, bi_n, Classical.not_not, and_true, true_and, ite_true, ite_false, ↓reduceIte, ↓x_andl, z_le, z_nle, z_lt, z_nlt, z_eq, z_neq, if_pos, if_neg, x_andl, false_and, and_false, or_true, true_or, or_false, false_or, not_true, not_false_iff, x_rd_eq, x_rd_ne, x_st_o, Int.cast_ofNat_Int, Int.ofNat_zero, Int.ofNat_one, not_true_eq_false, not_false_eq_true, if_true, if_false, ite_self, and_self, Int.ofNat_eq_natCast, Int.tdiv_eq_ediv_of_nonneg, Int.tmod_eq_emod_of_nonneg, x_bm32, e6, e1]
      exact K
    | succ m ih =>
      intro q σ' hm q0 ra e6 hs
      have e1 : σ' 3 0 1 = n := by rw [ra.2 1 (by omega)]; exact h1
      have bq : σ' 4 0 q = b q := by rw [ra.1 4 0 (by simp)]; exact (hby q (by omega) (by omega)).1
      have br := (hby q (by omega) (by omega)).2
      have cb := ckd_b (c := b q)
      by_cases c : ckd (b q) = 5
      · have er : skp b (m + 1) q = skp b m (q + 1) := if_pos c
        rw [er] at hs
        have K := ih (q + 1) (x_st σ' 3 0 6 (q + 1)) (by omega) (by omega) ⟨eqo_st (by simp) ra.1, fun k hk => by rw [x_rd_ne (by omega)]; exact ra.2 k hk⟩ x_rd_eq hs
        rw [bk_28_1]
        simp (disch := first | omega | (simp only [x_wtI, x_wtJ, x_wtR, x_wtN]; omega) | assumption | (simp (disch := omega) only [x_st_o, x_rd_ne]; first | assumption | omega) | (apply mir_eq; assumption; (intro c h1 h2; simp (disch := omega) only [x_st_o])) | (apply mis_eq; assumption; (intro c h1 h2; simp (disch := omega) only [x_st_o])) | rfl) only [bk_28_0, bk_28_3, bk_28_4, bk_28_5, bk_28_6, bk_28_7, wp_ald0, wp_geti kd_3, wp_ifeq, wp_ret, wp_icge, wr_3_4, wl_4, wp_sbal, wk_29, wp_ic, wp_icne, wp_dupi, wp_dupr, wp_iadd, wp_puti kd_3, wp_goto, wp_fall, wp_iceq, x_clr_I, x_clr_J, x_clr_R, x_clr_U, ct_some, ct_none, lc_lt, lc_ge, lc_gt, lc_le, lc_eq, lc_r, xI_inj, xJ_inj, Option.some.injEq, eq_self, bi_r, bi_0, bi_1, bi_n, Classical.not_not, and_true, true_and, ite_true, ite_false, ↓reduceIte, ↓x_andl, z_le, z_nle, z_lt, z_nlt, z_eq, z_neq, if_pos, if_neg, x_andl, false_and, and_false, or_true, true_or, or_false, false_or, not_true, not_false_iff, x_rd_eq, x_rd_ne, x_st_o, Int.cast_ofNat_Int, Int.ofNat_zero, Int.ofNat_one, not_true_eq_false, not_false_eq_true, if_true, if_false, ite_self, and_self, Int.ofNat_eq_natCast, Int.tdiv_eq_ediv_of_nonneg, Int.tmod_eq_emod_of_nonneg, x_bm32, e6, e1, bq, k_kindOf, c]
        exact K
      · have er : skp b (m + 1) q = q := if_neg c
        have K := mid σ' ra (e6.trans (er.symm.trans hs))
        rw [bk_28_1]
        simp (disch := first | omega | (simp only [x_wtI, x_wtJ, x_wtR, x_wtN]; omega) | assumption | (simp (disch := omega) only [x_st_o, x_rd_ne]; first | assumption | omega) | (apply mir_eq; assumption; (intro c h1 h2; simp (disch := omega) only [x_st_o])) | (apply mis_eq; assumption; (intro c h1 h2; simp (disch := omega) only [x_st_o])) | rfl) only [bk_28_0, bk_28_3, bk_28_4, bk_28_5, bk_28_6, bk_28_7, wp_ald0, wp_geti kd_3, wp_ifeq, wp_ret, wp_icge, wr_3_4, wl_4, wp_sbal, wk_29, wp_ic, wp_icne, wp_dupi, wp_dupr, wp_iadd, wp_puti kd_3, wp_goto, wp_fall, wp_iceq, x_clr_I, x_clr_J, x_clr_R, x_clr_U, ct_some, ct_none, lc_lt, lc_ge, lc_gt, lc_le, lc_eq, lc_r, xI_inj, xJ_inj, Option.some.injEq, eq_self, bi_r, bi_0, bi_1, bi_n, Classical.not_not, and_true, true_and, ite_true, ite_false, ↓reduceIte, ↓x_andl, z_le, z_nle, z_lt, z_nlt, z_eq, z_neq, if_pos, if_neg, x_andl, false_and, and_false, or_true, true_or, or_false, false_or, not_true, not_false_iff, x_rd_eq, x_rd_ne, x_st_o, Int.cast_ofNat_Int, Int.ofNat_zero, Int.ofNat_one, not_true_eq_false, not_false_eq_true, if_true, if_false, ite_self, and_self, Int.ofNat_eq_natCast, Int.tdiv_eq_ediv_of_nonneg, Int.tmod_eq_emod_of_nonneg, x_bm32, e6, e1, bq, k_kindOf]
        exact K
  have K := skip (n - p).toNat p σ (by omega) hp2.1 ⟨eqo_refl, fun _ _ => rfl⟩ hp rfl
  simp (disch := first | omega | (simp only [x_wtI, x_wtJ, x_wtR, x_wtN]; omega) | assumption | (simp (disch := omega) only [x_st_o, x_rd_ne]; first | assumption | omega) | (apply mir_eq; assumption; (intro c h1 h2; simp (disch := omega) only [x_st_o])) | (apply mis_eq; assumption; (intro c h1 h2; simp (disch := omega) only [x_st_o])) | rfl) only [sp_28, bk_28_0, bk_28_2, bk_28_3, bk_28_4, bk_28_5, bk_28_6, bk_28_7, wp_ald0, wp_geti kd_3, wp_ifeq, wp_ret, wp_icge, wr_3_4, wl_4, wp_sbal, wk_29, wp_ic, wp_icne, wp_dupi, wp_dupr, wp_iadd, wp_puti kd_3, wp_goto, wp_fall, wp_iceq, x_clr_I, x_clr_J, x_clr_R, x_clr_U, ct_some, ct_none, lc_lt, lc_ge, lc_gt, lc_le, lc_eq, lc_r, xI_inj, xJ_inj, Option.some.injEq, eq_self, bi_r, bi_0, bi_1, bi_n, Classical.not_not, and_true, true_and, ite_true, ite_false, ↓reduceIte, ↓x_andl, z_le, z_nle, z_lt, z_nlt, z_eq, z_neq, if_pos, if_neg, x_andl, false_and, and_false, or_true, true_or, or_false, false_or, not_true, not_false_iff, x_rd_eq, x_rd_ne, x_st_o, Int.cast_ofNat_Int, Int.ofNat_zero, Int.ofNat_one, not_true_eq_false, not_false_eq_true, if_true, if_false, ite_self, and_self, Int.ofNat_eq_natCast, Int.tdiv_eq_ediv_of_nonneg, Int.tmod_eq_emod_of_nonneg, x_bm32, h2]
  exact K

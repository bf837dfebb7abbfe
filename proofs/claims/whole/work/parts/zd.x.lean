theorem ckd_5 {c : Int} : ckd c = 5 ↔ (c = 32 ∨ c = 10) := by
  unfold ckd
  by_cases c1 : 97 ≤ c ∧ c ≤ 122
  · rw [if_pos c1]
    omega
  · rw [if_neg c1]
    by_cases c2 : 48 ≤ c ∧ c ≤ 57
    · rw [if_pos c2]
      omega
    · rw [if_neg c2]
      by_cases c3 : c = 32 ∨ c = 10
      · rw [if_pos c3]
        omega
      · rw [if_neg c3]
        by_cases c4 : c = 59
        · rw [if_pos c4]
          omega
        · rw [if_neg c4]
          omega
theorem ckd_1 {c : Int} : ckd c = 1 ↔ (97 ≤ c ∧ c ≤ 122) := by
  unfold ckd
  by_cases c1 : 97 ≤ c ∧ c ≤ 122
  · rw [if_pos c1]
    omega
  · rw [if_neg c1]
    by_cases c2 : 48 ≤ c ∧ c ≤ 57
    · rw [if_pos c2]
      omega
    · rw [if_neg c2]
      by_cases c3 : c = 32 ∨ c = 10
      · rw [if_pos c3]
        omega
      · rw [if_neg c3]
        by_cases c4 : c = 59
        · rw [if_pos c4]
          omega
        · rw [if_neg c4]
          omega
theorem ckd_2' {c : Int} : ckd c = 2 ↔ (48 ≤ c ∧ c ≤ 57) := by
  refine ⟨ckd_2, fun h => ?_⟩
  unfold ckd
  rw [if_neg (by omega), if_pos h]
theorem ckd_34 {c : Int} (h1 : ¬ ckd c = 1) (h2 : ¬ ckd c = 2) (h5 : ¬ ckd c = 5) : ckd c = if c = 59 then 3 else 4 := by
  have a := mt ckd_1.mpr h1
  have b := mt ckd_2'.mpr h2
  have d := mt ckd_5.mpr h5
  unfold ckd
  rw [if_neg a, if_neg b, if_neg d]
def MT (σ : x_S) (b : Int → Int) (n p : Int) : Prop := σ 50 0 9 = tF b n p ∧ σ 50 0 10 = tK b n p ∧ σ 50 0 8 = tA b n p ∧ (tK b n p = 2 → σ 50 0 11 = nv 9999 b (tF b n p) (tA b n p))
def msp (σ σ' : x_S) : Prop := x_eqo [(50, 0)] σ σ' ∧ ∀ k, ¬ (k = 8 ∨ k = 9 ∨ k = 10 ∨ k = 11) → σ' 50 0 k = σ 50 0 k
theorem msp_m {σ σ' : x_S} (h : msp σ σ') : mkp σ σ' := ⟨h.1, fun k hk => h.2 k (by omega)⟩
theorem msp_st {σ σ' : x_S} {k v : Int} (h : msp σ σ') (hk : k = 8 ∨ k = 9 ∨ k = 10 ∨ k = 11) : msp σ (x_st σ' 50 0 k v) := ⟨eqo_st (by simp) h.1, fun q hq => by rw [x_rd_ne (by omega)]; exact h.2 q hq⟩
theorem mdB_s {σ σ' : x_S} {b : Int → Int} {n : Int} (h : mdB σ b n) (k : msp σ σ') : mdB σ' b n := mdB_k h (msp_m k)
set_option maxHeartbeats 4000000 in
theorem h_mstep {σ : x_S} {b : Int → Int} {n p : Int} (hB : mdB σ b n) (h8 : σ 50 0 8 = p) (hp : 0 ≤ p ∧ p ≤ n) : x_Sp 1 175 [xR 50 0] σ (fun r σ' => r = none ∧ msp σ σ' ∧ MT σ' b n p) := by
  have fb := tF_b (b := b) hp.2
  have kb := tK_b (b := b) hp.2
  have ab := tA_b (b := b) hp.2
  have nb := hB.1
  have br : ∀ i, 0 ≤ i → i < n → -128 ≤ b i ∧ b i < 128 := fun i i0 i1 => (hB.2.2 i i0 i1).2
  refine x_gen (fun Q hQ => ?_)
  -- a word goes on
  have wrd : tK b n p = 1 → ∀ m : Nat, ∀ (q : Int) (σ' : x_S) (c : Int), n - q = m → tF b n p ≤ q → msp σ σ' → σ' 50 0 9 = tF b n p → σ' 50 0 8 = q → rnp b 1 m q = tA b n p → x_Wp 1 175 (x_blk 175 4) [xR 50 0, xI c] [] σ' Q := by
    intro hk m
    induction m with
    | zero =>
      intro q σ' c hm hq ms e9 e8 hr
      have hB' := mdB_s hB ms
      have eq : q = tA b n p := hr
      have ks := fun (d' : Nat) (Q' : Option x_V → x_S → Prop) => k_see (d := d') (q := q) (Q := Q') hB' (by omega)
      simp only [if_neg (show ¬ q < n by omega)] at ks
      have F := hQ none (x_st σ' 50 0 10 1) ⟨rfl, msp_st ms (by omega), by (rw [x_rd_ne (by omega)]; exact e9), by (rw [x_rd_eq]; exact hk.symm), by (rw [x_rd_ne (by omega), e8]; exact eq), fun z => by omega⟩
      rw [bk_175_4]
      simp (disch := first | omega | (simp only [x_wtI, x_wtJ, x_wtR, x_wtN]; omega) | assumption | (simp (disch := omega) only [x_st_o, x_rd_ne]; first | assumption | omega) | (apply mir_eq; assumption; (intro c h1 h2; simp (disch := omega) only [x_st_o])) | (apply mis_eq; assumption; (intro c h1 h2; simp (disch := omega) only [x_st_o])) | rfl) only [bk_175_0, bk_175_1, bk_175_2, bk_175_3, bk_175_5, bk_175_6, bk_175_7, bk_175_8, bk_175_9, bk_175_10, bk_175_11, bk_175_12, wp_ald0, wp_geti kd_50, wk_176, wp_ic, wp_iceq, wp_icne, wp_fall, wp_dupi, wp_dupr, wp_iadd, wp_puti kd_50, wp_goto, wp_ist1, wp_ild1, wp_i2l, wp_lc, wk_169, wp_ifeq, wp_imul, wp_isub, wk_273, c_mini, wp_ret, x_clr_I, x_clr_J, x_clr_R, x_clr_U, ct_some, ct_none, lc_lt, lc_ge, lc_gt, lc_le, lc_eq, lc_r, xI_inj, xJ_inj, Option.some.injEq, eq_self, bi_r, bi_0, bi_1, bi_n, Classical.not_not, and_true, true_and, ite_true, ite_false, ↓reduceIte, ↓x_andl, z_le, z_nle, z_lt, z_nlt, z_eq, z_neq, if_pos, if_neg, x_andl, false_and, and_false, or_true, true_or, or_false, false_or, not_true, not_false_iff, x_rd_eq, x_rd_ne, x_st_o, Int.cast_ofNat_Int, Int.ofNat_zero, Int.ofNat_one, not_true_eq_false, not_false_eq_true, if_true, if_false, ite_self, and_self, Int.ofNat_eq_natCast, Int.tdiv_eq_ediv_of_nonneg, Int.tmod_eq_emod_of_nonneg, x_bm32, e8, ks, c_in, bi_f]
      exact F
    | succ m ih =>
      intro q σ' c hm hq ms e9 e8 hr
      have hB' := mdB_s hB ms
      have ks := fun (d' : Nat) (Q' : Option x_V → x_S → Prop) => k_see (d := d') (q := q) (Q := Q') hB' (by omega)
      simp only [if_pos (show q < n by omega)] at ks
      have bq := br q (by omega) (by omega)
      by_cases cc : ckd (b q) = 1
      · have er : rnp b 1 (m + 1) q = rnp b 1 m (q + 1) := if_pos cc
        rw [er] at hr
        have K := ih (q + 1) (x_st σ' 50 0 8 (q + 1)) c (by omega) (by omega) (msp_st ms (by omega)) (by rw [x_rd_ne (by omega)]; exact e9) x_rd_eq hr
        have c1 := ckd_1.mp cc
        have sr : 97 ≤ b q % 256 ∧ b q % 256 ≤ 122 := by omega
        generalize b q % 256 = s at ks sr
        rw [bk_175_4]
        simp (disch := first | omega | (simp only [x_wtI, x_wtJ, x_wtR, x_wtN]; omega) | assumption | (simp (disch := omega) only [x_st_o, x_rd_ne]; first | assumption | omega) | (apply mir_eq; assumption; (intro c h1 h2; simp (disch := omega) only [x_st_o])) | (apply mis_eq; assumption; (intro c h1 h2; simp (disch := omega) only [x_st_o])) | rfl) only [bk_175_0, bk_175_1, bk_175_2, bk_175_3, bk_175_5, bk_175_6, bk_175_7, bk_175_8, bk_175_9, bk_175_10, bk_175_11, bk_175_12, wp_ald0, wp_geti kd_50, wk_176, wp_ic, wp_iceq, wp_icne, wp_fall, wp_dupi, wp_dupr, wp_iadd, wp_puti kd_50, wp_goto, wp_ist1, wp_ild1, wp_i2l, wp_lc, wk_169, wp_ifeq, wp_imul, wp_isub, wk_273, c_mini, wp_ret, x_clr_I, x_clr_J, x_clr_R, x_clr_U, ct_some, ct_none, lc_lt, lc_ge, lc_gt, lc_le, lc_eq, lc_r, xI_inj, xJ_inj, Option.some.injEq, eq_self, bi_r, bi_0, bi_1, bi_n, Classical.not_not, and_true, true_and, ite_true, ite_false, ↓reduceIte, ↓x_andl, z_le, z_nle, z_lt, z_nlt, z_eq, z_neq, if_pos, if_neg, x_andl, false_and, and_false, or_true, true_or, or_false, false_or, not_true, not_false_iff, x_rd_eq, x_rd_ne, x_st_o, Int.cast_ofNat_Int, Int.ofNat_zero, Int.ofNat_one, not_true_eq_false, not_false_eq_true, if_true, if_false, ite_self, and_self, Int.ofNat_eq_natCast, Int.tdiv_eq_ediv_of_nonneg, Int.tmod_eq_emod_of_nonneg, x_bm32, e8, ks, c_in, bi_t]
        exact K
      · have er : rnp b 1 (m + 1) q = q := if_neg cc
        rw [er] at hr
        have c1 := mt ckd_1.mpr cc
        have sr : (0 ≤ b q % 256 ∧ b q % 256 < 256) ∧ ¬ (97 ≤ b q % 256 ∧ b q % 256 ≤ 122) := by omega
        have F := hQ none (x_st σ' 50 0 10 1) ⟨rfl, msp_st ms (by omega), by (rw [x_rd_ne (by omega)]; exact e9), by (rw [x_rd_eq]; exact hk.symm), by (rw [x_rd_ne (by omega), e8]; exact hr), fun z => by omega⟩
        generalize b q % 256 = s at ks sr
        have sn := sr.2
        rw [bk_175_4]
        simp (disch := first | omega | (simp only [x_wtI, x_wtJ, x_wtR, x_wtN]; omega) | assumption | (simp (disch := omega) only [x_st_o, x_rd_ne]; first | assumption | omega) | (apply mir_eq; assumption; (intro c h1 h2; simp (disch := omega) only [x_st_o])) | (apply mis_eq; assumption; (intro c h1 h2; simp (disch := omega) only [x_st_o])) | rfl) only [bk_175_0, bk_175_1, bk_175_2, bk_175_3, bk_175_5, bk_175_6, bk_175_7, bk_175_8, bk_175_9, bk_175_10, bk_175_11, bk_175_12, wp_ald0, wp_geti kd_50, wk_176, wp_ic, wp_iceq, wp_icne, wp_fall, wp_dupi, wp_dupr, wp_iadd, wp_puti kd_50, wp_goto, wp_ist1, wp_ild1, wp_i2l, wp_lc, wk_169, wp_ifeq, wp_imul, wp_isub, wk_273, c_mini, wp_ret, x_clr_I, x_clr_J, x_clr_R, x_clr_U, ct_some, ct_none, lc_lt, lc_ge, lc_gt, lc_le, lc_eq, lc_r, xI_inj, xJ_inj, Option.some.injEq, eq_self, bi_r, bi_0, bi_1, bi_n, Classical.not_not, and_true, true_and, ite_true, ite_false, ↓reduceIte, ↓x_andl, z_le, z_nle, z_lt, z_nlt, z_eq, z_neq, if_pos, if_neg, x_andl, false_and, and_false, or_true, true_or, or_false, false_or, not_true, not_false_iff, x_rd_eq, x_rd_ne, x_st_o, Int.cast_ofNat_Int, Int.ofNat_zero, Int.ofNat_one, not_true_eq_false, not_false_eq_true, if_true, if_false, ite_self, and_self, Int.ofNat_eq_natCast, Int.tdiv_eq_ediv_of_nonneg, Int.tmod_eq_emod_of_nonneg, x_bm32, e8, ks, c_in, bi_f sn]
        exact F
  -- a number goes on
  have num : tK b n p = 2 → ∀ m : Nat, ∀ (q v : Int) (σ' : x_S) (c : Int), n - q = m → tF b n p ≤ q → msp σ σ' → σ' 50 0 9 = tF b n p → σ' 50 0 8 = q → σ' 50 0 11 = v → (0 ≤ v ∧ v ≤ 9999) → rnp b 2 m q = tA b n p → nvl 9999 b (tA b n p - q).toNat q v = nv 9999 b (tF b n p) (tA b n p) → x_Wp 1 175 (x_blk 175 7) [xR 50 0, xI c] [] σ' Q := by
    intro hk m
    induction m with
    | zero =>
      intro q v σ' c hm hq ms e9 e8 e11 vb hr hv
      have hB' := mdB_s hB ms
      have eq : q = tA b n p := hr
      rw [show (tA b n p - q).toNat = 0 by omega] at hv
      have ev : v = nv 9999 b (tF b n p) (tA b n p) := hv
      have ks := fun (d' : Nat) (Q' : Option x_V → x_S → Prop) => k_see (d := d') (q := q) (Q := Q') hB' (by omega)
      simp only [if_neg (show ¬ q < n by omega)] at ks
      have F := hQ none (x_st σ' 50 0 10 2) ⟨rfl, msp_st ms (by omega), by (rw [x_rd_ne (by omega)]; exact e9), by (rw [x_rd_eq]; exact hk.symm), by (rw [x_rd_ne (by omega), e8]; exact eq), fun _ => by (rw [x_rd_ne (by omega), e11]; exact ev)⟩
      rw [bk_175_7]
      simp (disch := first | omega | (simp only [x_wtI, x_wtJ, x_wtR, x_wtN]; omega) | assumption | (simp (disch := omega) only [x_st_o, x_rd_ne]; first | assumption | omega) | (apply mir_eq; assumption; (intro c h1 h2; simp (disch := omega) only [x_st_o])) | (apply mis_eq; assumption; (intro c h1 h2; simp (disch := omega) only [x_st_o])) | rfl) only [bk_175_0, bk_175_1, bk_175_2, bk_175_3, bk_175_4, bk_175_5, bk_175_6, bk_175_8, bk_175_9, bk_175_10, bk_175_11, bk_175_12, wp_ald0, wp_geti kd_50, wk_176, wp_ic, wp_iceq, wp_icne, wp_fall, wp_dupi, wp_dupr, wp_iadd, wp_puti kd_50, wp_goto, wp_ist1, wp_ild1, wp_i2l, wp_lc, wk_169, wp_ifeq, wp_imul, wp_isub, wk_273, c_mini, wp_ret, x_clr_I, x_clr_J, x_clr_R, x_clr_U, ct_some, ct_none, lc_lt, lc_ge, lc_gt, lc_le, lc_eq, lc_r, xI_inj, xJ_inj, Option.some.injEq, eq_self, bi_r, bi_0, bi_1, bi_n, Classical.not_not, and_true, true_and, ite_true, ite_false, ↓reduceIte, ↓x_andl, z_le, z_nle, z_lt, z_nlt, z_eq, z_neq, if_pos, if_neg, x_andl, false_and, and_false, or_true, true_or, or_false, false_or, not_true, not_false_iff, x_rd_eq, x_rd_ne, x_st_o, Int.cast_ofNat_Int, Int.ofNat_zero, Int.ofNat_one, not_true_eq_false, not_false_eq_true, if_true, if_false, ite_self, and_self, Int.ofNat_eq_natCast, Int.tdiv_eq_ediv_of_nonneg, Int.tmod_eq_emod_of_nonneg, x_bm32, e8, ks, c_in, bi_f]
      exact F
    | succ m ih =>
      intro q v σ' c hm hq ms e9 e8 e11 vb hr hv
      have hB' := mdB_s hB ms
      have ks := fun (σ'' : x_S) (hh : mdB σ'' b n) (d' : Nat) (Q' : Option x_V → x_S → Prop) => k_see (d := d') (q := q) (Q := Q') hh (by omega)
      simp only [if_pos (show q < n by omega)] at ks
      have bq := br q (by omega) (by omega)
      by_cases cc : ckd (b q) = 2
      · have er : rnp b 2 (m + 1) q = rnp b 2 m (q + 1) := if_pos cc
        rw [er] at hr
        have rb := (rnp_b (b := b) (k := 2) m (q + 1)).1
        have c1 := ckd_2 cc
        rw [show (tA b n p - q).toNat = (tA b n p - (q + 1)).toNat + 1 by omega] at hv
        have hv2 : nvl 9999 b (tA b n p - (q + 1)).toNat (q + 1) (min 9999 (v * 10 + (b q - 48))) = nv 9999 b (tF b n p) (tA b n p) := hv
        have em : b q % 256 = b q := by omega
        rw [show v * 10 + (b q - 48) = 10 * v + b q - 48 by omega] at hv2
        have K := ih (q + 1) (min 9999 (10 * v + b q - 48)) (x_st (x_st σ' 50 0 11 (min 9999 (10 * v + b q - 48))) 50 0 8 (q + 1)) c (by omega) (by omega) (msp_st (msp_st ms (by omega)) (by omega)) (by rw [x_rd_ne (by omega), x_rd_ne (by omega)]; exact e9) x_rd_eq (by rw [x_rd_ne (by omega), x_rd_eq]) (by omega) hr hv2
        have ks1 := ks σ' hB'
        rw [em] at ks1
        have sr : 48 ≤ b q ∧ b q ≤ 57 := c1
        generalize b q = s at ks1 sr K
        rw [bk_175_7]
        simp (disch := first | omega | (simp only [x_wtI, x_wtJ, x_wtR, x_wtN]; omega) | assumption | (simp (disch := omega) only [x_st_o, x_rd_ne]; first | assumption | omega) | (apply mir_eq; assumption; (intro c h1 h2; simp (disch := omega) only [x_st_o])) | (apply mis_eq; assumption; (intro c h1 h2; simp (disch := omega) only [x_st_o])) | rfl) only [bk_175_0, bk_175_1, bk_175_2, bk_175_3, bk_175_4, bk_175_5, bk_175_6, bk_175_8, bk_175_9, bk_175_10, bk_175_11, bk_175_12, wp_ald0, wp_geti kd_50, wk_176, wp_ic, wp_iceq, wp_icne, wp_fall, wp_dupi, wp_dupr, wp_iadd, wp_puti kd_50, wp_goto, wp_ist1, wp_ild1, wp_i2l, wp_lc, wk_169, wp_ifeq, wp_imul, wp_isub, wk_273, c_mini, wp_ret, x_clr_I, x_clr_J, x_clr_R, x_clr_U, ct_some, ct_none, lc_lt, lc_ge, lc_gt, lc_le, lc_eq, lc_r, xI_inj, xJ_inj, Option.some.injEq, eq_self, bi_r, bi_0, bi_1, bi_n, Classical.not_not, and_true, true_and, ite_true, ite_false, ↓reduceIte, ↓x_andl, z_le, z_nle, z_lt, z_nlt, z_eq, z_neq, if_pos, if_neg, x_andl, false_and, and_false, or_true, true_or, or_false, false_or, not_true, not_false_iff, x_rd_eq, x_rd_ne, x_st_o, Int.cast_ofNat_Int, Int.ofNat_zero, Int.ofNat_one, not_true_eq_false, not_false_eq_true, if_true, if_false, ite_self, and_self, Int.ofNat_eq_natCast, Int.tdiv_eq_ediv_of_nonneg, Int.tmod_eq_emod_of_nonneg, x_bm32, e8, e11, ks1, c_in, bi_t, c_mini]
        exact K
      · have er : rnp b 2 (m + 1) q = q := if_neg cc
        rw [er] at hr
        have c1 := mt ckd_2'.mpr cc
        have sr : (0 ≤ b q % 256 ∧ b q % 256 < 256) ∧ ¬ (48 ≤ b q % 256 ∧ b q % 256 ≤ 57) := by omega
        rw [show (tA b n p - q).toNat = 0 by omega] at hv
        have ev : v = nv 9999 b (tF b n p) (tA b n p) := hv
        have F := hQ none (x_st σ' 50 0 10 2) ⟨rfl, msp_st ms (by omega), by (rw [x_rd_ne (by omega)]; exact e9), by (rw [x_rd_eq]; exact hk.symm), by (rw [x_rd_ne (by omega), e8]; exact hr), fun _ => by (rw [x_rd_ne (by omega), e11]; exact ev)⟩
        have ks1 := ks σ' hB'
        generalize b q % 256 = s at ks1 sr
        have sn := sr.2
        rw [bk_175_7]
        simp (disch := first | omega | (simp only [x_wtI, x_wtJ, x_wtR, x_wtN]; omega) | assumption | (simp (disch := omega) only [x_st_o, x_rd_ne]; first | assumption | omega) | (apply mir_eq; assumption; (intro c h1 h2; simp (disch := omega) only [x_st_o])) | (apply mis_eq; assumption; (intro c h1 h2; simp (disch := omega) only [x_st_o])) | rfl) only [bk_175_0, bk_175_1, bk_175_2, bk_175_3, bk_175_4, bk_175_5, bk_175_6, bk_175_8, bk_175_9, bk_175_10, bk_175_11, bk_175_12, wp_ald0, wp_geti kd_50, wk_176, wp_ic, wp_iceq, wp_icne, wp_fall, wp_dupi, wp_dupr, wp_iadd, wp_puti kd_50, wp_goto, wp_ist1, wp_ild1, wp_i2l, wp_lc, wk_169, wp_ifeq, wp_imul, wp_isub, wk_273, c_mini, wp_ret, x_clr_I, x_clr_J, x_clr_R, x_clr_U, ct_some, ct_none, lc_lt, lc_ge, lc_gt, lc_le, lc_eq, lc_r, xI_inj, xJ_inj, Option.some.injEq, eq_self, bi_r, bi_0, bi_1, bi_n, Classical.not_not, and_true, true_and, ite_true, ite_false, ↓reduceIte, ↓x_andl, z_le, z_nle, z_lt, z_nlt, z_eq, z_neq, if_pos, if_neg, x_andl, false_and, and_false, or_true, true_or, or_false, false_or, not_true, not_false_iff, x_rd_eq, x_rd_ne, x_st_o, Int.cast_ofNat_Int, Int.ofNat_zero, Int.ofNat_one, not_true_eq_false, not_false_eq_true, if_true, if_false, ite_self, and_self, Int.ofNat_eq_natCast, Int.tdiv_eq_ediv_of_nonneg, Int.tmod_eq_emod_of_nonneg, x_bm32, e8, ks1, c_in, bi_f sn]
        exact F
  -- the first byte of the token
  have mid : ∀ σ' : x_S, msp σ σ' → σ' 50 0 8 = tF b n p → x_Wp 1 175 (x_blk 175 2) [xR 50 0, xU] [] σ' Q := by
    intro σ' ms e8
    have ms9 : msp σ (x_st σ' 50 0 9 (tF b n p)) := msp_st ms (by omega)
    have hB' := mdB_s hB ms9
    have ks := fun (d' : Nat) (Q' : Option x_V → x_S → Prop) => k_see (d := d') (q := tF b n p) (Q := Q') hB' (by omega)
    have e89 : x_st σ' 50 0 9 (tF b n p) 50 0 8 = tF b n p := by (rw [x_rd_ne (by omega)]; exact e8)
    by_cases c : tF b n p < n
    · simp only [if_pos c] at ks
      have ek : tK b n p = ckd (b (tF b n p)) := if_pos c
      have bq := br (tF b n p) (by omega) c
      have n5 : ¬ ckd (b (tF b n p)) = 5 := by omega
      have hr1 : ∀ k, (k = 1 ∨ k = 2) → tK b n p = k → rnp b k (n - tF b n p).toNat (tF b n p) = tA b n p := by
        intro k hk e
        have : (n - tF b n p).toNat = (n - (tF b n p + 1)).toNat + 1 := by omega
        rw [this]
        have er : rnp b k ((n - (tF b n p + 1)).toNat + 1) (tF b n p) = rnp b k (n - (tF b n p + 1)).toNat (tF b n p + 1) := if_pos (by rw [← ek, e])
        have ea : tA b n p = rnp b (tK b n p) (n - (tF b n p + 1)).toNat (tF b n p + 1) := by
          unfold tA
          rw [if_pos c, if_pos (by omega)]
        rw [er, ea, e]
      by_cases k1 : tK b n p = 1
      · have c1 := ckd_1.mp (ek.symm.trans k1)
        have K := fun cc => wrd k1 (n - tF b n p).toNat (tF b n p) (x_st σ' 50 0 9 (tF b n p)) cc (by omega) (Int.le_refl _) ms9 x_rd_eq e89 (hr1 1 (Or.inl rfl) k1)
        have sr : 97 ≤ b (tF b n p) % 256 ∧ b (tF b n p) % 256 ≤ 122 := by omega
        generalize b (tF b n p) % 256 = s at ks sr
        generalize tF b n p = f at ks K e8 e89
        rw [bk_175_2]
        simp (disch := first | omega | (simp only [x_wtI, x_wtJ, x_wtR, x_wtN]; omega) | assumption | (simp (disch := omega) only [x_st_o, x_rd_ne]; first | assumption | omega) | (apply mir_eq; assumption; (intro c h1 h2; simp (disch := omega) only [x_st_o])) | (apply mis_eq; assumption; (intro c h1 h2; simp (disch := omega) only [x_st_o])) | rfl) only [bk_175_0, bk_175_1, bk_175_2, bk_175_3, bk_175_5, bk_175_6, bk_175_7, bk_175_8, bk_175_9, bk_175_10, bk_175_11, bk_175_12, wp_ald0, wp_geti kd_50, wk_176, wp_ic, wp_iceq, wp_icne, wp_fall, wp_dupi, wp_dupr, wp_iadd, wp_puti kd_50, wp_goto, wp_ist1, wp_ild1, wp_i2l, wp_lc, wk_169, wp_ifeq, wp_imul, wp_isub, wk_273, c_mini, wp_ret, x_clr_I, x_clr_J, x_clr_R, x_clr_U, ct_some, ct_none, lc_lt, lc_ge, lc_gt, lc_le, lc_eq, lc_r, xI_inj, xJ_inj, Option.some.injEq, eq_self, bi_r, bi_0, bi_1, bi_n, Classical.not_not, and_true, true_and, ite_true, ite_false, ↓reduceIte, ↓x_andl, z_le, z_nle, z_lt, z_nlt, z_eq, z_neq, if_pos, if_neg, x_andl, false_and, and_false, or_true, true_or, or_false, false_or, not_true, not_false_iff, x_rd_eq, x_rd_ne, x_st_o, Int.cast_ofNat_Int, Int.ofNat_zero, Int.ofNat_one, not_true_eq_false, not_false_eq_true, if_true, if_false, ite_self, and_self, Int.ofNat_eq_natCast, Int.tdiv_eq_ediv_of_nonneg, Int.tmod_eq_emod_of_nonneg, x_bm32, e8, e89, ks, c_in, bi_t]
        exact K s
      · by_cases k2 : tK b n p = 2
        · have c1 := ckd_2 (ek.symm.trans k2)
          have K := fun cc => num k2 (n - tF b n p).toNat (tF b n p) 0 (x_st (x_st σ' 50 0 9 (tF b n p)) 50 0 11 0) cc (by omega) (Int.le_refl _) (msp_st ms9 (by omega)) (by rw [x_rd_ne (by omega), x_rd_eq]) (by rw [x_rd_ne (by omega)]; exact e89) x_rd_eq (by omega) (hr1 2 (Or.inr rfl) k2) rfl
          have sr : 48 ≤ b (tF b n p) % 256 ∧ b (tF b n p) % 256 ≤ 57 := by omega
          have sn : ¬ (97 ≤ b (tF b n p) % 256 ∧ b (tF b n p) % 256 ≤ 122) := by omega
          generalize b (tF b n p) % 256 = s at ks sr sn
          generalize tF b n p = f at ks K e8 e89
          rw [bk_175_2]
          simp (disch := first | omega | (simp only [x_wtI, x_wtJ, x_wtR, x_wtN]; omega) | assumption | (simp (disch := omega) only [x_st_o, x_rd_ne]; first | assumption | omega) | (apply mir_eq; assumption; (intro c h1 h2; simp (disch := omega) only [x_st_o])) | (apply mis_eq; assumption; (intro c h1 h2; simp (disch := omega) only [x_st_o])) | rfl) only [bk_175_0, bk_175_1, bk_175_2, bk_175_3, bk_175_4, bk_175_5, bk_175_6, bk_175_8, bk_175_9, bk_175_10, bk_175_11, bk_175_12, wp_ald0, wp_geti kd_50, wk_176, wp_ic, wp_iceq, wp_icne, wp_fall, wp_dupi, wp_dupr, wp_iadd, wp_puti kd_50, wp_goto, wp_ist1, wp_ild1, wp_i2l, wp_lc, wk_169, wp_ifeq, wp_imul, wp_isub, wk_273, c_mini, wp_ret, x_clr_I, x_clr_J, x_clr_R, x_clr_U, ct_some, ct_none, lc_lt, lc_ge, lc_gt, lc_le, lc_eq, lc_r, xI_inj, xJ_inj, Option.some.injEq, eq_self, bi_r, bi_0, bi_1, bi_n, Classical.not_not, and_true, true_and, ite_true, ite_false, ↓reduceIte, ↓x_andl, z_le, z_nle, z_lt, z_nlt, z_eq, z_neq, if_pos, if_neg, x_andl, false_and, and_false, or_true, true_or, or_false, false_or, not_true, not_false_iff, x_rd_eq, x_rd_ne, x_st_o, Int.cast_ofNat_Int, Int.ofNat_zero, Int.ofNat_one, not_true_eq_false, not_false_eq_true, if_true, if_false, ite_self, and_self, Int.ofNat_eq_natCast, Int.tdiv_eq_ediv_of_nonneg, Int.tmod_eq_emod_of_nonneg, x_bm32, e8, e89, ks, c_in, bi_f sn, bi_t sr]
          exact K s
        · have e34 := ckd_34 (by rw [← ek]; exact k1) (by rw [← ek]; exact k2) n5
          have n1 := mt ckd_1.mpr (by rw [← ek]; exact k1)
          have n2 := mt ckd_2'.mpr (by rw [← ek]; exact k2)
          have ea : tA b n p = tF b n p + 1 := by
            unfold tA
            rw [if_pos c, if_neg (by omega)]
          have sr : 0 ≤ b (tF b n p) % 256 ∧ b (tF b n p) % 256 < 256 := by omega
          have s1 : ¬ (97 ≤ b (tF b n p) % 256 ∧ b (tF b n p) % 256 ≤ 122) := by omega
          have s2 : ¬ (48 ≤ b (tF b n p) % 256 ∧ b (tF b n p) % 256 ≤ 57) := by omega
          have F := hQ none (x_st (x_st (x_st σ' 50 0 9 (tF b n p)) 50 0 10 (tK b n p)) 50 0 8 (tF b n p + 1)) ⟨rfl, msp_st (msp_st ms9 (by omega)) (by omega), by (rw [x_rd_ne (by omega), x_rd_ne (by omega), x_rd_eq]), by (rw [x_rd_ne (by omega), x_rd_eq]), by (rw [x_rd_eq]; exact ea.symm), fun z => absurd z k2⟩
          rw [ek, e34] at F
          by_cases c59 : b (tF b n p) = 59
          · rw [if_pos c59] at F
            have s59 : b (tF b n p) % 256 = 59 := by omega
            rw [s59] at s1 s2 ks
            generalize tF b n p = f at ks F e8 e89
            rw [bk_175_2]
            simp (disch := first | omega | (simp only [x_wtI, x_wtJ, x_wtR, x_wtN]; omega) | assumption | (simp (disch := omega) only [x_st_o, x_rd_ne]; first | assumption | omega) | (apply mir_eq; assumption; (intro c h1 h2; simp (disch := omega) only [x_st_o])) | (apply mis_eq; assumption; (intro c h1 h2; simp (disch := omega) only [x_st_o])) | rfl) only [bk_175_0, bk_175_1, bk_175_2, bk_175_3, bk_175_4, bk_175_5, bk_175_6, bk_175_7, bk_175_8, bk_175_9, bk_175_10, bk_175_11, bk_175_12, wp_ald0, wp_geti kd_50, wk_176, wp_ic, wp_iceq, wp_icne, wp_fall, wp_dupi, wp_dupr, wp_iadd, wp_puti kd_50, wp_goto, wp_ist1, wp_ild1, wp_i2l, wp_lc, wk_169, wp_ifeq, wp_imul, wp_isub, wk_273, c_mini, wp_ret, x_clr_I, x_clr_J, x_clr_R, x_clr_U, ct_some, ct_none, lc_lt, lc_ge, lc_gt, lc_le, lc_eq, lc_r, xI_inj, xJ_inj, Option.some.injEq, eq_self, bi_r, bi_0, bi_1, bi_n, Classical.not_not, and_true, true_and, ite_true, ite_false, ↓reduceIte, ↓x_andl, z_le, z_nle, z_lt, z_nlt, z_eq, z_neq, if_pos, if_neg, x_andl, false_and, and_false, or_true, true_or, or_false, false_or, not_true, not_false_iff, x_rd_eq, x_rd_ne, x_st_o, Int.cast_ofNat_Int, Int.ofNat_zero, Int.ofNat_one, not_true_eq_false, not_false_eq_true, if_true, if_false, ite_self, and_self, Int.ofNat_eq_natCast, Int.tdiv_eq_ediv_of_nonneg, Int.tmod_eq_emod_of_nonneg, x_bm32, e8, e89, ks, c_in, bi_f s1, bi_f s2]
            exact F
          · rw [if_neg c59] at F
            have s59 : ¬ b (tF b n p) % 256 = 59 := by omega
            generalize b (tF b n p) % 256 = s at ks sr s1 s2 s59
            generalize tF b n p = f at ks F e8 e89
            rw [bk_175_2]
            simp (disch := first | omega | (simp only [x_wtI, x_wtJ, x_wtR, x_wtN]; omega) | assumption | (simp (disch := omega) only [x_st_o, x_rd_ne]; first | assumption | omega) | (apply mir_eq; assumption; (intro c h1 h2; simp (disch := omega) only [x_st_o])) | (apply mis_eq; assumption; (intro c h1 h2; simp (disch := omega) only [x_st_o])) | rfl) only [bk_175_0, bk_175_1, bk_175_2, bk_175_3, bk_175_4, bk_175_5, bk_175_6, bk_175_7, bk_175_8, bk_175_9, bk_175_10, bk_175_11, bk_175_12, wp_ald0, wp_geti kd_50, wk_176, wp_ic, wp_iceq, wp_icne, wp_fall, wp_dupi, wp_dupr, wp_iadd, wp_puti kd_50, wp_goto, wp_ist1, wp_ild1, wp_i2l, wp_lc, wk_169, wp_ifeq, wp_imul, wp_isub, wk_273, c_mini, wp_ret, x_clr_I, x_clr_J, x_clr_R, x_clr_U, ct_some, ct_none, lc_lt, lc_ge, lc_gt, lc_le, lc_eq, lc_r, xI_inj, xJ_inj, Option.some.injEq, eq_self, bi_r, bi_0, bi_1, bi_n, Classical.not_not, and_true, true_and, ite_true, ite_false, ↓reduceIte, ↓x_andl, z_le, z_nle, z_lt, z_nlt, z_eq, z_neq, if_pos, if_neg, x_andl, false_and, and_false, or_true, true_or, or_false, false_or, not_true, not_false_iff, x_rd_eq, x_rd_ne, x_st_o, Int.cast_ofNat_Int, Int.ofNat_zero, Int.ofNat_one, not_true_eq_false, not_false_eq_true, if_true, if_false, ite_self, and_self, Int.ofNat_eq_natCast, Int.tdiv_eq_ediv_of_nonneg, Int.tmod_eq_emod_of_nonneg, x_bm32, e8, e89, ks, c_in, bi_f s1, bi_f s2]
            exact F
    · simp only [if_neg c] at ks
      have ek : tK b n p = 0 := if_neg c
      have ea : tA b n p = tF b n p := if_neg c
      have F := hQ none (x_st (x_st σ' 50 0 9 (tF b n p)) 50 0 10 0) ⟨rfl, msp_st ms9 (by omega), by (rw [x_rd_ne (by omega), x_rd_eq]), by (rw [x_rd_eq]; exact ek.symm), by (rw [x_rd_ne (by omega), e89]; exact ea.symm), fun z => by omega⟩
      generalize tF b n p = f at ks F e8 e89
      rw [bk_175_2]
      simp (disch := first | omega | (simp only [x_wtI, x_wtJ, x_wtR, x_wtN]; omega) | assumption | (simp (disch := omega) only [x_st_o, x_rd_ne]; first | assumption | omega) | (apply mir_eq; assumption; (intro c h1 h2; simp (disch := omega) only [x_st_o])) | (apply mis_eq; assumption; (intro c h1 h2; simp (disch := omega) only [x_st_o])) | rfl) only [bk_175_0, bk_175_1, bk_175_2, bk_175_3, bk_175_4, bk_175_5, bk_175_6, bk_175_7, bk_175_8, bk_175_9, bk_175_10, bk_175_11, bk_175_12, wp_ald0, wp_geti kd_50, wk_176, wp_ic, wp_iceq, wp_icne, wp_fall, wp_dupi, wp_dupr, wp_iadd, wp_puti kd_50, wp_goto, wp_ist1, wp_ild1, wp_i2l, wp_lc, wk_169, wp_ifeq, wp_imul, wp_isub, wk_273, c_mini, wp_ret, x_clr_I, x_clr_J, x_clr_R, x_clr_U, ct_some, ct_none, lc_lt, lc_ge, lc_gt, lc_le, lc_eq, lc_r, xI_inj, xJ_inj, Option.some.injEq, eq_self, bi_r, bi_0, bi_1, bi_n, Classical.not_not, and_true, true_and, ite_true, ite_false, ↓reduceIte, ↓x_andl, z_le, z_nle, z_lt, z_nlt, z_eq, z_neq, if_pos, if_neg, x_andl, false_and, and_false, or_true, true_or, or_false, false_or, not_true, not_false_iff, x_rd_eq, x_rd_ne, x_st_o, Int.cast_ofNat_Int, Int.ofNat_zero, Int.ofNat_one, not_true_eq_false, not_false_eq_true, if_true, if_false, ite_self, and_self, Int.ofNat_eq_natCast, Int.tdiv_eq_ediv_of_nonneg, Int.tmod_eq_emod_of_nonneg, x_bm32, e8, e89, ks]
      exact F
  have skip : ∀ m : Nat, ∀ (q : Int) (σ' : x_S), n - q = m → 0 ≤ q → msp σ σ' → σ' 50 0 8 = q → skp b m q = tF b n p → x_Wp 1 175 (x_blk 175 0) [xR 50 0, xU] [] σ' Q := by
    intro m
    induction m with
    | zero =>
      intro q σ' hm q0 ms e8 hs
      have eq : q = tF b n p := hs
      have K := mid σ' ms (e8.trans eq)
      have ks := fun (d' : Nat) (Q' : Option x_V → x_S → Prop) => k_see (d := d') (q := q) (Q := Q') (mdB_s hB ms) (by omega)
      simp only [if_neg (show ¬ q < n by omega)] at ks
      rw [bk_175_0]
      simp (disch := first | omega | (simp only [x_wtI, x_wtJ, x_wtR, x_wtN]; omega) | assumption | (simp (disch := omega) only [x_st_o, x_rd_ne]; first | assumption | omega) | (apply mir_eq; assumption; (intro c h1 h2; simp (disch := omega) only [x_st_o])) | (apply mis_eq; assumption; (intro c h1 h2; simp (disch := omega) only [x_st_o])) | rfl) only [bk_175_1, bk_175_3, bk_175_4, bk_175_5, bk_175_6, bk_175_7, bk_175_8, bk_175_9, bk_175_10, bk_175_11, bk_175_12, wp_ald0, wp_geti kd_50, wk_176, wp_ic, wp_iceq, wp_icne, wp_fall, wp_dupi, wp_dupr, wp_iadd, wp_puti kd_50, wp_goto, wp_ist1, wp_ild1, wp_i2l, wp_lc, wk_169, wp_ifeq, wp_imul, wp_isub, wk_273, c_mini, wp_ret, x_clr_I, x_clr_J, x_clr_R, x_clr_U, ct_some, ct_none, lc_lt, lc_ge, lc_gt, lc_le, lc_eq, lc_r, xI_inj, xJ_inj, Option.some.injEq, eq_self, bi_r, bi_0, bi_1, bi_n, Classical.not_not, and_true, true_and, ite_true, ite_false, ↓reduceIte, ↓x_andl, z_le, z_nle, z_lt, z_nlt, z_eq, z_neq, if_pos, if_neg, x_andl, false_and, and_false, or_true, true_or, or_false, false_or, not_true, not_false_iff, x_rd_eq, x_rd_ne, x_st_o, Int.cast_ofNat_Int, Int.ofNat_zero, Int.ofNat_one, not_true_eq_false, not_false_eq_true, if_true, if_false, ite_self, and_self, Int.ofNat_eq_natCast, Int.tdiv_eq_ediv_of_nonneg, Int.tmod_eq_emod_of_nonneg, x_bm32, e8, ks]
      exact K
    | succ m ih =>
      intro q σ' hm q0 ms e8 hs
      have ks := fun (d' : Nat) (Q' : Option x_V → x_S → Prop) => k_see (d := d') (q := q) (Q := Q') (mdB_s hB ms) (by omega)
      simp only [if_pos (show q < n by omega)] at ks
      have bq := br q (by omega) (by omega)
      by_cases c : ckd (b q) = 5
      · have er : skp b (m + 1) q = skp b m (q + 1) := if_pos c
        rw [er] at hs
        have K := ih (q + 1) (x_st σ' 50 0 8 (q + 1)) (by omega) (by omega) (msp_st ms (by omega)) x_rd_eq hs
        rcases ckd_5.mp c with z | z
        · have em : b q % 256 = 32 := by omega
          rw [em] at ks
          rw [bk_175_0]
          simp (disch := first | omega | (simp only [x_wtI, x_wtJ, x_wtR, x_wtN]; omega) | assumption | (simp (disch := omega) only [x_st_o, x_rd_ne]; first | assumption | omega) | (apply mir_eq; assumption; (intro c h1 h2; simp (disch := omega) only [x_st_o])) | (apply mis_eq; assumption; (intro c h1 h2; simp (disch := omega) only [x_st_o])) | rfl) only [bk_175_1, bk_175_3, bk_175_4, bk_175_5, bk_175_6, bk_175_7, bk_175_8, bk_175_9, bk_175_10, bk_175_11, bk_175_12, wp_ald0, wp_geti kd_50, wk_176, wp_ic, wp_iceq, wp_icne, wp_fall, wp_dupi, wp_dupr, wp_iadd, wp_puti kd_50, wp_goto, wp_ist1, wp_ild1, wp_i2l, wp_lc, wk_169, wp_ifeq, wp_imul, wp_isub, wk_273, c_mini, wp_ret, x_clr_I, x_clr_J, x_clr_R, x_clr_U, ct_some, ct_none, lc_lt, lc_ge, lc_gt, lc_le, lc_eq, lc_r, xI_inj, xJ_inj, Option.some.injEq, eq_self, bi_r, bi_0, bi_1, bi_n, Classical.not_not, and_true, true_and, ite_true, ite_false, ↓reduceIte, ↓x_andl, z_le, z_nle, z_lt, z_nlt, z_eq, z_neq, if_pos, if_neg, x_andl, false_and, and_false, or_true, true_or, or_false, false_or, not_true, not_false_iff, x_rd_eq, x_rd_ne, x_st_o, Int.cast_ofNat_Int, Int.ofNat_zero, Int.ofNat_one, not_true_eq_false, not_false_eq_true, if_true, if_false, ite_self, and_self, Int.ofNat_eq_natCast, Int.tdiv_eq_ediv_of_nonneg, Int.tmod_eq_emod_of_nonneg, x_bm32, e8, ks]
          exact K
        · have em : b q % 256 = 10 := by omega
          rw [em] at ks
          rw [bk_175_0]
          simp (disch := first | omega | (simp only [x_wtI, x_wtJ, x_wtR, x_wtN]; omega) | assumption | (simp (disch := omega) only [x_st_o, x_rd_ne]; first | assumption | omega) | (apply mir_eq; assumption; (intro c h1 h2; simp (disch := omega) only [x_st_o])) | (apply mis_eq; assumption; (intro c h1 h2; simp (disch := omega) only [x_st_o])) | rfl) only [bk_175_1, bk_175_3, bk_175_4, bk_175_5, bk_175_6, bk_175_7, bk_175_8, bk_175_9, bk_175_10, bk_175_11, bk_175_12, wp_ald0, wp_geti kd_50, wk_176, wp_ic, wp_iceq, wp_icne, wp_fall, wp_dupi, wp_dupr, wp_iadd, wp_puti kd_50, wp_goto, wp_ist1, wp_ild1, wp_i2l, wp_lc, wk_169, wp_ifeq, wp_imul, wp_isub, wk_273, c_mini, wp_ret, x_clr_I, x_clr_J, x_clr_R, x_clr_U, ct_some, ct_none, lc_lt, lc_ge, lc_gt, lc_le, lc_eq, lc_r, xI_inj, xJ_inj, Option.some.injEq, eq_self, bi_r, bi_0, bi_1, bi_n, Classical.not_not, and_true, true_and, ite_true, ite_false, ↓reduceIte, ↓x_andl, z_le, z_nle, z_lt, z_nlt, z_eq, z_neq, if_pos, if_neg, x_andl, false_and, and_false, or_true, true_or, or_false, false_or, not_true, not_false_iff, x_rd_eq, x_rd_ne, x_st_o, Int.cast_ofNat_Int, Int.ofNat_zero, Int.ofNat_one, not_true_eq_false, not_false_eq_true, if_true, if_false, ite_self, and_self, Int.ofNat_eq_natCast, Int.tdiv_eq_ediv_of_nonneg, Int.tmod_eq_emod_of_nonneg, x_bm32, e8, ks]
          exact K
      · have er : skp b (m + 1) q = q := if_neg c
        have K := mid σ' ms (e8.trans (er.symm.trans hs))
        have n5 := mt ckd_5.mpr c
        have sr : (0 ≤ b q % 256 ∧ b q % 256 < 256) ∧ ¬ b q % 256 = 32 ∧ ¬ b q % 256 = 10 := by omega
        generalize b q % 256 = s at ks sr
        rw [bk_175_0]
        simp (disch := first | omega | (simp only [x_wtI, x_wtJ, x_wtR, x_wtN]; omega) | assumption | (simp (disch := omega) only [x_st_o, x_rd_ne]; first | assumption | omega) | (apply mir_eq; assumption; (intro c h1 h2; simp (disch := omega) only [x_st_o])) | (apply mis_eq; assumption; (intro c h1 h2; simp (disch := omega) only [x_st_o])) | rfl) only [bk_175_1, bk_175_3, bk_175_4, bk_175_5, bk_175_6, bk_175_7, bk_175_8, bk_175_9, bk_175_10, bk_175_11, bk_175_12, wp_ald0, wp_geti kd_50, wk_176, wp_ic, wp_iceq, wp_icne, wp_fall, wp_dupi, wp_dupr, wp_iadd, wp_puti kd_50, wp_goto, wp_ist1, wp_ild1, wp_i2l, wp_lc, wk_169, wp_ifeq, wp_imul, wp_isub, wk_273, c_mini, wp_ret, x_clr_I, x_clr_J, x_clr_R, x_clr_U, ct_some, ct_none, lc_lt, lc_ge, lc_gt, lc_le, lc_eq, lc_r, xI_inj, xJ_inj, Option.some.injEq, eq_self, bi_r, bi_0, bi_1, bi_n, Classical.not_not, and_true, true_and, ite_true, ite_false, ↓reduceIte, ↓x_andl, z_le, z_nle, z_lt, z_nlt, z_eq, z_neq, if_pos, if_neg, x_andl, false_and, and_false, or_true, true_or, or_false, false_or, not_true, not_false_iff, x_rd_eq, x_rd_ne, x_st_o, Int.cast_ofNat_Int, Int.ofNat_zero, Int.ofNat_one, not_true_eq_false, not_false_eq_true, if_true, if_false, ite_self, and_self, Int.ofNat_eq_natCast, Int.tdiv_eq_ediv_of_nonneg, Int.tmod_eq_emod_of_nonneg, x_bm32, e8, ks]
        exact K
  have K := skip (n - p).toNat p σ (by omega) hp.1 ⟨eqo_refl, fun _ _ => rfl⟩ h8 rfl
  simp (disch := first | omega | (simp only [x_wtI, x_wtJ, x_wtR, x_wtN]; omega) | assumption | (simp (disch := omega) only [x_st_o, x_rd_ne]; first | assumption | omega) | (apply mir_eq; assumption; (intro c h1 h2; simp (disch := omega) only [x_st_o])) | (apply mis_eq; assumption; (intro c h1 h2; simp (disch := omega) only [x_st_o])) | rfl) only [sp_175, bk_175_1, bk_175_2, bk_175_3, bk_175_4, bk_175_5, bk_175_6, bk_175_7, bk_175_8, bk_175_9, bk_175_10, bk_175_11, bk_175_12, wp_ald0, wp_geti kd_50, wk_176, wp_ic, wp_iceq, wp_icne, wp_fall, wp_dupi, wp_dupr, wp_iadd, wp_puti kd_50, wp_goto, wp_ist1, wp_ild1, wp_i2l, wp_lc, wk_169, wp_ifeq, wp_imul, wp_isub, wk_273, c_mini, wp_ret, x_clr_I, x_clr_J, x_clr_R, x_clr_U, ct_some, ct_none, lc_lt, lc_ge, lc_gt, lc_le, lc_eq, lc_r, xI_inj, xJ_inj, Option.some.injEq, eq_self, bi_r, bi_0, bi_1, bi_n, Classical.not_not, and_true, true_and, ite_true, ite_false, ↓reduceIte, ↓x_andl, z_le, z_nle, z_lt, z_nlt, z_eq, z_neq, if_pos, if_neg, x_andl, false_and, and_false, or_true, true_or, or_false, false_or, not_true, not_false_iff, x_rd_eq, x_rd_ne, x_st_o, Int.cast_ofNat_Int, Int.ofNat_zero, Int.ofNat_one, not_true_eq_false, not_false_eq_true, if_true, if_false, ite_self, and_self, Int.ofNat_eq_natCast, Int.tdiv_eq_ediv_of_nonneg, Int.tmod_eq_emod_of_nonneg, x_bm32]
  exact K

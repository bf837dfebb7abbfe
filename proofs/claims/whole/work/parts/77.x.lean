theorem ushr_b {s : Int} : 0 ≤ x_ushr s 16 ∧ x_ushr s 16 ≤ 65535 := by
  have e := pk_ushr (Int32.ofInt s) (Int32.ofInt 16) 16 (by decide)
  have l := (Int32.ofInt s).toBitVec.isLt
  have h : ((Int32.ofInt s).toUInt32 >>> ((Int32.ofInt 16).toUInt32 &&& Int32.toUInt32 31)).toInt32.toBitVec.toNat < 65536 := by
    rw [e]
    omega
  show 0 ≤ ((Int32.ofInt s).toUInt32 >>> ((Int32.ofInt 16).toUInt32 &&& Int32.toUInt32 31)).toInt32.toBitVec.toInt ∧ ((Int32.ofInt s).toUInt32 >>> ((Int32.ofInt 16).toUInt32 &&& Int32.toUInt32 31)).toInt32.toBitVec.toInt ≤ 65535
  rw [BitVec.toInt_eq_toNat_of_lt (by omega)]
  omega
section DR
variable {w : Int → Int} {f : Int}
theorem wsum_s {i : Int} (i0 : 0 ≤ i) : w_sum w f (i + 1).toNat = w_sum w f i.toNat + w_of w (w_of w f (8 + i)) 1 := by
  rw [show (i + 1).toNat = i.toNat + 1 by omega]
  show w_sum w f i.toNat + w_of w (w_of w f (8 + (i.toNat : Int))) 1 = _
  rw [Int.toNat_of_nonneg i0]
theorem sum_mono (hw : wf w) (h0 : 0 ≤ f) (h1 : f < w 0) (m : Nat) : ∀ k : Nat, ((m + k : Nat) : Int) ≤ w_of w f 7 → w_sum w f m ≤ w_sum w f (m + k) := by
  intro k
  induction k with
  | zero => intro _; exact Int.le_refl _
  | succ k ih =>
    intro hk
    have i := ih (by omega)
    have kk := wf_k hw (i := ((m + k : Nat) : Int)) h0 h1 (by omega) (by omega)
    have o := wf_f hw (f := w_of w f (8 + ((m + k : Nat) : Int))) (by omega) (by omega)
    unfold wf_one at o
    have e : w_sum w f (m + k + 1) = w_sum w f (m + k) + w_of w (w_of w f (8 + ((m + k : Nat) : Int))) 1 := rfl
    rw [show m + (k + 1) = m + k + 1 by omega]
    omega
theorem sum_le (hw : wf w) (h0 : 0 ≤ f) (h1 : f < w 0) {m n : Nat} (h : m ≤ n) (hn : (n : Int) ≤ w_of w f 7) : w_sum w f m ≤ w_sum w f n := by
  have := sum_mono hw h0 h1 m (n - m) (by omega)
  rwa [show m + (n - m) = n by omega] at this
theorem sum_100 (hw : wf w) (h100 : wf_100 w) (h0 : 0 ≤ f) (h1 : f < w 0) {n : Nat} (hn : (n : Int) ≤ w_of w f 7) : 0 ≤ w_sum w f n ∧ w_sum w f n ≤ 100 := by
  refine ⟨(sum_nn hw h0 h1 n hn).1, ?_⟩
  by_cases c : w_of w f 7 = 0
  · have : n = 0 := by omega
    subst this
    show (0 : Int) ≤ 100
    omega
  · have := sum_le hw h0 h1 (m := n) (n := (w_of w f 7).toNat) (by omega) (by omega)
    have := h100 f h0 h1 (by omega)
    omega
def p_dri (w : Int → Int) (f r : Int) : Nat → Int
  | 0 => 0
  | n + 1 => if w_sum w f n ≤ r ∧ r < w_sum w f (n + 1) then n else p_dri w f r n
theorem dri_eq (hw : wf w) (h0 : 0 ≤ f) (h1 : f < w 0) {r i : Int} (i0 : 0 ≤ i) (i1 : i < w_of w f 7) (e1 : w_sum w f i.toNat ≤ r) (e2 : r < w_sum w f (i + 1).toNat) : ∀ n : Nat, (n : Int) ≤ w_of w f 7 → i < n → p_dri w f r n = i := by
  intro n
  induction n with
  | zero => intro _ h; omega
  | succ n ih =>
    intro hn hi
    show (if w_sum w f n ≤ r ∧ r < w_sum w f (n + 1) then (n : Int) else p_dri w f r n) = i
    by_cases c : i = n
    · subst c
      rw [if_pos]
      rw [Int.toNat_natCast] at e1
      rw [show ((n : Int) + 1).toNat = n + 1 by omega] at e2
      exact ⟨e1, e2⟩
    · have : (i + 1).toNat ≤ n := by omega
      have := sum_le hw h0 h1 this (by omega)
      rw [if_neg (by omega)]
      exact ih (by omega) (by omega)
def p_dr (w : Int → Int) (f r : Int) : Int := w_of w f (8 + p_dri w f r (w_of w f 7).toNat)
theorem dr_eq (hw : wf w) (h0 : 0 ≤ f) (h1 : f < w 0) {r i : Int} (i0 : 0 ≤ i) (i1 : i < w_of w f 7) (e1 : w_sum w f i.toNat ≤ r) (e2 : r < w_sum w f (i + 1).toNat) : w_of w f (8 + i) = p_dr w f r := by
  unfold p_dr
  rw [dri_eq hw h0 h1 i0 i1 e1 e2 _ (by omega) (by omega)]
end DR
theorem k_drawn {d : Nat} {σ : x_S} {Q : Option x_V → x_S → Prop} {w : Int → Int} {f r : Int} (hM : mir σ 1 w) (hw : wf w) (h100 : wf_100 w) (h0 : 0 ≤ f) (h1 : f < w 0) (hk : 0 < w_of w f 7) (hr : 0 ≤ r ∧ r < 100) : x_Sp d 75 [xR 6 1, xI f, xI r] σ Q ↔ Q (some (xI (p_dr w f r))) σ := by
  have a := wf_h hw
  unfold wf_hdr at a
  have o := wf_f hw h0 h1
  unfold wf_one at o
  refine x_sp_of ?_
  simp (disch := first | omega | (simp only [x_wtI, x_wtJ, x_wtR, x_wtN]; omega) | assumption | (simp (disch := omega) only [x_st_o, x_rd_ne]; first | assumption | omega) | (apply mir_eq; assumption; (intro c h1 h2; simp (disch := omega) only [x_st_o])) | (apply mis_eq; assumption; (intro c h1 h2; simp (disch := omega) only [x_st_o])) | rfl) only [sp_75, bk_75_0, bk_75_2, wp_ic, wp_ist3, wp_ild1, wp_ist4, wp_ist5, wp_fall, wp_ild5, wp_ald0, wr_6_14, wl_8, wl_14, wl_15, wp_cald, wp_icge, wp_ild3, wp_ild2, wp_icgt, wr_6_15, wp_imul, wp_iadd, wr_6_8, wp_ild4, wp_inc5, wp_goto, wp_iret mz_75, x_clr_I, x_clr_J, x_clr_R, x_clr_U, ct_some, ct_none, lc_lt, lc_ge, lc_gt, lc_le, lc_eq, lc_r, xI_inj, xJ_inj, Option.some.injEq, eq_self, bi_r, bi_0, bi_1, bi_n, Classical.not_not, and_true, true_and, ite_true, ite_false, ↓reduceIte, ↓x_andl, z_le, z_nle, z_lt, z_nlt, z_eq, z_neq, if_pos, if_neg, x_andl, false_and, and_false, or_true, true_or, or_false, false_or, not_true, not_false_iff, x_rd_eq, x_rd_ne, x_st_o, Int.cast_ofNat_Int, Int.ofNat_zero, Int.ofNat_one, not_true_eq_false, not_false_eq_true, if_true, if_false, ite_self, and_self, Int.ofNat_eq_natCast, Int.tdiv_eq_ediv_of_nonneg, Int.tmod_eq_emod_of_nonneg, x_bm32]
  refine x_lpX (α := Int × Int) (fun i q => q.1 = w_sum w f i.toNat ∧ (0 < i → q.2 = w_of w f (8 + (i - 1)) ∧ w_sum w f (i - 1).toNat ≤ r)) (fun i q => x_Wp d 75 (x_blk 75 1) [xR 6 1, xI f, xI r, xI q.1, xI q.2, xI i] [] σ (fun r2 σ2 => r2 = some (xI (p_dr w f r)) ∧ σ2 = σ)) (lo := 0) (hi := w_of w f 7) (by omega) (a0 := (0, f)) ⟨rfl, fun z => by omega⟩ ?_ ?_
  · intro i ⟨sm, fd⟩ i0 i1 ⟨j1, j2⟩
    simp only at j1 j2 ⊢
    subst j1
    have sb := sum_100 hw h100 h0 h1 (n := i.toNat) (by omega)
    rw [bk_75_1]
    by_cases c : r < w_sum w f i.toNat
    · refine Or.inl ?_
      have ip : 0 < i := by
        by_cases z : i = 0
        · subst z
          have : w_sum w f (0 : Int).toNat = 0 := rfl
          omega
        · omega
      obtain ⟨q1, q2⟩ := j2 ip
      have e := dr_eq hw h0 h1 (r := r) (i := i - 1) (by omega) (by omega) q2 (by rw [show i - 1 + 1 = i by omega]; exact c)
      simp (disch := first | omega | (simp only [x_wtI, x_wtJ, x_wtR, x_wtN]; omega) | assumption | (simp (disch := omega) only [x_st_o, x_rd_ne]; first | assumption | omega) | (apply mir_eq; assumption; (intro c h1 h2; simp (disch := omega) only [x_st_o])) | (apply mis_eq; assumption; (intro c h1 h2; simp (disch := omega) only [x_st_o])) | rfl) only [bk_75_0, bk_75_2, wp_ic, wp_ist3, wp_ild1, wp_ist4, wp_ist5, wp_fall, wp_ild5, wp_ald0, wr_6_14, wl_8, wl_14, wl_15, wp_cald, wp_icge, wp_ild3, wp_ild2, wp_icgt, wr_6_15, wp_imul, wp_iadd, wr_6_8, wp_ild4, wp_inc5, wp_goto, wp_iret mz_75, x_clr_I, x_clr_J, x_clr_R, x_clr_U, ct_some, ct_none, lc_lt, lc_ge, lc_gt, lc_le, lc_eq, lc_r, xI_inj, xJ_inj, Option.some.injEq, eq_self, bi_r, bi_0, bi_1, bi_n, Classical.not_not, and_true, true_and, ite_true, ite_false, ↓reduceIte, ↓x_andl, z_le, z_nle, z_lt, z_nlt, z_eq, z_neq, if_pos, if_neg, x_andl, false_and, and_false, or_true, true_or, or_false, false_or, not_true, not_false_iff, x_rd_eq, x_rd_ne, x_st_o, Int.cast_ofNat_Int, Int.ofNat_zero, Int.ofNat_one, not_true_eq_false, not_false_eq_true, if_true, if_false, ite_self, and_self, Int.ofNat_eq_natCast, Int.tdiv_eq_ediv_of_nonneg, Int.tmod_eq_emod_of_nonneg, x_bm32, mi_kids hM]
    · refine Or.inr ⟨(w_sum w f i.toNat + w_of w (w_of w f (8 + i)) 1, w_of w f (8 + i)), ⟨(wsum_s i0).symm, ?_⟩, ?_⟩
      · intro _
        rw [show i + 1 - 1 = i by omega]
        exact ⟨rfl, by omega⟩
      · intro H
        have kk := wf_k hw h0 h1 i0 i1
        simp (disch := first | omega | (simp only [x_wtI, x_wtJ, x_wtR, x_wtN]; omega) | assumption | (simp (disch := omega) only [x_st_o, x_rd_ne]; first | assumption | omega) | (apply mir_eq; assumption; (intro c h1 h2; simp (disch := omega) only [x_st_o])) | (apply mis_eq; assumption; (intro c h1 h2; simp (disch := omega) only [x_st_o])) | rfl) only [bk_75_0, bk_75_2, wp_ic, wp_ist3, wp_ild1, wp_ist4, wp_ist5, wp_fall, wp_ild5, wp_ald0, wr_6_14, wl_8, wl_14, wl_15, wp_cald, wp_icge, wp_ild3, wp_ild2, wp_icgt, wr_6_15, wp_imul, wp_iadd, wr_6_8, wp_ild4, wp_inc5, wp_goto, wp_iret mz_75, x_clr_I, x_clr_J, x_clr_R, x_clr_U, ct_some, ct_none, lc_lt, lc_ge, lc_gt, lc_le, lc_eq, lc_r, xI_inj, xJ_inj, Option.some.injEq, eq_self, bi_r, bi_0, bi_1, bi_n, Classical.not_not, and_true, true_and, ite_true, ite_false, ↓reduceIte, ↓x_andl, z_le, z_nle, z_lt, z_nlt, z_eq, z_neq, if_pos, if_neg, x_andl, false_and, and_false, or_true, true_or, or_false, false_or, not_true, not_false_iff, x_rd_eq, x_rd_ne, x_st_o, Int.cast_ofNat_Int, Int.ofNat_zero, Int.ofNat_one, not_true_eq_false, not_false_eq_true, if_true, if_false, ite_self, and_self, Int.ofNat_eq_natCast, Int.tdiv_eq_ediv_of_nonneg, Int.tmod_eq_emod_of_nonneg, x_bm32, mi_kids hM, mi_kid hM, mi_chance hM]
        exact H
  · intro ⟨sm, fd⟩ ⟨j1, j2⟩
    simp only at j1 j2 ⊢
    subst j1
    obtain ⟨q1, q2⟩ := j2 hk
    have s := h100 f h0 h1 hk
    have e := dr_eq hw h0 h1 (r := r) (i := w_of w f 7 - 1) (by omega) (by omega) q2 (by rw [show w_of w f 7 - 1 + 1 = w_of w f 7 by omega]; omega)
    rw [bk_75_1]
    simp (disch := first | omega | (simp only [x_wtI, x_wtJ, x_wtR, x_wtN]; omega) | assumption | (simp (disch := omega) only [x_st_o, x_rd_ne]; first | assumption | omega) | (apply mir_eq; assumption; (intro c h1 h2; simp (disch := omega) only [x_st_o])) | (apply mis_eq; assumption; (intro c h1 h2; simp (disch := omega) only [x_st_o])) | rfl) only [bk_75_0, bk_75_2, wp_ic, wp_ist3, wp_ild1, wp_ist4, wp_ist5, wp_fall, wp_ild5, wp_ald0, wr_6_14, wl_8, wl_14, wl_15, wp_cald, wp_icge, wp_ild3, wp_ild2, wp_icgt, wr_6_15, wp_imul, wp_iadd, wr_6_8, wp_ild4, wp_inc5, wp_goto, wp_iret mz_75, x_clr_I, x_clr_J, x_clr_R, x_clr_U, ct_some, ct_none, lc_lt, lc_ge, lc_gt, lc_le, lc_eq, lc_r, xI_inj, xJ_inj, Option.some.injEq, eq_self, bi_r, bi_0, bi_1, bi_n, Classical.not_not, and_true, true_and, ite_true, ite_false, ↓reduceIte, ↓x_andl, z_le, z_nle, z_lt, z_nlt, z_eq, z_neq, if_pos, if_neg, x_andl, false_and, and_false, or_true, true_or, or_false, false_or, not_true, not_false_iff, x_rd_eq, x_rd_ne, x_st_o, Int.cast_ofNat_Int, Int.ofNat_zero, Int.ofNat_one, not_true_eq_false, not_false_eq_true, if_true, if_false, ite_self, and_self, Int.ofNat_eq_natCast, Int.tdiv_eq_ediv_of_nonneg, Int.tmod_eq_emod_of_nonneg, x_bm32, mi_kids hM]
def p_rn (w V : Int → Int) : Nat → Int → Int → Int
  | 0, _, f => f
  | n + 1, s, f => if ¬ V f = -1 ∧ 0 < w_of w f 7 then p_rn w V n (s * 1103515245 + 12345) (p_dr w f (x_ushr (s * 1103515245 + 12345) 16 % 100)) else f
theorem dr_kid {w : Int → Int} (hw : wf w) (h100 : wf_100 w) {f r : Int} (h0 : 0 ≤ f) (h1 : f < w 0) (hk : 0 < w_of w f 7) (hr : 0 ≤ r ∧ r < 100) : ∃ i, 0 ≤ i ∧ i < w_of w f 7 ∧ p_dr w f r = w_of w f (8 + i) ∧ w_sum w f i.toNat ≤ r ∧ r < w_sum w f (i + 1).toNat := by
  have o := wf_f hw h0 h1
  unfold wf_one at o
  have key : ∀ n : Nat, (n : Int) ≤ w_of w f 7 → r < w_sum w f n → ∃ i : Int, 0 ≤ i ∧ i < n ∧ w_sum w f i.toNat ≤ r ∧ r < w_sum w f (i + 1).toNat := by
    intro n
    induction n with
    | zero =>
      intro _ h
      have : w_sum w f 0 = 0 := rfl
      omega
    | succ n ih =>
      intro hn h
      by_cases c : r < w_sum w f n
      · obtain ⟨i, q⟩ := ih (by omega) c
        exact ⟨i, q.1, by omega, q.2.2⟩
      · exact ⟨n, by omega, by omega, by rw [Int.toNat_natCast]; omega, by rw [show ((n : Int) + 1).toNat = n + 1 by omega]; exact h⟩
  have s := h100 f h0 h1 hk
  obtain ⟨i, i0, i1, e1, e2⟩ := key (w_of w f 7).toNat (by omega) (by omega)
  exact ⟨i, i0, by omega, (dr_eq hw h0 h1 i0 (by omega) e1 e2).symm, e1, e2⟩
section O12
variable {L : Int} {S0 : Int → Int}
theorem h_runC {σ : x_S} {w : Int → Int} {seed : Int} (hM : mir σ 1 w) (hS : mis σ 1 w) (hw : wf w) (h100 : wf_100 w) (hn : wn w) (hc : ∀ f, 0 ≤ f → f < w 0 → wcell σ f) : x_Wp 999 159 (x_blk 159 1) [xR 0 0, xI seed, xI seed, xI (w 8), xI 0] [] σ (fun r σ' => (0 ≤ p_rn w (cV σ) 4 seed (w 8) ∧ p_rn w (cV σ) 4 seed (w 8) < w 0) ∧ ((cV σ (p_rn w (cV σ) 4 seed (w 8)) = -1 ∧ r = some (xI (-5)) ∧ σ' = σ) ∨ (¬ cV σ (p_rn w (cV σ) 4 seed (w 8)) = -1 ∧ r = some (xI (p_rn w (cV σ) 4 seed (w 8))) ∧ σ' = x_st σ 0 0 17 (σ 40 0 (p_rn w (cV σ) 4 seed (w 8)))))) := by
  have a := wf_h hw
  unfold wf_hdr at a
  have hn8 := hn.1
  refine w_gen (fun Q hQ => ?_)
  have fin : ∀ s f i, 0 ≤ f → f < w 0 → p_rn w (cV σ) 4 seed (w 8) = f → (¬ (¬ cV σ f = -1 ∧ 0 < w_of w f 7) ∨ i = 4) → (0 ≤ i ∧ i ≤ 4) → x_Wp 999 159 (x_blk 159 1) [xR 0 0, xI seed, xI s, xI f, xI i] [] σ Q := by
    intro s f i f0 f1 e hx hi
    have cel := hc f f0 f1
    have o := wf_f hw f0 f1
    unfold wf_one at o
    have hQ' := hQ
    rw [e] at hQ'
    rw [bk_159_1]
    rcases cel.2.1 with z | z
    · have eV : cV σ f = -1 := if_neg (by omega)
      by_cases c4 : i = 4
      · subst c4
        simp (disch := first | omega | (simp only [x_wtI, x_wtJ, x_wtR, x_wtN]; omega) | assumption | (simp (disch := omega) only [x_st_o, x_rd_ne]; first | assumption | omega) | (apply mir_eq; assumption; (intro c h1 h2; simp (disch := omega) only [x_st_o])) | (apply mis_eq; assumption; (intro c h1 h2; simp (disch := omega) only [x_st_o])) | rfl) only [bk_159_0, bk_159_2, bk_159_3, wp_ald0, wr_0_9, wk_77, wp_ild1, wp_ist2, wr_0_2, wp_geti kd_20, wp_ist3, wp_ic, wp_ist4, wp_fall, wp_ild4, wp_icge, wr_33_2, wp_ild3, wl_35, wp_sbal, wp_ifeq, wr_20_0, wr_6_14, wl_14, wl_40, wp_cald, wp_ifle, wp_ild2, wp_imul, wp_iadd, wp_iushr, wp_irem, wk_75, wp_inc4, wp_goto, wp_ifne, wp_iret mz_159, wr_33_7, wp_puti kd_0, x_clr_I, x_clr_J, x_clr_R, x_clr_U, ct_some, ct_none, lc_lt, lc_ge, lc_gt, lc_le, lc_eq, lc_r, xI_inj, xJ_inj, Option.some.injEq, eq_self, bi_r, bi_0, bi_1, bi_n, Classical.not_not, and_true, true_and, ite_true, ite_false, ↓reduceIte, ↓x_andl, z_le, z_nle, z_lt, z_nlt, z_eq, z_neq, if_pos, if_neg, x_andl, false_and, and_false, or_true, true_or, or_false, false_or, not_true, not_false_iff, x_rd_eq, x_rd_ne, x_st_o, Int.cast_ofNat_Int, Int.ofNat_zero, Int.ofNat_one, not_true_eq_false, not_false_eq_true, if_true, if_false, ite_self, and_self, Int.ofNat_eq_natCast, Int.tdiv_eq_ediv_of_nonneg, Int.tmod_eq_emod_of_nonneg, x_bm32, z]
        exact hQ' _ _ ⟨⟨f0, f1⟩, Or.inl ⟨eV, rfl, rfl⟩⟩
      · simp (disch := first | omega | (simp only [x_wtI, x_wtJ, x_wtR, x_wtN]; omega) | assumption | (simp (disch := omega) only [x_st_o, x_rd_ne]; first | assumption | omega) | (apply mir_eq; assumption; (intro c h1 h2; simp (disch := omega) only [x_st_o])) | (apply mis_eq; assumption; (intro c h1 h2; simp (disch := omega) only [x_st_o])) | rfl) only [bk_159_0, bk_159_2, bk_159_3, wp_ald0, wr_0_9, wk_77, wp_ild1, wp_ist2, wr_0_2, wp_geti kd_20, wp_ist3, wp_ic, wp_ist4, wp_fall, wp_ild4, wp_icge, wr_33_2, wp_ild3, wl_35, wp_sbal, wp_ifeq, wr_20_0, wr_6_14, wl_14, wl_40, wp_cald, wp_ifle, wp_ild2, wp_imul, wp_iadd, wp_iushr, wp_irem, wk_75, wp_inc4, wp_goto, wp_ifne, wp_iret mz_159, wr_33_7, wp_puti kd_0, x_clr_I, x_clr_J, x_clr_R, x_clr_U, ct_some, ct_none, lc_lt, lc_ge, lc_gt, lc_le, lc_eq, lc_r, xI_inj, xJ_inj, Option.some.injEq, eq_self, bi_r, bi_0, bi_1, bi_n, Classical.not_not, and_true, true_and, ite_true, ite_false, ↓reduceIte, ↓x_andl, z_le, z_nle, z_lt, z_nlt, z_eq, z_neq, if_pos, if_neg, x_andl, false_and, and_false, or_true, true_or, or_false, false_or, not_true, not_false_iff, x_rd_eq, x_rd_ne, x_st_o, Int.cast_ofNat_Int, Int.ofNat_zero, Int.ofNat_one, not_true_eq_false, not_false_eq_true, if_true, if_false, ite_self, and_self, Int.ofNat_eq_natCast, Int.tdiv_eq_ediv_of_nonneg, Int.tmod_eq_emod_of_nonneg, x_bm32, z]
        exact hQ' _ _ ⟨⟨f0, f1⟩, Or.inl ⟨eV, rfl, rfl⟩⟩
    · have rr := cel.2.2.2 z
      have eV : ¬ cV σ f = -1 := by
        have e : cV σ f = 21 * σ 39 0 f + σ 38 0 f := if_pos z
        omega
      by_cases c4 : i = 4
      · subst c4
        simp (disch := first | omega | (simp only [x_wtI, x_wtJ, x_wtR, x_wtN]; omega) | assumption | (simp (disch := omega) only [x_st_o, x_rd_ne]; first | assumption | omega) | (apply mir_eq; assumption; (intro c h1 h2; simp (disch := omega) only [x_st_o])) | (apply mis_eq; assumption; (intro c h1 h2; simp (disch := omega) only [x_st_o])) | rfl) only [bk_159_0, bk_159_2, bk_159_3, wp_ald0, wr_0_9, wk_77, wp_ild1, wp_ist2, wr_0_2, wp_geti kd_20, wp_ist3, wp_ic, wp_ist4, wp_fall, wp_ild4, wp_icge, wr_33_2, wp_ild3, wl_35, wp_sbal, wp_ifeq, wr_20_0, wr_6_14, wl_14, wl_40, wp_cald, wp_ifle, wp_ild2, wp_imul, wp_iadd, wp_iushr, wp_irem, wk_75, wp_inc4, wp_goto, wp_ifne, wp_iret mz_159, wr_33_7, wp_puti kd_0, x_clr_I, x_clr_J, x_clr_R, x_clr_U, ct_some, ct_none, lc_lt, lc_ge, lc_gt, lc_le, lc_eq, lc_r, xI_inj, xJ_inj, Option.some.injEq, eq_self, bi_r, bi_0, bi_1, bi_n, Classical.not_not, and_true, true_and, ite_true, ite_false, ↓reduceIte, ↓x_andl, z_le, z_nle, z_lt, z_nlt, z_eq, z_neq, if_pos, if_neg, x_andl, false_and, and_false, or_true, true_or, or_false, false_or, not_true, not_false_iff, x_rd_eq, x_rd_ne, x_st_o, Int.cast_ofNat_Int, Int.ofNat_zero, Int.ofNat_one, not_true_eq_false, not_false_eq_true, if_true, if_false, ite_self, and_self, Int.ofNat_eq_natCast, Int.tdiv_eq_ediv_of_nonneg, Int.tmod_eq_emod_of_nonneg, x_bm32, z]
        exact hQ' _ _ ⟨⟨f0, f1⟩, Or.inr ⟨eV, rfl, rfl⟩⟩
      · have hk : ¬ 0 < w_of w f 7 := fun q => hx.elim (fun y => y ⟨eV, q⟩) c4
        simp (disch := first | omega | (simp only [x_wtI, x_wtJ, x_wtR, x_wtN]; omega) | assumption | (simp (disch := omega) only [x_st_o, x_rd_ne]; first | assumption | omega) | (apply mir_eq; assumption; (intro c h1 h2; simp (disch := omega) only [x_st_o])) | (apply mis_eq; assumption; (intro c h1 h2; simp (disch := omega) only [x_st_o])) | rfl) only [bk_159_0, bk_159_2, bk_159_3, wp_ald0, wr_0_9, wk_77, wp_ild1, wp_ist2, wr_0_2, wp_geti kd_20, wp_ist3, wp_ic, wp_ist4, wp_fall, wp_ild4, wp_icge, wr_33_2, wp_ild3, wl_35, wp_sbal, wp_ifeq, wr_20_0, wr_6_14, wl_14, wl_40, wp_cald, wp_ifle, wp_ild2, wp_imul, wp_iadd, wp_iushr, wp_irem, wk_75, wp_inc4, wp_goto, wp_ifne, wp_iret mz_159, wr_33_7, wp_puti kd_0, x_clr_I, x_clr_J, x_clr_R, x_clr_U, ct_some, ct_none, lc_lt, lc_ge, lc_gt, lc_le, lc_eq, lc_r, xI_inj, xJ_inj, Option.some.injEq, eq_self, bi_r, bi_0, bi_1, bi_n, Classical.not_not, and_true, true_and, ite_true, ite_false, ↓reduceIte, ↓x_andl, z_le, z_nle, z_lt, z_nlt, z_eq, z_neq, if_pos, if_neg, x_andl, false_and, and_false, or_true, true_or, or_false, false_or, not_true, not_false_iff, x_rd_eq, x_rd_ne, x_st_o, Int.cast_ofNat_Int, Int.ofNat_zero, Int.ofNat_one, not_true_eq_false, not_false_eq_true, if_true, if_false, ite_self, and_self, Int.ofNat_eq_natCast, Int.tdiv_eq_ediv_of_nonneg, Int.tmod_eq_emod_of_nonneg, x_bm32, z, mi_kids hM]
        exact hQ' _ _ ⟨⟨f0, f1⟩, Or.inr ⟨eV, rfl, rfl⟩⟩
  refine x_lpX (α := Int × Int) (fun i q => (0 ≤ q.2 ∧ q.2 < w 0) ∧ p_rn w (cV σ) (4 - i).toNat q.1 q.2 = p_rn w (cV σ) 4 seed (w 8)) (fun i q => x_Wp 999 159 (x_blk 159 1) [xR 0 0, xI seed, xI q.1, xI q.2, xI i] [] σ Q) (lo := 0) (hi := 4) (by omega) (a0 := (seed, w 8)) ⟨hn8, rfl⟩ ?_ ?_
  · intro i ⟨s, f⟩ i0 i1 ⟨⟨f0, f1⟩, j1⟩
    simp only at f0 f1 j1 ⊢
    rw [show (4 - i).toNat = (4 - (i + 1)).toNat + 1 by omega] at j1
    have j2 : (if ¬ cV σ f = -1 ∧ 0 < w_of w f 7 then p_rn w (cV σ) (4 - (i + 1)).toNat (s * 1103515245 + 12345) (p_dr w f (x_ushr (s * 1103515245 + 12345) 16 % 100)) else f) = p_rn w (cV σ) 4 seed (w 8) := j1
    by_cases c : ¬ cV σ f = -1 ∧ 0 < w_of w f 7
    · rw [if_pos c] at j2
      have ub := ushr_b (s := s * 1103515245 + 12345)
      obtain ⟨k, k0, k1, ke, _, _⟩ := dr_kid hw h100 f0 f1 c.2 (r := x_ushr (s * 1103515245 + 12345) 16 % 100) (by omega)
      have kk := wf_k hw f0 f1 k0 k1
      refine Or.inr ⟨(s * 1103515245 + 12345, p_dr w f (x_ushr (s * 1103515245 + 12345) 16 % 100)), ⟨⟨by rw [ke]; omega, by rw [ke]; omega⟩, j2⟩, ?_⟩
      intro H
      have cel := hc f f0 f1
      have o := wf_f hw f0 f1
      unfold wf_one at o
      have z : σ 35 0 f = 1 := by
        rcases cel.2.1 with z | z
        · exact absurd (if_neg (by omega)) c.1
        · exact z
      have cr := c.2
      have rr : 0 ≤ x_ushr (s * 1103515245 + 12345) 16 % 100 ∧ x_ushr (s * 1103515245 + 12345) 16 % 100 < 100 := by omega
      rw [bk_159_1]
      simp (disch := first | omega | (simp only [x_wtI, x_wtJ, x_wtR, x_wtN]; omega) | assumption | (simp (disch := omega) only [x_st_o, x_rd_ne]; first | assumption | omega) | (apply mir_eq; assumption; (intro c h1 h2; simp (disch := omega) only [x_st_o])) | (apply mis_eq; assumption; (intro c h1 h2; simp (disch := omega) only [x_st_o])) | rfl) only [bk_159_0, bk_159_2, bk_159_3, wp_ald0, wr_0_9, wk_77, wp_ild1, wp_ist2, wr_0_2, wp_geti kd_20, wp_ist3, wp_ic, wp_ist4, wp_fall, wp_ild4, wp_icge, wr_33_2, wp_ild3, wl_35, wp_sbal, wp_ifeq, wr_20_0, wr_6_14, wl_14, wl_40, wp_cald, wp_ifle, wp_ild2, wp_imul, wp_iadd, wp_iushr, wp_irem, wk_75, wp_inc4, wp_goto, wp_ifne, wp_iret mz_159, wr_33_7, wp_puti kd_0, x_clr_I, x_clr_J, x_clr_R, x_clr_U, ct_some, ct_none, lc_lt, lc_ge, lc_gt, lc_le, lc_eq, lc_r, xI_inj, xJ_inj, Option.some.injEq, eq_self, bi_r, bi_0, bi_1, bi_n, Classical.not_not, and_true, true_and, ite_true, ite_false, ↓reduceIte, ↓x_andl, z_le, z_nle, z_lt, z_nlt, z_eq, z_neq, if_pos, if_neg, x_andl, false_and, and_false, or_true, true_or, or_false, false_or, not_true, not_false_iff, x_rd_eq, x_rd_ne, x_st_o, Int.cast_ofNat_Int, Int.ofNat_zero, Int.ofNat_one, not_true_eq_false, not_false_eq_true, if_true, if_false, ite_self, and_self, Int.ofNat_eq_natCast, Int.tdiv_eq_ediv_of_nonneg, Int.tmod_eq_emod_of_nonneg, x_bm32, z, mi_kids hM, k_drawn]
      exact H
    · rw [if_neg c] at j2
      exact Or.inl (fin s f i f0 f1 j2.symm (Or.inl c) (by omega))
  · intro ⟨s, f⟩ ⟨⟨f0, f1⟩, j1⟩
    exact fin s f 4 f0 f1 j1.symm (Or.inr rfl) (by omega)
theorem h_runM {σ : x_S} {w V : Int → Int} {seed : Int} (h51 : σ 51 0 = w) (hw : wf w) (h100 : wf_100 w) (hn : wn w) (hV : ∀ f, 0 ≤ f → f < w 0 → σ 63 0 f = V f ∧ -1 ≤ V f ∧ V f < 42) (hb : ∀ f, 0 ≤ f → f < w 0 → ¬ V f = -1 → -1000000 ≤ σ 64 0 f ∧ σ 64 0 f ≤ 1000000) : x_Wp 999 265 (x_blk 265 1) [xR 50 0, xI seed, xI (w 8), xI seed, xU, xU, xU] [] σ (fun r σ' => (V (p_rn w V 4 seed (w 8)) = -1 ∧ r = some (xI (-5)) ∧ σ' = σ) ∨ (¬ V (p_rn w V 4 seed (w 8)) = -1 ∧ r = some (xI (p_rn w V 4 seed (w 8))) ∧ σ' = x_st σ 50 0 33 (σ 64 0 (p_rn w V 4 seed (w 8))))) := by
  have a := wf_h hw
  unfold wf_hdr at a
  have hn8 := hn.1
  refine w_gen (fun Q hQ => ?_)
  refine x_lpV (α := Nat × Int × Int × x_V × x_V × x_V) (fun q => (0 ≤ q.2.2.1 ∧ q.2.2.1 < w 0) ∧ 4 - (q.1 : Int) ≤ w_of w q.2.2.1 6 ∧ p_rn w V q.1 q.2.1 q.2.2.1 = p_rn w V 4 seed (w 8)) (fun q => x_Wp 999 265 (x_blk 265 1) [xR 50 0, xI seed, xI q.2.2.1, xI q.2.1, q.2.2.2.1, q.2.2.2.2.1, q.2.2.2.2.2] [] σ Q) (fun q => (q.1 : Int)) (a0 := (4, seed, w 8, xU, xU, xU)) ⟨hn8, ?_, rfl⟩ ?_
  · have o := wf_f hw hn8.1 hn8.2
    unfold wf_one at o
    show 4 - ((4 : Nat) : Int) ≤ w_of w (w 8) 6
    omega
  · intro ⟨n, s, f, u1, u2, u3⟩ ⟨⟨f0, f1⟩, j1, j2⟩
    simp only at f0 f1 j1 j2 ⊢
    have o := wf_f hw f0 f1
    unfold wf_one at o
    have v := hV f f0 f1
    have v1 := v.1
    by_cases c : ¬ V f = -1 ∧ 0 < w_of w f 7
    · have np : n ≠ 0 := by
        intro z
        have kk := wf_k hw (i := 0) f0 f1 (by omega) c.2
        have ok := wf_f hw (f := w_of w f (8 + 0)) (by omega) (by omega)
        unfold wf_one at ok
        omega
      obtain ⟨m, rfl⟩ : ∃ m, n = m + 1 := ⟨n - 1, by omega⟩
      have j3 : (if ¬ V f = -1 ∧ 0 < w_of w f 7 then p_rn w V m (s * 1103515245 + 12345) (p_dr w f (x_ushr (s * 1103515245 + 12345) 16 % 100)) else f) = p_rn w V 4 seed (w 8) := j2
      rw [if_pos c] at j3
      have ub := ushr_b (s := s * 1103515245 + 12345)
      obtain ⟨k, k0, k1, ke, ks1, ks2⟩ := dr_kid hw h100 f0 f1 c.2 (r := x_ushr (s * 1103515245 + 12345) 16 % 100) (by omega)
      have kk := wf_k hw f0 f1 k0 k1
      generalize hr : x_ushr (s * 1103515245 + 12345) 16 % 100 = r at *
      have hd : 0 ≤ p_dr w f r ∧ p_dr w f r < w 0 := by rw [ke]; omega
      refine Or.inr ⟨by omega, (m, s * 1103515245 + 12345, p_dr w f r, xI r, xI k, xI (w_sum w f (k + 1).toNat)), ⟨hd, ?_, j3⟩, by (show (m : Int) < ((m + 1 : Nat) : Int); omega), ?_⟩
      · show 4 - (m : Int) ≤ w_of w (p_dr w f r) 6
        rw [ke]
        omega
      · intro H
        simp only at H
        have cr := c.2
        have k00 := wf_k hw (i := 0) f0 f1 (by omega) cr
        rw [Int.add_zero] at k00
        rw [bk_265_1]
        simp (disch := first | omega | (simp only [x_wtI, x_wtJ, x_wtR, x_wtN]; omega) | assumption | (simp (disch := omega) only [x_st_o, x_rd_ne]; first | assumption | omega) | (apply mir_eq; assumption; (intro c h1 h2; simp (disch := omega) only [x_st_o])) | (apply mis_eq; assumption; (intro c h1 h2; simp (disch := omega) only [x_st_o])) | rfl) only [bk_265_0, bk_265_3, bk_265_4, bk_265_5, wp_ald0, wk_222, wr_50_1, wp_ic, wl_51, wl_63, wp_cald, wp_ist2, wp_ild1, wp_ist3, wp_fall, wr_50_26, wp_ild2, wp_iceq, wk_192, wp_ifle, wp_ild3, wp_imul, wp_iadd, wp_iushr, wp_irem, wp_ist4, wp_ist5, wp_ist6, wp_ild4, wp_ild6, wp_iclt, wp_inc5, wp_ild5, wp_goto, wp_icne, wp_iret mz_265, wr_50_27, wl_64, wp_pald, wp_l2i, wp_puti kd_50, x_clr_I, x_clr_J, x_clr_R, x_clr_U, ct_some, ct_none, lc_lt, lc_ge, lc_gt, lc_le, lc_eq, lc_r, xI_inj, xJ_inj, Option.some.injEq, eq_self, bi_r, bi_0, bi_1, bi_n, Classical.not_not, and_true, true_and, ite_true, ite_false, ↓reduceIte, ↓x_andl, z_le, z_nle, z_lt, z_nlt, z_eq, z_neq, if_pos, if_neg, x_andl, false_and, and_false, or_true, true_or, or_false, false_or, not_true, not_false_iff, x_rd_eq, x_rd_ne, x_st_o, Int.cast_ofNat_Int, Int.ofNat_zero, Int.ofNat_one, not_true_eq_false, not_false_eq_true, if_true, if_false, ite_self, and_self, Int.ofNat_eq_natCast, Int.tdiv_eq_ediv_of_nonneg, Int.tmod_eq_emod_of_nonneg, x_bm32, h51, k_of, v1, hr]
        have s1 : w_of w (w_of w f 8) 1 = w_sum w f (0 + 1 : Int).toNat := by
          rw [wsum_s (Int.le_refl 0), Int.add_zero]
          show _ = 0 + _
          omega
        rw [s1]
        refine x_lpX (fun (i : Int) (_ : Unit) => w_sum w f i.toNat ≤ r) (fun (i : Int) (_ : Unit) => x_Wp 999 265 (x_blk 265 2) [xR 50 0, xI seed, xI f, xI (s * 1103515245 + 12345), xI r, xI i, xI (w_sum w f (i + 1).toNat)] [] σ Q) (lo := 0) (hi := k) k0 (a0 := ()) ?_ ?_ ?_
        · show w_sum w f (0 : Int).toNat ≤ r
          have : w_sum w f (0 : Int).toNat = 0 := rfl
          omega
        · intro i _ i0 i1 hJ
          refine Or.inr ⟨(), ?_, ?_⟩
          · have := sum_le hw f0 f1 (m := (i + 1).toNat) (n := k.toNat) (by omega) (by omega)
            omega
          · intro H2
            have sl := sum_le hw f0 f1 (m := (i + 1).toNat) (n := k.toNat) (by omega) (by omega)
            have sb := sum_100 hw h100 f0 f1 (n := (i + 1).toNat) (by omega)
            have kk2 := wf_k hw (i := i + 1) f0 f1 (by omega) (by omega)
            rw [wsum_s (i := i + 1) (by omega)] at H2
            rw [bk_265_2]
            simp (disch := first | omega | (simp only [x_wtI, x_wtJ, x_wtR, x_wtN]; omega) | assumption | (simp (disch := omega) only [x_st_o, x_rd_ne]; first | assumption | omega) | (apply mir_eq; assumption; (intro c h1 h2; simp (disch := omega) only [x_st_o])) | (apply mis_eq; assumption; (intro c h1 h2; simp (disch := omega) only [x_st_o])) | rfl) only [bk_265_0, bk_265_3, bk_265_4, bk_265_5, wp_ald0, wk_222, wr_50_1, wp_ic, wl_51, wl_63, wp_cald, wp_ist2, wp_ild1, wp_ist3, wp_fall, wr_50_26, wp_ild2, wp_iceq, wk_192, wp_ifle, wp_ild3, wp_imul, wp_iadd, wp_iushr, wp_irem, wp_ist4, wp_ist5, wp_ist6, wp_ild4, wp_ild6, wp_iclt, wp_inc5, wp_ild5, wp_goto, wp_icne, wp_iret mz_265, wr_50_27, wl_64, wp_pald, wp_l2i, wp_puti kd_50, x_clr_I, x_clr_J, x_clr_R, x_clr_U, ct_some, ct_none, lc_lt, lc_ge, lc_gt, lc_le, lc_eq, lc_r, xI_inj, xJ_inj, Option.some.injEq, eq_self, bi_r, bi_0, bi_1, bi_n, Classical.not_not, and_true, true_and, ite_true, ite_false, ↓reduceIte, ↓x_andl, z_le, z_nle, z_lt, z_nlt, z_eq, z_neq, if_pos, if_neg, x_andl, false_and, and_false, or_true, true_or, or_false, false_or, not_true, not_false_iff, x_rd_eq, x_rd_ne, x_st_o, Int.cast_ofNat_Int, Int.ofNat_zero, Int.ofNat_one, not_true_eq_false, not_false_eq_true, if_true, if_false, ite_self, and_self, Int.ofNat_eq_natCast, Int.tdiv_eq_ediv_of_nonneg, Int.tmod_eq_emod_of_nonneg, x_bm32, h51, k_of]
            exact H2
        · intro _ hJ
          have sb := sum_100 hw h100 f0 f1 (n := (k + 1).toNat) (by omega)
          rw [bk_265_2]
          simp (disch := first | omega | (simp only [x_wtI, x_wtJ, x_wtR, x_wtN]; omega) | assumption | (simp (disch := omega) only [x_st_o, x_rd_ne]; first | assumption | omega) | (apply mir_eq; assumption; (intro c h1 h2; simp (disch := omega) only [x_st_o])) | (apply mis_eq; assumption; (intro c h1 h2; simp (disch := omega) only [x_st_o])) | rfl) only [bk_265_0, bk_265_3, bk_265_4, bk_265_5, wp_ald0, wk_222, wr_50_1, wp_ic, wl_51, wl_63, wp_cald, wp_ist2, wp_ild1, wp_ist3, wp_fall, wr_50_26, wp_ild2, wp_iceq, wk_192, wp_ifle, wp_ild3, wp_imul, wp_iadd, wp_iushr, wp_irem, wp_ist4, wp_ist5, wp_ist6, wp_ild4, wp_ild6, wp_iclt, wp_inc5, wp_ild5, wp_goto, wp_icne, wp_iret mz_265, wr_50_27, wl_64, wp_pald, wp_l2i, wp_puti kd_50, x_clr_I, x_clr_J, x_clr_R, x_clr_U, ct_some, ct_none, lc_lt, lc_ge, lc_gt, lc_le, lc_eq, lc_r, xI_inj, xJ_inj, Option.some.injEq, eq_self, bi_r, bi_0, bi_1, bi_n, Classical.not_not, and_true, true_and, ite_true, ite_false, ↓reduceIte, ↓x_andl, z_le, z_nle, z_lt, z_nlt, z_eq, z_neq, if_pos, if_neg, x_andl, false_and, and_false, or_true, true_or, or_false, false_or, not_true, not_false_iff, x_rd_eq, x_rd_ne, x_st_o, Int.cast_ofNat_Int, Int.ofNat_zero, Int.ofNat_one, not_true_eq_false, not_false_eq_true, if_true, if_false, ite_self, and_self, Int.ofNat_eq_natCast, Int.tdiv_eq_ediv_of_nonneg, Int.tmod_eq_emod_of_nonneg, x_bm32, h51, k_of]
          rw [← ke]
          exact H
    · have e : f = p_rn w V 4 seed (w 8) := by
        rw [← j2]
        cases n with
        | zero => rfl
        | succ n => exact (if_neg c).symm
      refine Or.inl ?_
      have hQ' := hQ
      rw [← e] at hQ'
      rw [bk_265_1]
      by_cases c1 : V f = -1
      · simp (disch := first | omega | (simp only [x_wtI, x_wtJ, x_wtR, x_wtN]; omega) | assumption | (simp (disch := omega) only [x_st_o, x_rd_ne]; first | assumption | omega) | (apply mir_eq; assumption; (intro c h1 h2; simp (disch := omega) only [x_st_o])) | (apply mis_eq; assumption; (intro c h1 h2; simp (disch := omega) only [x_st_o])) | rfl) only [bk_265_0, bk_265_3, bk_265_4, bk_265_5, wp_ald0, wk_222, wr_50_1, wp_ic, wl_51, wl_63, wp_cald, wp_ist2, wp_ild1, wp_ist3, wp_fall, wr_50_26, wp_ild2, wp_iceq, wk_192, wp_ifle, wp_ild3, wp_imul, wp_iadd, wp_iushr, wp_irem, wp_ist4, wp_ist5, wp_ist6, wp_ild4, wp_ild6, wp_iclt, wp_inc5, wp_ild5, wp_goto, wp_icne, wp_iret mz_265, wr_50_27, wl_64, wp_pald, wp_l2i, wp_puti kd_50, x_clr_I, x_clr_J, x_clr_R, x_clr_U, ct_some, ct_none, lc_lt, lc_ge, lc_gt, lc_le, lc_eq, lc_r, xI_inj, xJ_inj, Option.some.injEq, eq_self, bi_r, bi_0, bi_1, bi_n, Classical.not_not, and_true, true_and, ite_true, ite_false, ↓reduceIte, ↓x_andl, z_le, z_nle, z_lt, z_nlt, z_eq, z_neq, if_pos, if_neg, x_andl, false_and, and_false, or_true, true_or, or_false, false_or, not_true, not_false_iff, x_rd_eq, x_rd_ne, x_st_o, Int.cast_ofNat_Int, Int.ofNat_zero, Int.ofNat_one, not_true_eq_false, not_false_eq_true, if_true, if_false, ite_self, and_self, Int.ofNat_eq_natCast, Int.tdiv_eq_ediv_of_nonneg, Int.tmod_eq_emod_of_nonneg, x_bm32, h51, k_of, v1, c1]
        exact hQ' _ _ (Or.inl ⟨c1, rfl, rfl⟩)
      · have c2 : ¬ 0 < w_of w f 7 := fun z => c ⟨c1, z⟩
        have bb := hb f f0 f1 c1
        simp (disch := first | omega | (simp only [x_wtI, x_wtJ, x_wtR, x_wtN]; omega) | assumption | (simp (disch := omega) only [x_st_o, x_rd_ne]; first | assumption | omega) | (apply mir_eq; assumption; (intro c h1 h2; simp (disch := omega) only [x_st_o])) | (apply mis_eq; assumption; (intro c h1 h2; simp (disch := omega) only [x_st_o])) | rfl) only [bk_265_0, bk_265_3, bk_265_4, bk_265_5, wp_ald0, wk_222, wr_50_1, wp_ic, wl_51, wl_63, wp_cald, wp_ist2, wp_ild1, wp_ist3, wp_fall, wr_50_26, wp_ild2, wp_iceq, wk_192, wp_ifle, wp_ild3, wp_imul, wp_iadd, wp_iushr, wp_irem, wp_ist4, wp_ist5, wp_ist6, wp_ild4, wp_ild6, wp_iclt, wp_inc5, wp_ild5, wp_goto, wp_icne, wp_iret mz_265, wr_50_27, wl_64, wp_pald, wp_l2i, wp_puti kd_50, x_clr_I, x_clr_J, x_clr_R, x_clr_U, ct_some, ct_none, lc_lt, lc_ge, lc_gt, lc_le, lc_eq, lc_r, xI_inj, xJ_inj, Option.some.injEq, eq_self, bi_r, bi_0, bi_1, bi_n, Classical.not_not, and_true, true_and, ite_true, ite_false, ↓reduceIte, ↓x_andl, z_le, z_nle, z_lt, z_nlt, z_eq, z_neq, if_pos, if_neg, x_andl, false_and, and_false, or_true, true_or, or_false, false_or, not_true, not_false_iff, x_rd_eq, x_rd_ne, x_st_o, Int.cast_ofNat_Int, Int.ofNat_zero, Int.ofNat_one, not_true_eq_false, not_false_eq_true, if_true, if_false, ite_self, and_self, Int.ofNat_eq_natCast, Int.tdiv_eq_ediv_of_nonneg, Int.tmod_eq_emod_of_nonneg, x_bm32, h51, k_of, v1]
        exact hQ' _ _ (Or.inr ⟨c1, rfl, rfl⟩)
theorem o_run : x_o44 (iN L S0) := by
  intro σ hh seed hs
  refine ag_I ?_
  obtain ⟨w, h51, hw, h100, hn, hq, hM, hS⟩ := iN_w hh
  have hE := hh.2.2.2.1.1
  have a := wf_h hw
  unfold wf_hdr at a
  simp (disch := first | omega | (simp only [x_wtI, x_wtJ, x_wtR, x_wtN]; omega) | assumption | (simp (disch := omega) only [x_st_o, x_rd_ne]; first | assumption | omega) | (apply mir_eq; assumption; (intro c h1 h2; simp (disch := omega) only [x_st_o])) | (apply mis_eq; assumption; (intro c h1 h2; simp (disch := omega) only [x_st_o])) | rfl) only [sp_159, bk_159_0, bk_159_2, bk_159_3, wp_ald0, wr_0_9, wk_77, wp_ild1, wp_ist2, wr_0_2, wp_geti kd_20, wp_ist3, wp_ic, wp_ist4, wp_fall, wp_ild4, wp_icge, wr_33_2, wp_ild3, wl_35, wp_sbal, wp_ifeq, wr_20_0, wr_6_14, wl_14, wl_40, wp_cald, wp_ifle, wp_ild2, wp_imul, wp_iadd, wp_iushr, wp_irem, wk_75, wp_inc4, wp_goto, wp_ifne, wp_iret mz_159, wr_33_7, wp_puti kd_0, x_clr_I, x_clr_J, x_clr_R, x_clr_U, ct_some, ct_none, lc_lt, lc_ge, lc_gt, lc_le, lc_eq, lc_r, xI_inj, xJ_inj, Option.some.injEq, eq_self, bi_r, bi_0, bi_1, bi_n, Classical.not_not, and_true, true_and, ite_true, ite_false, ↓reduceIte, ↓x_andl, z_le, z_nle, z_lt, z_nlt, z_eq, z_neq, if_pos, if_neg, x_andl, false_and, and_false, or_true, true_or, or_false, false_or, not_true, not_false_iff, x_rd_eq, x_rd_ne, x_st_o, Int.cast_ofNat_Int, Int.ofNat_zero, Int.ofNat_one, not_true_eq_false, not_false_eq_true, if_true, if_false, ite_self, and_self, Int.ofNat_eq_natCast, Int.tdiv_eq_ediv_of_nonneg, Int.tmod_eq_emod_of_nonneg, x_bm32]
  refine x_use (d := 994) (h_follow hM hS hw h100 hn hq) ?_
  rintro r σ1 ⟨rfl, e1, f1⟩
  have g51 : σ1 51 0 = w := (e1 51 0 (by decide)).trans h51
  have gE : σ1 50 0 17 = 5 := by rw [e1 50 0 (by decide)]; exact hE
  have hM1 : mir σ1 1 w := mir_eq hM (fun c q1 q2 => e1 c 1 (by simp))
  have hS1 : mis σ1 1 w := mis_eq hS (fun c q1 q2 => e1 c 1 (by simp))
  simp (disch := first | omega | (simp only [x_wtI, x_wtJ, x_wtR, x_wtN]; omega) | assumption | (simp (disch := omega) only [x_st_o, x_rd_ne]; first | assumption | omega) | (apply mir_eq; assumption; (intro c h1 h2; simp (disch := omega) only [x_st_o])) | (apply mis_eq; assumption; (intro c h1 h2; simp (disch := omega) only [x_st_o])) | rfl) only [bk_159_0, bk_159_2, bk_159_3, wp_ald0, wr_0_9, wk_77, wp_ild1, wp_ist2, wr_0_2, wp_geti kd_20, wp_ist3, wp_ic, wp_ist4, wp_fall, wp_ild4, wp_icge, wr_33_2, wp_ild3, wl_35, wp_sbal, wp_ifeq, wr_20_0, wr_6_14, wl_14, wl_40, wp_cald, wp_ifle, wp_ild2, wp_imul, wp_iadd, wp_iushr, wp_irem, wk_75, wp_inc4, wp_goto, wp_ifne, wp_iret mz_159, wr_33_7, wp_puti kd_0, x_clr_I, x_clr_J, x_clr_R, x_clr_U, ct_some, ct_none, lc_lt, lc_ge, lc_gt, lc_le, lc_eq, lc_r, xI_inj, xJ_inj, Option.some.injEq, eq_self, bi_r, bi_0, bi_1, bi_n, Classical.not_not, and_true, true_and, ite_true, ite_false, ↓reduceIte, ↓x_andl, z_le, z_nle, z_lt, z_nlt, z_eq, z_neq, if_pos, if_neg, x_andl, false_and, and_false, or_true, true_or, or_false, false_or, not_true, not_false_iff, x_rd_eq, x_rd_ne, x_st_o, Int.cast_ofNat_Int, Int.ofNat_zero, Int.ofNat_one, not_true_eq_false, not_false_eq_true, if_true, if_false, ite_self, and_self, Int.ofNat_eq_natCast, Int.tdiv_eq_ediv_of_nonneg, Int.tmod_eq_emod_of_nonneg, x_bm32, ms_fork hS1]
  refine x_mono (h_runC (seed := seed) hM1 hS1 hw h100 hn f1.1) ?_
  rintro r σ2 ⟨rg, hr⟩
  have wb := wk_b hw hn hq (Int.le_refl _) f1.2.1
  have model : ∀ σ2 : x_S, (∀ c j, ¬ (c = 0) → σ2 c j = σ1 c j) → x_Sp 999 265 [xR 50 0, xI seed] σ2 (fun r σ' => ∃ σ3, x_eqo [(62, 0), (63, 0), (64, 0)] σ2 σ3 ∧ ((cV σ1 (p_rn w (cV σ1) 4 seed (w 8)) = -1 ∧ r = some (xI (-5)) ∧ σ' = σ3) ∨ (¬ cV σ1 (p_rn w (cV σ1) 4 seed (w 8)) = -1 ∧ r = some (xI (p_rn w (cV σ1) 4 seed (w 8))) ∧ σ' = x_st σ3 50 0 33 (σ1 40 0 (p_rn w (cV σ1) 4 seed (w 8)))))) := by
    intro σ2 eo
    refine x_gen (fun Q hQ => ?_)
    simp (disch := first | omega | (simp only [x_wtI, x_wtJ, x_wtR, x_wtN]; omega) | assumption | (simp (disch := omega) only [x_st_o, x_rd_ne]; first | assumption | omega) | (apply mir_eq; assumption; (intro c h1 h2; simp (disch := omega) only [x_st_o])) | (apply mis_eq; assumption; (intro c h1 h2; simp (disch := omega) only [x_st_o])) | rfl) only [sp_265, bk_265_0, bk_265_3, bk_265_4, bk_265_5, wp_ald0, wk_222, wr_50_1, wp_ic, wl_51, wl_63, wp_cald, wp_ist2, wp_ild1, wp_ist3, wp_fall, wr_50_26, wp_ild2, wp_iceq, wk_192, wp_ifle, wp_ild3, wp_imul, wp_iadd, wp_iushr, wp_irem, wp_ist4, wp_ist5, wp_ist6, wp_ild4, wp_ild6, wp_iclt, wp_inc5, wp_ild5, wp_goto, wp_icne, wp_iret mz_265, wr_50_27, wl_64, wp_pald, wp_l2i, wp_puti kd_50, x_clr_I, x_clr_J, x_clr_R, x_clr_U, ct_some, ct_none, lc_lt, lc_ge, lc_gt, lc_le, lc_eq, lc_r, xI_inj, xJ_inj, Option.some.injEq, eq_self, bi_r, bi_0, bi_1, bi_n, Classical.not_not, and_true, true_and, ite_true, ite_false, ↓reduceIte, ↓x_andl, z_le, z_nle, z_lt, z_nlt, z_eq, z_neq, if_pos, if_neg, x_andl, false_and, and_false, or_true, true_or, or_false, false_or, not_true, not_false_iff, x_rd_eq, x_rd_ne, x_st_o, Int.cast_ofNat_Int, Int.ofNat_zero, Int.ofNat_one, not_true_eq_false, not_false_eq_true, if_true, if_false, ite_self, and_self, Int.ofNat_eq_natCast, Int.tdiv_eq_ediv_of_nonneg, Int.tmod_eq_emod_of_nonneg, x_bm32]
    refine x_use (d := 994) (h_goes (by rw [eo 51 0 (by omega)]; exact g51) (by rw [eo 50 0 (by omega)]; exact gE) hw hn hq) ?_
    rintro r σ3 ⟨rfl, e3, k3⟩
    have g3 : σ3 51 0 = w := (e3 51 0 (by decide)).trans ((eo 51 0 (by omega)).trans g51)
    simp (disch := first | omega | (simp only [x_wtI, x_wtJ, x_wtR, x_wtN]; omega) | assumption | (simp (disch := omega) only [x_st_o, x_rd_ne]; first | assumption | omega) | (apply mir_eq; assumption; (intro c h1 h2; simp (disch := omega) only [x_st_o])) | (apply mis_eq; assumption; (intro c h1 h2; simp (disch := omega) only [x_st_o])) | rfl) only [bk_265_0, bk_265_3, bk_265_4, bk_265_5, wp_ald0, wk_222, wr_50_1, wp_ic, wl_51, wl_63, wp_cald, wp_ist2, wp_ild1, wp_ist3, wp_fall, wr_50_26, wp_ild2, wp_iceq, wk_192, wp_ifle, wp_ild3, wp_imul, wp_iadd, wp_iushr, wp_irem, wp_ist4, wp_ist5, wp_ist6, wp_ild4, wp_ild6, wp_iclt, wp_inc5, wp_ild5, wp_goto, wp_icne, wp_iret mz_265, wr_50_27, wl_64, wp_pald, wp_l2i, wp_puti kd_50, x_clr_I, x_clr_J, x_clr_R, x_clr_U, ct_some, ct_none, lc_lt, lc_ge, lc_gt, lc_le, lc_eq, lc_r, xI_inj, xJ_inj, Option.some.injEq, eq_self, bi_r, bi_0, bi_1, bi_n, Classical.not_not, and_true, true_and, ite_true, ite_false, ↓reduceIte, ↓x_andl, z_le, z_nle, z_lt, z_nlt, z_eq, z_neq, if_pos, if_neg, x_andl, false_and, and_false, or_true, true_or, or_false, false_or, not_true, not_false_iff, x_rd_eq, x_rd_ne, x_st_o, Int.cast_ofNat_Int, Int.ofNat_zero, Int.ofNat_one, not_true_eq_false, not_false_eq_true, if_true, if_false, ite_self, and_self, Int.ofNat_eq_natCast, Int.tdiv_eq_ediv_of_nonneg, Int.tmod_eq_emod_of_nonneg, x_bm32, g3]
    have u := wk_uniq hw hn.1 (Int.le_refl _) f1.2.1 k3
    refine x_mono (h_runM (V := cV σ1) (seed := seed) g3 hw h100 hn (fun f f0 f1 => ⟨(u f f0 f1).2.1.symm, (wb f f0 f1).2.1⟩) (fun f f0 f1 hv => ?_)) ?_
    · have b := ((wb f f0 f1).2.2 hv).2.2
      have o := wf_f hw f0 f1
      unfold wf_one at o
      rw [← (u f f0 f1).2.2 hv]
      omega
    · intro r σ' h
      refine hQ _ _ ⟨σ3, e3, ?_⟩
      rcases h with h | h
      · exact Or.inl h
      · rw [(u _ rg.1 rg.2).2.2 h.1]
        exact Or.inr h
  rcases hr with ⟨v1, rfl, rfl⟩ | ⟨v1, rfl, rfl⟩
  · refine ⟨-5, rfl, fun j i => by rw [e1 100 j (by simp)], ?_⟩
    refine x_mono (model σ2 (fun _ _ _ => rfl)) ?_
    rintro r σ' ⟨σ3, e3, h⟩
    rcases h with ⟨_, rfl, rfl⟩ | ⟨h, _⟩
    · exact ⟨rfl, iN_e hh (eqo_trans (eqo_mono (T := [(33, 0), (34, 0), (35, 0), (36, 0), (37, 0), (38, 0), (39, 0), (40, 0), (41, 0), (42, 0), (62, 0), (63, 0), (64, 0)]) (by simp) e1) (eqo_mono (by simp) e3)) (by decide)⟩
    · exact absurd v1 h
  · refine ⟨_, rfl, fun j i => by rw [x_st_o (by omega), e1 100 j (by simp)], ?_⟩
    refine x_mono (model _ (fun c j hc => x_st_o (by omega))) ?_
    rintro r σ' ⟨σ3, e3, h⟩
    rcases h with ⟨h, _⟩ | ⟨_, rfl, rfl⟩
    · exact absurd h v1
    · refine ⟨rfl, ?_⟩
      have hx : ∀ c j, (c, j) ∉ [(0, 0), (33, 0), (34, 0), (35, 0), (36, 0), (37, 0), (38, 0), (39, 0), (40, 0), (41, 0), (42, 0), (50, 0), (62, 0), (63, 0), (64, 0)] → (x_st σ3 50 0 33 (σ1 40 0 (p_rn w (cV σ1) 4 seed (w 8)))) c j = σ c j := by
        intro c j h
        have : x_eqo [(0, 0), (33, 0), (34, 0), (35, 0), (36, 0), (37, 0), (38, 0), (39, 0), (40, 0), (41, 0), (42, 0), (50, 0), (62, 0), (63, 0), (64, 0)] σ (x_st σ3 50 0 33 (σ1 40 0 (p_rn w (cV σ1) 4 seed (w 8)))) := eqo_st (by simp) (eqo_trans (eqo_mono (by simp) e1) (eqo_trans (eqo_st (by simp) eqo_refl) (eqo_mono (by simp) e3)))
        exact this c j h
      have h0 : ∀ k, ¬ k = 17 → (x_st σ3 50 0 33 (σ1 40 0 (p_rn w (cV σ1) 4 seed (w 8)))) 0 0 k = σ 0 0 k := by
        intro k hk
        rw [x_st_o (by omega), e3 0 0 (by decide), x_rd_ne (by omega), e1 0 0 (by decide)]
      have h50 : ∀ k, ¬ k = 33 → (x_st σ3 50 0 33 (σ1 40 0 (p_rn w (cV σ1) 4 seed (w 8)))) 50 0 k = σ 50 0 k := by
        intro k hk
        rw [x_rd_ne (by omega), e3 50 0 (by decide), x_st_o (by omega), e1 50 0 (by decide)]
      obtain ⟨hW, hT, hF, hMm, hSs, hR, hI, hX⟩ := hh
      have n51 := hx 51 0 (by decide)
      refine ⟨iW_eq hW n51 (fun c q1 q2 => hx c 1 (by simp)), iT_eq hT n51 (fun k q1 q2 => h0 k (by omega)) (hx 25 0 (by decide)) (hx 25 1 (by decide)) (hx 25 2 (by decide)) (hx 26 2 (by decide)) (hx 30 0 (by decide)) (hx 31 0 (by decide)), iF_eq hF (fun j k _ _ _ => by rw [hx 24 j (by simp)]), ?_, iS_eq hSs (fun c q => by rcases q with rfl | rfl | rfl | rfl | rfl | rfl <;> exact hx _ 0 (by decide)), iR_eq hR (hx 4 0 (by decide)) (hx 54 0 (by decide)) (fun k _ _ => by rw [hx 3 0 (by decide)]) (h50 5 (by omega)) (h50 12 (by omega)) (h50 13 (by omega)), iI_eq hI (hx 52 0 (by decide)) (hx 53 0 (by decide)) (fun c j q1 q2 q3 q4 => hx c j (by simp; omega)), iX_eq hX (fun j => hx 100 j (by simp))⟩
      refine ⟨(h50 17 (by omega)).trans hMm.1, (h50 18 (by omega)).trans hMm.2.1, (h50 19 (by omega)).trans hMm.2.2.1, ?_⟩
      rw [x_rd_eq, x_st_o (by omega), e3 0 0 (by decide), x_rd_eq]
end O12

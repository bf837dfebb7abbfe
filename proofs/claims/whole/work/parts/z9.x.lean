/-! tokens of a text -/
def ckd (c : Int) : Int := if 97 ≤ c ∧ c ≤ 122 then 1 else if 48 ≤ c ∧ c ≤ 57 then 2 else if c = 32 ∨ c = 10 then 5 else if c = 59 then 3 else 4
theorem ckd_b {c : Int} : 1 ≤ ckd c ∧ ckd c ≤ 5 := by
  unfold ckd
  split
  · omega
  · split
    · omega
    · split
      · omega
      · split <;> omega
def skp (b : Int → Int) : Nat → Int → Int
  | 0, p => p
  | m + 1, p => if ckd (b p) = 5 then skp b m (p + 1) else p
def rnp (b : Int → Int) (k : Int) : Nat → Int → Int
  | 0, p => p
  | m + 1, p => if ckd (b p) = k then rnp b k m (p + 1) else p
def tF (b : Int → Int) (n p : Int) : Int := skp b (n - p).toNat p
def tK (b : Int → Int) (n p : Int) : Int := if tF b n p < n then ckd (b (tF b n p)) else 0
def tA (b : Int → Int) (n p : Int) : Int := if tF b n p < n then (if tK b n p = 1 ∨ tK b n p = 2 then rnp b (tK b n p) (n - (tF b n p + 1)).toNat (tF b n p + 1) else tF b n p + 1) else tF b n p
section TK
variable {b : Int → Int}
theorem skp_b : ∀ (m : Nat) (p : Int), p ≤ skp b m p ∧ skp b m p ≤ p + m ∧ (skp b m p < p + m → ¬ ckd (b (skp b m p)) = 5) := by
  intro m
  induction m with
  | zero => intro p; exact ⟨Int.le_refl _, by (show p ≤ p + ((0 : Nat) : Int); omega), fun h => by (have : p < p + ((0 : Nat) : Int) := h; omega)⟩
  | succ m ih =>
    intro p
    show p ≤ (if ckd (b p) = 5 then skp b m (p + 1) else p) ∧ (if ckd (b p) = 5 then skp b m (p + 1) else p) ≤ p + ((m + 1 : Nat) : Int) ∧ ((if ckd (b p) = 5 then skp b m (p + 1) else p) < p + ((m + 1 : Nat) : Int) → ¬ ckd (b (if ckd (b p) = 5 then skp b m (p + 1) else p)) = 5)
    by_cases c : ckd (b p) = 5
    · rw [if_pos c]
      have := ih (p + 1)
      exact ⟨by omega, by omega, fun h => this.2.2 (by omega)⟩
    · rw [if_neg c]
      exact ⟨Int.le_refl _, by omega, fun _ => c⟩
theorem rnp_b {k : Int} : ∀ (m : Nat) (p : Int), p ≤ rnp b k m p ∧ rnp b k m p ≤ p + m ∧ ∀ i, p ≤ i → i < rnp b k m p → ckd (b i) = k := by
  intro m
  induction m with
  | zero => intro p; exact ⟨Int.le_refl _, by (show p ≤ p + ((0 : Nat) : Int); omega), fun i a h => by (have : i < p := h; omega)⟩
  | succ m ih =>
    intro p
    show p ≤ (if ckd (b p) = k then rnp b k m (p + 1) else p) ∧ (if ckd (b p) = k then rnp b k m (p + 1) else p) ≤ p + ((m + 1 : Nat) : Int) ∧ ∀ i, p ≤ i → i < (if ckd (b p) = k then rnp b k m (p + 1) else p) → ckd (b i) = k
    by_cases c : ckd (b p) = k
    · rw [if_pos c]
      have := ih (p + 1)
      refine ⟨by omega, by omega, fun i a h => ?_⟩
      by_cases z : i = p
      · rw [z]
        exact c
      · exact this.2.2 i (by omega) h
    · rw [if_neg c]
      exact ⟨Int.le_refl _, by omega, fun i a h => by omega⟩
theorem tF_b {n p : Int} (h : p ≤ n) : p ≤ tF b n p ∧ tF b n p ≤ n := by
  have := skp_b (b := b) (n - p).toNat p
  unfold tF
  omega
theorem tK_b {n p : Int} (h : p ≤ n) : 0 ≤ tK b n p ∧ tK b n p ≤ 4 ∧ (tK b n p = 0 ↔ tF b n p = n) := by
  have s := skp_b (b := b) (n - p).toNat p
  have f := tF_b (b := b) h
  have e : skp b (n - p).toNat p = tF b n p := rfl
  rw [e] at s
  unfold tK
  by_cases c : tF b n p < n
  · rw [if_pos c]
    have k := ckd_b (c := b (tF b n p))
    have := s.2.2 (by omega)
    omega
  · rw [if_neg c]
    omega
theorem tA_b {n p : Int} (h : p ≤ n) : tF b n p ≤ tA b n p ∧ tA b n p ≤ n ∧ (tF b n p < n → tF b n p < tA b n p) ∧ ((tK b n p = 1 ∨ tK b n p = 2) → ∀ i, tF b n p ≤ i → i < tA b n p → ckd (b i) = tK b n p) := by
  have f := tF_b (b := b) h
  unfold tA
  by_cases c : tF b n p < n
  · rw [if_pos c]
    by_cases c2 : tK b n p = 1 ∨ tK b n p = 2
    · rw [if_pos c2]
      have r := rnp_b (b := b) (k := tK b n p) (n - (tF b n p + 1)).toNat (tF b n p + 1)
      refine ⟨by omega, by omega, fun _ => by omega, fun _ i i0 i1 => ?_⟩
      by_cases z : i = tF b n p
      · rw [z]
        have e : tK b n p = ckd (b (tF b n p)) := if_pos c
        exact e.symm
      · exact r.2.2 i (by omega) i1
    · rw [if_neg c2]
      exact ⟨by omega, by omega, fun _ => by omega, fun z => absurd z c2⟩
  · rw [if_neg c]
    refine ⟨by omega, by omega, fun z => absurd z c, fun z => ?_⟩
    have e : tK b n p = 0 := if_neg c
    omega
end TK
/-! numbers, which stay where they are too great -/
def nvl (cap : Int) (b : Int → Int) : Nat → Int → Int → Int
  | 0, _, a => a
  | m + 1, p, a => nvl cap b m (p + 1) (min cap (a * 10 + (b p - 48)))
def nv (cap : Int) (b : Int → Int) (f a : Int) : Int := nvl cap b (a - f).toNat f 0
theorem nvl_b {b : Int → Int} {cap : Int} (hc : 0 ≤ cap) : ∀ (m : Nat) (p a : Int), (0 ≤ a ∧ a ≤ cap) → (∀ i, p ≤ i → i < p + m → 48 ≤ b i ∧ b i ≤ 57) → 0 ≤ nvl cap b m p a ∧ nvl cap b m p a ≤ cap := by
  intro m
  induction m with
  | zero => intro p a ha _; exact ha
  | succ m ih =>
    intro p a ha hb
    have d := hb p (Int.le_refl _) (by omega)
    exact ih (p + 1) _ (by omega) (fun i i0 i1 => hb i (by omega) (by omega))
theorem nvl_2 {b : Int → Int} : ∀ (m : Nat) (p a a' : Int), (0 ≤ a' ∧ a = min 9999 a') → (∀ i, p ≤ i → i < p + m → 48 ≤ b i ∧ b i ≤ 57) → nvl 9999 b m p a = min 9999 (nvl 100000 b m p a') := by
  intro m
  induction m with
  | zero => intro p a a' h _; exact h.2
  | succ m ih =>
    intro p a a' h hb
    have d := hb p (Int.le_refl _) (by omega)
    exact ih (p + 1) _ _ (by omega) (fun i i0 i1 => hb i (by omega) (by omega))
theorem ckd_2 {c : Int} (h : ckd c = 2) : 48 ≤ c ∧ c ≤ 57 := by
  unfold ckd at h
  by_cases c1 : 97 ≤ c ∧ c ≤ 122
  · rw [if_pos c1] at h
    omega
  · rw [if_neg c1] at h
    by_cases c2 : 48 ≤ c ∧ c ≤ 57
    · exact c2
    · rw [if_neg c2] at h
      by_cases c3 : c = 32 ∨ c = 10
      · rw [if_pos c3] at h
        omega
      · rw [if_neg c3] at h
        by_cases c4 : c = 59
        · rw [if_pos c4] at h
          omega
        · rw [if_neg c4] at h
          omega
theorem dig {b : Int → Int} {n p : Int} (h : p ≤ n) (hk : tK b n p = 2) : ∀ i, tF b n p ≤ i → i < tA b n p → 48 ≤ b i ∧ b i ≤ 57 := fun i i0 i1 => ckd_2 ((tA_b h).2.2.2 (Or.inr hk) i i0 i1 |>.trans hk)
theorem nv_b {b : Int → Int} {n p cap : Int} (h : p ≤ n) (hk : tK b n p = 2) (hc : 0 ≤ cap) : 0 ≤ nv cap b (tF b n p) (tA b n p) ∧ nv cap b (tF b n p) (tA b n p) ≤ cap := by
  have t := tA_b (b := b) h
  exact nvl_b hc _ _ _ ⟨Int.le_refl 0, hc⟩ (fun i i0 i1 => dig h hk i i0 (by omega))
theorem nv_2 {b : Int → Int} {n p : Int} (h : p ≤ n) (hk : tK b n p = 2) : nv 9999 b (tF b n p) (tA b n p) = min 9999 (nv 100000 b (tF b n p) (tA b n p)) := by
  have t := tA_b (b := b) h
  exact nvl_2 _ _ _ _ ⟨Int.le_refl 0, by omega⟩ (fun i i0 i1 => dig h hk i i0 (by omega))
/-! words -/
def weq (b : Int → Int) : List Int → Int → Bool
  | [], _ => true
  | c :: s, f => decide (b f = c) && weq b s (f + 1)
theorem weq_iff {b : Int → Int} : ∀ (s : List Int) (f : Int), weq b s f = true ↔ ∀ i, 0 ≤ i → i < (s.length : Int) → b (f + i) = s.getD i.toNat 0 := by
  intro s
  induction s with
  | nil =>
    intro f
    refine ⟨fun _ i i0 i1 => ?_, fun _ => rfl⟩
    simp at i1
    omega
  | cons c s ih =>
    intro f
    have e : weq b (c :: s) f = (decide (b f = c) && weq b s (f + 1)) := rfl
    rw [e, Bool.and_eq_true, decide_eq_true_eq, ih]
    constructor
    · rintro ⟨h1, h2⟩ i i0 i1
      by_cases z : i = 0
      · rw [z, Int.add_zero]
        exact h1
      · have x := h2 (i - 1) (by omega) (by simp at i1; omega)
        rw [show f + 1 + (i - 1) = f + i by omega] at x
        rw [x, show i.toNat = (i - 1).toNat + 1 by omega]
        rfl
    · intro h
      refine ⟨?_, fun i i0 i1 => ?_⟩
      · have x := h 0 (Int.le_refl 0) (by simp)
        rw [Int.add_zero] at x
        exact x
      · have x := h (i + 1) (by omega) (by simp; omega)
        rw [show f + (i + 1) = f + 1 + i by omega, show (i + 1).toNat = i.toNat + 1 by omega] at x
        exact x
abbrev isW (b : Int → Int) (s : List Int) (f k a : Int) : Prop := k = 1 ∧ a - f = (s.length : Int) ∧ weq b s f = true
def xst (j : Nat) : List Int := x_strs.getD j []
/-! the class's reader -/
def rdB (σ : x_S) (b : Int → Int) (n : Int) : Prop := (0 ≤ n ∧ n ≤ 1800) ∧ σ 3 0 1 = n ∧ ∀ i, 0 ≤ i → i < n → σ 4 0 i = b i ∧ -128 ≤ b i ∧ b i < 128
def rkp (σ σ' : x_S) : Prop := x_eqo [(3, 0)] σ σ' ∧ ∀ k, ¬ (k = 2 ∨ k = 3 ∨ k = 6 ∨ k = 7 ∨ k = 8) → σ' 3 0 k = σ 3 0 k
theorem rkp_r {σ : x_S} : rkp σ σ := ⟨eqo_refl, fun _ _ => rfl⟩
theorem rkp_t {σ σ1 σ2 : x_S} (a : rkp σ σ1) (c : rkp σ1 σ2) : rkp σ σ2 := ⟨eqo_trans a.1 c.1, fun k hk => by rw [c.2 k hk]; exact a.2 k hk⟩
theorem rdB_k {σ σ' : x_S} {b : Int → Int} {n : Int} (h : rdB σ b n) (k : rkp σ σ') : rdB σ' b n := ⟨h.1, by rw [k.2 1 (by omega)]; exact h.2.1, fun i i0 i1 => by rw [k.1 4 0 (by simp)]; exact h.2.2 i i0 i1⟩
theorem k_kindOf {d : Nat} {σ : x_S} {Q : Option x_V → x_S → Prop} {c : Int} (h : -128 ≤ c ∧ c < 128) : x_Sp d 29 [xI c] σ Q ↔ Q (some (xI (ckd c))) σ := by
  refine x_sp_of ?_
  unfold ckd
  by_cases c1 : 97 ≤ c ∧ c ≤ 122
  · rw [if_pos c1]
    simp (disch := first | omega | (simp only [x_wtI, x_wtJ, x_wtR, x_wtN]; omega) | assumption | (simp (disch := omega) only [x_st_o, x_rd_ne]; first | assumption | omega) | (apply mir_eq; assumption; (intro c h1 h2; simp (disch := omega) only [x_st_o])) | (apply mis_eq; assumption; (intro c h1 h2; simp (disch := omega) only [x_st_o])) | rfl) only [sp_29, bk_29_0, bk_29_1, bk_29_2, bk_29_3, bk_29_4, bk_29_5, bk_29_6, wp_ild0, wp_ic, wp_iclt, wp_icgt, wp_iret mz_29, wp_iceq, wp_icne, wp_fall, wp_goto, x_clr_I, x_clr_J, x_clr_R, x_clr_U, ct_some, ct_none, lc_lt, lc_ge, lc_gt, lc_le, lc_eq, lc_r, xI_inj, xJ_inj, Option.some.injEq, eq_self, bi_r, bi_0, bi_1, bi_n, Classical.not_not, and_true, true_and, ite_true, ite_false, ↓reduceIte, ↓x_andl, z_le, z_nle, z_lt, z_nlt, z_eq, z_neq, if_pos, if_neg, x_andl, false_and, and_false, or_true, true_or, or_false, false_or, not_true, not_false_iff, x_rd_eq, x_rd_ne, x_st_o, Int.cast_ofNat_Int, Int.ofNat_zero, Int.ofNat_one, not_true_eq_false, not_false_eq_true, if_true, if_false, ite_self, and_self, Int.ofNat_eq_natCast, Int.tdiv_eq_ediv_of_nonneg, Int.tmod_eq_emod_of_nonneg, x_bm32]
  · rw [if_neg c1]
    by_cases c2 : 48 ≤ c ∧ c ≤ 57
    · rw [if_pos c2]
      simp (disch := first | omega | (simp only [x_wtI, x_wtJ, x_wtR, x_wtN]; omega) | assumption | (simp (disch := omega) only [x_st_o, x_rd_ne]; first | assumption | omega) | (apply mir_eq; assumption; (intro c h1 h2; simp (disch := omega) only [x_st_o])) | (apply mis_eq; assumption; (intro c h1 h2; simp (disch := omega) only [x_st_o])) | rfl) only [sp_29, bk_29_0, bk_29_1, bk_29_2, bk_29_3, bk_29_4, bk_29_5, bk_29_6, wp_ild0, wp_ic, wp_iclt, wp_icgt, wp_iret mz_29, wp_iceq, wp_icne, wp_fall, wp_goto, x_clr_I, x_clr_J, x_clr_R, x_clr_U, ct_some, ct_none, lc_lt, lc_ge, lc_gt, lc_le, lc_eq, lc_r, xI_inj, xJ_inj, Option.some.injEq, eq_self, bi_r, bi_0, bi_1, bi_n, Classical.not_not, and_true, true_and, ite_true, ite_false, ↓reduceIte, ↓x_andl, z_le, z_nle, z_lt, z_nlt, z_eq, z_neq, if_pos, if_neg, x_andl, false_and, and_false, or_true, true_or, or_false, false_or, not_true, not_false_iff, x_rd_eq, x_rd_ne, x_st_o, Int.cast_ofNat_Int, Int.ofNat_zero, Int.ofNat_one, not_true_eq_false, not_false_eq_true, if_true, if_false, ite_self, and_self, Int.ofNat_eq_natCast, Int.tdiv_eq_ediv_of_nonneg, Int.tmod_eq_emod_of_nonneg, x_bm32]
    · rw [if_neg c2]
      by_cases c3 : c = 32 ∨ c = 10
      · rw [if_pos c3]
        rcases c3 with c3 | c3
        · subst c3
          simp (disch := first | omega | (simp only [x_wtI, x_wtJ, x_wtR, x_wtN]; omega) | assumption | (simp (disch := omega) only [x_st_o, x_rd_ne]; first | assumption | omega) | (apply mir_eq; assumption; (intro c h1 h2; simp (disch := omega) only [x_st_o])) | (apply mis_eq; assumption; (intro c h1 h2; simp (disch := omega) only [x_st_o])) | rfl) only [sp_29, bk_29_0, bk_29_1, bk_29_2, bk_29_3, bk_29_4, bk_29_5, bk_29_6, wp_ild0, wp_ic, wp_iclt, wp_icgt, wp_iret mz_29, wp_iceq, wp_icne, wp_fall, wp_goto, x_clr_I, x_clr_J, x_clr_R, x_clr_U, ct_some, ct_none, lc_lt, lc_ge, lc_gt, lc_le, lc_eq, lc_r, xI_inj, xJ_inj, Option.some.injEq, eq_self, bi_r, bi_0, bi_1, bi_n, Classical.not_not, and_true, true_and, ite_true, ite_false, ↓reduceIte, ↓x_andl, z_le, z_nle, z_lt, z_nlt, z_eq, z_neq, if_pos, if_neg, x_andl, false_and, and_false, or_true, true_or, or_false, false_or, not_true, not_false_iff, x_rd_eq, x_rd_ne, x_st_o, Int.cast_ofNat_Int, Int.ofNat_zero, Int.ofNat_one, not_true_eq_false, not_false_eq_true, if_true, if_false, ite_self, and_self, Int.ofNat_eq_natCast, Int.tdiv_eq_ediv_of_nonneg, Int.tmod_eq_emod_of_nonneg, x_bm32]
        · subst c3
          simp (disch := first | omega | (simp only [x_wtI, x_wtJ, x_wtR, x_wtN]; omega) | assumption | (simp (disch := omega) only [x_st_o, x_rd_ne]; first | assumption | omega) | (apply mir_eq; assumption; (intro c h1 h2; simp (disch := omega) only [x_st_o])) | (apply mis_eq; assumption; (intro c h1 h2; simp (disch := omega) only [x_st_o])) | rfl) only [sp_29, bk_29_0, bk_29_1, bk_29_2, bk_29_3, bk_29_4, bk_29_5, bk_29_6, wp_ild0, wp_ic, wp_iclt, wp_icgt, wp_iret mz_29, wp_iceq, wp_icne, wp_fall, wp_goto, x_clr_I, x_clr_J, x_clr_R, x_clr_U, ct_some, ct_none, lc_lt, lc_ge, lc_gt, lc_le, lc_eq, lc_r, xI_inj, xJ_inj, Option.some.injEq, eq_self, bi_r, bi_0, bi_1, bi_n, Classical.not_not, and_true, true_and, ite_true, ite_false, ↓reduceIte, ↓x_andl, z_le, z_nle, z_lt, z_nlt, z_eq, z_neq, if_pos, if_neg, x_andl, false_and, and_false, or_true, true_or, or_false, false_or, not_true, not_false_iff, x_rd_eq, x_rd_ne, x_st_o, Int.cast_ofNat_Int, Int.ofNat_zero, Int.ofNat_one, not_true_eq_false, not_false_eq_true, if_true, if_false, ite_self, and_self, Int.ofNat_eq_natCast, Int.tdiv_eq_ediv_of_nonneg, Int.tmod_eq_emod_of_nonneg, x_bm32]
      · rw [if_neg c3]
        have c32 : ¬ c = 32 := fun z => c3 (Or.inl z)
        have c10 : ¬ c = 10 := fun z => c3 (Or.inr z)
        by_cases c4 : c = 59
        · rw [if_pos c4]
          subst c4
          simp (disch := first | omega | (simp only [x_wtI, x_wtJ, x_wtR, x_wtN]; omega) | assumption | (simp (disch := omega) only [x_st_o, x_rd_ne]; first | assumption | omega) | (apply mir_eq; assumption; (intro c h1 h2; simp (disch := omega) only [x_st_o])) | (apply mis_eq; assumption; (intro c h1 h2; simp (disch := omega) only [x_st_o])) | rfl) only [sp_29, bk_29_0, bk_29_1, bk_29_2, bk_29_3, bk_29_4, bk_29_5, bk_29_6, wp_ild0, wp_ic, wp_iclt, wp_icgt, wp_iret mz_29, wp_iceq, wp_icne, wp_fall, wp_goto, x_clr_I, x_clr_J, x_clr_R, x_clr_U, ct_some, ct_none, lc_lt, lc_ge, lc_gt, lc_le, lc_eq, lc_r, xI_inj, xJ_inj, Option.some.injEq, eq_self, bi_r, bi_0, bi_1, bi_n, Classical.not_not, and_true, true_and, ite_true, ite_false, ↓reduceIte, ↓x_andl, z_le, z_nle, z_lt, z_nlt, z_eq, z_neq, if_pos, if_neg, x_andl, false_and, and_false, or_true, true_or, or_false, false_or, not_true, not_false_iff, x_rd_eq, x_rd_ne, x_st_o, Int.cast_ofNat_Int, Int.ofNat_zero, Int.ofNat_one, not_true_eq_false, not_false_eq_true, if_true, if_false, ite_self, and_self, Int.ofNat_eq_natCast, Int.tdiv_eq_ediv_of_nonneg, Int.tmod_eq_emod_of_nonneg, x_bm32]
        · rw [if_neg c4]
          by_cases l : c < 97
          · by_cases l2 : c < 48
            · simp (disch := first | omega | (simp only [x_wtI, x_wtJ, x_wtR, x_wtN]; omega) | assumption | (simp (disch := omega) only [x_st_o, x_rd_ne]; first | assumption | omega) | (apply mir_eq; assumption; (intro c h1 h2; simp (disch := omega) only [x_st_o])) | (apply mis_eq; assumption; (intro c h1 h2; simp (disch := omega) only [x_st_o])) | rfl) only [sp_29, bk_29_0, bk_29_1, bk_29_2, bk_29_3, bk_29_4, bk_29_5, bk_29_6, wp_ild0, wp_ic, wp_iclt, wp_icgt, wp_iret mz_29, wp_iceq, wp_icne, wp_fall, wp_goto, x_clr_I, x_clr_J, x_clr_R, x_clr_U, ct_some, ct_none, lc_lt, lc_ge, lc_gt, lc_le, lc_eq, lc_r, xI_inj, xJ_inj, Option.some.injEq, eq_self, bi_r, bi_0, bi_1, bi_n, Classical.not_not, and_true, true_and, ite_true, ite_false, ↓reduceIte, ↓x_andl, z_le, z_nle, z_lt, z_nlt, z_eq, z_neq, if_pos, if_neg, x_andl, false_and, and_false, or_true, true_or, or_false, false_or, not_true, not_false_iff, x_rd_eq, x_rd_ne, x_st_o, Int.cast_ofNat_Int, Int.ofNat_zero, Int.ofNat_one, not_true_eq_false, not_false_eq_true, if_true, if_false, ite_self, and_self, Int.ofNat_eq_natCast, Int.tdiv_eq_ediv_of_nonneg, Int.tmod_eq_emod_of_nonneg, x_bm32]
            · simp (disch := first | omega | (simp only [x_wtI, x_wtJ, x_wtR, x_wtN]; omega) | assumption | (simp (disch := omega) only [x_st_o, x_rd_ne]; first | assumption | omega) | (apply mir_eq; assumption; (intro c h1 h2; simp (disch := omega) only [x_st_o])) | (apply mis_eq; assumption; (intro c h1 h2; simp (disch := omega) only [x_st_o])) | rfl) only [sp_29, bk_29_0, bk_29_1, bk_29_2, bk_29_3, bk_29_4, bk_29_5, bk_29_6, wp_ild0, wp_ic, wp_iclt, wp_icgt, wp_iret mz_29, wp_iceq, wp_icne, wp_fall, wp_goto, x_clr_I, x_clr_J, x_clr_R, x_clr_U, ct_some, ct_none, lc_lt, lc_ge, lc_gt, lc_le, lc_eq, lc_r, xI_inj, xJ_inj, Option.some.injEq, eq_self, bi_r, bi_0, bi_1, bi_n, Classical.not_not, and_true, true_and, ite_true, ite_false, ↓reduceIte, ↓x_andl, z_le, z_nle, z_lt, z_nlt, z_eq, z_neq, if_pos, if_neg, x_andl, false_and, and_false, or_true, true_or, or_false, false_or, not_true, not_false_iff, x_rd_eq, x_rd_ne, x_st_o, Int.cast_ofNat_Int, Int.ofNat_zero, Int.ofNat_one, not_true_eq_false, not_false_eq_true, if_true, if_false, ite_self, and_self, Int.ofNat_eq_natCast, Int.tdiv_eq_ediv_of_nonneg, Int.tmod_eq_emod_of_nonneg, x_bm32]
          · simp (disch := first | omega | (simp only [x_wtI, x_wtJ, x_wtR, x_wtN]; omega) | assumption | (simp (disch := omega) only [x_st_o, x_rd_ne]; first | assumption | omega) | (apply mir_eq; assumption; (intro c h1 h2; simp (disch := omega) only [x_st_o])) | (apply mis_eq; assumption; (intro c h1 h2; simp (disch := omega) only [x_st_o])) | rfl) only [sp_29, bk_29_0, bk_29_1, bk_29_2, bk_29_3, bk_29_4, bk_29_5, bk_29_6, wp_ild0, wp_ic, wp_iclt, wp_icgt, wp_iret mz_29, wp_iceq, wp_icne, wp_fall, wp_goto, x_clr_I, x_clr_J, x_clr_R, x_clr_U, ct_some, ct_none, lc_lt, lc_ge, lc_gt, lc_le, lc_eq, lc_r, xI_inj, xJ_inj, Option.some.injEq, eq_self, bi_r, bi_0, bi_1, bi_n, Classical.not_not, and_true, true_and, ite_true, ite_false, ↓reduceIte, ↓x_andl, z_le, z_nle, z_lt, z_nlt, z_eq, z_neq, if_pos, if_neg, x_andl, false_and, and_false, or_true, true_or, or_false, false_or, not_true, not_false_iff, x_rd_eq, x_rd_ne, x_st_o, Int.cast_ofNat_Int, Int.ofNat_zero, Int.ofNat_one, not_true_eq_false, not_false_eq_true, if_true, if_false, ite_self, and_self, Int.ofNat_eq_natCast, Int.tdiv_eq_ediv_of_nonneg, Int.tmod_eq_emod_of_nonneg, x_bm32]

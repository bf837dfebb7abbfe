def psP (b : Int → Int) (n : Int) (fr : Int → Int) (x : PS) : PS := if ¬ x.1 = 0 then x else if ¬ tK b n x.2.2 = 2 then (1, tF b n x.2.2, x.2.2) else if ¬ mayF fr (psV b n x) then (2, tF b n x.2.2, x.2.2) else (0, -1, tA b n x.2.2)
def frR (fr : Int → Int) (d0 d1 d2 d3 : Int) : Int → Int := w_up (w_up (w_up (w_up (w_up fr (16 + 2) d0) (16 + 3) d1) (16 + 4) d2) (16 + 5) d3) 0 1
def frF (fr : Int → Int) (u ch d0 d1 d2 d3 : Int) : Int → Int := w_up (w_up (w_up (w_up (w_up (w_up (w_up (w_up (w_up (w_up (w_up fr (16 + 13 * fr 0 + 2) d0) (16 + 13 * fr 0 + 3) d1) (16 + 13 * fr 0 + 4) d2) (16 + 13 * fr 0 + 5) d3) (16 + 13 * fr 0 + 0) u) (16 + 13 * fr 0 + 1) ch) (16 + 13 * fr 0 + 6) (w_of fr u 6 + 1)) (16 + 13 * fr 0 + 7) 0) (16 + 13 * u + 8 + w_of fr u 7) (fr 0)) (16 + 13 * u + 7) (w_of fr u 7 + 1)) 0 (fr 0 + 1)
abbrev wrd (b : Int → Int) (n A : Int) (j : Nat) : Prop := isW b (xst j) (tF b n A) (tK b n A) (tA b n A)
def fiv (k ix hi : Int) (j : Nat) : Prop := (k = 0 ∧ ix = 1 ∧ hi = 20 ∧ j = 0) ∨ (k = 1 ∧ ix = 2 ∧ hi = 20 ∧ j = 1) ∨ (k = 3 ∧ ix = 5 ∧ hi = 99 ∧ j = 4) ∨ (k = 4 ∧ ix = 6 ∧ hi = 99 ∧ j = 5)
def fivW (b : Int → Int) (n A : Int) (k : Int) : Prop := (k = 0 ∧ wrd b n A 0) ∨ (k = 1 ∧ wrd b n A 1) ∨ (k = 2 ∧ wrd b n A 2) ∨ (k = 3 ∧ wrd b n A 4) ∨ (k = 4 ∧ wrd b n A 5)
/-! one line, read from the token at A on -/
def LN (b : Int → Int) (n A : Int) (fr td wo : Int → Int) (x' : PS) (fr' td' wo' : Int → Int) : Prop :=
  (∃ c, x' = (c, tF b n A, tA b n A) ∧ ((c = 1 ∧ ((∃ k, fivW b n A k ∧ 0 < fr 0) ∨ (wrd b n A 11 ∧ fr 0 = 0) ∨ ((∀ k, ¬ fivW b n A k) ∧ ¬ wrd b n A 6 ∧ ¬ wrd b n A 11))) ∨ (c = 3 ∧ ((∃ k, fivW b n A k ∧ fr 0 = 0 ∧ td k = 1) ∨ (wrd b n A 6 ∧ 0 < fr 0) ∨ (wrd b n A 11 ∧ fr 0 = 40))))) ∨
  (∃ k ix hi j, fiv k ix hi j ∧ wrd b n A j ∧ fr 0 = 0 ∧ td k = 0 ∧ x' = psS b n (psN b n 0 hi (0, -1, tA b n A)) ∧ fr' = w_up fr ix (psV b n (0, -1, tA b n A)) ∧ td' = w_up td k 1 ∧ wo' = wo) ∨
  (wrd b n A 2 ∧ fr 0 = 0 ∧ td 2 = 0 ∧ x' = psS b n (psT b n (xst 3) 0 999 (psN b n 0 20 (0, -1, tA b n A))) ∧ fr' = w_up (w_up fr 3 (psV b n (0, -1, tA b n A))) 4 (psU b n (xst 3) (psN b n 0 20 (0, -1, tA b n A))) ∧ td' = w_up td 2 1 ∧ wo' = wo) ∨
  (wrd b n A 6 ∧ fr 0 = 0 ∧ x' = psS b n (psD b n (0, -1, tA b n A)) ∧ (∃ d0 d1 d2 d3, dvs b n (0, -1, tA b n A) d0 d1 d2 d3 ∧ fr' = frR fr d0 d1 d2 d3) ∧ td' = td ∧ wo' = wo) ∨
  (wrd b n A 11 ∧ 0 < fr 0 ∧ fr 0 < 40 ∧ x' = psS b n (psD b n (psT b n (xst 13) 1 100 (psP b n fr (psW b n (xst 12) (0, -1, tA b n A))))) ∧ (∃ d0 d1 d2 d3, dvs b n (psT b n (xst 13) 1 100 (psP b n fr (psW b n (xst 12) (0, -1, tA b n A)))) d0 d1 d2 d3 ∧ fr' = frF fr (psV b n (psW b n (xst 12) (0, -1, tA b n A))) (psU b n (xst 13) (psP b n fr (psW b n (xst 12) (0, -1, tA b n A)))) d0 d1 d2 d3) ∧ td' = td ∧ wo' = w_up wo (fr 0) (tF b n A))
/-! the class's reader at the head of a line -/
def rk9 (σ σ' : x_S) : Prop := x_eqo [(3, 0)] σ σ' ∧ ∀ k, ¬ (k = 2 ∨ k = 3 ∨ k = 6 ∨ k = 7 ∨ k = 8 ∨ k = 9) → σ' 3 0 k = σ 3 0 k
theorem CS_9 {σ : x_S} {b : Int → Int} {n v : Int} {x : PS} (h : CS σ b n x) : CS (x_st σ 3 0 9 v) b n x := by
  obtain ⟨hB, ⟨h2, h3⟩, hS, hx, hc⟩ := h
  have e : ∀ k, ¬ k = 9 → x_st σ 3 0 9 v 3 0 k = σ 3 0 k := fun k hk => x_rd_ne (by omega)
  refine ⟨⟨hB.1, by rw [e 1 (by omega)]; exact hB.2.1, fun i i0 i1 => by rw [x_st_o (by omega)]; exact hB.2.2 i i0 i1⟩, ⟨by rw [e 2 (by omega)]; exact h2, by rw [e 3 (by omega)]; exact h3⟩, ?_, fun z => by rw [e 6 (by omega)]; exact hx z, hc⟩
  unfold rdS at hS ⊢
  rw [e 6 (by omega), e 7 (by omega), e 8 (by omega)]
  exact hS
def tlO (td : Int → Int) (m k f p : Int) : PS := if 0 < m then (1, f, p) else if td k = 1 then (3, f, p) else (0, -1, p)
theorem h_tell {σ : x_S} {b : Int → Int} {n p f m k bit : Int} {td : Int → Int} (h : CS σ b n (0, -1, p)) (h7 : σ 3 0 7 = f) (h9 : σ 3 0 9 = tbv td m) (hk : td k = 0 ∨ td k = 1) (ht : 0 ≤ tbv td m ∧ tbv td m < 64) (h32 : x_and (tbv td m) 32 = if 0 < m then 32 else 0) (ha : x_and (tbv td m) bit = if td k = 1 then bit else 0) (ho : td k = 0 → x_or (tbv td m) bit = tbv (w_up td k 1) m) (hb : 1 ≤ bit ∧ bit ≤ 16) : x_Sp 1 32 [xR 3 0, xI bit] σ (fun r σ' => r = none ∧ rk9 σ σ' ∧ CS σ' b n (tlO td m k f p) ∧ ((tlO td m k f p).1 = 0 → σ' 3 0 9 = tbv (w_up td k 1) m)) := by
  obtain ⟨hB, ⟨h2, h3⟩, hS, hx, hc⟩ := id h
  have h2' : σ 3 0 2 = 0 := h2
  refine x_gen (fun Q hQ => ?_)
  have kf := fun (c : Int) (d' : Nat) (Q' : Option x_V → x_S → Prop) => k_fail (d := d') (σ := σ) (Q := Q') (c := c) (by omega)
  simp only [if_pos h2'] at kf
  by_cases c1 : 0 < m
  · obtain ⟨rk, cs⟩ := CS_f (c := 1) hB hS h2' (by omega)
    rw [if_pos c1] at h32
    have e9 : x_st (x_st σ 3 0 2 1) 3 0 3 (σ 3 0 7) 3 0 9 = tbv td m := by simp (disch := omega) only [x_st_o, x_rd_ne, x_rd_eq, s_fl_o, s_fl_in, s_fl_out, x_cp_o, x_cp_in, x_cp_out]; exact h9
    have F := hQ none (x_st (x_st (x_st σ 3 0 2 1) 3 0 3 (σ 3 0 7)) 3 0 9 (x_or (tbv td m) bit)) ⟨rfl, ⟨eqo_st (by simp) rk.1, fun q hq => by rw [x_rd_ne (by omega)]; exact rk.2 q (by omega)⟩, by
      have e : tlO td m k f p = (1, f, p) := if_pos c1
      rw [e, ← h7]
      exact CS_9 (cs p), fun z => by
      have e : tlO td m k f p = (1, f, p) := if_pos c1
      rw [e] at z
      exact absurd z ne11'⟩
    generalize tbv td m = t at h9 h32 e9 F ht
    simp (disch := first | omega | (simp only [x_wtI, x_wtJ, x_wtR, x_wtN]; omega) | assumption | (simp (disch := omega) only [x_st_o, x_rd_ne]; first | assumption | omega) | (apply mir_eq; assumption; (intro c h1 h2; simp (disch := omega) only [x_st_o])) | (apply mis_eq; assumption; (intro c h1 h2; simp (disch := omega) only [x_st_o])) | rfl) only [sp_32, bk_32_0, bk_32_1, bk_32_2, wp_ald0, wp_geti kd_3, wp_ic, wp_iand, wp_ifeq, wk_33, wp_goto, wp_ild1, wp_fall, wp_dupi, wp_dupr, wp_ior, wp_puti kd_3, wp_ret, x_clr_I, x_clr_J, x_clr_R, x_clr_U, ct_some, ct_none, lc_lt, lc_ge, lc_gt, lc_le, lc_eq, lc_r, xI_inj, xJ_inj, Option.some.injEq, eq_self, bi_r, bi_0, bi_1, bi_n, Classical.not_not, and_true, true_and, ite_true, ite_false, ↓reduceIte, ↓x_andl, z_le, z_nle, z_lt, z_nlt, z_eq, z_neq, if_pos, if_neg, x_andl, false_and, and_false, or_true, true_or, or_false, false_or, not_true, not_false_iff, x_rd_eq, x_rd_ne, x_st_o, Int.cast_ofNat_Int, Int.ofNat_zero, Int.ofNat_one, not_true_eq_false, not_false_eq_true, if_true, if_false, ite_self, and_self, Int.ofNat_eq_natCast, Int.tdiv_eq_ediv_of_nonneg, Int.tmod_eq_emod_of_nonneg, x_bm32, h9, h32, kf, e9]
    exact F
  · rw [if_neg c1] at h32
    by_cases c2 : td k = 1
    · obtain ⟨rk, cs⟩ := CS_f (c := 3) hB hS h2' (by omega)
      rw [if_pos c2] at ha
      have e9 : x_st (x_st σ 3 0 2 3) 3 0 3 (σ 3 0 7) 3 0 9 = tbv td m := by simp (disch := omega) only [x_st_o, x_rd_ne, x_rd_eq, s_fl_o, s_fl_in, s_fl_out, x_cp_o, x_cp_in, x_cp_out]; exact h9
      have e : tlO td m k f p = (3, f, p) := by
        unfold tlO
        rw [if_neg c1, if_pos c2]
      have F := hQ none (x_st (x_st (x_st σ 3 0 2 3) 3 0 3 (σ 3 0 7)) 3 0 9 (x_or (tbv td m) bit)) ⟨rfl, ⟨eqo_st (by simp) rk.1, fun q hq => by rw [x_rd_ne (by omega)]; exact rk.2 q (by omega)⟩, by
        rw [e, ← h7]
        exact CS_9 (cs p), fun z => by
        rw [e] at z
        have : (3 : Int) = 0 := z
        omega⟩
      generalize tbv td m = t at h9 h32 ha e9 F ht
      simp (disch := first | omega | (simp only [x_wtI, x_wtJ, x_wtR, x_wtN]; omega) | assumption | (simp (disch := omega) only [x_st_o, x_rd_ne]; first | assumption | omega) | (apply mir_eq; assumption; (intro c h1 h2; simp (disch := omega) only [x_st_o])) | (apply mis_eq; assumption; (intro c h1 h2; simp (disch := omega) only [x_st_o])) | rfl) only [sp_32, bk_32_0, bk_32_1, bk_32_2, wp_ald0, wp_geti kd_3, wp_ic, wp_iand, wp_ifeq, wk_33, wp_goto, wp_ild1, wp_fall, wp_dupi, wp_dupr, wp_ior, wp_puti kd_3, wp_ret, x_clr_I, x_clr_J, x_clr_R, x_clr_U, ct_some, ct_none, lc_lt, lc_ge, lc_gt, lc_le, lc_eq, lc_r, xI_inj, xJ_inj, Option.some.injEq, eq_self, bi_r, bi_0, bi_1, bi_n, Classical.not_not, and_true, true_and, ite_true, ite_false, ↓reduceIte, ↓x_andl, z_le, z_nle, z_lt, z_nlt, z_eq, z_neq, if_pos, if_neg, x_andl, false_and, and_false, or_true, true_or, or_false, false_or, not_true, not_false_iff, x_rd_eq, x_rd_ne, x_st_o, Int.cast_ofNat_Int, Int.ofNat_zero, Int.ofNat_one, not_true_eq_false, not_false_eq_true, if_true, if_false, ite_self, and_self, Int.ofNat_eq_natCast, Int.tdiv_eq_ediv_of_nonneg, Int.tmod_eq_emod_of_nonneg, x_bm32, h9, h32, ha, kf, e9]
      exact F
    · rw [if_neg c2] at ha
      have e : tlO td m k f p = (0, -1, p) := by
        unfold tlO
        rw [if_neg c1, if_neg c2]
      have F := hQ none (x_st σ 3 0 9 (x_or (tbv td m) bit)) ⟨rfl, ⟨eqo_st (by simp) eqo_refl, fun q hq => by rw [x_rd_ne (by omega)]⟩, by
        rw [e]
        exact CS_9 h, fun z => by
        rw [x_rd_eq]
        exact ho (hk.resolve_right c2)⟩
      generalize tbv td m = t at h9 h32 ha F ht
      simp (disch := first | omega | (simp only [x_wtI, x_wtJ, x_wtR, x_wtN]; omega) | assumption | (simp (disch := omega) only [x_st_o, x_rd_ne]; first | assumption | omega) | (apply mir_eq; assumption; (intro c h1 h2; simp (disch := omega) only [x_st_o])) | (apply mis_eq; assumption; (intro c h1 h2; simp (disch := omega) only [x_st_o])) | rfl) only [sp_32, bk_32_0, bk_32_1, bk_32_2, wp_ald0, wp_geti kd_3, wp_ic, wp_iand, wp_ifeq, wk_33, wp_goto, wp_ild1, wp_fall, wp_dupi, wp_dupr, wp_ior, wp_puti kd_3, wp_ret, x_clr_I, x_clr_J, x_clr_R, x_clr_U, ct_some, ct_none, lc_lt, lc_ge, lc_gt, lc_le, lc_eq, lc_r, xI_inj, xJ_inj, Option.some.injEq, eq_self, bi_r, bi_0, bi_1, bi_n, Classical.not_not, and_true, true_and, ite_true, ite_false, ↓reduceIte, ↓x_andl, z_le, z_nle, z_lt, z_nlt, z_eq, z_neq, if_pos, if_neg, x_andl, false_and, and_false, or_true, true_or, or_false, false_or, not_true, not_false_iff, x_rd_eq, x_rd_ne, x_st_o, Int.cast_ofNat_Int, Int.ofNat_zero, Int.ofNat_one, not_true_eq_false, not_false_eq_true, if_true, if_false, ite_self, and_self, Int.ofNat_eq_natCast, Int.tdiv_eq_ediv_of_nonneg, Int.tmod_eq_emod_of_nonneg, x_bm32, h9, h32, ha]
      exact F

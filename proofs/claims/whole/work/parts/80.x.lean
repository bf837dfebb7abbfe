def p_dl (w S tk : Int → Int) : Nat → Int
  | 0 => -1
  | n + 1 => if p_ed w n ∧ tk n = 0 ∧ (p_dl w S tk n = -1 ∨ S (p_dl w S tk n) < S n) then n else p_dl w S tk n
def c_un (w tk : Int → Int) : Nat → Int
  | 0 => 0
  | n + 1 => c_un w tk n + (if p_ed w n ∧ tk n = 0 then 1 else 0)
section DL
variable {w S tk : Int → Int}
theorem dl_s {i : Int} (i0 : 0 ≤ i) : p_dl w S tk (i + 1).toNat = if p_ed w i ∧ tk i = 0 ∧ (p_dl w S tk i.toNat = -1 ∨ S (p_dl w S tk i.toNat) < S i) then i else p_dl w S tk i.toNat := by
  rw [show (i + 1).toNat = i.toNat + 1 by omega]
  show (if p_ed w (i.toNat : Int) ∧ tk (i.toNat : Int) = 0 ∧ (p_dl w S tk i.toNat = -1 ∨ S (p_dl w S tk i.toNat) < S (i.toNat : Int)) then (i.toNat : Int) else p_dl w S tk i.toNat) = _
  rw [Int.toNat_of_nonneg i0]
theorem dl_0 : ∀ k : Nat, (k : Int) ≤ w 8 → p_dl w S tk k = -1 := by
  intro k
  induction k with
  | zero => intro _; rfl
  | succ k ih =>
    intro h
    show (if p_ed w k ∧ tk k = 0 ∧ (p_dl w S tk k = -1 ∨ S (p_dl w S tk k) < S k) then (k : Int) else p_dl w S tk k) = _
    rw [if_neg (fun z => fr_lt (by omega) z.1.1)]
    exact ih (by omega)
theorem dl_p : ∀ k : Nat, p_dl w S tk k = -1 ∨ ((0 ≤ p_dl w S tk k ∧ p_dl w S tk k < k) ∧ p_ed w (p_dl w S tk k) ∧ tk (p_dl w S tk k) = 0) := by
  intro k
  induction k with
  | zero => exact Or.inl rfl
  | succ k ih =>
    by_cases c : p_ed w k ∧ tk k = 0 ∧ (p_dl w S tk k = -1 ∨ S (p_dl w S tk k) < S k)
    · have e : p_dl w S tk (k + 1) = k := if_pos c
      rw [e]
      exact Or.inr ⟨by omega, c.1, c.2.1⟩
    · have e : p_dl w S tk (k + 1) = p_dl w S tk k := if_neg c
      rw [e]
      rcases ih with z | ⟨z1, z2⟩
      · exact Or.inl z
      · exact Or.inr ⟨by omega, z2⟩
theorem un_b : ∀ n : Nat, 0 ≤ c_un w tk n ∧ c_un w tk n ≤ n := by
  intro n
  induction n with
  | zero => exact ⟨Int.le_refl _, Int.le_refl _⟩
  | succ n ih =>
    have e : c_un w tk (n + 1) = c_un w tk n + (if p_ed w n ∧ tk n = 0 then 1 else 0) := rfl
    rw [e]
    split <;> omega
theorem un_up {d : Int} (h : p_ed w d ∧ tk d = 0) (d0 : 0 ≤ d) : ∀ n : Nat, c_un w (w_up tk d 1) n = c_un w tk n - (if d < n then 1 else 0) := by
  intro n
  induction n with
  | zero => rw [if_neg (by omega)]; rfl
  | succ n ih =>
    show c_un w (w_up tk d 1) n + (if p_ed w n ∧ w_up tk d 1 n = 0 then 1 else 0) = c_un w tk n + (if p_ed w n ∧ tk n = 0 then 1 else 0) - _
    rw [ih]
    by_cases c : (n : Int) = d
    · subst c
      rw [up_eq, if_neg (fun z => by omega), if_pos h, if_neg (by omega), if_pos (by omega)]
      omega
    · rw [up_ne c]
      by_cases c2 : d < n
      · rw [if_pos c2, if_pos (show d < ((n + 1 : Nat) : Int) by omega)]
        omega
      · rw [if_neg c2, if_neg (show ¬ d < ((n + 1 : Nat) : Int) by omega)]
        omega
theorem un_pos {d : Int} (h : p_ed w d ∧ tk d = 0) (d0 : 0 ≤ d) {n : Nat} (hd : d < n) : 1 ≤ c_un w tk n := by
  have e := un_up h d0 n
  rw [if_pos hd] at e
  have := (un_b (w := w) (tk := w_up tk d 1) n).1
  omega
end DL
def p_tl (w S : Int → Int) : Nat → (Int → Int) → Int → Int → Int
  | 0, _, _, sm => sm
  | n + 1, tk, lf, sm => if lf ≤ 0 ∨ p_dl w S tk (w 0).toNat = -1 then sm else p_tl w S n (w_up tk (p_dl w S tk (w 0).toNat) 1) (lf - min lf (p_part w (p_dl w S tk (w 0).toNat))) (sm + min lf (p_part w (p_dl w S tk (w 0).toNat)) * S (p_dl w S tk (w 0).toNat))
theorem tl_b {w S : Int → Int} (hw : wf w) (h100 : wf_100 w) (hn : wn w) (hb : ∀ f, 0 ≤ f → f < w 0 → p_ed w f → -1000000 ≤ S f ∧ S f ≤ 1000000) : ∀ (n : Nat) (tk : Int → Int) (lf sm B : Int), lf ≤ 100000000 → -B ≤ sm ∧ sm ≤ B → -(B + n * 100000000000000) ≤ p_tl w S n tk lf sm ∧ p_tl w S n tk lf sm ≤ B + n * 100000000000000 := by
  have a := wf_h hw
  unfold wf_hdr at a
  intro n
  induction n with
  | zero => intro tk lf sm B _ h; show -(B + ((0 : Nat) : Int) * 100000000000000) ≤ sm ∧ sm ≤ B + ((0 : Nat) : Int) * 100000000000000; omega
  | succ n ih =>
    intro tk lf sm B h1 h2
    show -(B + ((n + 1 : Nat) : Int) * 100000000000000) ≤ (if lf ≤ 0 ∨ p_dl w S tk (w 0).toNat = -1 then sm else _) ∧ (if lf ≤ 0 ∨ p_dl w S tk (w 0).toNat = -1 then sm else _) ≤ B + ((n + 1 : Nat) : Int) * 100000000000000
    by_cases c : lf ≤ 0 ∨ p_dl w S tk (w 0).toNat = -1
    · rw [if_pos c]
      omega
    · rw [if_neg c]
      rcases dl_p (w := w) (S := S) (tk := tk) (w 0).toNat with z | ⟨z1, z2, z3⟩
      · exact absurd (Or.inr z) c
      · have pr := part_r hw h100 hn.1 (f := p_dl w S tk (w 0).toNat) z1.1 (by omega)
        have sb := hb _ z1.1 (by omega) z2
        have m := mulb (a := S (p_dl w S tk (w 0).toNat)) (b := min lf (p_part w (p_dl w S tk (w 0).toNat))) (A := 1000000) (B := 100000000) sb (by omega)
        rw [Int.mul_comm (S (p_dl w S tk (w 0).toNat))] at m
        have i := ih (w_up tk (p_dl w S tk (w 0).toNat) 1) (lf - min lf (p_part w (p_dl w S tk (w 0).toNat))) (sm + min lf (p_part w (p_dl w S tk (w 0).toNat)) * S (p_dl w S tk (w 0).toNat)) (B + 100000000000000) (by omega) (by omega)
        have e : ((n + 1 : Nat) : Int) * 100000000000000 = (n : Int) * 100000000000000 + 100000000000000 := by omega
        omega
theorem fol_eq {w : Int → Int} {σ σ' : x_S} (h : fol w σ) (e : ∀ c, 33 ≤ c → c ≤ 42 → σ' c 0 = σ c 0) : fol w σ' := by
  have eC : cC σ' = cC σ := by
    funext f
    unfold cC
    rw [e 34 (by omega) (by omega), e 36 (by omega) (by omega), e 37 (by omega) (by omega)]
  have eV : cV σ' = cV σ := by
    funext f
    unfold cV
    rw [e 35 (by omega) (by omega), e 38 (by omega) (by omega), e 39 (by omega) (by omega)]
  have eW : ∀ f, wcell σ' f = wcell σ f := by
    intro f
    unfold wcell
    rw [e 34 (by omega) (by omega), e 35 (by omega) (by omega), e 36 (by omega) (by omega), e 37 (by omega) (by omega), e 38 (by omega) (by omega), e 39 (by omega) (by omega)]
  unfold fol
  rw [eC, eV, e 40 (by omega) (by omega), e 41 (by omega) (by omega), e 33 (by omega) (by omega), e 42 (by omega) (by omega)]
  exact ⟨fun f f0 f1 => by rw [eW]; exact h.1 f f0 f1, h.2⟩
theorem k_dearest {d : Nat} {σ : x_S} {Q : Option x_V → x_S → Prop} {w : Int → Int} (hM : mir σ 1 w) (hw : wf w) (hn : wn w) (hq : wq w) (hf : fol w σ) (ht : ∀ f, 0 ≤ f → f < 40 → σ 43 0 f = 0 ∨ σ 43 0 f = 1) (al : ∀ f, 0 ≤ f → f < w 0 → p_fr w (w 8) f → ¬ cV σ f = -1) : x_Sp (d + 1) 86 [xR 33 0] σ Q ↔ Q (some (xI (p_dl w (σ 40 0) (σ 43 0) (w 0).toNat))) σ := by
  have a := wf_h hw
  unfold wf_hdr at a
  have wb := wk_b hw hn hq (Int.le_refl _) hf.2.1
  refine x_sp_of ?_
  simp (disch := first | omega | (simp only [x_wtI, x_wtJ, x_wtR, x_wtN]; omega) | assumption | (simp (disch := omega) only [x_st_o, x_rd_ne]; first | assumption | omega) | (apply mir_eq; assumption; (intro c h1 h2; simp (disch := omega) only [x_st_o])) | (apply mis_eq; assumption; (intro c h1 h2; simp (disch := omega) only [x_st_o])) | rfl) only [sp_86, bk_86_0, bk_86_2, bk_86_3, bk_86_4, wp_ic, wp_ist1, wp_ist2, wp_fall, wp_ild2, wp_ald0, wr_33_0, wr_20_0, wp_geti kd_6, wp_icge, wk_82, wp_ifeq, wr_33_11, wl_43, wp_sbal, wp_ifne, wp_ild1, wp_iceq, wr_33_7, wl_40, wp_cald, wp_icle, wp_inc2, wp_goto, wp_iret mz_86, x_clr_I, x_clr_J, x_clr_R, x_clr_U, ct_some, ct_none, lc_lt, lc_ge, lc_gt, lc_le, lc_eq, lc_r, xI_inj, xJ_inj, Option.some.injEq, eq_self, bi_r, bi_0, bi_1, bi_n, Classical.not_not, and_true, true_and, ite_true, ite_false, ↓reduceIte, ↓x_andl, z_le, z_nle, z_lt, z_nlt, z_eq, z_neq, if_pos, if_neg, x_andl, false_and, and_false, or_true, true_or, or_false, false_or, not_true, not_false_iff, x_rd_eq, x_rd_ne, x_st_o, Int.cast_ofNat_Int, Int.ofNat_zero, Int.ofNat_one, not_true_eq_false, not_false_eq_true, if_true, if_false, ite_self, and_self, Int.ofNat_eq_natCast, Int.tdiv_eq_ediv_of_nonneg, Int.tmod_eq_emod_of_nonneg, x_bm32]
  refine x_lpJ (fun i fd => fd = p_dl w (σ 40 0) (σ 43 0) i.toNat) (fun i fd => x_Wp (d + 1) 86 (x_blk 86 1) [xR 33 0, xI fd, xI i] [] σ _) (lo := 0) (hi := w 0) (by omega) (a0 := -1) rfl ?_ ?_
  · intro i fd i0 i1 hJ
    subst hJ
    refine ⟨_, rfl, ?_⟩
    intro H
    rw [dl_s i0] at H
    have cel := hf.1 i i0 i1
    have tb := hf.2.2.2.2.2 i i0 i1
    have tk := ht i i0 (by omega)
    have dp := dl_p (w := w) (S := σ 40 0) (tk := σ 43 0) i.toNat
    generalize hl : p_dl w (σ 40 0) (σ 43 0) i.toNat = l at *
    rw [bk_86_1]
    by_cases cc : p_ed w i
    · have nv := al i i0 i1 cc.1
      have m : ¬ cV σ i = -1 ∧ w_of w i 7 = 0 := ⟨nv, cc.2⟩
      rcases tk with t | t
      · by_cases cl : l = -1
        · rw [if_pos ⟨cc, t, Or.inl cl⟩] at H
          simp (disch := first | omega | (simp only [x_wtI, x_wtJ, x_wtR, x_wtN]; omega) | assumption | (simp (disch := omega) only [x_st_o, x_rd_ne]; first | assumption | omega) | (apply mir_eq; assumption; (intro c h1 h2; simp (disch := omega) only [x_st_o])) | (apply mis_eq; assumption; (intro c h1 h2; simp (disch := omega) only [x_st_o])) | rfl) only [bk_86_0, bk_86_2, bk_86_3, bk_86_4, wp_ic, wp_ist1, wp_ist2, wp_fall, wp_ild2, wp_ald0, wr_33_0, wr_20_0, wp_geti kd_6, wp_icge, wk_82, wp_ifeq, wr_33_11, wl_43, wp_sbal, wp_ifne, wp_ild1, wp_iceq, wr_33_7, wl_40, wp_cald, wp_icle, wp_inc2, wp_goto, wp_iret mz_86, x_clr_I, x_clr_J, x_clr_R, x_clr_U, ct_some, ct_none, lc_lt, lc_ge, lc_gt, lc_le, lc_eq, lc_r, xI_inj, xJ_inj, Option.some.injEq, eq_self, bi_r, bi_0, bi_1, bi_n, Classical.not_not, and_true, true_and, ite_true, ite_false, ↓reduceIte, ↓x_andl, z_le, z_nle, z_lt, z_nlt, z_eq, z_neq, if_pos, if_neg, x_andl, false_and, and_false, or_true, true_or, or_false, false_or, not_true, not_false_iff, x_rd_eq, x_rd_ne, x_st_o, Int.cast_ofNat_Int, Int.ofNat_zero, Int.ofNat_one, not_true_eq_false, not_false_eq_true, if_true, if_false, ite_self, and_self, Int.ofNat_eq_natCast, Int.tdiv_eq_ediv_of_nonneg, Int.tmod_eq_emod_of_nonneg, x_bm32, mi_size hM, k_isEndOfPlan, bi_t, t]
          exact H
        · have dq : 0 ≤ l ∧ l < i := by
            rcases dp with z | ⟨z, _⟩
            · exact absurd z cl
            · omega
          have lb := hf.2.2.2.2.2 l dq.1 (by omega)
          by_cases cs : σ 40 0 l < σ 40 0 i
          · rw [if_pos ⟨cc, t, Or.inr cs⟩] at H
            simp (disch := first | omega | (simp only [x_wtI, x_wtJ, x_wtR, x_wtN]; omega) | assumption | (simp (disch := omega) only [x_st_o, x_rd_ne]; first | assumption | omega) | (apply mir_eq; assumption; (intro c h1 h2; simp (disch := omega) only [x_st_o])) | (apply mis_eq; assumption; (intro c h1 h2; simp (disch := omega) only [x_st_o])) | rfl) only [bk_86_0, bk_86_2, bk_86_3, bk_86_4, wp_ic, wp_ist1, wp_ist2, wp_fall, wp_ild2, wp_ald0, wr_33_0, wr_20_0, wp_geti kd_6, wp_icge, wk_82, wp_ifeq, wr_33_11, wl_43, wp_sbal, wp_ifne, wp_ild1, wp_iceq, wr_33_7, wl_40, wp_cald, wp_icle, wp_inc2, wp_goto, wp_iret mz_86, x_clr_I, x_clr_J, x_clr_R, x_clr_U, ct_some, ct_none, lc_lt, lc_ge, lc_gt, lc_le, lc_eq, lc_r, xI_inj, xJ_inj, Option.some.injEq, eq_self, bi_r, bi_0, bi_1, bi_n, Classical.not_not, and_true, true_and, ite_true, ite_false, ↓reduceIte, ↓x_andl, z_le, z_nle, z_lt, z_nlt, z_eq, z_neq, if_pos, if_neg, x_andl, false_and, and_false, or_true, true_or, or_false, false_or, not_true, not_false_iff, x_rd_eq, x_rd_ne, x_st_o, Int.cast_ofNat_Int, Int.ofNat_zero, Int.ofNat_one, not_true_eq_false, not_false_eq_true, if_true, if_false, ite_self, and_self, Int.ofNat_eq_natCast, Int.tdiv_eq_ediv_of_nonneg, Int.tmod_eq_emod_of_nonneg, x_bm32, mi_size hM, k_isEndOfPlan, bi_t, t]
            exact H
          · rw [if_neg (fun z => z.2.2.elim cl cs)] at H
            simp (disch := first | omega | (simp only [x_wtI, x_wtJ, x_wtR, x_wtN]; omega) | assumption | (simp (disch := omega) only [x_st_o, x_rd_ne]; first | assumption | omega) | (apply mir_eq; assumption; (intro c h1 h2; simp (disch := omega) only [x_st_o])) | (apply mis_eq; assumption; (intro c h1 h2; simp (disch := omega) only [x_st_o])) | rfl) only [bk_86_0, bk_86_2, bk_86_3, bk_86_4, wp_ic, wp_ist1, wp_ist2, wp_fall, wp_ild2, wp_ald0, wr_33_0, wr_20_0, wp_geti kd_6, wp_icge, wk_82, wp_ifeq, wr_33_11, wl_43, wp_sbal, wp_ifne, wp_ild1, wp_iceq, wr_33_7, wl_40, wp_cald, wp_icle, wp_inc2, wp_goto, wp_iret mz_86, x_clr_I, x_clr_J, x_clr_R, x_clr_U, ct_some, ct_none, lc_lt, lc_ge, lc_gt, lc_le, lc_eq, lc_r, xI_inj, xJ_inj, Option.some.injEq, eq_self, bi_r, bi_0, bi_1, bi_n, Classical.not_not, and_true, true_and, ite_true, ite_false, ↓reduceIte, ↓x_andl, z_le, z_nle, z_lt, z_nlt, z_eq, z_neq, if_pos, if_neg, x_andl, false_and, and_false, or_true, true_or, or_false, false_or, not_true, not_false_iff, x_rd_eq, x_rd_ne, x_st_o, Int.cast_ofNat_Int, Int.ofNat_zero, Int.ofNat_one, not_true_eq_false, not_false_eq_true, if_true, if_false, ite_self, and_self, Int.ofNat_eq_natCast, Int.tdiv_eq_ediv_of_nonneg, Int.tmod_eq_emod_of_nonneg, x_bm32, mi_size hM, k_isEndOfPlan, bi_t, t]
            exact H
      · rw [if_neg (fun z => by omega)] at H
        simp (disch := first | omega | (simp only [x_wtI, x_wtJ, x_wtR, x_wtN]; omega) | assumption | (simp (disch := omega) only [x_st_o, x_rd_ne]; first | assumption | omega) | (apply mir_eq; assumption; (intro c h1 h2; simp (disch := omega) only [x_st_o])) | (apply mis_eq; assumption; (intro c h1 h2; simp (disch := omega) only [x_st_o])) | rfl) only [bk_86_0, bk_86_2, bk_86_3, bk_86_4, wp_ic, wp_ist1, wp_ist2, wp_fall, wp_ild2, wp_ald0, wr_33_0, wr_20_0, wp_geti kd_6, wp_icge, wk_82, wp_ifeq, wr_33_11, wl_43, wp_sbal, wp_ifne, wp_ild1, wp_iceq, wr_33_7, wl_40, wp_cald, wp_icle, wp_inc2, wp_goto, wp_iret mz_86, x_clr_I, x_clr_J, x_clr_R, x_clr_U, ct_some, ct_none, lc_lt, lc_ge, lc_gt, lc_le, lc_eq, lc_r, xI_inj, xJ_inj, Option.some.injEq, eq_self, bi_r, bi_0, bi_1, bi_n, Classical.not_not, and_true, true_and, ite_true, ite_false, ↓reduceIte, ↓x_andl, z_le, z_nle, z_lt, z_nlt, z_eq, z_neq, if_pos, if_neg, x_andl, false_and, and_false, or_true, true_or, or_false, false_or, not_true, not_false_iff, x_rd_eq, x_rd_ne, x_st_o, Int.cast_ofNat_Int, Int.ofNat_zero, Int.ofNat_one, not_true_eq_false, not_false_eq_true, if_true, if_false, ite_self, and_self, Int.ofNat_eq_natCast, Int.tdiv_eq_ediv_of_nonneg, Int.tmod_eq_emod_of_nonneg, x_bm32, mi_size hM, k_isEndOfPlan, bi_t, t]
        exact H
    · rw [if_neg (fun z => cc z.1)] at H
      have m : ¬ (¬ cV σ i = -1 ∧ w_of w i 7 = 0) := fun z => cc ⟨((wb i i0 i1).2.2 z.1).1, z.2⟩
      simp (disch := first | omega | (simp only [x_wtI, x_wtJ, x_wtR, x_wtN]; omega) | assumption | (simp (disch := omega) only [x_st_o, x_rd_ne]; first | assumption | omega) | (apply mir_eq; assumption; (intro c h1 h2; simp (disch := omega) only [x_st_o])) | (apply mis_eq; assumption; (intro c h1 h2; simp (disch := omega) only [x_st_o])) | rfl) only [bk_86_0, bk_86_2, bk_86_3, bk_86_4, wp_ic, wp_ist1, wp_ist2, wp_fall, wp_ild2, wp_ald0, wr_33_0, wr_20_0, wp_geti kd_6, wp_icge, wk_82, wp_ifeq, wr_33_11, wl_43, wp_sbal, wp_ifne, wp_ild1, wp_iceq, wr_33_7, wl_40, wp_cald, wp_icle, wp_inc2, wp_goto, wp_iret mz_86, x_clr_I, x_clr_J, x_clr_R, x_clr_U, ct_some, ct_none, lc_lt, lc_ge, lc_gt, lc_le, lc_eq, lc_r, xI_inj, xJ_inj, Option.some.injEq, eq_self, bi_r, bi_0, bi_1, bi_n, Classical.not_not, and_true, true_and, ite_true, ite_false, ↓reduceIte, ↓x_andl, z_le, z_nle, z_lt, z_nlt, z_eq, z_neq, if_pos, if_neg, x_andl, false_and, and_false, or_true, true_or, or_false, false_or, not_true, not_false_iff, x_rd_eq, x_rd_ne, x_st_o, Int.cast_ofNat_Int, Int.ofNat_zero, Int.ofNat_one, not_true_eq_false, not_false_eq_true, if_true, if_false, ite_self, and_self, Int.ofNat_eq_natCast, Int.tdiv_eq_ediv_of_nonneg, Int.tmod_eq_emod_of_nonneg, x_bm32, mi_size hM, k_isEndOfPlan, bi_f]
      exact H
  · intro fd hJ
    subst hJ
    rw [bk_86_1]
    simp (disch := first | omega | (simp only [x_wtI, x_wtJ, x_wtR, x_wtN]; omega) | assumption | (simp (disch := omega) only [x_st_o, x_rd_ne]; first | assumption | omega) | (apply mir_eq; assumption; (intro c h1 h2; simp (disch := omega) only [x_st_o])) | (apply mis_eq; assumption; (intro c h1 h2; simp (disch := omega) only [x_st_o])) | rfl) only [bk_86_0, bk_86_2, bk_86_3, bk_86_4, wp_ic, wp_ist1, wp_ist2, wp_fall, wp_ild2, wp_ald0, wr_33_0, wr_20_0, wp_geti kd_6, wp_icge, wk_82, wp_ifeq, wr_33_11, wl_43, wp_sbal, wp_ifne, wp_ild1, wp_iceq, wr_33_7, wl_40, wp_cald, wp_icle, wp_inc2, wp_goto, wp_iret mz_86, x_clr_I, x_clr_J, x_clr_R, x_clr_U, ct_some, ct_none, lc_lt, lc_ge, lc_gt, lc_le, lc_eq, lc_r, xI_inj, xJ_inj, Option.some.injEq, eq_self, bi_r, bi_0, bi_1, bi_n, Classical.not_not, and_true, true_and, ite_true, ite_false, ↓reduceIte, ↓x_andl, z_le, z_nle, z_lt, z_nlt, z_eq, z_neq, if_pos, if_neg, x_andl, false_and, and_false, or_true, true_or, or_false, false_or, not_true, not_false_iff, x_rd_eq, x_rd_ne, x_st_o, Int.cast_ofNat_Int, Int.ofNat_zero, Int.ofNat_one, not_true_eq_false, not_false_eq_true, if_true, if_false, ite_self, and_self, Int.ofNat_eq_natCast, Int.tdiv_eq_ediv_of_nonneg, Int.tmod_eq_emod_of_nonneg, x_bm32, mi_size hM]
theorem dl_cg {w S tk tk' : Int → Int} {N : Int} (h : ∀ f, 0 ≤ f → f < N → tk' f = tk f) : ∀ n : Nat, (n : Int) ≤ N → p_dl w S tk' n = p_dl w S tk n := by
  intro n
  induction n with
  | zero => intro _; rfl
  | succ n ih =>
    intro hn
    show (if p_ed w n ∧ tk' n = 0 ∧ (p_dl w S tk' n = -1 ∨ S (p_dl w S tk' n) < S n) then (n : Int) else p_dl w S tk' n) = (if p_ed w n ∧ tk n = 0 ∧ (p_dl w S tk n = -1 ∨ S (p_dl w S tk n) < S n) then (n : Int) else p_dl w S tk n)
    rw [ih (by omega), h n (by omega) (by omega)]
theorem tl_cg {w S : Int → Int} (hw : 0 ≤ w 0) : ∀ (n : Nat) (tk tk' : Int → Int) (lf sm : Int), (∀ f, 0 ≤ f → f < w 0 → tk' f = tk f) → p_tl w S n tk' lf sm = p_tl w S n tk lf sm := by
  intro n
  induction n with
  | zero => intro tk tk' lf sm _; rfl
  | succ n ih =>
    intro tk tk' lf sm h
    have e := dl_cg (w := w) (S := S) h (w 0).toNat (by omega)
    show (if lf ≤ 0 ∨ p_dl w S tk' (w 0).toNat = -1 then sm else p_tl w S n (w_up tk' (p_dl w S tk' (w 0).toNat) 1) (lf - min lf (p_part w (p_dl w S tk' (w 0).toNat))) (sm + min lf (p_part w (p_dl w S tk' (w 0).toNat)) * S (p_dl w S tk' (w 0).toNat))) = (if lf ≤ 0 ∨ p_dl w S tk (w 0).toNat = -1 then sm else p_tl w S n (w_up tk (p_dl w S tk (w 0).toNat) 1) (lf - min lf (p_part w (p_dl w S tk (w 0).toNat))) (sm + min lf (p_part w (p_dl w S tk (w 0).toNat)) * S (p_dl w S tk (w 0).toNat)))
    rw [e]
    by_cases c : lf ≤ 0 ∨ p_dl w S tk (w 0).toNat = -1
    · rw [if_pos c, if_pos c]
    · rw [if_neg c, if_neg c]
      refine ih _ _ _ _ (fun f f0 f1 => ?_)
      by_cases z : f = p_dl w S tk (w 0).toNat
      · rw [z, up_eq, up_eq]
      · rw [up_ne z, up_ne z, h f f0 f1]
theorem h_worstC {σ : x_S} {w : Int → Int} {p : Int} (hM : mir σ 1 w) (hw : wf w) (h100 : wf_100 w) (hn : wn w) (hq : wq w) (hf : fol w σ) (hp : 0 ≤ p ∧ p ≤ 100000000) (al : ∀ f, 0 ≤ f → f < w 0 → p_fr w (w 8) f → ¬ cV σ f = -1) : x_Sp 3 84 [xR 33 0, xJ p] σ (fun r σ' => r = some (xJ (p_tl w (σ 40 0) 40 (fun _ => 0) p 0)) ∧ x_eqo [(43, 0)] σ σ') := by
  have a := wf_h hw
  unfold wf_hdr at a
  refine x_gen (fun Q hQ => ?_)
  simp (disch := first | omega | (simp only [x_wtI, x_wtJ, x_wtR, x_wtN]; omega) | assumption | (simp (disch := omega) only [x_st_o, x_rd_ne]; first | assumption | omega) | (apply mir_eq; assumption; (intro c h1 h2; simp (disch := omega) only [x_st_o])) | (apply mis_eq; assumption; (intro c h1 h2; simp (disch := omega) only [x_st_o])) | rfl) only [sp_84, bk_84_0, bk_84_2, bk_84_3, wp_lld1, wp_lst3, wp_lc, wp_lst5, wp_ald0, wk_85, wp_ic, wp_ist7, wp_fall, wp_ild7, wp_icge, wp_lld3, wp_lcmp, wp_ifle, wk_86, wp_ist8, wp_ild8, wp_icne, wp_lld5, wp_lret, wr_33_11, ws_43, wr_33_9, wl_42, wp_pald, wk_275, c_minj, wp_lst9, wp_lld9, wr_33_7, wl_40, wp_cald, wp_i2l, wp_lmul, wp_ladd, wp_lsub, wp_inc7, wp_goto, sp_85, bk_85_0, bk_85_2, wp_ist1, wp_ild1, wp_inc1, wp_ret, x_clr_I, x_clr_J, x_clr_R, x_clr_U, ct_some, ct_none, lc_lt, lc_ge, lc_gt, lc_le, lc_eq, lc_r, xI_inj, xJ_inj, Option.some.injEq, eq_self, bi_r, bi_0, bi_1, bi_n, Classical.not_not, and_true, true_and, ite_true, ite_false, ↓reduceIte, ↓x_andl, z_le, z_nle, z_lt, z_nlt, z_eq, z_neq, if_pos, if_neg, x_andl, false_and, and_false, or_true, true_or, or_false, false_or, not_true, not_false_iff, x_rd_eq, x_rd_ne, x_st_o, Int.cast_ofNat_Int, Int.ofNat_zero, Int.ofNat_one, not_true_eq_false, not_false_eq_true, if_true, if_false, ite_self, and_self, Int.ofNat_eq_natCast, Int.tdiv_eq_ediv_of_nonneg, Int.tmod_eq_emod_of_nonneg, x_bm32]
  refine x_lpJ (α := x_S) (fun i σi => x_eqo [(43, 0)] σ σi ∧ ∀ f, 0 ≤ f → f < i → σi 43 0 f = 0) (fun i σi => x_Wp 2 85 (x_blk 85 1) [xR 33 0, xI i] [] σi _) (lo := 0) (hi := 40) (by omega) (a0 := σ) ⟨eqo_refl, fun f p q => by omega⟩ ?_ ?_
  · intro i σi i0 i1 ⟨j1, j2⟩
    refine ⟨x_st σi 43 0 i 0, ⟨eqo_st (by decide) j1, ?_⟩, ?_⟩
    · intro f f0 f1
      by_cases c : f = i
      · subst c; rw [x_rd_eq]
      · rw [x_rd_ne (by omega)]; exact j2 f f0 (by omega)
    · intro H
      rw [bk_85_1]
      simp (disch := first | omega | (simp only [x_wtI, x_wtJ, x_wtR, x_wtN]; omega) | assumption | (simp (disch := omega) only [x_st_o, x_rd_ne]; first | assumption | omega) | (apply mir_eq; assumption; (intro c h1 h2; simp (disch := omega) only [x_st_o])) | (apply mis_eq; assumption; (intro c h1 h2; simp (disch := omega) only [x_st_o])) | rfl) only [bk_85_0, bk_85_2, wp_ic, wp_ist1, wp_fall, wp_ild1, wp_icge, wp_ald0, wr_33_11, ws_43, wp_inc1, wp_goto, wp_ret, x_clr_I, x_clr_J, x_clr_R, x_clr_U, ct_some, ct_none, lc_lt, lc_ge, lc_gt, lc_le, lc_eq, lc_r, xI_inj, xJ_inj, Option.some.injEq, eq_self, bi_r, bi_0, bi_1, bi_n, Classical.not_not, and_true, true_and, ite_true, ite_false, ↓reduceIte, ↓x_andl, z_le, z_nle, z_lt, z_nlt, z_eq, z_neq, if_pos, if_neg, x_andl, false_and, and_false, or_true, true_or, or_false, false_or, not_true, not_false_iff, x_rd_eq, x_rd_ne, x_st_o, Int.cast_ofNat_Int, Int.ofNat_zero, Int.ofNat_one, not_true_eq_false, not_false_eq_true, if_true, if_false, ite_self, and_self, Int.ofNat_eq_natCast, Int.tdiv_eq_ediv_of_nonneg, Int.tmod_eq_emod_of_nonneg, x_bm32]
      exact H
  · intro σ0 ⟨j1, j2⟩
    rw [bk_85_1]
    simp (disch := first | omega | (simp only [x_wtI, x_wtJ, x_wtR, x_wtN]; omega) | assumption | (simp (disch := omega) only [x_st_o, x_rd_ne]; first | assumption | omega) | (apply mir_eq; assumption; (intro c h1 h2; simp (disch := omega) only [x_st_o])) | (apply mis_eq; assumption; (intro c h1 h2; simp (disch := omega) only [x_st_o])) | rfl) only [bk_85_0, bk_85_2, wp_ic, wp_ist1, wp_fall, wp_ild1, wp_icge, wp_ald0, wr_33_11, ws_43, wp_inc1, wp_goto, wp_ret, bk_84_0, bk_84_2, bk_84_3, wp_lld1, wp_lst3, wp_lc, wp_lst5, wk_85, wp_ist7, wp_ild7, wp_lld3, wp_lcmp, wp_ifle, wk_86, wp_ist8, wp_ild8, wp_icne, wp_lld5, wp_lret, wr_33_9, wl_42, wp_pald, wk_275, c_minj, wp_lst9, wp_lld9, wr_33_7, wl_40, wp_cald, wp_i2l, wp_lmul, wp_ladd, wp_lsub, wp_inc7, x_clr_I, x_clr_J, x_clr_R, x_clr_U, ct_some, ct_none, lc_lt, lc_ge, lc_gt, lc_le, lc_eq, lc_r, xI_inj, xJ_inj, Option.some.injEq, eq_self, bi_r, bi_0, bi_1, bi_n, Classical.not_not, and_true, true_and, ite_true, ite_false, ↓reduceIte, ↓x_andl, z_le, z_nle, z_lt, z_nlt, z_eq, z_neq, if_pos, if_neg, x_andl, false_and, and_false, or_true, true_or, or_false, false_or, not_true, not_false_iff, x_rd_eq, x_rd_ne, x_st_o, Int.cast_ofNat_Int, Int.ofNat_zero, Int.ofNat_one, not_true_eq_false, not_false_eq_true, if_true, if_false, ite_self, and_self, Int.ofNat_eq_natCast, Int.tdiv_eq_ediv_of_nonneg, Int.tmod_eq_emod_of_nonneg, x_bm32]
    refine x_lpX (α := Int × Int × x_S × x_V × x_V) (fun i q => x_eqo [(43, 0)] σ q.2.2.1 ∧ (∀ f, 0 ≤ f → f < 40 → q.2.2.1 43 0 f = 0 ∨ q.2.2.1 43 0 f = 1) ∧ (0 ≤ q.1 ∧ q.1 ≤ 100000000) ∧ p_tl w (σ 40 0) (40 - i).toNat (q.2.2.1 43 0) q.1 q.2.1 = p_tl w (σ 40 0) 40 (fun _ => 0) p 0) (fun i q => x_Wp 3 84 (x_blk 84 1) [xR 33 0, xJ p, xU, xJ q.1, xU, xJ q.2.1, xU, xI i, q.2.2.2.1, q.2.2.2.2, xU] [] q.2.2.1 Q) (lo := 0) (hi := 40) (by omega) (a0 := (p, 0, σ0, xU, xU)) ⟨j1, fun f f0 f1 => Or.inl (j2 f f0 f1), hp, tl_cg (by omega) 40 _ _ _ _ (fun f f0 f1 => j2 f f0 (by omega))⟩ ?_ ?_
    · intro i ⟨lf, sm, σi, u1, u2⟩ i0 i1 ⟨k1, k2, k3, k4⟩
      simp only at k1 k2 k3 k4 ⊢
      have hMi : mir σi 1 w := mir_eq hM (fun c q1 q2 => k1 c 1 (by simp))
      have hfi : fol w σi := fol_eq hf (fun c q1 q2 => k1 c 0 (by simp; omega))
      have e40 : σi 40 0 = σ 40 0 := k1 40 0 (by decide)
      have ali : ∀ f, 0 ≤ f → f < w 0 → p_fr w (w 8) f → ¬ cV σi f = -1 := by
        intro f f0 f1 g
        have : cV σi f = cV σ f := by
          unfold cV
          rw [k1 35 0 (by decide), k1 38 0 (by decide), k1 39 0 (by decide)]
        rw [this]
        exact al f f0 f1 g
      rw [show (40 - i).toNat = (40 - (i + 1)).toNat + 1 by omega] at k4
      have k5 : (if lf ≤ 0 ∨ p_dl w (σ 40 0) (σi 43 0) (w 0).toNat = -1 then sm else p_tl w (σ 40 0) (40 - (i + 1)).toNat (w_up (σi 43 0) (p_dl w (σ 40 0) (σi 43 0) (w 0).toNat) 1) (lf - min lf (p_part w (p_dl w (σ 40 0) (σi 43 0) (w 0).toNat))) (sm + min lf (p_part w (p_dl w (σ 40 0) (σi 43 0) (w 0).toNat)) * σ 40 0 (p_dl w (σ 40 0) (σi 43 0) (w 0).toNat))) = p_tl w (σ 40 0) 40 (fun _ => 0) p 0 := k4
      have dp := dl_p (w := w) (S := σ 40 0) (tk := σi 43 0) (w 0).toNat
      have kd := fun (d : Nat) (Q : Option x_V → x_S → Prop) => k_dearest (d := d) (Q := Q) hMi hw hn hq hfi k2 ali
      rw [e40] at kd
      generalize hD : p_dl w (σ 40 0) (σi 43 0) (w 0).toNat = D at *
      rw [bk_84_1]
      by_cases c1 : lf ≤ 0
      · refine Or.inl ?_
        rw [if_pos (Or.inl c1)] at k5
        simp (disch := first | omega | (simp only [x_wtI, x_wtJ, x_wtR, x_wtN]; omega) | assumption | (simp (disch := omega) only [x_st_o, x_rd_ne]; first | assumption | omega) | (apply mir_eq; assumption; (intro c h1 h2; simp (disch := omega) only [x_st_o])) | (apply mis_eq; assumption; (intro c h1 h2; simp (disch := omega) only [x_st_o])) | rfl) only [bk_84_0, bk_84_2, bk_84_3, wp_lld1, wp_lst3, wp_lc, wp_lst5, wp_ald0, wk_85, wp_ic, wp_ist7, wp_fall, wp_ild7, wp_icge, wp_lld3, wp_lcmp, wp_ifle, wk_86, wp_ist8, wp_ild8, wp_icne, wp_lld5, wp_lret, wr_33_11, ws_43, wr_33_9, wl_42, wp_pald, wk_275, c_minj, wp_lst9, wp_lld9, wr_33_7, wl_40, wp_cald, wp_i2l, wp_lmul, wp_ladd, wp_lsub, wp_inc7, wp_goto, x_clr_I, x_clr_J, x_clr_R, x_clr_U, ct_some, ct_none, lc_lt, lc_ge, lc_gt, lc_le, lc_eq, lc_r, xI_inj, xJ_inj, Option.some.injEq, eq_self, bi_r, bi_0, bi_1, bi_n, Classical.not_not, and_true, true_and, ite_true, ite_false, ↓reduceIte, ↓x_andl, z_le, z_nle, z_lt, z_nlt, z_eq, z_neq, if_pos, if_neg, x_andl, false_and, and_false, or_true, true_or, or_false, false_or, not_true, not_false_iff, x_rd_eq, x_rd_ne, x_st_o, Int.cast_ofNat_Int, Int.ofNat_zero, Int.ofNat_one, not_true_eq_false, not_false_eq_true, if_true, if_false, ite_self, and_self, Int.ofNat_eq_natCast, Int.tdiv_eq_ediv_of_nonneg, Int.tmod_eq_emod_of_nonneg, x_bm32]
        exact hQ _ _ ⟨by rw [k5], k1⟩
      · by_cases c2 : D = -1
        · refine Or.inl ?_
          rw [if_pos (Or.inr c2)] at k5
          simp (disch := first | omega | (simp only [x_wtI, x_wtJ, x_wtR, x_wtN]; omega) | assumption | (simp (disch := omega) only [x_st_o, x_rd_ne]; first | assumption | omega) | (apply mir_eq; assumption; (intro c h1 h2; simp (disch := omega) only [x_st_o])) | (apply mis_eq; assumption; (intro c h1 h2; simp (disch := omega) only [x_st_o])) | rfl) only [bk_84_0, bk_84_2, bk_84_3, wp_lld1, wp_lst3, wp_lc, wp_lst5, wp_ald0, wk_85, wp_ic, wp_ist7, wp_fall, wp_ild7, wp_icge, wp_lld3, wp_lcmp, wp_ifle, wk_86, wp_ist8, wp_ild8, wp_icne, wp_lld5, wp_lret, wr_33_11, ws_43, wr_33_9, wl_42, wp_pald, wk_275, c_minj, wp_lst9, wp_lld9, wr_33_7, wl_40, wp_cald, wp_i2l, wp_lmul, wp_ladd, wp_lsub, wp_inc7, wp_goto, x_clr_I, x_clr_J, x_clr_R, x_clr_U, ct_some, ct_none, lc_lt, lc_ge, lc_gt, lc_le, lc_eq, lc_r, xI_inj, xJ_inj, Option.some.injEq, eq_self, bi_r, bi_0, bi_1, bi_n, Classical.not_not, and_true, true_and, ite_true, ite_false, ↓reduceIte, ↓x_andl, z_le, z_nle, z_lt, z_nlt, z_eq, z_neq, if_pos, if_neg, x_andl, false_and, and_false, or_true, true_or, or_false, false_or, not_true, not_false_iff, x_rd_eq, x_rd_ne, x_st_o, Int.cast_ofNat_Int, Int.ofNat_zero, Int.ofNat_one, not_true_eq_false, not_false_eq_true, if_true, if_false, ite_self, and_self, Int.ofNat_eq_natCast, Int.tdiv_eq_ediv_of_nonneg, Int.tmod_eq_emod_of_nonneg, x_bm32, kd, c2]
          exact hQ _ _ ⟨by rw [k5], k1⟩
        · rw [if_neg (fun z => z.elim c1 c2)] at k5
          obtain ⟨d1, d2, d3⟩ : (0 ≤ D ∧ D < ((w 0).toNat : Int)) ∧ p_ed w D ∧ σi 43 0 D = 0 := by
            rcases dp with z | z
            · exact absurd z c2
            · exact z
          have pr := part_r hw h100 hn.1 (f := D) d1.1 (by omega)
          have ep : σi 42 0 D = p_part w D := hfi.2.2.2.2.1 D d1.1 (by omega)
          have tb : -1000000 ≤ σ 40 0 D ∧ σ 40 0 D ≤ 1000000 := hf.2.2.2.2.2 D d1.1 (by omega)
          refine Or.inr ⟨(lf - min lf (p_part w D), sm + min lf (p_part w D) * σ 40 0 D, x_st σi 43 0 D 1, xI D, xJ (min lf (p_part w D))), ⟨eqo_st (by decide) k1, ?_, ⟨by (show 0 ≤ lf - min lf (p_part w D); omega), by (show lf - min lf (p_part w D) ≤ 100000000; omega)⟩, ?_⟩, ?_⟩
          · intro f f0 f1
            show x_st σi 43 0 D 1 43 0 f = 0 ∨ x_st σi 43 0 D 1 43 0 f = 1
            by_cases c : f = D
            · subst c; rw [x_rd_eq]; exact Or.inr rfl
            · rw [x_rd_ne (by omega)]; exact k2 f f0 f1
          · show p_tl w (σ 40 0) (40 - (i + 1)).toNat (x_st σi 43 0 D 1 43 0) _ _ = _
            rw [x_st_w]
            exact k5
          · intro H
            simp (disch := first | omega | (simp only [x_wtI, x_wtJ, x_wtR, x_wtN]; omega) | assumption | (simp (disch := omega) only [x_st_o, x_rd_ne]; first | assumption | omega) | (apply mir_eq; assumption; (intro c h1 h2; simp (disch := omega) only [x_st_o])) | (apply mis_eq; assumption; (intro c h1 h2; simp (disch := omega) only [x_st_o])) | rfl) only [bk_84_0, bk_84_2, bk_84_3, wp_lld1, wp_lst3, wp_lc, wp_lst5, wp_ald0, wk_85, wp_ic, wp_ist7, wp_fall, wp_ild7, wp_icge, wp_lld3, wp_lcmp, wp_ifle, wk_86, wp_ist8, wp_ild8, wp_icne, wp_lld5, wp_lret, wr_33_11, ws_43, wr_33_9, wl_42, wp_pald, wk_275, c_minj, wp_lst9, wp_lld9, wr_33_7, wl_40, wp_cald, wp_i2l, wp_lmul, wp_ladd, wp_lsub, wp_inc7, wp_goto, x_clr_I, x_clr_J, x_clr_R, x_clr_U, ct_some, ct_none, lc_lt, lc_ge, lc_gt, lc_le, lc_eq, lc_r, xI_inj, xJ_inj, Option.some.injEq, eq_self, bi_r, bi_0, bi_1, bi_n, Classical.not_not, and_true, true_and, ite_true, ite_false, ↓reduceIte, ↓x_andl, z_le, z_nle, z_lt, z_nlt, z_eq, z_neq, if_pos, if_neg, x_andl, false_and, and_false, or_true, true_or, or_false, false_or, not_true, not_false_iff, x_rd_eq, x_rd_ne, x_st_o, Int.cast_ofNat_Int, Int.ofNat_zero, Int.ofNat_one, not_true_eq_false, not_false_eq_true, if_true, if_false, ite_self, and_self, Int.ofNat_eq_natCast, Int.tdiv_eq_ediv_of_nonneg, Int.tmod_eq_emod_of_nonneg, x_bm32, kd, ep, e40]
            exact H
    · intro ⟨lf, sm, σi, u1, u2⟩ ⟨k1, k2, k3, k4⟩
      simp only at k1 k2 k3 k4 ⊢
      rw [bk_84_1]
      simp (disch := first | omega | (simp only [x_wtI, x_wtJ, x_wtR, x_wtN]; omega) | assumption | (simp (disch := omega) only [x_st_o, x_rd_ne]; first | assumption | omega) | (apply mir_eq; assumption; (intro c h1 h2; simp (disch := omega) only [x_st_o])) | (apply mis_eq; assumption; (intro c h1 h2; simp (disch := omega) only [x_st_o])) | rfl) only [bk_84_0, bk_84_2, bk_84_3, wp_lld1, wp_lst3, wp_lc, wp_lst5, wp_ald0, wk_85, wp_ic, wp_ist7, wp_fall, wp_ild7, wp_icge, wp_lld3, wp_lcmp, wp_ifle, wk_86, wp_ist8, wp_ild8, wp_icne, wp_lld5, wp_lret, wr_33_11, ws_43, wr_33_9, wl_42, wp_pald, wk_275, c_minj, wp_lst9, wp_lld9, wr_33_7, wl_40, wp_cald, wp_i2l, wp_lmul, wp_ladd, wp_lsub, wp_inc7, wp_goto, x_clr_I, x_clr_J, x_clr_R, x_clr_U, ct_some, ct_none, lc_lt, lc_ge, lc_gt, lc_le, lc_eq, lc_r, xI_inj, xJ_inj, Option.some.injEq, eq_self, bi_r, bi_0, bi_1, bi_n, Classical.not_not, and_true, true_and, ite_true, ite_false, ↓reduceIte, ↓x_andl, z_le, z_nle, z_lt, z_nlt, z_eq, z_neq, if_pos, if_neg, x_andl, false_and, and_false, or_true, true_or, or_false, false_or, not_true, not_false_iff, x_rd_eq, x_rd_ne, x_st_o, Int.cast_ofNat_Int, Int.ofNat_zero, Int.ofNat_one, not_true_eq_false, not_false_eq_true, if_true, if_false, ite_self, and_self, Int.ofNat_eq_natCast, Int.tdiv_eq_ediv_of_nonneg, Int.tmod_eq_emod_of_nonneg, x_bm32]
      exact hQ _ _ ⟨by rw [← k4]; rfl, k1⟩

/-! parts of now -/
def p_po (w : Int → Int) (f : Int) : Int := x_pay (w_of w f 6) * p_pr w (w 8) 4 f
theorem pay_q {m : Int} (h : 0 ≤ m ∧ m ≤ 4) : (100000000 : Int).tdiv (x_pay m) = x_pay (4 - m) ∧ (100000000 : Int) / x_pay m = x_pay (4 - m) := by
  have : m = 0 ∨ m = 1 ∨ m = 2 ∨ m = 3 ∨ m = 4 := by omega
  rcases this with rfl | rfl | rfl | rfl | rfl <;> exact ⟨by decide, by decide⟩
theorem pay_m {m k : Int} (h0 : 0 ≤ m) (h1 : m ≤ k) (h2 : k ≤ 4) : x_pay (k - m) = x_pay (4 - m) * x_pay k := by
  have hm : m = 0 ∨ m = 1 ∨ m = 2 ∨ m = 3 ∨ m = 4 := by omega
  have hk : k = 0 ∨ k = 1 ∨ k = 2 ∨ k = 3 ∨ k = 4 := by omega
  rcases hm with rfl | rfl | rfl | rfl | rfl <;> rcases hk with rfl | rfl | rfl | rfl | rfl <;> first | omega | decide
theorem part_po {w : Int → Int} {f : Int} (hw : wf w) (hn : wn w) (f0 : 0 ≤ f) (f1 : f < w 0) (fr : p_fr w (w 8) f) : p_part w f = x_pay (4 - w_of w (w 8) 6) * p_po w f := by
  have n8 := hn.1
  have o := wf_f hw f0 f1
  unfold wf_one at o
  have on := wf_f hw n8.1 n8.2
  unfold wf_one at on
  unfold p_part p_po
  rw [if_pos fr, pay_m (by omega) (far_ge hw n8.1 f0 f1 fr) (by omega), Int.mul_assoc]
theorem po_b {w : Int → Int} {f : Int} (hw : wf w) (h100 : wf_100 w) (hn : wn w) (f0 : 0 ≤ f) (f1 : f < w 0) (fr : p_fr w (w 8) f) : 0 ≤ p_po w f ∧ p_po w f ≤ 100000000 := by
  have pr := part_r hw h100 hn.1 f0 f1
  rw [part_po hw hn f0 f1 fr] at pr
  have n8 := hn.1
  have on := wf_f hw n8.1 n8.2
  unfold wf_one at on
  have hm : w_of w (w 8) 6 = 0 ∨ w_of w (w 8) 6 = 1 ∨ w_of w (w 8) 6 = 2 ∨ w_of w (w 8) 6 = 3 ∨ w_of w (w 8) 6 = 4 := by omega
  have e0 : x_pay 0 = 100000000 := rfl
  have e1 : x_pay 1 = 1000000 := rfl
  have e2 : x_pay 2 = 10000 := rfl
  have e3 : x_pay 3 = 100 := rfl
  have e4 : x_pay 4 = 1 := rfl
  rcases hm with z | z | z | z | z <;> rw [z] at pr
  · rw [show (4 : Int) - 0 = 4 by omega, e4] at pr; omega
  · rw [show (4 : Int) - 1 = 3 by omega, e3] at pr; omega
  · rw [show (4 : Int) - 2 = 2 by omega, e2] at pr; omega
  · rw [show (4 : Int) - 3 = 1 by omega, e1] at pr; omega
  · rw [show (4 : Int) - 4 = 0 by omega, e0] at pr; omega
theorem k_partsOf {d : Nat} {σ : x_S} {Q : Option x_V → x_S → Prop} {w : Int → Int} {f : Int} (h51 : σ 51 0 = w) (hw : wf w) (h100 : wf_100 w) (hn : wn w) (h0 : 0 ≤ f) (h1 : f < w 0) (hf : p_fr w (w 8) f) : x_Sp (d + 1) 227 [xR 50 0, xI f] σ Q ↔ Q (some (xJ (p_po w f))) σ := by
  have a := wf_h hw
  unfold wf_hdr at a
  have hn8 := hn.1
  have of := wf_f hw h0 h1
  unfold wf_one at of
  refine x_sp_of ?_
  simp (disch := first | omega | (simp only [x_wtI, x_wtJ, x_wtR, x_wtN]; omega) | assumption | (simp (disch := omega) only [x_st_o, x_rd_ne]; first | assumption | omega) | (apply mir_eq; assumption; (intro c h1 h2; simp (disch := omega) only [x_st_o])) | (apply mis_eq; assumption; (intro c h1 h2; simp (disch := omega) only [x_st_o])) | rfl) only [sp_227, bk_227_0, bk_227_2, wp_ald0, wp_ild1, wp_ic, wk_192, wk_206, wp_lst2, wp_ist4, wp_fall, wp_ild4, wr_50_1, wl_51, wp_cald, wp_iceq, wp_lld2, wp_i2l, wp_lmul, wp_goto, wp_lret, x_clr_I, x_clr_J, x_clr_R, x_clr_U, ct_some, ct_none, lc_lt, lc_ge, lc_gt, lc_le, lc_eq, lc_r, xI_inj, xJ_inj, Option.some.injEq, eq_self, bi_r, bi_0, bi_1, bi_n, Classical.not_not, and_true, true_and, ite_true, ite_false, ↓reduceIte, ↓x_andl, z_le, z_nle, z_lt, z_nlt, z_eq, z_neq, if_pos, if_neg, x_andl, false_and, and_false, or_true, true_or, or_false, false_or, not_true, not_false_iff, x_rd_eq, x_rd_ne, x_st_o, Int.cast_ofNat_Int, Int.ofNat_zero, Int.ofNat_one, not_true_eq_false, not_false_eq_true, if_true, if_false, ite_self, and_self, Int.ofNat_eq_natCast, Int.tdiv_eq_ediv_of_nonneg, Int.tmod_eq_emod_of_nonneg, x_bm32, k_of, k_parts]
  refine x_lpV (α := Int × Int) (fun q => (0 ≤ q.1 ∧ q.1 < w 0) ∧ p_fr w (w 8) q.1 ∧ ∃ P, q.2 = x_pay (w_of w f 6) * P ∧ P * p_pr w (w 8) 4 q.1 = p_pr w (w 8) 4 f) (fun q => x_Wp (d + 1) 227 (x_blk 227 1) [xR 50 0, xI f, xJ q.2, xU, xI q.1] [] σ (fun r2 σ2 => r2 = some (xJ (p_po w f)) ∧ σ2 = σ)) (fun q => q.1) (a0 := (f, x_pay (w_of w f 6))) ⟨⟨h0, h1⟩, hf, 1, (Int.mul_one _).symm, Int.one_mul _⟩ ?_
  · intro ⟨k, p⟩ ⟨⟨k0, k1⟩, kf, P, p1, p2⟩
    simp only at k0 k1 kf p1 p2 ⊢
    have o := wf_f hw k0 k1
    unfold wf_one at o
    by_cases c : k = w 8
    · refine Or.inl ?_
      have e : p = p_po w f := by
        unfold p_po
        rw [p1, ← p2, c, pr_le (Int.le_refl _), Int.mul_one]
      rw [bk_227_1, ← e]
      simp (disch := first | omega | (simp only [x_wtI, x_wtJ, x_wtR, x_wtN]; omega) | assumption | (simp (disch := omega) only [x_st_o, x_rd_ne]; first | assumption | omega) | (apply mir_eq; assumption; (intro c h1 h2; simp (disch := omega) only [x_st_o])) | (apply mis_eq; assumption; (intro c h1 h2; simp (disch := omega) only [x_st_o])) | rfl) only [bk_227_0, bk_227_2, wp_ald0, wp_ild1, wp_ic, wk_192, wk_206, wp_lst2, wp_ist4, wp_fall, wp_ild4, wr_50_1, wl_51, wp_cald, wp_iceq, wp_lld2, wp_i2l, wp_lmul, wp_goto, wp_lret, x_clr_I, x_clr_J, x_clr_R, x_clr_U, ct_some, ct_none, lc_lt, lc_ge, lc_gt, lc_le, lc_eq, lc_r, xI_inj, xJ_inj, Option.some.injEq, eq_self, bi_r, bi_0, bi_1, bi_n, Classical.not_not, and_true, true_and, ite_true, ite_false, ↓reduceIte, ↓x_andl, z_le, z_nle, z_lt, z_nlt, z_eq, z_neq, if_pos, if_neg, x_andl, false_and, and_false, or_true, true_or, or_false, false_or, not_true, not_false_iff, x_rd_eq, x_rd_ne, x_st_o, Int.cast_ofNat_Int, Int.ofNat_zero, Int.ofNat_one, not_true_eq_false, not_false_eq_true, if_true, if_false, ite_self, and_self, Int.ofNat_eq_natCast, Int.tdiv_eq_ediv_of_nonneg, Int.tmod_eq_emod_of_nonneg, x_bm32, h51]
    · have u := fr_par hw hn8.1 kf c k1
      have uu := wf_u hw (f := k) (by omega) k1
      have kg := fr_gt kf c
      refine Or.inr ⟨k0, (w_of w k 0, p * w_of w k 1), ⟨⟨uu.1, by (show w_of w k 0 < w 0; omega)⟩, u.1, P * w_of w k 1, ?_, ?_⟩, uu.2.1, ?_⟩
      · show p * w_of w k 1 = _
        rw [p1, Int.mul_assoc]
      · show P * w_of w k 1 * p_pr w (w 8) 4 (w_of w k 0) = _
        rw [Int.mul_assoc, ← pr_up hw hn8.1 kg k1]
        exact p2
      · intro H
        rw [bk_227_1]
        simp (disch := first | omega | (simp only [x_wtI, x_wtJ, x_wtR, x_wtN]; omega) | assumption | (simp (disch := omega) only [x_st_o, x_rd_ne]; first | assumption | omega) | (apply mir_eq; assumption; (intro c h1 h2; simp (disch := omega) only [x_st_o])) | (apply mis_eq; assumption; (intro c h1 h2; simp (disch := omega) only [x_st_o])) | rfl) only [bk_227_0, bk_227_2, wp_ald0, wp_ild1, wp_ic, wk_192, wk_206, wp_lst2, wp_ist4, wp_fall, wp_ild4, wr_50_1, wl_51, wp_cald, wp_iceq, wp_lld2, wp_i2l, wp_lmul, wp_goto, wp_lret, x_clr_I, x_clr_J, x_clr_R, x_clr_U, ct_some, ct_none, lc_lt, lc_ge, lc_gt, lc_le, lc_eq, lc_r, xI_inj, xJ_inj, Option.some.injEq, eq_self, bi_r, bi_0, bi_1, bi_n, Classical.not_not, and_true, true_and, ite_true, ite_false, ↓reduceIte, ↓x_andl, z_le, z_nle, z_lt, z_nlt, z_eq, z_neq, if_pos, if_neg, x_andl, false_and, and_false, or_true, true_or, or_false, false_or, not_true, not_false_iff, x_rd_eq, x_rd_ne, x_st_o, Int.cast_ofNat_Int, Int.ofNat_zero, Int.ofNat_one, not_true_eq_false, not_false_eq_true, if_true, if_false, ite_self, and_self, Int.ofNat_eq_natCast, Int.tdiv_eq_ediv_of_nonneg, Int.tmod_eq_emod_of_nonneg, x_bm32, h51, k_of]
        exact H
theorem k_inParts {d : Nat} {σ : x_S} {Q : Option x_V → x_S → Prop} {w : Int → Int} {S : Int} (hM : mir σ 1 w) (hS : mis σ 1 w) (hw : wf w) (hn : wn w) (hb : -9223372036854775808 ≤ x_pay (4 - w_of w (w 8) 6) * S ∧ x_pay (4 - w_of w (w 8) 6) * S ≤ 9223372036854775807) : x_Sp d 124 [xR 0 0, xJ (x_pay (4 - w_of w (w 8) 6) * S)] σ Q ↔ Q (some (xJ S)) σ := by
  have n8 := hn.1
  have a := wf_h hw
  unfold wf_hdr at a
  have on := wf_f hw n8.1 n8.2
  unfold wf_one at on
  have pq := pay_q (m := w_of w (w 8) 6) (by omega)
  have pb := pay_b (m := 4 - w_of w (w 8) 6)
  have pb2 := pay_b (m := w_of w (w 8) 6)
  generalize hP : x_pay (4 - w_of w (w 8) 6) = P at pq pb hb
  generalize hP2 : x_pay (w_of w (w 8) 6) = P2 at pq pb2
  have cn : (P * S).tdiv P = S := Int.mul_tdiv_cancel_left S (by omega)
  generalize hPS : P * S = PS at cn hb
  refine x_sp_of ?_
  simp (disch := first | omega | (simp only [x_wtI, x_wtJ, x_wtR, x_wtN]; omega) | assumption | (simp (disch := omega) only [x_st_o, x_rd_ne]; first | assumption | omega) | (apply mir_eq; assumption; (intro c h1 h2; simp (disch := omega) only [x_st_o])) | (apply mis_eq; assumption; (intro c h1 h2; simp (disch := omega) only [x_st_o])) | rfl) only [sp_124, bk_124_0, wp_lld1, wp_lc, wp_parts, wp_ald0, wr_0_2, wr_20_0, wr_6_13, wp_geti kd_20, wl_13, wp_cald, wp_pald, wp_ldiv, wp_lret, x_clr_I, x_clr_J, x_clr_R, x_clr_U, ct_some, ct_none, lc_lt, lc_ge, lc_gt, lc_le, lc_eq, lc_r, xI_inj, xJ_inj, Option.some.injEq, eq_self, bi_r, bi_0, bi_1, bi_n, Classical.not_not, and_true, true_and, ite_true, ite_false, ↓reduceIte, ↓x_andl, z_le, z_nle, z_lt, z_nlt, z_eq, z_neq, if_pos, if_neg, x_andl, false_and, and_false, or_true, true_or, or_false, false_or, not_true, not_false_iff, x_rd_eq, x_rd_ne, x_st_o, Int.cast_ofNat_Int, Int.ofNat_zero, Int.ofNat_one, not_true_eq_false, not_false_eq_true, if_true, if_false, ite_self, and_self, Int.ofNat_eq_natCast, Int.tmod_eq_emod_of_nonneg, x_bm32, hS.1.1, mi_far hM, hP2, pq.1, pq.2, cn]
theorem sumE_mul {w g : Int → Int} {P : Int} : ∀ n : Nat, sumE w (fun e => P * g e) n = P * sumE w g n := by
  intro n
  induction n with
  | zero => exact (Int.mul_zero P).symm
  | succ n ih =>
    show sumE w (fun e => P * g e) n + (if p_ed w n then P * g n else 0) = P * (sumE w g n + (if p_ed w n then g n else 0))
    rw [ih, Int.mul_add]
    by_cases c : p_ed w n
    · rw [if_pos c, if_pos c]
    · rw [if_neg c, if_neg c, Int.mul_zero]
def maxE (w g : Int → Int) : Nat → Int
  | 0 => (-9223372036854775808)
  | n + 1 => if p_ed w n then max (maxE w g n) (g n) else maxE w g n
theorem maxE_s {w g : Int → Int} {i : Int} (i0 : 0 ≤ i) : maxE w g (i + 1).toNat = if p_ed w i then max (maxE w g i.toNat) (g i) else maxE w g i.toNat := by
  rw [show (i + 1).toNat = i.toNat + 1 by omega]
  show (if p_ed w (i.toNat : Int) then max (maxE w g i.toNat) (g (i.toNat : Int)) else maxE w g i.toNat) = _
  rw [Int.toNat_of_nonneg i0]
theorem maxE_0 {w g : Int → Int} : ∀ n : Nat, (n : Int) ≤ w 8 → maxE w g n = (-9223372036854775808) := by
  intro n
  induction n with
  | zero => intro _; rfl
  | succ n ih =>
    intro h
    show (if p_ed w n then max (maxE w g n) (g n) else maxE w g n) = (-9223372036854775808)
    rw [if_neg (fun z => fr_lt (by omega) z.1)]
    exact ih (by omega)
theorem maxE_cg {w g g' : Int → Int} {N : Int} (h : ∀ f, 0 ≤ f → f < N → p_ed w f → g' f = g f) : ∀ n : Nat, (n : Int) ≤ N → maxE w g' n = maxE w g n := by
  intro n
  induction n with
  | zero => intro _; rfl
  | succ n ih =>
    intro hn
    show (if p_ed w n then max (maxE w g' n) (g' n) else maxE w g' n) = (if p_ed w n then max (maxE w g n) (g n) else maxE w g n)
    rw [ih (by omega)]
    by_cases c : p_ed w n
    · rw [if_pos c, if_pos c, h n (by omega) (by omega) c]
    · rw [if_neg c, if_neg c]
theorem maxE_b {w g : Int → Int} {N B : Int} (hB : 0 ≤ B ∧ B ≤ 9000000000000000000) (h : ∀ f, 0 ≤ f → f < N → p_ed w f → -B ≤ g f ∧ g f ≤ B) : ∀ n : Nat, (n : Int) ≤ N → -9223372036854775808 ≤ maxE w g n ∧ maxE w g n ≤ B := by
  intro n
  induction n with
  | zero => intro _; show (-9223372036854775808 : Int) ≤ (-9223372036854775808) ∧ (-9223372036854775808) ≤ B; omega
  | succ n ih =>
    intro hn
    have i := ih (by omega)
    show -9223372036854775808 ≤ (if p_ed w n then max (maxE w g n) (g n) else maxE w g n) ∧ (if p_ed w n then max (maxE w g n) (g n) else maxE w g n) ≤ B
    by_cases c : p_ed w n
    · rw [if_pos c]
      have := h n (by omega) (by omega) c
      omega
    · rw [if_neg c]
      exact i
/-! an end is come to where something is left -/
theorem al_ends {w T L Ym L' : Int → Int} (hw : wf w) (hn : wn w) (g5 : gT 0 5 4 (-1) w L T (w 8)) (al : ¬ T (42 * w 8 + (21 * w 10 + w 9)) = (-9223372036854775808)) (hM : mwy w Ym L') : ∀ f, w 8 ≤ f → f < w 0 → p_fr w (w 8) f → ∃ st wd, (0 ≤ st ∧ st ≤ 20) ∧ (0 ≤ wd ∧ wd ≤ 1) ∧ ¬ T (42 * f + (21 * wd + st)) = (-9223372036854775808) ∧ ¬ Ym (42 * f + (21 * wd + st)) = (-9223372036854775808) := by
  obtain ⟨n8, n9, n10, _⟩ := id hn
  have key : ∀ n : Nat, ∀ f : Int, f < n → w 8 ≤ f → f < w 0 → p_fr w (w 8) f → ∃ st wd, (0 ≤ st ∧ st ≤ 20) ∧ (0 ≤ wd ∧ wd ≤ 1) ∧ ¬ T (42 * f + (21 * wd + st)) = (-9223372036854775808) ∧ ¬ Ym (42 * f + (21 * wd + st)) = (-9223372036854775808) := by
    intro n
    induction n with
    | zero => intro f p q; omega
    | succ n ih =>
      intro f fn f0 f1 fr
      by_cases z : f = w 8
      · rw [z]
        exact ⟨w 9, w 10, n9, n10, al, rc_now hn hM⟩
      · have u := fr_par hw n8.1 fr z f1
        obtain ⟨st, wd, hs, hd, h1, h2⟩ := ih _ (by omega) u.2.2.2 (by omega) u.1
        obtain ⟨i, i0, i1, i2⟩ := wf_p hw (f := f) (by omega) f1
        have ou := wf_f hw (f := w_of w f 0) u.2.1 (by omega)
        unfold wf_one at ou
        rcases (gT_row hn (by omega) g5 (w_of w f 0) u.2.2.2 (by omega) u.1).1 st wd hs.1 hs.2 hd.1 hd.2 with ⟨y, _⟩ | ⟨⟨b, t, l, r, _⟩, _⟩
        · exact absurd y h1
        · have sb := sl_b hw u.2.1 (by omega) hs l
          have po := p_or_01 (a := wd) (b := b)
          have nd := r.resolve_left (fun y => by
            have : w_of w (w_of w f 0) 7 = 0 ∨ 5 ≤ w_of w (w_of w f 0) 6 := y
            omega)
          have y := ym_kid hw hn hM u.2.2.2 (by omega) u.1 hs hd h2 l i0 i1
          rw [i2] at y
          exact ⟨t, p_or wd b, sb.2.1, po, fun x => nd ⟨i, i0, i1, by rw [i2]; exact x⟩, y⟩
  exact fun f => key (f + 1).toNat f (by omega)
theorem al_end {w T L Ym L' Y Lc : Int → Int} {e : Int} (hw : wf w) (hn : wn w) (g5 : gT 0 5 4 (-1) w L T (w 8)) (al : ¬ T (42 * w 8 + (21 * w 10 + w 9)) = (-9223372036854775808)) (hM : mwy w Ym L') (hC : g_wayC w Y Lc) (e0 : w 8 ≤ e) (e1 : e < w 0) (ed : p_ed w e) : L' e = Lc e := by
  obtain ⟨st, wd, hs, hd, h1, h2⟩ := al_ends hw hn g5 al hM e e0 e1 ed.1
  rcases (gT_row hn (by omega) g5 e e0 e1 ed.1).1 st wd hs.1 hs.2 hd.1 hd.2 with ⟨y, _⟩ | ⟨⟨b, t, l, _⟩, _⟩
  · exact absurd y h1
  · exact ((ym_end hw hn hM e0 e1 ed.1 hs hd h2 l ed.2).2.2 Y Lc hC).symm
theorem plan_end {w C V S Ym L' Y Lc : Int → Int} {e : Int} (hw : wf w) (hn : wn w) (hq : wq w) (h : wk w (w 0) C V S) (al : ∀ f, 0 ≤ f → f < w 0 → p_fr w (w 8) f → ¬ V f = -1) (hM : mwy w Ym L') (hC : g_wayC w Y Lc) (e0 : w 8 ≤ e) (e1 : e < w 0) (ed : p_ed w e) : L' e = Lc e := by
  obtain ⟨n8, n9, n10, _⟩ := id hn
  have wb := wk_b hw hn hq (Int.le_refl _) h
  have law : ∀ f, w 8 ≤ f → f < w 0 → p_fr w (w 8) f → (0 ≤ C f ∧ C f < 42) ∧ s_law w 4 f (C f % 21) (C f / 21) (w (536 + 2 * f + 1)) (C f % 21 + w (536 + 2 * f) - w_of w f 5) ∧ V f = 21 * p_or (C f / 21) (w (536 + 2 * f + 1)) + (C f % 21 + w (536 + 2 * f) - w_of w f 5) := by
    intro f f0 f1 fr
    have nv := al f (by omega) f1 fr
    have b := wb f (by omega) f1
    have o := wf_f hw (f := f) (by omega) f1
    unfold wf_one at o
    have q := hq f (by omega) f1
    have nc := (b.2.2 nv).2.1
    have ev := (h f (by omega) f1).2.1
    rw [if_neg nc] at ev
    have cr : 0 ≤ C f ∧ C f < 42 := by omega
    have pl : p_law w f (C f % 21) (C f / 21) (w (536 + 2 * f)) (w (536 + 2 * f + 1)) := by
      by_cases z : p_law w f (C f % 21) (C f / 21) (w (536 + 2 * f)) (w (536 + 2 * f + 1))
      · exact z
      · exfalso
        unfold p_beh at ev
        rw [if_neg (fun y => z y.2)] at ev
        exact nv ev
    refine ⟨cr, (sl_iff hw (by omega) f1 (by omega) (by omega) q.2.2).mpr ⟨pl, fun _ => by omega⟩, ?_⟩
    rw [ev]
    unfold p_beh
    rw [if_pos ⟨q.2.2, pl⟩]
  have rc : ∀ n : Nat, ∀ f : Int, f < n → w 8 ≤ f → f < w 0 → p_fr w (w 8) f → ¬ Ym (42 * f + C f) = (-9223372036854775808) := by
    intro n
    induction n with
    | zero => intro f p q; omega
    | succ n ih =>
      intro f fn f0 f1 fr
      have ec := (h f (by omega) f1).1
      by_cases z : f = w 8
      · rw [if_pos z] at ec
        rw [ec, z]
        exact rc_now hn hM
      · rw [if_neg z, if_pos fr] at ec
        have u := fr_par hw n8.1 fr z f1
        obtain ⟨cr, l, ev⟩ := law _ u.2.2.2 (by omega) u.1
        obtain ⟨i, i0, i1, i2⟩ := wf_p hw (f := f) (by omega) f1
        have y := ym_kid hw hn hM u.2.2.2 (by omega) u.1 (st := C (w_of w f 0) % 21) (wd := C (w_of w f 0) / 21) (by omega) (by omega) (by
          rw [show 21 * (C (w_of w f 0) / 21) + C (w_of w f 0) % 21 = C (w_of w f 0) by omega]
          exact ih _ (by omega) u.2.2.2 (by omega) u.1) l i0 i1
        rw [i2, ← ev, ← ec] at y
        exact y
  obtain ⟨cr, l, _⟩ := law e e0 e1 ed.1
  exact ((ym_end hw hn hM e0 e1 ed.1 (st := C e % 21) (wd := C e / 21) (by omega) (by omega) (by
    rw [show 21 * (C e / 21) + C e % 21 = C e by omega]
    exact rc (e + 1).toNat e (by omega) e0 e1 ed.1) l ed.2).2.2 Y Lc hC).symm
section OKN
variable {L : Int} {S0 : Int → Int}
theorem h_knowC {σ : x_S} {w : Int → Int} {at0 : Int} (hM : mir σ 1 w) (hS : mis σ 1 w) (hw : wf w) (h100 : wf_100 w) (hn : wn w) (hL : ∀ e, w 8 ≤ e → e < w 0 → p_ed w e → -170000 ≤ σ 30 0 e ∧ σ 30 0 e ≤ 170000) (hp : ∀ f, 0 ≤ f → f < w 0 → σ 42 0 f = p_part w f) : x_Wp 999 137 (x_blk 137 2) [xR 0 0, xJ at0, xU, xJ 0, xU, xI 0] [] σ (fun r σ' => r = some (xJ (at0 - sumE w (fun e => p_po w e * σ 30 0 e) (w 0).toNat)) ∧ σ' = σ) := by
  have a := wf_h hw
  unfold wf_hdr at a
  have n8 := hn.1
  refine x_lpJ (fun i sm => sm = sumE w (fun e => σ 30 0 e * p_part w e) i.toNat) (fun i sm => x_Wp 999 137 (x_blk 137 2) [xR 0 0, xJ at0, xU, xJ sm, xU, xI i] [] σ (fun r σ' => r = some (xJ (at0 - sumE w (fun e => p_po w e * σ 30 0 e) (w 0).toNat)) ∧ σ' = σ)) (lo := 0) (hi := w 0) (by omega) (a0 := 0) rfl ?_ ?_
  · intro i sm i0 i1 hJ
    subst hJ
    refine ⟨_, rfl, ?_⟩
    intro H
    rw [sumE_s i0] at H
    have o := wf_f hw i0 i1
    unfold wf_one at o
    have ep := hp i i0 i1
    rw [bk_137_2]
    by_cases ah : (0 ≤ i ∧ i < w 0) ∧ p_fr w (w 8) i
    · by_cases c : w_of w i 7 = 0
      · rw [if_pos ⟨ah.2, c⟩] at H
        simp (disch := first | omega | (simp only [x_wtI, x_wtJ, x_wtR, x_wtN]; omega) | assumption | (simp (disch := omega) only [x_st_o, x_rd_ne]; first | assumption | omega) | (apply mir_eq; assumption; (intro c h1 h2; simp (disch := omega) only [x_st_o])) | (apply mis_eq; assumption; (intro c h1 h2; simp (disch := omega) only [x_st_o])) | rfl) only [bk_137_0, bk_137_1, bk_137_3, bk_137_4, wp_ald0, wp_ic, wk_104, wp_lst1, wp_lld1, wp_lc, wp_lcmp, wp_ifne, wp_lret, wk_106, wr_0_9, wk_78, wp_lst3, wp_ist5, wp_fall, wp_ild5, wr_0_2, wr_20_0, wp_geti kd_6, wp_icge, wk_133, wp_ifeq, wr_6_14, wl_14, wp_cald, wp_lld3, wr_0_8, wr_29_1, wl_30, wl_42, wp_pald, wr_33_9, wp_lmul, wp_ladd, wp_inc5, wp_goto, wk_124, wp_lsub, x_clr_I, x_clr_J, x_clr_R, x_clr_U, ct_some, ct_none, lc_lt, lc_ge, lc_gt, lc_le, lc_eq, lc_r, xI_inj, xJ_inj, Option.some.injEq, eq_self, bi_r, bi_0, bi_1, bi_n, Classical.not_not, and_true, true_and, ite_true, ite_false, ↓reduceIte, ↓x_andl, z_le, z_nle, z_lt, z_nlt, z_eq, z_neq, if_pos, if_neg, x_andl, false_and, and_false, or_true, true_or, or_false, false_or, not_true, not_false_iff, x_rd_eq, x_rd_ne, x_st_o, Int.cast_ofNat_Int, Int.ofNat_zero, Int.ofNat_one, not_true_eq_false, not_false_eq_true, if_true, if_false, ite_self, and_self, Int.ofNat_eq_natCast, Int.tdiv_eq_ediv_of_nonneg, Int.tmod_eq_emod_of_nonneg, x_bm32, mi_size hM, k_isAhead hM hS hw hn, bi_t ah, mi_kids hM, ep]
        exact H
      · rw [if_neg (fun z => c z.2), Int.add_zero] at H
        simp (disch := first | omega | (simp only [x_wtI, x_wtJ, x_wtR, x_wtN]; omega) | assumption | (simp (disch := omega) only [x_st_o, x_rd_ne]; first | assumption | omega) | (apply mir_eq; assumption; (intro c h1 h2; simp (disch := omega) only [x_st_o])) | (apply mis_eq; assumption; (intro c h1 h2; simp (disch := omega) only [x_st_o])) | rfl) only [bk_137_0, bk_137_1, bk_137_3, bk_137_4, wp_ald0, wp_ic, wk_104, wp_lst1, wp_lld1, wp_lc, wp_lcmp, wp_ifne, wp_lret, wk_106, wr_0_9, wk_78, wp_lst3, wp_ist5, wp_fall, wp_ild5, wr_0_2, wr_20_0, wp_geti kd_6, wp_icge, wk_133, wp_ifeq, wr_6_14, wl_14, wp_cald, wp_lld3, wr_0_8, wr_29_1, wl_30, wl_42, wp_pald, wr_33_9, wp_lmul, wp_ladd, wp_inc5, wp_goto, wk_124, wp_lsub, x_clr_I, x_clr_J, x_clr_R, x_clr_U, ct_some, ct_none, lc_lt, lc_ge, lc_gt, lc_le, lc_eq, lc_r, xI_inj, xJ_inj, Option.some.injEq, eq_self, bi_r, bi_0, bi_1, bi_n, Classical.not_not, and_true, true_and, ite_true, ite_false, ↓reduceIte, ↓x_andl, z_le, z_nle, z_lt, z_nlt, z_eq, z_neq, if_pos, if_neg, x_andl, false_and, and_false, or_true, true_or, or_false, false_or, not_true, not_false_iff, x_rd_eq, x_rd_ne, x_st_o, Int.cast_ofNat_Int, Int.ofNat_zero, Int.ofNat_one, not_true_eq_false, not_false_eq_true, if_true, if_false, ite_self, and_self, Int.ofNat_eq_natCast, Int.tdiv_eq_ediv_of_nonneg, Int.tmod_eq_emod_of_nonneg, x_bm32, mi_size hM, k_isAhead hM hS hw hn, bi_t ah, mi_kids hM]
        exact H
    · rw [if_neg (fun z => ah ⟨⟨i0, i1⟩, z.1⟩), Int.add_zero] at H
      simp (disch := first | omega | (simp only [x_wtI, x_wtJ, x_wtR, x_wtN]; omega) | assumption | (simp (disch := omega) only [x_st_o, x_rd_ne]; first | assumption | omega) | (apply mir_eq; assumption; (intro c h1 h2; simp (disch := omega) only [x_st_o])) | (apply mis_eq; assumption; (intro c h1 h2; simp (disch := omega) only [x_st_o])) | rfl) only [bk_137_0, bk_137_1, bk_137_3, bk_137_4, wp_ald0, wp_ic, wk_104, wp_lst1, wp_lld1, wp_lc, wp_lcmp, wp_ifne, wp_lret, wk_106, wr_0_9, wk_78, wp_lst3, wp_ist5, wp_fall, wp_ild5, wr_0_2, wr_20_0, wp_geti kd_6, wp_icge, wk_133, wp_ifeq, wr_6_14, wl_14, wp_cald, wp_lld3, wr_0_8, wr_29_1, wl_30, wl_42, wp_pald, wr_33_9, wp_lmul, wp_ladd, wp_inc5, wp_goto, wk_124, wp_lsub, x_clr_I, x_clr_J, x_clr_R, x_clr_U, ct_some, ct_none, lc_lt, lc_ge, lc_gt, lc_le, lc_eq, lc_r, xI_inj, xJ_inj, Option.some.injEq, eq_self, bi_r, bi_0, bi_1, bi_n, Classical.not_not, and_true, true_and, ite_true, ite_false, ↓reduceIte, ↓x_andl, z_le, z_nle, z_lt, z_nlt, z_eq, z_neq, if_pos, if_neg, x_andl, false_and, and_false, or_true, true_or, or_false, false_or, not_true, not_false_iff, x_rd_eq, x_rd_ne, x_st_o, Int.cast_ofNat_Int, Int.ofNat_zero, Int.ofNat_one, not_true_eq_false, not_false_eq_true, if_true, if_false, ite_self, and_self, Int.ofNat_eq_natCast, Int.tdiv_eq_ediv_of_nonneg, Int.tmod_eq_emod_of_nonneg, x_bm32, mi_size hM, k_isAhead hM hS hw hn, bi_f ah]
      exact H
  · intro sm hJ
    subst hJ
    have ge : ∀ f, p_ed w f → w 8 ≤ f := by
      intro f ed
      by_cases q : f < w 8
      · exact absurd ed.1 (fr_lt q)
      · omega
    have e1 : sumE w (fun e => σ 30 0 e * p_part w e) (w 0).toNat = x_pay (4 - w_of w (w 8) 6) * sumE w (fun e => p_po w e * σ 30 0 e) (w 0).toNat := by
      rw [← sumE_mul]
      refine sumE_cg (N := w 0) (fun f f0 f1 ed => ?_) _ (by omega)
      show σ 30 0 f * p_part w f = x_pay (4 - w_of w (w 8) 6) * (p_po w f * σ 30 0 f)
      rw [part_po hw hn f0 f1 ed.1, Int.mul_comm, Int.mul_assoc]
    have b1 := sumE_b (w := w) (g := fun e => σ 30 0 e * p_part w e) (N := w 0) (B := 17000000000000) (by omega) (fun f f0 f1 ed => by
      have := part_r hw h100 hn.1 f0 f1
      have l := hL f (ge f ed) f1 ed
      have m := mulb (a := σ 30 0 f) (b := p_part w f) (A := 170000) (B := 100000000) l (by omega)
      show -17000000000000 ≤ σ 30 0 f * p_part w f ∧ σ 30 0 f * p_part w f ≤ 17000000000000
      omega) (w 0).toNat (by omega)
    rw [e1] at b1 ⊢
    have ki := fun (d' : Nat) (Q' : Option x_V → x_S → Prop) => k_inParts (d := d') (σ := σ) (Q := Q') (w := w) (S := sumE w (fun e => p_po w e * σ 30 0 e) (w 0).toNat) hM hS hw hn (by omega)
    generalize x_pay (4 - w_of w (w 8) 6) * sumE w (fun e => p_po w e * σ 30 0 e) (w 0).toNat = PS at ki b1
    rw [bk_137_2]
    simp (disch := first | omega | (simp only [x_wtI, x_wtJ, x_wtR, x_wtN]; omega) | assumption | (simp (disch := omega) only [x_st_o, x_rd_ne]; first | assumption | omega) | (apply mir_eq; assumption; (intro c h1 h2; simp (disch := omega) only [x_st_o])) | (apply mis_eq; assumption; (intro c h1 h2; simp (disch := omega) only [x_st_o])) | rfl) only [bk_137_0, bk_137_1, bk_137_3, bk_137_4, wp_ald0, wp_ic, wk_104, wp_lst1, wp_lld1, wp_lc, wp_lcmp, wp_ifne, wp_lret, wk_106, wr_0_9, wk_78, wp_lst3, wp_ist5, wp_fall, wp_ild5, wr_0_2, wr_20_0, wp_geti kd_6, wp_icge, wk_133, wp_ifeq, wr_6_14, wl_14, wp_cald, wp_lld3, wr_0_8, wr_29_1, wl_30, wl_42, wp_pald, wr_33_9, wp_lmul, wp_ladd, wp_inc5, wp_goto, wk_124, wp_lsub, x_clr_I, x_clr_J, x_clr_R, x_clr_U, ct_some, ct_none, lc_lt, lc_ge, lc_gt, lc_le, lc_eq, lc_r, xI_inj, xJ_inj, Option.some.injEq, eq_self, bi_r, bi_0, bi_1, bi_n, Classical.not_not, and_true, true_and, ite_true, ite_false, ↓reduceIte, ↓x_andl, z_le, z_nle, z_lt, z_nlt, z_eq, z_neq, if_pos, if_neg, x_andl, false_and, and_false, or_true, true_or, or_false, false_or, not_true, not_false_iff, x_rd_eq, x_rd_ne, x_st_o, Int.cast_ofNat_Int, Int.ofNat_zero, Int.ofNat_one, not_true_eq_false, not_false_eq_true, if_true, if_false, ite_self, and_self, Int.ofNat_eq_natCast, Int.tdiv_eq_ediv_of_nonneg, Int.tmod_eq_emod_of_nonneg, x_bm32, mi_size hM, ki]
set_option maxHeartbeats 4000000 in
theorem o_know : x_o27 (iN L S0) := by
  intro σ hh
  refine ag_J ?_
  obtain ⟨w, h51, hw, h100, hn, hq, hM, hS⟩ := iN_w hh
  have a := wf_h hw
  unfold wf_hdr at a
  obtain ⟨n8, n9, n10, _⟩ := id hn
  simp (disch := first | omega | (simp only [x_wtI, x_wtJ, x_wtR, x_wtN]; omega) | assumption | (simp (disch := omega) only [x_st_o, x_rd_ne]; first | assumption | omega) | (apply mir_eq; assumption; (intro c h1 h2; simp (disch := omega) only [x_st_o])) | (apply mis_eq; assumption; (intro c h1 h2; simp (disch := omega) only [x_st_o])) | rfl) only [sp_137, bk_137_0, bk_137_1, bk_137_3, bk_137_4, wp_ald0, wp_ic, wk_104, wp_lst1, wp_lld1, wp_lc, wp_lcmp, wp_ifne, wp_lret, wk_106, wr_0_9, wk_78, wp_lst3, wp_ist5, wp_fall, wp_ild5, wr_0_2, wr_20_0, wp_geti kd_6, wp_icge, wk_133, wp_ifeq, wr_6_14, wl_14, wp_cald, wp_lld3, wr_0_8, wr_29_1, wl_30, wl_42, wp_pald, wr_33_9, wp_lmul, wp_ladd, wp_inc5, wp_goto, wk_124, wp_lsub, x_clr_I, x_clr_J, x_clr_R, x_clr_U, ct_some, ct_none, lc_lt, lc_ge, lc_gt, lc_le, lc_eq, lc_r, xI_inj, xJ_inj, Option.some.injEq, eq_self, bi_r, bi_0, bi_1, bi_n, Classical.not_not, and_true, true_and, ite_true, ite_false, ↓reduceIte, ↓x_andl, z_le, z_nle, z_lt, z_nlt, z_eq, z_neq, if_pos, if_neg, x_andl, false_and, and_false, or_true, true_or, or_false, false_or, not_true, not_false_iff, x_rd_eq, x_rd_ne, x_st_o, Int.cast_ofNat_Int, Int.ofNat_zero, Int.ofNat_one, not_true_eq_false, not_false_eq_true, if_true, if_false, ite_self, and_self, Int.ofNat_eq_natCast, Int.tdiv_eq_ediv_of_nonneg, Int.tmod_eq_emod_of_nonneg, x_bm32]
  refine x_use (d := 991) (h_leastNow (j := 0) hh (by omega) rfl) ?_
  rintro r σ1 ⟨rfl, tk, hh1, f1, ct⟩
  have g51 : σ1 51 0 = w := (tk.1 51 0 (by decide)).trans h51
  rw [h51] at ct ⊢
  have gp := gb_pos (k := w_of w (w 8) 6)
  have tb := (ct.1 (w 8) (Int.le_refl _) n8.2 fr_self).2 (21 * w 10 + w 9) (by omega) (by omega)
  have na : ∀ (T L' : Int → Int), gT 0 5 4 (-1) w L' T (w 8) → tg (T (42 * w 8 + (21 * w 10 + w 9))) (σ1 25 0 (42 * w 8 + (21 * w 10 + w 9))) := fun T L' gt => now_ag (Ym := w) hw hn (by omega) gt (fun z => by omega) ct
  by_cases cd : σ1 25 0 (42 * w 8 + (21 * w 10 + w 9)) = 9223372036854775807
  · rw [cd]
    simp (disch := first | omega | (simp only [x_wtI, x_wtJ, x_wtR, x_wtN]; omega) | assumption | (simp (disch := omega) only [x_st_o, x_rd_ne]; first | assumption | omega) | (apply mir_eq; assumption; (intro c h1 h2; simp (disch := omega) only [x_st_o])) | (apply mis_eq; assumption; (intro c h1 h2; simp (disch := omega) only [x_st_o])) | rfl) only [bk_137_0, bk_137_1, bk_137_3, bk_137_4, wp_ald0, wp_ic, wk_104, wp_lst1, wp_lld1, wp_lc, wp_lcmp, wp_ifne, wp_lret, wk_106, wr_0_9, wk_78, wp_lst3, wp_ist5, wp_fall, wp_ild5, wr_0_2, wr_20_0, wp_geti kd_6, wp_icge, wk_133, wp_ifeq, wr_6_14, wl_14, wp_cald, wp_lld3, wr_0_8, wr_29_1, wl_30, wl_42, wp_pald, wr_33_9, wp_lmul, wp_ladd, wp_inc5, wp_goto, wk_124, wp_lsub, x_clr_I, x_clr_J, x_clr_R, x_clr_U, ct_some, ct_none, lc_lt, lc_ge, lc_gt, lc_le, lc_eq, lc_r, xI_inj, xJ_inj, Option.some.injEq, eq_self, bi_r, bi_0, bi_1, bi_n, Classical.not_not, and_true, true_and, ite_true, ite_false, ↓reduceIte, ↓x_andl, z_le, z_nle, z_lt, z_nlt, z_eq, z_neq, if_pos, if_neg, x_andl, false_and, and_false, or_true, true_or, or_false, false_or, not_true, not_false_iff, x_rd_eq, x_rd_ne, x_st_o, Int.cast_ofNat_Int, Int.ofNat_zero, Int.ofNat_one, not_true_eq_false, not_false_eq_true, if_true, if_false, ite_self, and_self, Int.ofNat_eq_natCast, Int.tdiv_eq_ediv_of_nonneg, Int.tmod_eq_emod_of_nonneg, x_bm32]
    refine ⟨(-9223372036854775808), rfl, tk_100 tk, by omega, ?_⟩
    simp (disch := first | omega | (simp only [x_wtI, x_wtJ, x_wtR, x_wtN]; omega) | assumption | (simp (disch := omega) only [x_st_o, x_rd_ne]; first | assumption | omega) | (apply mir_eq; assumption; (intro c h1 h2; simp (disch := omega) only [x_st_o])) | (apply mis_eq; assumption; (intro c h1 h2; simp (disch := omega) only [x_st_o])) | rfl) only [sp_231, bk_231_0, bk_231_1, bk_231_3, bk_231_4, wp_ald0, wp_ic, wk_195, wp_lst1, wp_lld1, wp_lc, wp_lcmp, wp_ifne, wp_lret, wk_196, wr_50_1, wl_51, wp_cald, wp_ist3, wp_fall, wp_ild3, wp_icge, wk_226, wp_ifeq, wk_227, wr_50_21, wl_60, wp_pald, wp_lmul, wp_lsub, wp_inc3, wp_goto, x_clr_I, x_clr_J, x_clr_R, x_clr_U, ct_some, ct_none, lc_lt, lc_ge, lc_gt, lc_le, lc_eq, lc_r, xI_inj, xJ_inj, Option.some.injEq, eq_self, bi_r, bi_0, bi_1, bi_n, Classical.not_not, and_true, true_and, ite_true, ite_false, ↓reduceIte, ↓x_andl, z_le, z_nle, z_lt, z_nlt, z_eq, z_neq, if_pos, if_neg, x_andl, false_and, and_false, or_true, true_or, or_false, false_or, not_true, not_false_iff, x_rd_eq, x_rd_ne, x_st_o, Int.cast_ofNat_Int, Int.ofNat_zero, Int.ofNat_one, not_true_eq_false, not_false_eq_true, if_true, if_false, ite_self, and_self, Int.ofNat_eq_natCast, Int.tdiv_eq_ediv_of_nonneg, Int.tmod_eq_emod_of_nonneg, x_bm32]
    refine x_use (d := 991) (h_solveI (c := 0) hh1 (by omega)) ?_
    rintro r σ5 ⟨rfl, e5, hh5, g5, m5⟩
    rw [g51] at g5 m5 ⊢
    have e : σ5 59 0 (42 * w 8 + (21 * w 10 + w 9)) = (-9223372036854775808) := by
      rcases na _ _ g5 with ⟨z, _⟩ | ⟨_, _, z⟩
      · exact z
      · exact absurd cd z
    rw [e]
    simp (disch := first | omega | (simp only [x_wtI, x_wtJ, x_wtR, x_wtN]; omega) | assumption | (simp (disch := omega) only [x_st_o, x_rd_ne]; first | assumption | omega) | (apply mir_eq; assumption; (intro c h1 h2; simp (disch := omega) only [x_st_o])) | (apply mis_eq; assumption; (intro c h1 h2; simp (disch := omega) only [x_st_o])) | rfl) only [bk_231_0, bk_231_1, bk_231_3, bk_231_4, wp_ald0, wp_ic, wk_195, wp_lst1, wp_lld1, wp_lc, wp_lcmp, wp_ifne, wp_lret, wk_196, wr_50_1, wl_51, wp_cald, wp_ist3, wp_fall, wp_ild3, wp_icge, wk_226, wp_ifeq, wk_227, wr_50_21, wl_60, wp_pald, wp_lmul, wp_lsub, wp_inc3, wp_goto, x_clr_I, x_clr_J, x_clr_R, x_clr_U, ct_some, ct_none, lc_lt, lc_ge, lc_gt, lc_le, lc_eq, lc_r, xI_inj, xJ_inj, Option.some.injEq, eq_self, bi_r, bi_0, bi_1, bi_n, Classical.not_not, and_true, true_and, ite_true, ite_false, ↓reduceIte, ↓x_andl, z_le, z_nle, z_lt, z_nlt, z_eq, z_neq, if_pos, if_neg, x_andl, false_and, and_false, or_true, true_or, or_false, false_or, not_true, not_false_iff, x_rd_eq, x_rd_ne, x_st_o, Int.cast_ofNat_Int, Int.ofNat_zero, Int.ofNat_one, not_true_eq_false, not_false_eq_true, if_true, if_false, ite_self, and_self, Int.ofNat_eq_natCast, Int.tdiv_eq_ediv_of_nonneg, Int.tmod_eq_emod_of_nonneg, x_bm32]
    exact hh5
  · have tb2 := tb.resolve_left cd
    generalize hat : σ1 25 0 (42 * w 8 + (21 * w 10 + w 9)) = at0 at tb2
    have nd : ¬ at0 = 9223372036854775807 := by omega
    simp (disch := first | omega | (simp only [x_wtI, x_wtJ, x_wtR, x_wtN]; omega) | assumption | (simp (disch := omega) only [x_st_o, x_rd_ne]; first | assumption | omega) | (apply mir_eq; assumption; (intro c h1 h2; simp (disch := omega) only [x_st_o])) | (apply mis_eq; assumption; (intro c h1 h2; simp (disch := omega) only [x_st_o])) | rfl) only [bk_137_0, bk_137_1, bk_137_3, bk_137_4, wp_ald0, wp_ic, wk_104, wp_lst1, wp_lld1, wp_lc, wp_lcmp, wp_ifne, wp_lret, wk_106, wr_0_9, wk_78, wp_lst3, wp_ist5, wp_fall, wp_ild5, wr_0_2, wr_20_0, wp_geti kd_6, wp_icge, wk_133, wp_ifeq, wr_6_14, wl_14, wp_cald, wp_lld3, wr_0_8, wr_29_1, wl_30, wl_42, wp_pald, wr_33_9, wp_lmul, wp_ladd, wp_inc5, wp_goto, wk_124, wp_lsub, x_clr_I, x_clr_J, x_clr_R, x_clr_U, ct_some, ct_none, lc_lt, lc_ge, lc_gt, lc_le, lc_eq, lc_r, xI_inj, xJ_inj, Option.some.injEq, eq_self, bi_r, bi_0, bi_1, bi_n, Classical.not_not, and_true, true_and, ite_true, ite_false, ↓reduceIte, ↓x_andl, z_le, z_nle, z_lt, z_nlt, z_eq, z_neq, if_pos, if_neg, x_andl, false_and, and_false, or_true, true_or, or_false, false_or, not_true, not_false_iff, x_rd_eq, x_rd_ne, x_st_o, Int.cast_ofNat_Int, Int.ofNat_zero, Int.ofNat_one, not_true_eq_false, not_false_eq_true, if_true, if_false, ite_self, and_self, Int.ofNat_eq_natCast, Int.tdiv_eq_ediv_of_nonneg, Int.tmod_eq_emod_of_nonneg, x_bm32]
    refine x_use (d := 993) (h_traceWays hh1) ?_
    rintro r σ2 ⟨rfl, tk2, k2, e2, gw, hh2⟩
    rw [g51] at gw
    have g512 : σ2 51 0 = w := (e2 51 0 (by simp)).trans g51
    obtain ⟨w2, h512, _, _, _, _, hM2, hS2⟩ := iN_w hh2
    have ew : w2 = w := h512.symm.trans g512
    subst ew
    simp (disch := first | omega | (simp only [x_wtI, x_wtJ, x_wtR, x_wtN]; omega) | assumption | (simp (disch := omega) only [x_st_o, x_rd_ne]; first | assumption | omega) | (apply mir_eq; assumption; (intro c h1 h2; simp (disch := omega) only [x_st_o])) | (apply mis_eq; assumption; (intro c h1 h2; simp (disch := omega) only [x_st_o])) | rfl) only [bk_137_0, bk_137_1, bk_137_3, bk_137_4, wp_ald0, wp_ic, wk_104, wp_lst1, wp_lld1, wp_lc, wp_lcmp, wp_ifne, wp_lret, wk_106, wr_0_9, wk_78, wp_lst3, wp_ist5, wp_fall, wp_ild5, wr_0_2, wr_20_0, wp_geti kd_6, wp_icge, wk_133, wp_ifeq, wr_6_14, wl_14, wp_cald, wp_lld3, wr_0_8, wr_29_1, wl_30, wl_42, wp_pald, wr_33_9, wp_lmul, wp_ladd, wp_inc5, wp_goto, wk_124, wp_lsub, x_clr_I, x_clr_J, x_clr_R, x_clr_U, ct_some, ct_none, lc_lt, lc_ge, lc_gt, lc_le, lc_eq, lc_r, xI_inj, xJ_inj, Option.some.injEq, eq_self, bi_r, bi_0, bi_1, bi_n, Classical.not_not, and_true, true_and, ite_true, ite_false, ↓reduceIte, ↓x_andl, z_le, z_nle, z_lt, z_nlt, z_eq, z_neq, if_pos, if_neg, x_andl, false_and, and_false, or_true, true_or, or_false, false_or, not_true, not_false_iff, x_rd_eq, x_rd_ne, x_st_o, Int.cast_ofNat_Int, Int.ofNat_zero, Int.ofNat_one, not_true_eq_false, not_false_eq_true, if_true, if_false, ite_self, and_self, Int.ofNat_eq_natCast, Int.tdiv_eq_ediv_of_nonneg, Int.tmod_eq_emod_of_nonneg, x_bm32]
    refine x_use (d := 996) (h_spread hM2 hS2 hw h100 hn) ?_
    rintro r σ3 ⟨rfl, e3, p3⟩
    have hh3 : iN L S0 σ3 := iN_e hh2 e3 (by decide)
    have g513 : σ3 51 0 = w2 := (e3 51 0 (by simp)).trans g512
    have hM3 : mir σ3 1 w2 := mir_eq hM2 (fun c q1 q2 => e3 c 1 (by simp))
    have hS3 : mis σ3 1 w2 := mis_eq hS2 (fun c q1 q2 => e3 c 1 (by simp))
    have e30 : σ3 30 0 = σ2 30 0 := e3 30 0 (by simp)
    have ge : ∀ f, p_ed w2 f → w2 8 ≤ f := by
      intro f ed
      by_cases q : f < w2 8
      · exact absurd ed.1 (fr_lt q)
      · omega
    have lbd : ∀ e, w2 8 ≤ e → e < w2 0 → p_ed w2 e → -170000 ≤ σ3 30 0 e ∧ σ3 30 0 e ≤ 170000 := by
      intro e e0 e1 ed
      rw [e30]
      have := (wayC_b hw hn gw).2 e e0 e1 ed.1 ed.2
      omega
    simp (disch := first | omega | (simp only [x_wtI, x_wtJ, x_wtR, x_wtN]; omega) | assumption | (simp (disch := omega) only [x_st_o, x_rd_ne]; first | assumption | omega) | (apply mir_eq; assumption; (intro c h1 h2; simp (disch := omega) only [x_st_o])) | (apply mis_eq; assumption; (intro c h1 h2; simp (disch := omega) only [x_st_o])) | rfl) only [bk_137_0, bk_137_1, bk_137_3, bk_137_4, wp_ald0, wp_ic, wk_104, wp_lst1, wp_lld1, wp_lc, wp_lcmp, wp_ifne, wp_lret, wk_106, wr_0_9, wk_78, wp_lst3, wp_ist5, wp_fall, wp_ild5, wr_0_2, wr_20_0, wp_geti kd_6, wp_icge, wk_133, wp_ifeq, wr_6_14, wl_14, wp_cald, wp_lld3, wr_0_8, wr_29_1, wl_30, wl_42, wp_pald, wr_33_9, wp_lmul, wp_ladd, wp_inc5, wp_goto, wk_124, wp_lsub, x_clr_I, x_clr_J, x_clr_R, x_clr_U, ct_some, ct_none, lc_lt, lc_ge, lc_gt, lc_le, lc_eq, lc_r, xI_inj, xJ_inj, Option.some.injEq, eq_self, bi_r, bi_0, bi_1, bi_n, Classical.not_not, and_true, true_and, ite_true, ite_false, ↓reduceIte, ↓x_andl, z_le, z_nle, z_lt, z_nlt, z_eq, z_neq, if_pos, if_neg, x_andl, false_and, and_false, or_true, true_or, or_false, false_or, not_true, not_false_iff, x_rd_eq, x_rd_ne, x_st_o, Int.cast_ofNat_Int, Int.ofNat_zero, Int.ofNat_one, not_true_eq_false, not_false_eq_true, if_true, if_false, ite_self, and_self, Int.ofNat_eq_natCast, Int.tdiv_eq_ediv_of_nonneg, Int.tmod_eq_emod_of_nonneg, x_bm32]
    refine x_mono (h_knowC hM3 hS3 hw h100 hn lbd p3) ?_
    rintro r σ4 ⟨rfl, rfl⟩
    have sb := sumE_b (w := w2) (g := fun e => p_po w2 e * σ4 30 0 e) (N := w2 0) (B := 17000000000000) (by omega) (fun f f0 f1 ed => by
      have p := po_b hw h100 hn f0 f1 ed.1
      have l := lbd f (ge f ed) f1 ed
      have m := mulb (a := σ4 30 0 f) (b := p_po w2 f) (A := 170000) (B := 100000000) l (by omega)
      rw [Int.mul_comm (σ4 30 0 f)] at m
      show -17000000000000 ≤ p_po w2 f * σ4 30 0 f ∧ p_po w2 f * σ4 30 0 f ≤ 17000000000000
      omega) (w2 0).toNat (by omega)
    refine ⟨_, rfl, fun j i => by rw [e3 100 j (by simp), e2 100 j (by simp), tk_100 tk j i], by omega, ?_⟩
    generalize hSM : sumE w2 (fun e => p_po w2 e * σ4 30 0 e) (w2 0).toNat = SM at sb
    simp (disch := first | omega | (simp only [x_wtI, x_wtJ, x_wtR, x_wtN]; omega) | assumption | (simp (disch := omega) only [x_st_o, x_rd_ne]; first | assumption | omega) | (apply mir_eq; assumption; (intro c h1 h2; simp (disch := omega) only [x_st_o])) | (apply mis_eq; assumption; (intro c h1 h2; simp (disch := omega) only [x_st_o])) | rfl) only [sp_231, bk_231_0, bk_231_1, bk_231_3, bk_231_4, wp_ald0, wp_ic, wk_195, wp_lst1, wp_lld1, wp_lc, wp_lcmp, wp_ifne, wp_lret, wk_196, wr_50_1, wl_51, wp_cald, wp_ist3, wp_fall, wp_ild3, wp_icge, wk_226, wp_ifeq, wk_227, wr_50_21, wl_60, wp_pald, wp_lmul, wp_lsub, wp_inc3, wp_goto, x_clr_I, x_clr_J, x_clr_R, x_clr_U, ct_some, ct_none, lc_lt, lc_ge, lc_gt, lc_le, lc_eq, lc_r, xI_inj, xJ_inj, Option.some.injEq, eq_self, bi_r, bi_0, bi_1, bi_n, Classical.not_not, and_true, true_and, ite_true, ite_false, ↓reduceIte, ↓x_andl, z_le, z_nle, z_lt, z_nlt, z_eq, z_neq, if_pos, if_neg, x_andl, false_and, and_false, or_true, true_or, or_false, false_or, not_true, not_false_iff, x_rd_eq, x_rd_ne, x_st_o, Int.cast_ofNat_Int, Int.ofNat_zero, Int.ofNat_one, not_true_eq_false, not_false_eq_true, if_true, if_false, ite_self, and_self, Int.ofNat_eq_natCast, Int.tdiv_eq_ediv_of_nonneg, Int.tmod_eq_emod_of_nonneg, x_bm32]
    refine x_use (d := 991) (h_solveI (c := 0) hh3 (by omega)) ?_
    rintro r σ5 ⟨rfl, e5, hh5, g5, m5⟩
    rw [g513] at g5 m5 ⊢
    have g515 : σ5 51 0 = w2 := (e5 51 0 (by simp)).trans g513
    have al : ¬ σ5 59 0 (42 * w2 8 + (21 * w2 10 + w2 9)) = (-9223372036854775808) := by
      rcases na _ _ g5 with ⟨_, y⟩ | ⟨_, y, _⟩
      · exact absurd y cd
      · exact y
    have v1 : σ5 59 0 (42 * w2 8 + (21 * w2 10 + w2 9)) = at0 := by
      rcases na _ _ g5 with ⟨_, y⟩ | ⟨y, _, _⟩
      · exact absurd y cd
      · rw [y, hat]
    rw [v1]
    simp (disch := first | omega | (simp only [x_wtI, x_wtJ, x_wtR, x_wtN]; omega) | assumption | (simp (disch := omega) only [x_st_o, x_rd_ne]; first | assumption | omega) | (apply mir_eq; assumption; (intro c h1 h2; simp (disch := omega) only [x_st_o])) | (apply mis_eq; assumption; (intro c h1 h2; simp (disch := omega) only [x_st_o])) | rfl) only [bk_231_0, bk_231_1, bk_231_3, bk_231_4, wp_ald0, wp_ic, wk_195, wp_lst1, wp_lld1, wp_lc, wp_lcmp, wp_ifne, wp_lret, wk_196, wr_50_1, wl_51, wp_cald, wp_ist3, wp_fall, wp_ild3, wp_icge, wk_226, wp_ifeq, wk_227, wr_50_21, wl_60, wp_pald, wp_lmul, wp_lsub, wp_inc3, wp_goto, x_clr_I, x_clr_J, x_clr_R, x_clr_U, ct_some, ct_none, lc_lt, lc_ge, lc_gt, lc_le, lc_eq, lc_r, xI_inj, xJ_inj, Option.some.injEq, eq_self, bi_r, bi_0, bi_1, bi_n, Classical.not_not, and_true, true_and, ite_true, ite_false, ↓reduceIte, ↓x_andl, z_le, z_nle, z_lt, z_nlt, z_eq, z_neq, if_pos, if_neg, x_andl, false_and, and_false, or_true, true_or, or_false, false_or, not_true, not_false_iff, x_rd_eq, x_rd_ne, x_st_o, Int.cast_ofNat_Int, Int.ofNat_zero, Int.ofNat_one, not_true_eq_false, not_false_eq_true, if_true, if_false, ite_self, and_self, Int.ofNat_eq_natCast, Int.tdiv_eq_ediv_of_nonneg, Int.tmod_eq_emod_of_nonneg, x_bm32]
    refine x_use (d := 994) (h_findLeast g515 hh5.2.2.2.1.1 hw hn) ?_
    rintro r σ6 ⟨rfl, e6, m6⟩
    have g516 : σ6 51 0 = w2 := (e6 51 0 (by simp)).trans g515
    have hh6 : iN L S0 σ6 := iN_e hh5 e6 (by decide)
    have eqL : ∀ f, 0 ≤ f → f < w2 0 → p_ed w2 f → p_po w2 f * σ6 60 0 f = p_po w2 f * σ4 30 0 f := by
      intro f f0 f1 ed
      rw [al_end hw hn g5 al m6 gw (ge f ed) f1 ed, e30]
    have eS := sumE_cg (w := w2) (g := fun e => p_po w2 e * σ4 30 0 e) (g' := fun e => p_po w2 e * σ6 60 0 e) (N := w2 0) eqL (w2 0).toNat (by omega)
    rw [hSM] at eS
    simp (disch := first | omega | (simp only [x_wtI, x_wtJ, x_wtR, x_wtN]; omega) | assumption | (simp (disch := omega) only [x_st_o, x_rd_ne]; first | assumption | omega) | (apply mir_eq; assumption; (intro c h1 h2; simp (disch := omega) only [x_st_o])) | (apply mis_eq; assumption; (intro c h1 h2; simp (disch := omega) only [x_st_o])) | rfl) only [bk_231_0, bk_231_1, bk_231_3, bk_231_4, wp_ald0, wp_ic, wk_195, wp_lst1, wp_lld1, wp_lc, wp_lcmp, wp_ifne, wp_lret, wk_196, wr_50_1, wl_51, wp_cald, wp_ist3, wp_fall, wp_ild3, wp_icge, wk_226, wp_ifeq, wk_227, wr_50_21, wl_60, wp_pald, wp_lmul, wp_lsub, wp_inc3, wp_goto, x_clr_I, x_clr_J, x_clr_R, x_clr_U, ct_some, ct_none, lc_lt, lc_ge, lc_gt, lc_le, lc_eq, lc_r, xI_inj, xJ_inj, Option.some.injEq, eq_self, bi_r, bi_0, bi_1, bi_n, Classical.not_not, and_true, true_and, ite_true, ite_false, ↓reduceIte, ↓x_andl, z_le, z_nle, z_lt, z_nlt, z_eq, z_neq, if_pos, if_neg, x_andl, false_and, and_false, or_true, true_or, or_false, false_or, not_true, not_false_iff, x_rd_eq, x_rd_ne, x_st_o, Int.cast_ofNat_Int, Int.ofNat_zero, Int.ofNat_one, not_true_eq_false, not_false_eq_true, if_true, if_false, ite_self, and_self, Int.ofNat_eq_natCast, Int.tdiv_eq_ediv_of_nonneg, Int.tmod_eq_emod_of_nonneg, x_bm32, g516]
    refine x_lpJ (fun i v => v = at0 - sumE w2 (fun e => p_po w2 e * σ6 60 0 e) i.toNat) (fun i v => x_Wp 999 231 (x_blk 231 2) [xR 50 0, xJ v, xU, xI i] [] σ6 (fun r2 σ2 => r2 = some (xJ (at0 - SM)) ∧ iN L S0 σ2)) (lo := w2 8) (hi := w2 0) (by omega) (a0 := at0) (by rw [sumE_0 _ (by omega), Int.sub_zero]) ?_ ?_
    · intro i v i0 i1 hJ
      subst hJ
      refine ⟨_, rfl, ?_⟩
      intro H
      rw [sumE_s (by omega)] at H
      rw [bk_231_2]
      by_cases c : p_ed w2 i
      · rw [if_pos c] at H
        have cf := c.1
        rw [show at0 - (sumE w2 (fun e => p_po w2 e * σ6 60 0 e) i.toNat + p_po w2 i * σ6 60 0 i) = at0 - sumE w2 (fun e => p_po w2 e * σ6 60 0 e) i.toNat - p_po w2 i * σ6 60 0 i by omega] at H
        simp (disch := first | omega | (simp only [x_wtI, x_wtJ, x_wtR, x_wtN]; omega) | assumption | (simp (disch := omega) only [x_st_o, x_rd_ne]; first | assumption | omega) | (apply mir_eq; assumption; (intro c h1 h2; simp (disch := omega) only [x_st_o])) | (apply mis_eq; assumption; (intro c h1 h2; simp (disch := omega) only [x_st_o])) | rfl) only [bk_231_0, bk_231_1, bk_231_3, bk_231_4, wp_ald0, wp_ic, wk_195, wp_lst1, wp_lld1, wp_lc, wp_lcmp, wp_ifne, wp_lret, wk_196, wr_50_1, wl_51, wp_cald, wp_ist3, wp_fall, wp_ild3, wp_icge, wk_226, wp_ifeq, wk_227, wr_50_21, wl_60, wp_pald, wp_lmul, wp_lsub, wp_inc3, wp_goto, x_clr_I, x_clr_J, x_clr_R, x_clr_U, ct_some, ct_none, lc_lt, lc_ge, lc_gt, lc_le, lc_eq, lc_r, xI_inj, xJ_inj, Option.some.injEq, eq_self, bi_r, bi_0, bi_1, bi_n, Classical.not_not, and_true, true_and, ite_true, ite_false, ↓reduceIte, ↓x_andl, z_le, z_nle, z_lt, z_nlt, z_eq, z_neq, if_pos, if_neg, x_andl, false_and, and_false, or_true, true_or, or_false, false_or, not_true, not_false_iff, x_rd_eq, x_rd_ne, x_st_o, Int.cast_ofNat_Int, Int.ofNat_zero, Int.ofNat_one, not_true_eq_false, not_false_eq_true, if_true, if_false, ite_self, and_self, Int.ofNat_eq_natCast, Int.tdiv_eq_ediv_of_nonneg, Int.tmod_eq_emod_of_nonneg, x_bm32, g516, k_isAnEnd g516 hw n8, bi_t c, k_partsOf g516 hw h100 hn]
        exact H
      · rw [if_neg c, Int.add_zero] at H
        simp (disch := first | omega | (simp only [x_wtI, x_wtJ, x_wtR, x_wtN]; omega) | assumption | (simp (disch := omega) only [x_st_o, x_rd_ne]; first | assumption | omega) | (apply mir_eq; assumption; (intro c h1 h2; simp (disch := omega) only [x_st_o])) | (apply mis_eq; assumption; (intro c h1 h2; simp (disch := omega) only [x_st_o])) | rfl) only [bk_231_0, bk_231_1, bk_231_3, bk_231_4, wp_ald0, wp_ic, wk_195, wp_lst1, wp_lld1, wp_lc, wp_lcmp, wp_ifne, wp_lret, wk_196, wr_50_1, wl_51, wp_cald, wp_ist3, wp_fall, wp_ild3, wp_icge, wk_226, wp_ifeq, wk_227, wr_50_21, wl_60, wp_pald, wp_lmul, wp_lsub, wp_inc3, wp_goto, x_clr_I, x_clr_J, x_clr_R, x_clr_U, ct_some, ct_none, lc_lt, lc_ge, lc_gt, lc_le, lc_eq, lc_r, xI_inj, xJ_inj, Option.some.injEq, eq_self, bi_r, bi_0, bi_1, bi_n, Classical.not_not, and_true, true_and, ite_true, ite_false, ↓reduceIte, ↓x_andl, z_le, z_nle, z_lt, z_nlt, z_eq, z_neq, if_pos, if_neg, x_andl, false_and, and_false, or_true, true_or, or_false, false_or, not_true, not_false_iff, x_rd_eq, x_rd_ne, x_st_o, Int.cast_ofNat_Int, Int.ofNat_zero, Int.ofNat_one, not_true_eq_false, not_false_eq_true, if_true, if_false, ite_self, and_self, Int.ofNat_eq_natCast, Int.tdiv_eq_ediv_of_nonneg, Int.tmod_eq_emod_of_nonneg, x_bm32, g516, k_isAnEnd g516 hw n8, bi_f c]
        exact H
    · intro v hJ
      subst hJ
      rw [eS, bk_231_2]
      simp (disch := first | omega | (simp only [x_wtI, x_wtJ, x_wtR, x_wtN]; omega) | assumption | (simp (disch := omega) only [x_st_o, x_rd_ne]; first | assumption | omega) | (apply mir_eq; assumption; (intro c h1 h2; simp (disch := omega) only [x_st_o])) | (apply mis_eq; assumption; (intro c h1 h2; simp (disch := omega) only [x_st_o])) | rfl) only [bk_231_0, bk_231_1, bk_231_3, bk_231_4, wp_ald0, wp_ic, wk_195, wp_lst1, wp_lld1, wp_lc, wp_lcmp, wp_ifne, wp_lret, wk_196, wr_50_1, wl_51, wp_cald, wp_ist3, wp_fall, wp_ild3, wp_icge, wk_226, wp_ifeq, wk_227, wr_50_21, wl_60, wp_pald, wp_lmul, wp_lsub, wp_inc3, wp_goto, x_clr_I, x_clr_J, x_clr_R, x_clr_U, ct_some, ct_none, lc_lt, lc_ge, lc_gt, lc_le, lc_eq, lc_r, xI_inj, xJ_inj, Option.some.injEq, eq_self, bi_r, bi_0, bi_1, bi_n, Classical.not_not, and_true, true_and, ite_true, ite_false, ↓reduceIte, ↓x_andl, z_le, z_nle, z_lt, z_nlt, z_eq, z_neq, if_pos, if_neg, x_andl, false_and, and_false, or_true, true_or, or_false, false_or, not_true, not_false_iff, x_rd_eq, x_rd_ne, x_st_o, Int.cast_ofNat_Int, Int.ofNat_zero, Int.ofNat_one, not_true_eq_false, not_false_eq_true, if_true, if_false, ite_self, and_self, Int.ofNat_eq_natCast, Int.tdiv_eq_ediv_of_nonneg, Int.tmod_eq_emod_of_nonneg, x_bm32, g516]
      exact hh6
end OKN

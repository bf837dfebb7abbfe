/-! the first of the least steps -/
def fS (Z : Int → Int → Int → Prop) (b t low pick : Int) : Prop := (pick = -1 ∧ low = 9223372036854775807 ∧ ∀ u, ¬ vis Z b t u) ∨ ∃ b0 t0, pick = b0 * 21 + t0 ∧ (b0 < b ∨ (b0 = b ∧ t0 < t)) ∧ Z b0 t0 low ∧ ∀ b' t' u', (b' < b ∨ (b' = b ∧ t' < t)) → Z b' t' u' → low ≤ u' ∧ (u' = low → b0 < b' ∨ (b0 = b' ∧ t0 ≤ t'))
def fL (Z : Int → Int → Int → Prop) (b0 t0 u0 : Int) : Prop := Z b0 t0 u0 ∧ ∀ b' t' u', Z b' t' u' → u0 ≤ u' ∧ (u' = u0 → b0 < b' ∨ (b0 = b' ∧ t0 ≤ t'))
section FS
variable {Z : Int → Int → Int → Prop} {b t low pick u : Int}
theorem fS_no (h : fS Z b t low pick) (hz : ∀ u, ¬ Z b t u) : fS Z b (t + 1) low pick := by
  rcases h with ⟨a, c, d⟩ | ⟨b0, t0, a, c, d, e⟩
  · exact Or.inl ⟨a, c, fun u z => d u ((vis_no hz u).mp z)⟩
  · refine Or.inr ⟨b0, t0, a, by omega, d, fun b' t' u' p q => ?_⟩
    by_cases c2 : b' = b ∧ t' = t
    · rw [c2.1, c2.2] at q
      exact absurd q (hz u')
    · exact e b' t' u' (by omega) q
theorem fS_lt (h : fS Z b t low pick) (hz : Z b t u) (hf : ∀ u', Z b t u' → u' = u) (hl : u < low) : fS Z b (t + 1) u (b * 21 + t) := by
  refine Or.inr ⟨b, t, rfl, by omega, hz, fun b' t' u' p q => ?_⟩
  by_cases c2 : b' = b ∧ t' = t
  · rw [c2.1, c2.2] at q ⊢
    rw [hf u' q]
    exact ⟨Int.le_refl _, fun _ => by omega⟩
  · rcases h with ⟨a, c, d⟩ | ⟨b0, t0, a, c, d, e⟩
    · exact absurd ⟨b', t', by omega, q⟩ (d u')
    · have := e b' t' u' (by omega) q
      exact ⟨by omega, fun z => by omega⟩
theorem fS_ge (h : fS Z b t low pick) (hf : ∀ u', Z b t u' → u' = u) (hl : ¬ u < low) (hu : u < 9223372036854775807) (hz : Z b t u) : fS Z b (t + 1) low pick := by
  rcases h with ⟨a, c, d⟩ | ⟨b0, t0, a, c, d, e⟩
  · omega
  · refine Or.inr ⟨b0, t0, a, by omega, d, fun b' t' u' p q => ?_⟩
    by_cases c2 : b' = b ∧ t' = t
    · rw [c2.1, c2.2] at q ⊢
      rw [hf u' q]
      exact ⟨by omega, fun _ => by omega⟩
    · exact e b' t' u' (by omega) q
theorem fS_row {hi lo : Int} (h : fS Z b hi low pick) (h1 : ∀ t' u, hi ≤ t' → ¬ Z b t' u) (h2 : ∀ t' u, t' < lo → ¬ Z (b + 1) t' u) : fS Z (b + 1) lo low pick := by
  rcases h with ⟨a, c, d⟩ | ⟨b0, t0, a, c, d, e⟩
  · exact Or.inl ⟨a, c, fun u z => d u ((vis_row h1 h2 u).mpr z)⟩
  · refine Or.inr ⟨b0, t0, a, by omega, d, fun b' t' u' p q => ?_⟩
    by_cases c1 : b' = b + 1
    · subst c1
      exact absurd q (h2 t' u' (by omega))
    · by_cases c2 : b' = b ∧ hi ≤ t'
      · rw [c2.1] at q
        exact absurd q (h1 t' u' c2.2)
      · exact e b' t' u' (by omega) q
theorem fS_end (h : fS Z b t low pick) (h1 : ∀ b' t' u, ¬ (b' < b ∨ (b' = b ∧ t' < t)) → ¬ Z b' t' u) : (pick = -1 ∧ low = 9223372036854775807 ∧ ∀ b t u, ¬ Z b t u) ∨ ∃ b0 t0, pick = b0 * 21 + t0 ∧ fL Z b0 t0 low := by
  have hv : ∀ b' t' u, Z b' t' u → (b' < b ∨ (b' = b ∧ t' < t)) := by
    intro b' t' u z
    by_cases c : b' < b ∨ (b' = b ∧ t' < t)
    · exact c
    · exact absurd z (h1 b' t' u c)
  rcases h with ⟨a, c, d⟩ | ⟨b0, t0, a, c, d, e⟩
  · exact Or.inl ⟨a, c, fun b' t' u z => d u ⟨b', t', hv b' t' u z, z⟩⟩
  · exact Or.inr ⟨b0, t0, a, d, fun b' t' u' q => e b' t' u' (hv b' t' u' q) q⟩
theorem fL_uniq {b0 t0 u0 b1 t1 u1 : Int} (h : fL Z b0 t0 u0) (h' : fL Z b1 t1 u1) : b0 = b1 ∧ t0 = t1 ∧ u0 = u1 := by
  have a := h.2 b1 t1 u1 h'.1
  have c := h'.2 b0 t0 u0 h.1
  have e : u0 = u1 := by omega
  have a2 := a.2 e.symm
  have c2 := c.2 e
  omega
theorem fL_cg {Z' : Int → Int → Int → Prop} {b0 t0 u0 : Int} (h : fL Z b0 t0 u0) (e : ∀ b t u, Z' b t u ↔ Z b t u) : fL Z' b0 t0 u0 := ⟨(e _ _ _).mpr h.1, fun b' t' u' q => h.2 b' t' u' ((e _ _ _).mp q)⟩
end FS
def wgh (w : Int → Int) (c sc kp : Int) (R : Int → Int) (f x b t l : Int) : Int := if R (21 * l + t) = 9223372036854775807 then 9223372036854775807 else v_mx c (sc * (p_trade w f x + b * w 4 + kp * t) + R (21 * l + t))
theorem wgh_b {w R : Int → Int} {c sc kp f x b t l : Int} (hw : wf w) (h0 : 0 ≤ f) (h1 : f < w 0) (hR : rbd R) (hs : 1 ≤ sc ∧ sc ≤ 100000000) (hk : -99 ≤ kp ∧ kp ≤ 99) (hx : -20 ≤ x ∧ x ≤ 20) (hb : 0 ≤ b ∧ b ≤ 1) (ht : 0 ≤ t ∧ t ≤ 20) (hl : 0 ≤ l ∧ l ≤ 1) : (R (21 * l + t) = 9223372036854775807 ∧ wgh w c sc kp R f x b t l = 9223372036854775807) ∨ (¬ R (21 * l + t) = 9223372036854775807 ∧ -700000000000000000 ≤ wgh w c sc kp R f x b t l ∧ wgh w c sc kp R f x b t l ≤ 700000000000000000) := by
  have a := wf_h hw
  unfold wf_hdr at a
  have o := wf_f hw h0 h1
  unfold wf_one at o
  unfold wgh
  by_cases c1 : R (21 * l + t) = 9223372036854775807
  · rw [if_pos c1]
    exact Or.inl ⟨c1, rfl⟩
  · rw [if_neg c1]
    have rb := (hR (21 * l + t) (by omega) (by omega)).resolve_left c1
    have m1 := mulb (a := x) (b := w_of w f 2) (A := 20) (B := 999) hx (by omega)
    have m2 := mulb (a := x) (b := w_of w f 4) (A := 20) (B := 999) hx (by omega)
    have m3 := mulb (a := b) (b := w 4) (A := 1) (B := 999) (by omega) (by omega)
    have m4 := mulb (a := kp) (b := t) (A := 99) (B := 20) hk (by omega)
    have tr : -19980 ≤ p_trade w f x ∧ p_trade w f x ≤ 19980 := by
      unfold p_trade
      split <;> omega
    have m5 := mulb (a := p_trade w f x + b * w 4 + kp * t) (b := sc) (A := 30000) (B := 100000000) (by omega) (by omega)
    rw [Int.mul_comm (p_trade w f x + b * w 4 + kp * t) sc] at m5
    refine Or.inr ⟨c1, ?_⟩
    unfold v_mx
    split <;> omega
theorem k_weigh {σ : x_S} {d : Nat} {Q : Option x_V → x_S → Prop} {w R : Int → Int} {j : Nat} {c sc kp f x b t l : Int} (hj : j < 4) (hw : wf w) (h0 : 0 ≤ f) (h1 : f < w 0) (hm : σ 24 j 3 = c) (hc : 0 ≤ c ∧ c ≤ 4 ∧ ¬ c = 3) (h : lbk w sc kp R σ j f) (hR : rbd R) (hs : 1 ≤ sc ∧ sc ≤ 100000000) (hk : -99 ≤ kp ∧ kp ≤ 99) (hx : -20 ≤ x ∧ x ≤ 20) (hb : 0 ≤ b ∧ b ≤ 1) (ht : 0 ≤ t ∧ t ≤ 20) (hl : 0 ≤ l ∧ l ≤ 1) : x_Sp d 13 [xR 24 j, xI x, xI b, xI t, xI l] σ Q ↔ Q (some (xJ (wgh w c sc kp R f x b t l))) σ := by
  refine x_sp_of ?_
  have hv := h.2 (21 * l + t) (by omega) (by omega)
  have wb := wgh_b (c := c) hw h0 h1 hR hs hk hx hb ht hl
  have e1 : σ 27 j (l * 21 + t) = σ 27 j (21 * l + t) := by rw [show l * 21 + t = 21 * l + t by omega]
  by_cases c1 : R (21 * l + t) = 9223372036854775807
  · have wv : wgh w c sc kp R f x b t l = 9223372036854775807 := if_pos c1
    rw [if_pos c1, ← e1] at hv
    rw [wv]
    simp (disch := first | omega | (simp only [x_wtI, x_wtJ, x_wtR, x_wtN]; omega) | assumption | (simp (disch := omega) only [x_st_o, x_rd_ne]; first | assumption | omega) | (apply mir_eq; assumption; (intro c h1 h2; simp (disch := omega) only [x_st_o])) | (apply mis_eq; assumption; (intro c h1 h2; simp (disch := omega) only [x_st_o])) | rfl) only [sp_13, bk_13_0, bk_13_1, bk_13_2, bk_13_3, wp_ald0, wr_24_6, wp_ild4, wp_ic, wp_imul, wp_ild3, wp_iadd, wl_27, wp_pald, wp_lst5, wp_lld5, wp_lc, wp_lcmp, wp_ifne, wp_lret, wp_ild1, wp_ifle, wp_i2l, wp_getj kd_24, wp_lmul, wp_goto, wp_fall, wp_ladd, wp_ild2, x_clr_I, x_clr_J, x_clr_R, x_clr_U, ct_some, ct_none, lc_lt, lc_ge, lc_gt, lc_le, lc_eq, lc_r, xI_inj, xJ_inj, Option.some.injEq, eq_self, bi_r, bi_0, bi_1, bi_n, Classical.not_not, and_true, true_and, ite_true, ite_false, ↓reduceIte, ↓x_andl, z_le, z_nle, z_lt, z_nlt, z_eq, z_neq, if_pos, if_neg, x_andl, false_and, and_false, or_true, true_or, or_false, false_or, not_true, not_false_iff, x_rd_eq, x_rd_ne, x_st_o, Int.cast_ofNat_Int, Int.ofNat_zero, Int.ofNat_one, not_true_eq_false, not_false_eq_true, if_true, if_false, ite_self, and_self, Int.ofNat_eq_natCast, Int.tdiv_eq_ediv_of_nonneg, Int.tmod_eq_emod_of_nonneg, x_bm32, hv]
  · have wv : wgh w c sc kp R f x b t l = v_mx c (sc * (p_trade w f x + b * w 4 + kp * t) + R (21 * l + t)) := if_neg c1
    have bb := (lbk_B h hR hs hk).1 (21 * l + t) (by omega) (by omega)
    have nd : ¬ σ 27 j (21 * l + t) = 9223372036854775807 := fun z => c1 (((lbk_B h hR hs hk).2 (21 * l + t) (by omega) (by omega)).mp z)
    rw [if_neg c1, show (21 * l + t) % 21 = t by omega] at hv
    have bb2 := bb.resolve_left nd
    have al := alg2 (w := w) (f := f) (x := x) (b := b) (kp := kp) (t := t) (sc := sc)
    have fin : ∀ y : Int, y = σ 27 j (21 * l + t) + (if 0 < x then x * (w_of w f 2 * sc) else x * (w_of w f 4 * sc)) + b * (w 4 * sc) → y = wgh w c sc kp R f x b t l := by
      intro y hy
      have : y = sc * (p_trade w f x + b * w 4 + kp * t) + R (21 * l + t) := by
        rw [hy, hv, al]
        omega
      rw [wv, this]
      unfold v_mx
      rw [if_neg hc.2.2]
    rw [← e1] at nd bb2 fin
    by_cases cx : 0 < x
    · obtain ⟨y, hy⟩ : ∃ y : Int, y = σ 27 j (l * 21 + t) + x * (w_of w f 2 * sc) + b * (w 4 * sc) := ⟨_, rfl⟩
      rw [← fin y (by rw [if_pos cx]; exact hy)]
      simp (disch := first | omega | (simp only [x_wtI, x_wtJ, x_wtR, x_wtN]; omega) | assumption | (simp (disch := omega) only [x_st_o, x_rd_ne]; first | assumption | omega) | (apply mir_eq; assumption; (intro c h1 h2; simp (disch := omega) only [x_st_o])) | (apply mis_eq; assumption; (intro c h1 h2; simp (disch := omega) only [x_st_o])) | rfl) only [sp_13, bk_13_0, bk_13_1, bk_13_2, bk_13_3, wp_ald0, wr_24_6, wp_ild4, wp_ic, wp_imul, wp_ild3, wp_iadd, wl_27, wp_pald, wp_lst5, wp_lld5, wp_lc, wp_lcmp, wp_ifne, wp_lret, wp_ild1, wp_ifle, wp_i2l, wp_getj kd_24, wp_lmul, wp_goto, wp_fall, wp_ladd, wp_ild2, x_clr_I, x_clr_J, x_clr_R, x_clr_U, ct_some, ct_none, lc_lt, lc_ge, lc_gt, lc_le, lc_eq, lc_r, xI_inj, xJ_inj, Option.some.injEq, eq_self, bi_r, bi_0, bi_1, bi_n, Classical.not_not, and_true, true_and, ite_true, ite_false, ↓reduceIte, ↓x_andl, z_le, z_nle, z_lt, z_nlt, z_eq, z_neq, if_pos, if_neg, x_andl, false_and, and_false, or_true, true_or, or_false, false_or, not_true, not_false_iff, x_rd_eq, x_rd_ne, x_st_o, Int.cast_ofNat_Int, Int.ofNat_zero, Int.ofNat_one, not_true_eq_false, not_false_eq_true, if_true, if_false, ite_self, and_self, Int.ofNat_eq_natCast, Int.tdiv_eq_ediv_of_nonneg, Int.tmod_eq_emod_of_nonneg, x_bm32, h.1.1, h.1.2.1, h.1.2.2, hm, ← hy]
    · obtain ⟨y, hy⟩ : ∃ y : Int, y = σ 27 j (l * 21 + t) + x * (w_of w f 4 * sc) + b * (w 4 * sc) := ⟨_, rfl⟩
      rw [← fin y (by rw [if_neg cx]; exact hy)]
      simp (disch := first | omega | (simp only [x_wtI, x_wtJ, x_wtR, x_wtN]; omega) | assumption | (simp (disch := omega) only [x_st_o, x_rd_ne]; first | assumption | omega) | (apply mir_eq; assumption; (intro c h1 h2; simp (disch := omega) only [x_st_o])) | (apply mis_eq; assumption; (intro c h1 h2; simp (disch := omega) only [x_st_o])) | rfl) only [sp_13, bk_13_0, bk_13_1, bk_13_2, bk_13_3, wp_ald0, wr_24_6, wp_ild4, wp_ic, wp_imul, wp_ild3, wp_iadd, wl_27, wp_pald, wp_lst5, wp_lld5, wp_lc, wp_lcmp, wp_ifne, wp_lret, wp_ild1, wp_ifle, wp_i2l, wp_getj kd_24, wp_lmul, wp_goto, wp_fall, wp_ladd, wp_ild2, x_clr_I, x_clr_J, x_clr_R, x_clr_U, ct_some, ct_none, lc_lt, lc_ge, lc_gt, lc_le, lc_eq, lc_r, xI_inj, xJ_inj, Option.some.injEq, eq_self, bi_r, bi_0, bi_1, bi_n, Classical.not_not, and_true, true_and, ite_true, ite_false, ↓reduceIte, ↓x_andl, z_le, z_nle, z_lt, z_nlt, z_eq, z_neq, if_pos, if_neg, x_andl, false_and, and_false, or_true, true_or, or_false, false_or, not_true, not_false_iff, x_rd_eq, x_rd_ne, x_st_o, Int.cast_ofNat_Int, Int.ofNat_zero, Int.ofNat_one, not_true_eq_false, not_false_eq_true, if_true, if_false, ite_self, and_self, Int.ofNat_eq_natCast, Int.tdiv_eq_ediv_of_nonneg, Int.tmod_eq_emod_of_nonneg, x_bm32, h.1.1, h.1.2.1, h.1.2.2, hm, ← hy]

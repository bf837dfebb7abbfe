/-! the least on the likeliest way, searched from the last step down -/
def fD (Z : Int → Int → Int → Prop) (b t low b0 t0 : Int) : Prop := (low = (-9223372036854775808) ∧ ∀ b' t' u', (b < b' ∨ (b = b' ∧ t < t')) → ¬ Z b' t' u') ∨ (Z b0 t0 low ∧ (b < b0 ∨ (b = b0 ∧ t < t0)) ∧ ∀ b' t' u', (b < b' ∨ (b = b' ∧ t < t')) → Z b' t' u' → low ≤ u' ∧ (u' = low → b0 < b' ∨ (b0 = b' ∧ t0 ≤ t')))
section FD
variable {Z : Int → Int → Int → Prop} {b t low b0 t0 u : Int}
theorem fD_no (h : fD Z b t low b0 t0) (hz : ∀ u, ¬ Z b t u) : fD Z b (t - 1) low b0 t0 := by
  rcases h with ⟨a, c⟩ | ⟨a, c, d⟩
  · refine Or.inl ⟨a, fun b' t' u' p q => ?_⟩
    by_cases z : b' = b ∧ t' = t
    · rw [z.1, z.2] at q
      exact hz u' q
    · exact c b' t' u' (by omega) q
  · refine Or.inr ⟨a, by omega, fun b' t' u' p q => ?_⟩
    by_cases z : b' = b ∧ t' = t
    · rw [z.1, z.2] at q
      exact absurd q (hz u')
    · exact d b' t' u' (by omega) q
theorem fD_le (h : fD Z b t low b0 t0) (hz : Z b t u) (hf : ∀ u', Z b t u' → u' = u) (hl : low = (-9223372036854775808) ∨ u ≤ low) (hn : ∀ b' t', ¬ Z b' t' (-9223372036854775808)) : fD Z b (t - 1) u b t := by
  refine Or.inr ⟨hz, by omega, fun b' t' u' p q => ?_⟩
  by_cases z : b' = b ∧ t' = t
  · rw [z.1, z.2] at q ⊢
    rw [hf u' q]
    exact ⟨Int.le_refl _, fun _ => by omega⟩
  · rcases h with ⟨a, c⟩ | ⟨a, c, d⟩
    · exact absurd q (c b' t' u' (by omega))
    · have x := d b' t' u' (by omega) q
      have nl : ¬ low = (-9223372036854775808) := fun y => hn b0 t0 (by rw [← y]; exact a)
      exact ⟨by omega, fun _ => by omega⟩
theorem fD_gt (h : fD Z b t low b0 t0) (hf : ∀ u', Z b t u' → u' = u) (hl : ¬ low = (-9223372036854775808) ∧ low < u) : fD Z b (t - 1) low b0 t0 := by
  rcases h with ⟨a, c⟩ | ⟨a, c, d⟩
  · exact absurd a hl.1
  · refine Or.inr ⟨a, by omega, fun b' t' u' p q => ?_⟩
    by_cases z : b' = b ∧ t' = t
    · rw [z.1, z.2] at q ⊢
      rw [hf u' q]
      exact ⟨by omega, fun y => by omega⟩
    · exact d b' t' u' (by omega) q
theorem fD_row {lo hi : Int} (h : fD Z b lo low b0 t0) (h1 : ∀ t' u, t' ≤ lo → ¬ Z b t' u) (h2 : ∀ t' u, hi < t' → ¬ Z (b - 1) t' u) : fD Z (b - 1) hi low b0 t0 := by
  have key : ∀ b' t' u', (b - 1 < b' ∨ (b - 1 = b' ∧ hi < t')) → Z b' t' u' → (b < b' ∨ (b = b' ∧ lo < t')) := by
    intro b' t' u' p q
    by_cases z1 : b' = b - 1
    · subst z1
      exact absurd q (h2 t' u' (by omega))
    · by_cases z2 : b' = b ∧ t' ≤ lo
      · rw [z2.1] at q
        exact absurd q (h1 t' u' z2.2)
      · omega
  rcases h with ⟨a, c⟩ | ⟨a, c, d⟩
  · exact Or.inl ⟨a, fun b' t' u' p q => c b' t' u' (key b' t' u' p q) q⟩
  · exact Or.inr ⟨a, by omega, fun b' t' u' p q => d b' t' u' (key b' t' u' p q) q⟩
end FD
theorem h_wway {σ : x_S} {w O : Int → Int} {f st wd x b B : Int} (h51 : σ 51 0 = w) (hE : σ 50 0 17 = 5) (hO : σ 65 0 = O) (hw : wf w) (h0 : 0 ≤ f) (h1 : f < w 0) (hs : 0 ≤ st ∧ st ≤ 20) (hd : 0 ≤ wd ∧ wd ≤ 1) (hb : 0 ≤ b ∧ b ≤ 1) (hx : -20 ≤ x ∧ x ≤ 20) (hB : 0 ≤ B ∧ B ≤ 1000000) (hR : ∀ s, 0 ≤ s → s < 42 → O s = (-9223372036854775808) ∨ (-B ≤ O s ∧ O s ≤ B)) : x_Sp 4 236 [xR 50 0, xI f, xI (21 * wd + st), xI x, xI b] σ (fun r σ' => σ' = σ ∧ ∃ v, r = some (xJ v) ∧ ((v = (-9223372036854775808) ∧ ∀ u, ¬ zR (-9223372036854775808) w O f st wd b (st + x - w_of w f 5) u) ∨ (zR (-9223372036854775808) w O f st wd b (st + x - w_of w f 5) v ∧ -(B + 30000) ≤ v ∧ v ≤ B + 30000))) := by
  have a := wf_h hw
  unfold wf_hdr at a
  have o := wf_f hw h0 h1
  unfold wf_one at o
  have iff := sl_iff (Wd := 4) (x := x) hw h0 h1 hs hd hb
  refine x_gen (fun Q hQ => ?_)
  by_cases cl : p_law w f st wd x b
  · have l := iff.mpr ⟨cl, fun _ => by omega⟩
    have sb := sl_b hw h0 h1 hs l
    have po := p_or_01 (a := wd) (b := b)
    have eb : p_beh w f (21 * wd + st) x b = 21 * p_or wd b + (st + x - w_of w f 5) := by
      unfold p_beh
      rw [show (21 * wd + st) % 21 = st by omega, show (21 * wd + st) / 21 = wd by omega, if_pos ⟨by omega, cl⟩]
    have em : (21 * p_or wd b + (st + x - w_of w f 5)) % 21 = st + x - w_of w f 5 := by omega
    have tb : 0 ≤ 21 * p_or wd b + (st + x - w_of w f 5) ∧ 21 * p_or wd b + (st + x - w_of w f 5) < 42 := by omega
    have oR := hR (21 * p_or wd b + (st + x - w_of w f 5)) tb.1 tb.2
    have cb := cost_b hw (E := 5) (x := x) (b := b) (t := st + x - w_of w f 5) h0 h1 (by omega) hb (by omega)
    have zi : ¬ O (21 * p_or wd b + (st + x - w_of w f 5)) = (-9223372036854775808) → zR (-9223372036854775808) w O f st wd b (st + x - w_of w f 5) (p_cost w 5 f x b (st + x - w_of w f 5) + O (21 * p_or wd b + (st + x - w_of w f 5))) := fun n => ⟨⟨l, n⟩, by rw [show st + x - w_of w f 5 + w_of w f 5 - st = x by omega]⟩
    have zn : O (21 * p_or wd b + (st + x - w_of w f 5)) = (-9223372036854775808) → ∀ u, ¬ zR (-9223372036854775808) w O f st wd b (st + x - w_of w f 5) u := fun y u z => z.1.2 y
    generalize hT : 21 * p_or wd b + (st + x - w_of w f 5) = T at eb em tb oR zi zn
    have o65 : σ 65 0 T = O T := by rw [hO]
    generalize hov : O T = ov at oR zi zn o65
    by_cases cd : ov = (-9223372036854775808)
    · simp (disch := first | omega | (simp only [x_wtI, x_wtJ, x_wtR, x_wtN]; omega) | assumption | (simp (disch := omega) only [x_st_o, x_rd_ne]; first | assumption | omega) | (apply mir_eq; assumption; (intro c h1 h2; simp (disch := omega) only [x_st_o])) | (apply mis_eq; assumption; (intro c h1 h2; simp (disch := omega) only [x_st_o])) | rfl) only [sp_236, bk_236_0, bk_236_1, bk_236_2, wp_ald0, wp_ild1, wp_ild2, wp_ild3, wp_ild4, wk_201, wp_ist5, wp_ild5, wp_ic, wp_iceq, wr_50_28, wl_65, wp_pald, wp_lc, wp_lcmp, wp_ifne, wp_fall, wp_lret, wk_202, wp_i2l, wp_ladd, x_clr_I, x_clr_J, x_clr_R, x_clr_U, ct_some, ct_none, lc_lt, lc_ge, lc_gt, lc_le, lc_eq, lc_r, xI_inj, xJ_inj, Option.some.injEq, eq_self, bi_r, bi_0, bi_1, bi_n, Classical.not_not, and_true, true_and, ite_true, ite_false, ↓reduceIte, ↓x_andl, z_le, z_nle, z_lt, z_nlt, z_eq, z_neq, if_pos, if_neg, x_andl, false_and, and_false, or_true, true_or, or_false, false_or, not_true, not_false_iff, x_rd_eq, x_rd_ne, x_st_o, Int.cast_ofNat_Int, Int.ofNat_zero, Int.ofNat_one, not_true_eq_false, not_false_eq_true, if_true, if_false, ite_self, and_self, Int.ofNat_eq_natCast, Int.tdiv_eq_ediv_of_nonneg, Int.tmod_eq_emod_of_nonneg, x_bm32, k_behind, eb, o65, cd]
      exact hQ _ _ ⟨rfl, (-9223372036854775808), rfl, Or.inl ⟨rfl, zn cd⟩⟩
    · have q := hQ _ _ ⟨rfl, _, rfl, Or.inr ⟨zi cd, by omega, by omega⟩⟩
      have oR2 := oR.resolve_left cd
      have kc := fun (d' : Nat) (Q' : Option x_V → x_S → Prop) => k_costOf (d := d') (Q := Q') (E := 5) (x := x) (b := b) (s := T) h51 hE hw h0 h1 (by omega) tb (by omega) hb
      rw [em] at kc
      generalize p_cost w 5 f x b (st + x - w_of w f 5) = pc at kc q cb
      simp (disch := first | omega | (simp only [x_wtI, x_wtJ, x_wtR, x_wtN]; omega) | assumption | (simp (disch := omega) only [x_st_o, x_rd_ne]; first | assumption | omega) | (apply mir_eq; assumption; (intro c h1 h2; simp (disch := omega) only [x_st_o])) | (apply mis_eq; assumption; (intro c h1 h2; simp (disch := omega) only [x_st_o])) | rfl) only [sp_236, bk_236_0, bk_236_1, bk_236_2, wp_ald0, wp_ild1, wp_ild2, wp_ild3, wp_ild4, wk_201, wp_ist5, wp_ild5, wp_ic, wp_iceq, wr_50_28, wl_65, wp_pald, wp_lc, wp_lcmp, wp_ifne, wp_fall, wp_lret, wk_202, wp_i2l, wp_ladd, x_clr_I, x_clr_J, x_clr_R, x_clr_U, ct_some, ct_none, lc_lt, lc_ge, lc_gt, lc_le, lc_eq, lc_r, xI_inj, xJ_inj, Option.some.injEq, eq_self, bi_r, bi_0, bi_1, bi_n, Classical.not_not, and_true, true_and, ite_true, ite_false, ↓reduceIte, ↓x_andl, z_le, z_nle, z_lt, z_nlt, z_eq, z_neq, if_pos, if_neg, x_andl, false_and, and_false, or_true, true_or, or_false, false_or, not_true, not_false_iff, x_rd_eq, x_rd_ne, x_st_o, Int.cast_ofNat_Int, Int.ofNat_zero, Int.ofNat_one, not_true_eq_false, not_false_eq_true, if_true, if_false, ite_self, and_self, Int.ofNat_eq_natCast, Int.tdiv_eq_ediv_of_nonneg, Int.tmod_eq_emod_of_nonneg, x_bm32, k_behind, eb, o65, kc]
      exact q
  · have eb : p_beh w f (21 * wd + st) x b = -1 := by
      unfold p_beh
      rw [show (21 * wd + st) % 21 = st by omega, show (21 * wd + st) / 21 = wd by omega, if_neg (fun z => cl z.2)]
    simp (disch := first | omega | (simp only [x_wtI, x_wtJ, x_wtR, x_wtN]; omega) | assumption | (simp (disch := omega) only [x_st_o, x_rd_ne]; first | assumption | omega) | (apply mir_eq; assumption; (intro c h1 h2; simp (disch := omega) only [x_st_o])) | (apply mis_eq; assumption; (intro c h1 h2; simp (disch := omega) only [x_st_o])) | rfl) only [sp_236, bk_236_0, bk_236_1, bk_236_2, wp_ald0, wp_ild1, wp_ild2, wp_ild3, wp_ild4, wk_201, wp_ist5, wp_ild5, wp_ic, wp_iceq, wr_50_28, wl_65, wp_pald, wp_lc, wp_lcmp, wp_ifne, wp_fall, wp_lret, wk_202, wp_i2l, wp_ladd, x_clr_I, x_clr_J, x_clr_R, x_clr_U, ct_some, ct_none, lc_lt, lc_ge, lc_gt, lc_le, lc_eq, lc_r, xI_inj, xJ_inj, Option.some.injEq, eq_self, bi_r, bi_0, bi_1, bi_n, Classical.not_not, and_true, true_and, ite_true, ite_false, ↓reduceIte, ↓x_andl, z_le, z_nle, z_lt, z_nlt, z_eq, z_neq, if_pos, if_neg, x_andl, false_and, and_false, or_true, true_or, or_false, false_or, not_true, not_false_iff, x_rd_eq, x_rd_ne, x_st_o, Int.cast_ofNat_Int, Int.ofNat_zero, Int.ofNat_one, not_true_eq_false, not_false_eq_true, if_true, if_false, ite_self, and_self, Int.ofNat_eq_natCast, Int.tdiv_eq_ediv_of_nonneg, Int.tmod_eq_emod_of_nonneg, x_bm32, k_behind, eb]
    exact hQ _ _ ⟨rfl, (-9223372036854775808), rfl, Or.inl ⟨rfl, fun u z => cl ((iff.mp z.1.1).1)⟩⟩
set_option maxHeartbeats 4000000 in
theorem h_lway {σ : x_S} {w O : Int → Int} {f st wd B : Int} (h51 : σ 51 0 = w) (hE : σ 50 0 17 = 5) (hO : σ 65 0 = O) (hw : wf w) (h0 : 0 ≤ f) (h1 : f < w 0) (hs : 0 ≤ st ∧ st ≤ 20) (hd : 0 ≤ wd ∧ wd ≤ 1) (hB : 0 ≤ B ∧ B ≤ 1000000) (hR : ∀ s, 0 ≤ s → s < 42 → O s = (-9223372036854775808) ∨ (-B ≤ O s ∧ O s ≤ B)) : x_Sp 5 235 [xR 50 0, xI f, xI (21 * wd + st)] σ (fun r σ' => fkeep σ σ' ∧ ∃ v, r = some (xJ v) ∧ (v = (-9223372036854775808) ∨ (-(B + 30000) ≤ v ∧ v ≤ B + 30000)) ∧ ((v = (-9223372036854775808) ∧ ∀ b t u, ¬ zR (-9223372036854775808) w O f st wd b t u) ∨ ∃ b0 t0, fL (zR (-9223372036854775808) w O f st wd) b0 t0 v ∧ ¬ v = (-9223372036854775808) ∧ σ' 50 0 23 = t0 + w_of w f 5 - st ∧ σ' 50 0 24 = b0)) := by
  have a := wf_h hw
  unfold wf_hdr at a
  have o := wf_f hw h0 h1
  unfold wf_one at o
  have zb : ∀ b t u, zR (-9223372036854775808) w O f st wd b t u → (b = 0 ∨ b = 1) ∧ 0 ≤ t ∧ t ≤ st + w_of w f 3 - w_of w f 5 := fun b t u z => by
    have x := z.1.1.1
    have y := z.1.1.2
    omega
  have znv : ∀ b t, ¬ zR (-9223372036854775808) w O f st wd b t (-9223372036854775808) := fun b t z => by
    have := zR_bd hw h0 h1 hs hR z
    omega
  refine x_gen (fun Q hQ => ?_)
  simp (disch := first | omega | (simp only [x_wtI, x_wtJ, x_wtR, x_wtN]; omega) | assumption | (simp (disch := omega) only [x_st_o, x_rd_ne]; first | assumption | omega) | (apply mir_eq; assumption; (intro c h1 h2; simp (disch := omega) only [x_st_o])) | (apply mis_eq; assumption; (intro c h1 h2; simp (disch := omega) only [x_st_o])) | rfl) only [sp_235, bk_235_0, bk_235_2, bk_235_3, bk_235_4, bk_235_5, bk_235_6, wp_lc, wp_lst3, wp_ic, wp_ist5, wp_fall, wp_ild5, wp_iflt, wp_ald0, wp_ild1, wk_192, wp_ist6, wp_ild6, wp_iclt, wp_ild2, wk_236, wp_lst7, wp_lld7, wp_lcmp, wp_ifeq, wp_lld3, wp_ifle, wp_goto, wp_puti kd_50, wp_inc6, wp_inc5, wp_lret, x_clr_I, x_clr_J, x_clr_R, x_clr_U, ct_some, ct_none, lc_lt, lc_ge, lc_gt, lc_le, lc_eq, lc_r, xI_inj, xJ_inj, Option.some.injEq, eq_self, bi_r, bi_0, bi_1, bi_n, Classical.not_not, and_true, true_and, ite_true, ite_false, ↓reduceIte, ↓x_andl, z_le, z_nle, z_lt, z_nlt, z_eq, z_neq, if_pos, if_neg, x_andl, false_and, and_false, or_true, true_or, or_false, false_or, not_true, not_false_iff, x_rd_eq, x_rd_ne, x_st_o, Int.cast_ofNat_Int, Int.ofNat_zero, Int.ofNat_one, not_true_eq_false, not_false_eq_true, if_true, if_false, ite_self, and_self, Int.ofNat_eq_natCast, Int.tdiv_eq_ediv_of_nonneg, Int.tmod_eq_emod_of_nonneg, x_bm32]
  refine x_lpDK (α := x_S × Int × Int × Int × x_V × x_V) (fun b q => fkeep σ q.1 ∧ fD (zR (-9223372036854775808) w O f st wd) b (st + w_of w f 3 - w_of w f 5) q.2.1 q.2.2.1 q.2.2.2.1 ∧ (q.2.1 = (-9223372036854775808) ∨ ((-(B + 30000) ≤ q.2.1 ∧ q.2.1 ≤ B + 30000) ∧ q.1 50 0 23 = q.2.2.2.1 + w_of w f 5 - st ∧ q.1 50 0 24 = q.2.2.1))) (fun b q => x_Wp 5 235 (x_blk 235 1) [xR 50 0, xI f, xI (21 * wd + st), xJ q.2.1, xU, xI b, q.2.2.2.2.1, q.2.2.2.2.2, xU] [] q.1 Q) (lo := -1) (hi := 1) (by omega) (a0 := (σ, (-9223372036854775808), 0, 0, xU, xU)) ⟨⟨eqo_refl, fun _ _ => rfl⟩, Or.inl ⟨rfl, fun b' t' u' p z => by have := zb _ _ _ z; omega⟩, Or.inl rfl⟩ ?_ ?_
  · intro b ⟨σb, low, b0, t0, u6, u7⟩ p q ⟨j1, j2, j3⟩ K
    simp only at j1 j2 j3 ⊢
    have gb : σb 51 0 = w := by rw [j1.1 51 0 (by simp)]; exact h51
    rw [bk_235_1]
    simp (disch := first | omega | (simp only [x_wtI, x_wtJ, x_wtR, x_wtN]; omega) | assumption | (simp (disch := omega) only [x_st_o, x_rd_ne]; first | assumption | omega) | (apply mir_eq; assumption; (intro c h1 h2; simp (disch := omega) only [x_st_o])) | (apply mis_eq; assumption; (intro c h1 h2; simp (disch := omega) only [x_st_o])) | rfl) only [bk_235_0, bk_235_3, bk_235_4, bk_235_5, bk_235_6, wp_lc, wp_lst3, wp_ic, wp_ist5, wp_fall, wp_ild5, wp_iflt, wp_ald0, wp_ild1, wk_192, wp_ist6, wp_ild6, wp_iclt, wp_ild2, wk_236, wp_lst7, wp_lld7, wp_lcmp, wp_ifeq, wp_lld3, wp_ifle, wp_goto, wp_puti kd_50, wp_inc6, wp_inc5, wp_lret, x_clr_I, x_clr_J, x_clr_R, x_clr_U, ct_some, ct_none, lc_lt, lc_ge, lc_gt, lc_le, lc_eq, lc_r, xI_inj, xJ_inj, Option.some.injEq, eq_self, bi_r, bi_0, bi_1, bi_n, Classical.not_not, and_true, true_and, ite_true, ite_false, ↓reduceIte, ↓x_andl, z_le, z_nle, z_lt, z_nlt, z_eq, z_neq, if_pos, if_neg, x_andl, false_and, and_false, or_true, true_or, or_false, false_or, not_true, not_false_iff, x_rd_eq, x_rd_ne, x_st_o, Int.cast_ofNat_Int, Int.ofNat_zero, Int.ofNat_one, not_true_eq_false, not_false_eq_true, if_true, if_false, ite_self, and_self, Int.ofNat_eq_natCast, Int.tdiv_eq_ediv_of_nonneg, Int.tmod_eq_emod_of_nonneg, x_bm32, k_of]
    refine x_lpDK (α := x_S × Int × Int × Int × x_V) (fun x q => fkeep σ q.1 ∧ fD (zR (-9223372036854775808) w O f st wd) b (st + x - w_of w f 5) q.2.1 q.2.2.1 q.2.2.2.1 ∧ (q.2.1 = (-9223372036854775808) ∨ ((-(B + 30000) ≤ q.2.1 ∧ q.2.1 ≤ B + 30000) ∧ q.1 50 0 23 = q.2.2.2.1 + w_of w f 5 - st ∧ q.1 50 0 24 = q.2.2.1))) (fun x q => x_Wp 5 235 (x_blk 235 2) [xR 50 0, xI f, xI (21 * wd + st), xJ q.2.1, xU, xI b, xI x, q.2.2.2.2, xU] [] q.1 Q) (lo := -21) (hi := w_of w f 3) (by omega) (a0 := (σb, low, b0, t0, u7)) ⟨j1, j2, j3⟩ ?_ ?_
    · intro x ⟨σx, low, b0, t0, u7⟩ p2 q2 ⟨n1, n2, n3⟩ K2
      simp only at n1 n2 n3 ⊢
      have gx : ∀ c j, ¬ (c, j) = (50, 0) → σx c j = σ c j := fun c j z => n1.1 c j (by simpa using z)
      obtain ⟨r, σ', ⟨hσ', v1, hr, hv1⟩, ev⟩ := x_ex (h_wway (σ := σx) (x := x) (b := b) (f := f) (st := st) (wd := wd) (by rw [gx 51 0 (by decide)]; exact h51) (by rw [n1.2 17 (by omega)]; exact hE) (by rw [gx 65 0 (by decide)]; exact hO) hw h0 h1 hs hd (by omega) (by omega) hB hR)
      subst hσ'
      subst hr
      have lr : low = (-9223372036854775808) ∨ (-(B + 30000) ≤ low ∧ low ≤ B + 30000) := by
        rcases n3 with z | ⟨z, _⟩
        · exact Or.inl z
        · exact Or.inr z
      rw [show st + x - w_of w f 5 = st + x - w_of w f 5 by rfl] at n2
      rcases hv1 with ⟨rfl, hno⟩ | ⟨hz, hvb⟩
      · have K3 := K2 (σ', low, b0, t0, xJ (-9223372036854775808)) ⟨n1, by
          have := fD_no n2 hno
          rw [show st + x - w_of w f 5 - 1 = st + (x - 1) - w_of w f 5 by omega] at this
          exact this, n3⟩
        simp only at K3
        rw [bk_235_2]
        simp (disch := first | omega | (simp only [x_wtI, x_wtJ, x_wtR, x_wtN]; omega) | assumption | (simp (disch := omega) only [x_st_o, x_rd_ne]; first | assumption | omega) | (apply mir_eq; assumption; (intro c h1 h2; simp (disch := omega) only [x_st_o])) | (apply mis_eq; assumption; (intro c h1 h2; simp (disch := omega) only [x_st_o])) | rfl) only [bk_235_0, bk_235_3, bk_235_4, bk_235_5, bk_235_6, wp_lc, wp_lst3, wp_ic, wp_ist5, wp_fall, wp_ild5, wp_iflt, wp_ald0, wp_ild1, wk_192, wp_ist6, wp_ild6, wp_iclt, wp_ild2, wk_236, wp_lst7, wp_lld7, wp_lcmp, wp_ifeq, wp_lld3, wp_ifle, wp_goto, wp_puti kd_50, wp_inc6, wp_inc5, wp_lret, x_clr_I, x_clr_J, x_clr_R, x_clr_U, ct_some, ct_none, lc_lt, lc_ge, lc_gt, lc_le, lc_eq, lc_r, xI_inj, xJ_inj, Option.some.injEq, eq_self, bi_r, bi_0, bi_1, bi_n, Classical.not_not, and_true, true_and, ite_true, ite_false, ↓reduceIte, ↓x_andl, z_le, z_nle, z_lt, z_nlt, z_eq, z_neq, if_pos, if_neg, x_andl, false_and, and_false, or_true, true_or, or_false, false_or, not_true, not_false_iff, x_rd_eq, x_rd_ne, x_st_o, Int.cast_ofNat_Int, Int.ofNat_zero, Int.ofNat_one, not_true_eq_false, not_false_eq_true, if_true, if_false, ite_self, and_self, Int.ofNat_eq_natCast, Int.tdiv_eq_ediv_of_nonneg, Int.tmod_eq_emod_of_nonneg, x_bm32, ev]
        exact K3
      · have zf : ∀ u', zR (-9223372036854775808) w O f st wd b (st + x - w_of w f 5) u' → u' = v1 := fun u' z => zR_f hz z
        by_cases cl : low = (-9223372036854775808) ∨ v1 ≤ low
        · have K3 := K2 (x_st (x_st σ' 50 0 23 x) 50 0 24 b, v1, b, st + x - w_of w f 5, xJ v1) ⟨⟨eqo_st (by simp) (eqo_st (by simp) n1.1), fun k hk => by (dsimp only; rw [x_rd_ne (by omega), x_rd_ne (by omega)]; exact n1.2 k hk)⟩, by
            have := fD_le n2 hz zf cl znv
            rw [show st + x - w_of w f 5 - 1 = st + (x - 1) - w_of w f 5 by omega] at this
            exact this, Or.inr ⟨hvb, by (dsimp only; rw [x_rd_ne (by omega), x_rd_eq]; omega), by (dsimp only; rw [x_rd_eq])⟩⟩
          simp only at K3
          rw [bk_235_2]
          by_cases cl2 : low = (-9223372036854775808)
          · simp (disch := first | omega | (simp only [x_wtI, x_wtJ, x_wtR, x_wtN]; omega) | assumption | (simp (disch := omega) only [x_st_o, x_rd_ne]; first | assumption | omega) | (apply mir_eq; assumption; (intro c h1 h2; simp (disch := omega) only [x_st_o])) | (apply mis_eq; assumption; (intro c h1 h2; simp (disch := omega) only [x_st_o])) | rfl) only [bk_235_0, bk_235_3, bk_235_4, bk_235_5, bk_235_6, wp_lc, wp_lst3, wp_ic, wp_ist5, wp_fall, wp_ild5, wp_iflt, wp_ald0, wp_ild1, wk_192, wp_ist6, wp_ild6, wp_iclt, wp_ild2, wk_236, wp_lst7, wp_lld7, wp_lcmp, wp_ifeq, wp_lld3, wp_ifle, wp_goto, wp_puti kd_50, wp_inc6, wp_inc5, wp_lret, x_clr_I, x_clr_J, x_clr_R, x_clr_U, ct_some, ct_none, lc_lt, lc_ge, lc_gt, lc_le, lc_eq, lc_r, xI_inj, xJ_inj, Option.some.injEq, eq_self, bi_r, bi_0, bi_1, bi_n, Classical.not_not, and_true, true_and, ite_true, ite_false, ↓reduceIte, ↓x_andl, z_le, z_nle, z_lt, z_nlt, z_eq, z_neq, if_pos, if_neg, x_andl, false_and, and_false, or_true, true_or, or_false, false_or, not_true, not_false_iff, x_rd_eq, x_rd_ne, x_st_o, Int.cast_ofNat_Int, Int.ofNat_zero, Int.ofNat_one, not_true_eq_false, not_false_eq_true, if_true, if_false, ite_self, and_self, Int.ofNat_eq_natCast, Int.tdiv_eq_ediv_of_nonneg, Int.tmod_eq_emod_of_nonneg, x_bm32, ev, cl2]
            exact K3
          · simp (disch := first | omega | (simp only [x_wtI, x_wtJ, x_wtR, x_wtN]; omega) | assumption | (simp (disch := omega) only [x_st_o, x_rd_ne]; first | assumption | omega) | (apply mir_eq; assumption; (intro c h1 h2; simp (disch := omega) only [x_st_o])) | (apply mis_eq; assumption; (intro c h1 h2; simp (disch := omega) only [x_st_o])) | rfl) only [bk_235_0, bk_235_3, bk_235_4, bk_235_5, bk_235_6, wp_lc, wp_lst3, wp_ic, wp_ist5, wp_fall, wp_ild5, wp_iflt, wp_ald0, wp_ild1, wk_192, wp_ist6, wp_ild6, wp_iclt, wp_ild2, wk_236, wp_lst7, wp_lld7, wp_lcmp, wp_ifeq, wp_lld3, wp_ifle, wp_goto, wp_puti kd_50, wp_inc6, wp_inc5, wp_lret, x_clr_I, x_clr_J, x_clr_R, x_clr_U, ct_some, ct_none, lc_lt, lc_ge, lc_gt, lc_le, lc_eq, lc_r, xI_inj, xJ_inj, Option.some.injEq, eq_self, bi_r, bi_0, bi_1, bi_n, Classical.not_not, and_true, true_and, ite_true, ite_false, ↓reduceIte, ↓x_andl, z_le, z_nle, z_lt, z_nlt, z_eq, z_neq, if_pos, if_neg, x_andl, false_and, and_false, or_true, true_or, or_false, false_or, not_true, not_false_iff, x_rd_eq, x_rd_ne, x_st_o, Int.cast_ofNat_Int, Int.ofNat_zero, Int.ofNat_one, not_true_eq_false, not_false_eq_true, if_true, if_false, ite_self, and_self, Int.ofNat_eq_natCast, Int.tdiv_eq_ediv_of_nonneg, Int.tmod_eq_emod_of_nonneg, x_bm32, ev]
            exact K3
        · have K3 := K2 (σ', low, b0, t0, xJ v1) ⟨n1, by
            have := fD_gt n2 zf ⟨fun z => cl (Or.inl z), by omega⟩
            rw [show st + x - w_of w f 5 - 1 = st + (x - 1) - w_of w f 5 by omega] at this
            exact this, n3⟩
          simp only at K3
          rw [bk_235_2]
          simp (disch := first | omega | (simp only [x_wtI, x_wtJ, x_wtR, x_wtN]; omega) | assumption | (simp (disch := omega) only [x_st_o, x_rd_ne]; first | assumption | omega) | (apply mir_eq; assumption; (intro c h1 h2; simp (disch := omega) only [x_st_o])) | (apply mis_eq; assumption; (intro c h1 h2; simp (disch := omega) only [x_st_o])) | rfl) only [bk_235_0, bk_235_3, bk_235_4, bk_235_5, bk_235_6, wp_lc, wp_lst3, wp_ic, wp_ist5, wp_fall, wp_ild5, wp_iflt, wp_ald0, wp_ild1, wk_192, wp_ist6, wp_ild6, wp_iclt, wp_ild2, wk_236, wp_lst7, wp_lld7, wp_lcmp, wp_ifeq, wp_lld3, wp_ifle, wp_goto, wp_puti kd_50, wp_inc6, wp_inc5, wp_lret, x_clr_I, x_clr_J, x_clr_R, x_clr_U, ct_some, ct_none, lc_lt, lc_ge, lc_gt, lc_le, lc_eq, lc_r, xI_inj, xJ_inj, Option.some.injEq, eq_self, bi_r, bi_0, bi_1, bi_n, Classical.not_not, and_true, true_and, ite_true, ite_false, ↓reduceIte, ↓x_andl, z_le, z_nle, z_lt, z_nlt, z_eq, z_neq, if_pos, if_neg, x_andl, false_and, and_false, or_true, true_or, or_false, false_or, not_true, not_false_iff, x_rd_eq, x_rd_ne, x_st_o, Int.cast_ofNat_Int, Int.ofNat_zero, Int.ofNat_one, not_true_eq_false, not_false_eq_true, if_true, if_false, ite_self, and_self, Int.ofNat_eq_natCast, Int.tdiv_eq_ediv_of_nonneg, Int.tmod_eq_emod_of_nonneg, x_bm32, ev]
          exact K3
    · intro ⟨σx, low, b0, t0, u7⟩ ⟨n1, n2, n3⟩
      simp only at n1 n2 n3 ⊢
      have K3 := K (σx, low, b0, t0, xI (-21), u7) ⟨n1, fD_row n2 (fun t' u p z => by have := zb _ _ _ z; omega) (fun t' u p z => by have := zb _ _ _ z; omega), n3⟩
      simp only at K3
      rw [bk_235_2]
      simp (disch := first | omega | (simp only [x_wtI, x_wtJ, x_wtR, x_wtN]; omega) | assumption | (simp (disch := omega) only [x_st_o, x_rd_ne]; first | assumption | omega) | (apply mir_eq; assumption; (intro c h1 h2; simp (disch := omega) only [x_st_o])) | (apply mis_eq; assumption; (intro c h1 h2; simp (disch := omega) only [x_st_o])) | rfl) only [bk_235_0, bk_235_3, bk_235_4, bk_235_5, bk_235_6, wp_lc, wp_lst3, wp_ic, wp_ist5, wp_fall, wp_ild5, wp_iflt, wp_ald0, wp_ild1, wk_192, wp_ist6, wp_ild6, wp_iclt, wp_ild2, wk_236, wp_lst7, wp_lld7, wp_lcmp, wp_ifeq, wp_lld3, wp_ifle, wp_goto, wp_puti kd_50, wp_inc6, wp_inc5, wp_lret, x_clr_I, x_clr_J, x_clr_R, x_clr_U, ct_some, ct_none, lc_lt, lc_ge, lc_gt, lc_le, lc_eq, lc_r, xI_inj, xJ_inj, Option.some.injEq, eq_self, bi_r, bi_0, bi_1, bi_n, Classical.not_not, and_true, true_and, ite_true, ite_false, ↓reduceIte, ↓x_andl, z_le, z_nle, z_lt, z_nlt, z_eq, z_neq, if_pos, if_neg, x_andl, false_and, and_false, or_true, true_or, or_false, false_or, not_true, not_false_iff, x_rd_eq, x_rd_ne, x_st_o, Int.cast_ofNat_Int, Int.ofNat_zero, Int.ofNat_one, not_true_eq_false, not_false_eq_true, if_true, if_false, ite_self, and_self, Int.ofNat_eq_natCast, Int.tdiv_eq_ediv_of_nonneg, Int.tmod_eq_emod_of_nonneg, x_bm32]
      exact K3
  · intro ⟨σb, low, b0, t0, u6, u7⟩ ⟨j1, j2, j3⟩
    simp only at j1 j2 j3 ⊢
    rw [bk_235_1]
    simp (disch := first | omega | (simp only [x_wtI, x_wtJ, x_wtR, x_wtN]; omega) | assumption | (simp (disch := omega) only [x_st_o, x_rd_ne]; first | assumption | omega) | (apply mir_eq; assumption; (intro c h1 h2; simp (disch := omega) only [x_st_o])) | (apply mis_eq; assumption; (intro c h1 h2; simp (disch := omega) only [x_st_o])) | rfl) only [bk_235_0, bk_235_3, bk_235_4, bk_235_5, bk_235_6, wp_lc, wp_lst3, wp_ic, wp_ist5, wp_fall, wp_ild5, wp_iflt, wp_ald0, wp_ild1, wk_192, wp_ist6, wp_ild6, wp_iclt, wp_ild2, wk_236, wp_lst7, wp_lld7, wp_lcmp, wp_ifeq, wp_lld3, wp_ifle, wp_goto, wp_puti kd_50, wp_inc6, wp_inc5, wp_lret, x_clr_I, x_clr_J, x_clr_R, x_clr_U, ct_some, ct_none, lc_lt, lc_ge, lc_gt, lc_le, lc_eq, lc_r, xI_inj, xJ_inj, Option.some.injEq, eq_self, bi_r, bi_0, bi_1, bi_n, Classical.not_not, and_true, true_and, ite_true, ite_false, ↓reduceIte, ↓x_andl, z_le, z_nle, z_lt, z_nlt, z_eq, z_neq, if_pos, if_neg, x_andl, false_and, and_false, or_true, true_or, or_false, false_or, not_true, not_false_iff, x_rd_eq, x_rd_ne, x_st_o, Int.cast_ofNat_Int, Int.ofNat_zero, Int.ofNat_one, not_true_eq_false, not_false_eq_true, if_true, if_false, ite_self, and_self, Int.ofNat_eq_natCast, Int.tdiv_eq_ediv_of_nonneg, Int.tmod_eq_emod_of_nonneg, x_bm32]
    refine hQ _ _ ⟨j1, low, rfl, j3.elim Or.inl (fun z => Or.inr z.1), ?_⟩
    rcases j2 with ⟨z1, z2⟩ | ⟨z1, z2, z3⟩
    · exact Or.inl ⟨z1, fun b t u y => z2 b t u (by have := zb _ _ _ y; omega) y⟩
    · have nl : ¬ low = (-9223372036854775808) := fun y => znv b0 t0 (by rw [y] at z1; exact z1)
      have j := j3.resolve_left nl
      exact Or.inr ⟨b0, t0, ⟨z1, fun b' t' u' y => z3 b' t' u' (by have := zb _ _ _ y; omega) y⟩, nl, j.2⟩
/-! the likeliest way from now on -/
def ck (w : Int → Int) : Nat → Int
  | 0 => w 8
  | k + 1 => p_lik w (ck w k)
def ckN (w : Int → Int) (N : Nat) : Prop := (∀ k : Nat, k < N → 0 < w_of w (ck w k) 7) ∧ w_of w (ck w N) 7 = 0
section CK
variable {w : Int → Int}
theorem ck_f (hw : wf w) (hn : wn w) {N : Nat} (h : ∀ k : Nat, k < N → 0 < w_of w (ck w k) 7) : ∀ k : Nat, k ≤ N → (w 8 ≤ ck w k ∧ ck w k < w 0) ∧ w_of w (ck w k) 6 = w_of w (w 8) 6 + k := by
  have n8 := hn.1
  intro k
  induction k with
  | zero => intro _; exact ⟨⟨Int.le_refl _, n8.2⟩, (Int.add_zero _).symm⟩
  | succ k ih =>
    intro hk
    obtain ⟨a, b⟩ := ih (by omega)
    obtain ⟨i, hi, _, e⟩ := lik_k (h k (by omega))
    have kk := wf_k hw (f := ck w k) (i := i) (by omega) a.2 hi.1 hi.2
    rw [← e] at kk
    show (w 8 ≤ p_lik w (ck w k) ∧ p_lik w (ck w k) < w 0) ∧ w_of w (p_lik w (ck w k)) 6 = w_of w (w 8) 6 + ((k + 1 : Nat) : Int)
    omega
theorem ck_s (hw : wf w) (hn : wn w) {N : Nat} (h : ∀ k : Nat, k < N → 0 < w_of w (ck w k) 7) {k : Nat} (hk : k < N) : ck w k < ck w (k + 1) ∧ w_of w (ck w (k + 1)) 0 = ck w k := by
  have n8 := hn.1
  obtain ⟨a, b⟩ := ck_f hw hn h k (by omega)
  obtain ⟨i, hi, _, e⟩ := lik_k (h k hk)
  have kk := wf_k hw (f := ck w k) (i := i) (by omega) a.2 hi.1 hi.2
  rw [← e] at kk
  exact ⟨kk.1, kk.2.2.1⟩
theorem ck_lt (hw : wf w) (hn : wn w) {N : Nat} (h : ∀ k : Nat, k < N → 0 < w_of w (ck w k) 7) : ∀ m k : Nat, k < m → m ≤ N → ck w k < ck w m := by
  intro m
  induction m with
  | zero => intro k hk; omega
  | succ m ih =>
    intro k hk hm
    have s := (ck_s hw hn h (k := m) (by omega)).1
    by_cases z : k = m
    · rw [z]
      exact s
    · have := ih k (by omega) (by omega)
      omega
theorem ck_ex (hw : wf w) (hn : wn w) : ∃ N : Nat, N ≤ 4 ∧ ckN w N := by
  have n8 := hn.1
  have on := wf_f hw n8.1 n8.2
  unfold wf_one at on
  have step : ∀ N : Nat, (∀ k : Nat, k < N → 0 < w_of w (ck w k) 7) → w_of w (ck w N) 7 = 0 ∨ ∀ k : Nat, k < N + 1 → 0 < w_of w (ck w k) 7 := by
    intro N h
    have a := (ck_f hw hn h N (Nat.le_refl _)).1
    have o := wf_f hw (f := ck w N) (by omega) a.2
    unfold wf_one at o
    by_cases z : w_of w (ck w N) 7 = 0
    · exact Or.inl z
    · refine Or.inr (fun k hk => ?_)
      by_cases y : k = N
      · rw [y]
        omega
      · exact h k (by omega)
  have h0 : ∀ k : Nat, k < 0 → 0 < w_of w (ck w k) 7 := fun k hk => by omega
  rcases step 0 h0 with z | h1
  · exact ⟨0, by omega, h0, z⟩
  rcases step 1 h1 with z | h2
  · exact ⟨1, by omega, h1, z⟩
  rcases step 2 h2 with z | h3
  · exact ⟨2, by omega, h2, z⟩
  rcases step 3 h3 with z | h4
  · exact ⟨3, by omega, h3, z⟩
  rcases step 4 h4 with z | h5
  · exact ⟨4, by omega, h4, z⟩
  · exfalso
    have x := ck_f hw hn h5 5 (Nat.le_refl _)
    have o := wf_f hw (f := ck w 5) (by omega) x.1.2
    unfold wf_one at o
    omega
end CK
theorem zR_cg {w R R' : Int → Int} {mk f st wd b t u : Int} (hw : wf w) (h0 : 0 ≤ f) (h1 : f < w 0) (hs : 0 ≤ st ∧ st ≤ 20) (e : ∀ s, 0 ≤ s → s < 42 → R' s = R s) : zR mk w R' f st wd b t u ↔ zR mk w R f st wd b t u := by
  unfold zR
  constructor
  · rintro ⟨⟨l, n⟩, q⟩
    have sb := sl_b hw h0 h1 hs l
    have po := p_or_01 (a := wd) (b := b)
    rw [e _ (by omega) (by omega)] at n q
    exact ⟨⟨l, n⟩, q⟩
  · rintro ⟨⟨l, n⟩, q⟩
    have sb := sl_b hw h0 h1 hs l
    have po := p_or_01 (a := wd) (b := b)
    rw [← e _ (by omega) (by omega)] at n q
    exact ⟨⟨l, n⟩, q⟩
def rowL (w T : Int → Int) (f m : Int) : Prop := ∀ st wd, 0 ≤ st → st ≤ 20 → 0 ≤ wd → wd ≤ 1 → x_ml 9223372036854775807 (fun u => ∃ b t, zR 9223372036854775807 w (likR w T f) f st wd b t u) (T (42 * f + (21 * wd + st))) ∧ (T (42 * f + (21 * wd + st)) = 9223372036854775807 ∨ (-(30000 * (m + 1)) ≤ T (42 * f + (21 * wd + st)) ∧ T (42 * f + (21 * wd + st)) ≤ 30000 * (m + 1)))
theorem likR_b {w T : Int → Int} {N k : Nat} (hN : ckN w N) (hk : k ≤ N) (hr : k < N → rowL w T (ck w (k + 1)) (N - (k + 1 : Nat))) : ∀ s, 0 ≤ s → s < 42 → likR w T (ck w k) s = 9223372036854775807 ∨ (-(30000 * ((N : Int) - k)) ≤ likR w T (ck w k) s ∧ likR w T (ck w k) s ≤ 30000 * ((N : Int) - k)) := by
  intro s s0 s1
  unfold likR
  by_cases z : k = N
  · rw [if_pos (by rw [z]; exact hN.2)]
    exact Or.inr (by omega)
  · have kp := hN.1 k (by omega)
    rw [if_neg (by omega)]
    have x := (hr (by omega) (s % 21) (s / 21) (by omega) (by omega) (by omega) (by omega)).2
    rw [show 21 * (s / 21) + s % 21 = s by omega] at x
    have e : p_lik w (ck w k) = ck w (k + 1) := rfl
    rw [e]
    rcases x with x | x
    · exact Or.inl x
    · exact Or.inr (by omega)

/-! the ways of the model -/
theorem x_lpK {α : Type} (J : Int → α → Prop) (P : Int → α → Prop) {lo hi : Int} (hle : lo ≤ hi) {a0 : α} (h0 : J lo a0)
    (hs : ∀ i a, lo ≤ i → i < hi → J i a → (∀ a', J (i + 1) a' → P (i + 1) a') → P i a)
    (he : ∀ a, J hi a → P hi a) : P lo a0 := by
  have h : ∀ n : Nat, ∀ i a, lo ≤ i → i + n = hi → J i a → P i a := by
    intro n
    induction n with
    | zero =>
      intro i a _ e j
      have : i = hi := by omega
      subst this
      exact he a j
    | succ n ih =>
      intro i a l e j
      exact hs i a l (by omega) j (fun a' j' => ih (i + 1) a' (by omega) (by omega) j')
  exact h (hi - lo).toNat lo a0 (Int.le_refl _) (by omega) h0
def fdz (w : Int → Int) (f st wd yv t b x u : Int) : Prop := (s_law w 4 f st wd b (st + x - w_of w f 5) ∧ t = 21 * p_or wd b + (st + x - w_of w f 5)) ∧ u = yv + p_cost w 5 f x b (st + x - w_of w f 5)
def fdI (w : Int → Int) (f st wd yv : Int) (S0 : Int → Int → Prop) (σ0 : x_S) (b x : Int) (σ : x_S) : Prop :=
  x_eqo [(60, 0), (61, 0)] σ0 σ ∧ (∀ i, (∀ k, 0 ≤ k → k < w_of w f 7 → ¬ (42 * w_of w f (8 + k) ≤ i ∧ i < 42 * w_of w f (8 + k) + 42)) → σ 61 0 i = σ0 61 0 i) ∧
  (∀ k, 0 ≤ k → k < w_of w f 7 → ∀ t, 0 ≤ t → t < 42 → x_ml (-9223372036854775808) (fun u => S0 t u ∨ vis (fdz w f st wd yv t) b x u) (σ 61 0 (42 * w_of w f (8 + k) + t))) ∧
  (∀ e, ¬ (e = f ∧ w_of w f 7 = 0) → σ 60 0 e = σ0 60 0 e) ∧
  (w_of w f 7 = 0 → x_ml (-9223372036854775808) (fun u => (∃ t, (0 ≤ t ∧ t < 42) ∧ S0 t u) ∨ vis (fun b x u => ∃ t, (0 ≤ t ∧ t < 42) ∧ fdz w f st wd yv t b x u) b x u) (σ 60 0 f))
section FD
variable {w : Int → Int} {f st wd yv b x : Int} {S0 : Int → Int → Prop} {σ0 σ : x_S}
theorem ml_or (S : Int → Prop) {Z : Int → Int → Int → Prop} {mk v u b x : Int} (h : x_ml mk (fun z => S z ∨ vis Z b x z) v) (hm : ∀ z, S z ∨ vis Z b x z → z ≠ mk) (hz : Z b x u) (hf : ∀ u', Z b x u' → u' = u) : x_ml mk (fun z => S z ∨ vis Z b (x + 1) z) (if v = mk ∨ u < v then u else v) := by
  refine ml_cg (ml_add (u := u) h hm) (fun z => ?_)
  rw [vis_yes hz hf z]
  exact or_assoc
theorem ml_on (S : Int → Prop) {Z : Int → Int → Int → Prop} {mk v b x : Int} (h : x_ml mk (fun z => S z ∨ vis Z b x z) v) (hz : ∀ u, ¬ Z b x u) : x_ml mk (fun z => S z ∨ vis Z b (x + 1) z) v := by
  refine ml_cg h (fun z => ?_)
  rw [vis_no hz z]
theorem fdz_b (hw : wf w) (h0 : 0 ≤ f) (h1 : f < w 0) (hs : 0 ≤ st ∧ st ≤ 20) {t u : Int} (h : fdz w f st wd yv t b x u) : (b = 0 ∨ b = 1) ∧ (-20 ≤ x ∧ x ≤ w_of w f 3) ∧ (0 ≤ t ∧ t < 42) ∧ (yv - 30000 ≤ u ∧ u ≤ yv + 30000) := by
  obtain ⟨⟨l, e⟩, eu⟩ := h
  have o := wf_f hw h0 h1
  unfold wf_one at o
  have sb := sl_b hw h0 h1 hs l
  have po := p_or_01 (a := wd) (b := b)
  have cb := cost_b hw (E := 5) (x := x) (b := b) (t := st + x - w_of w f 5) h0 h1 (by omega) (by omega) (by omega)
  omega
theorem fdI_no (h : fdI w f st wd yv S0 σ0 b x σ) (hz : ∀ t u, ¬ fdz w f st wd yv t b x u) : fdI w f st wd yv S0 σ0 b (x + 1) σ := by
  obtain ⟨a1, a2, a3, a4, a5⟩ := h
  exact ⟨a1, a2, fun k k0 k1 t t0 t1 => ml_on _ (a3 k k0 k1 t t0 t1) (hz t), a4, fun z => ml_on _ (a5 z) (fun u ⟨t, _, y⟩ => hz t u y)⟩
theorem fdI_row (hw : wf w) (h0 : 0 ≤ f) (h1 : f < w 0) (hs : 0 ≤ st ∧ st ≤ 20) (h : fdI w f st wd yv S0 σ0 b (w_of w f 3 + 1) σ) : fdI w f st wd yv S0 σ0 (b + 1) (-20) σ := by
  obtain ⟨a1, a2, a3, a4, a5⟩ := h
  have hi : ∀ t x u, w_of w f 3 + 1 ≤ x → ¬ fdz w f st wd yv t b x u := fun t x u p z => by have := fdz_b hw h0 h1 hs z; omega
  have lo : ∀ t x u, x < -20 → ¬ fdz w f st wd yv t (b + 1) x u := fun t x u p z => by have := fdz_b hw h0 h1 hs z; omega
  refine ⟨a1, a2, fun k k0 k1 t t0 t1 => ml_cg (a3 k k0 k1 t t0 t1) (fun z => ?_), a4, fun y => ml_cg (a5 y) (fun z => ?_)⟩
  · rw [vis_row (fun x u => hi t x u) (fun x u => lo t x u) z]
  · rw [vis_row (fun x u p ⟨t, _, q⟩ => hi t x u p q) (fun x u p ⟨t, _, q⟩ => lo t x u p q) z]
end FD
theorem h_finds {σ : x_S} {w : Int → Int} {f st wd yv : Int} {S0 : Int → Int → Prop} (h51 : σ 51 0 = w) (hE : σ 50 0 17 = 5) (hw : wf w) (h0 : 0 ≤ f) (h1 : f < w 0) (hs : 0 ≤ st ∧ st ≤ 20) (hd : 0 ≤ wd ∧ wd ≤ 1) (hy : σ 61 0 (42 * f + (21 * wd + st)) = yv) (hyb : -120000 ≤ yv ∧ yv ≤ 120000) (hS : ∀ t u, S0 t u → -150000 ≤ u ∧ u ≤ 150000)
    (hI : fdI w f st wd yv S0 σ 0 (-20) σ) : x_Sp 3 200 [xR 50 0, xI f, xI (21 * wd + st)] σ (fun r σ' => r = none ∧ fdI w f st wd yv S0 σ 2 (-20) σ') := by
  have a := wf_h hw
  unfold wf_hdr at a
  have o := wf_f hw h0 h1
  unfold wf_one at o
  refine x_gen (fun Q hQ => ?_)
  simp (disch := first | omega | (simp only [x_wtI, x_wtJ, x_wtR, x_wtN]; omega) | assumption | (simp (disch := omega) only [x_st_o, x_rd_ne]; first | assumption | omega) | (apply mir_eq; assumption; (intro c h1 h2; simp (disch := omega) only [x_st_o])) | (apply mis_eq; assumption; (intro c h1 h2; simp (disch := omega) only [x_st_o])) | rfl) only [sp_200, bk_200_0, bk_200_2, bk_200_3, bk_200_4, bk_200_5, bk_200_6, bk_200_7, bk_200_8, bk_200_9, bk_200_10, bk_200_11, wp_ic, wp_ist3, wp_fall, wp_ild3, wp_icge, wp_ist4, wp_ild4, wp_ald0, wp_ild1, wk_192, wp_icgt, wp_ild2, wk_201, wp_ist5, wp_ild5, wp_icne, wp_goto, wr_50_22, wp_imul, wp_iadd, wl_60, wl_61, wp_pald, wk_202, wp_i2l, wp_ladd, wp_lst6, wp_ifne, wr_50_21, wp_lc, wp_lcmp, wp_ifeq, wp_lld6, wp_ifge, ws_60, ws_61, wp_ist8, wp_ild8, wp_ist9, wp_ild9, wp_inc8, wp_inc4, wp_inc3, wp_ret, x_clr_I, x_clr_J, x_clr_R, x_clr_U, ct_some, ct_none, lc_lt, lc_ge, lc_gt, lc_le, lc_eq, lc_r, xI_inj, xJ_inj, Option.some.injEq, eq_self, bi_r, bi_0, bi_1, bi_n, Classical.not_not, and_true, true_and, ite_true, ite_false, ↓reduceIte, ↓x_andl, z_le, z_nle, z_lt, z_nlt, z_eq, z_neq, if_pos, if_neg, x_andl, false_and, and_false, or_true, true_or, or_false, false_or, not_true, not_false_iff, x_rd_eq, x_rd_ne, x_st_o, Int.cast_ofNat_Int, Int.ofNat_zero, Int.ofNat_one, not_true_eq_false, not_false_eq_true, if_true, if_false, ite_self, and_self, Int.ofNat_eq_natCast, Int.tdiv_eq_ediv_of_nonneg, Int.tmod_eq_emod_of_nonneg, x_bm32]
  refine x_lpK (α := x_S × x_V × x_V × x_V × x_V × x_V) (fun b q => fdI w f st wd yv S0 σ b (-20) q.1) (fun b q => x_Wp 3 200 (x_blk 200 1) [xR 50 0, xI f, xI (21 * wd + st), xI b, q.2.1, q.2.2.1, q.2.2.2.1, xU, q.2.2.2.2.1, q.2.2.2.2.2] [] q.1 Q) (lo := 0) (hi := 2) (by omega) (a0 := (σ, xU, xU, xU, xU, xU)) hI ?_ ?_
  · intro b ⟨σb, u4, u5, u6, u8, u9⟩ b0 b1 hJ K
    simp only at hJ ⊢
    rw [bk_200_1]
    simp (disch := first | omega | (simp only [x_wtI, x_wtJ, x_wtR, x_wtN]; omega) | assumption | (simp (disch := omega) only [x_st_o, x_rd_ne]; first | assumption | omega) | (apply mir_eq; assumption; (intro c h1 h2; simp (disch := omega) only [x_st_o])) | (apply mis_eq; assumption; (intro c h1 h2; simp (disch := omega) only [x_st_o])) | rfl) only [bk_200_0, bk_200_3, bk_200_4, bk_200_5, bk_200_6, bk_200_7, bk_200_8, bk_200_9, bk_200_10, bk_200_11, wp_ic, wp_ist3, wp_fall, wp_ild3, wp_icge, wp_ist4, wp_ild4, wp_ald0, wp_ild1, wk_192, wp_icgt, wp_ild2, wk_201, wp_ist5, wp_ild5, wp_icne, wp_goto, wr_50_22, wp_imul, wp_iadd, wl_60, wl_61, wp_pald, wk_202, wp_i2l, wp_ladd, wp_lst6, wp_ifne, wr_50_21, wp_lc, wp_lcmp, wp_ifeq, wp_lld6, wp_ifge, ws_60, ws_61, wp_ist8, wp_ild8, wp_ist9, wp_ild9, wp_inc8, wp_inc4, wp_inc3, wp_ret, x_clr_I, x_clr_J, x_clr_R, x_clr_U, ct_some, ct_none, lc_lt, lc_ge, lc_gt, lc_le, lc_eq, lc_r, xI_inj, xJ_inj, Option.some.injEq, eq_self, bi_r, bi_0, bi_1, bi_n, Classical.not_not, and_true, true_and, ite_true, ite_false, ↓reduceIte, ↓x_andl, z_le, z_nle, z_lt, z_nlt, z_eq, z_neq, if_pos, if_neg, x_andl, false_and, and_false, or_true, true_or, or_false, false_or, not_true, not_false_iff, x_rd_eq, x_rd_ne, x_st_o, Int.cast_ofNat_Int, Int.ofNat_zero, Int.ofNat_one, not_true_eq_false, not_false_eq_true, if_true, if_false, ite_self, and_self, Int.ofNat_eq_natCast, Int.tdiv_eq_ediv_of_nonneg, Int.tmod_eq_emod_of_nonneg, x_bm32]
    refine x_lpK (α := x_S × x_V × x_V × x_V × x_V) (fun x q => fdI w f st wd yv S0 σ b x q.1) (fun x q => x_Wp 3 200 (x_blk 200 2) [xR 50 0, xI f, xI (21 * wd + st), xI b, xI x, q.2.1, q.2.2.1, xU, q.2.2.2.1, q.2.2.2.2] [] q.1 Q) (lo := -20) (hi := w_of w f 3 + 1) (by omega) (a0 := (σb, u5, u6, u8, u9)) hJ ?_ ?_
    · intro x ⟨σx, v5, v6, v8, v9⟩ x0 x1 hX K2
      simp only at hX ⊢
      obtain ⟨a1, a2, a3, a4, a5⟩ := id hX
      have g51 : σx 51 0 = w := by rw [a1 51 0 (by simp)]; exact h51
      have gE : σx 50 0 17 = 5 := by rw [a1 50 0 (by simp)]; exact hE
      have gy : σx 61 0 (42 * f + (21 * wd + st)) = yv := by
        rw [a2 _ (fun k k0 k1 => by have := wf_k hw h0 h1 k0 k1; omega)]
        exact hy
      have kz : ∀ t u, fdz w f st wd yv t b x u → p_law w f st wd x b := fun t u z => ((sl_iff hw h0 h1 hs hd (by omega)).mp z.1.1).1
      by_cases cl : p_law w f st wd x b
      · have cs : s_law w 4 f st wd b (st + x - w_of w f 5) := (sl_iff hw h0 h1 hs hd (by omega)).mpr ⟨cl, fun _ => by omega⟩
        have sb := sl_b hw h0 h1 hs cs
        have po := p_or_01 (a := wd) (b := b)
        have cb := cost_b hw (E := 5) (x := x) (b := b) (t := st + x - w_of w f 5) h0 h1 (by omega) (by omega) (by omega)
        have eb : p_beh w f (21 * wd + st) x b = 21 * p_or wd b + (st + x - w_of w f 5) := by
          unfold p_beh
          rw [show (21 * wd + st) % 21 = st by omega, show (21 * wd + st) / 21 = wd by omega, if_pos ⟨by omega, cl⟩]
        have zz : fdz w f st wd yv (21 * p_or wd b + (st + x - w_of w f 5)) b x (yv + p_cost w 5 f x b (st + x - w_of w f 5)) := ⟨⟨cs, rfl⟩, rfl⟩
        have zf : ∀ t u, fdz w f st wd yv t b x u → u = yv + p_cost w 5 f x b (st + x - w_of w f 5) := fun t u z => z.2
        have ec : p_cost w 5 f x b ((21 * p_or wd b + (st + x - w_of w f 5)) % 21) = p_cost w 5 f x b (st + x - w_of w f 5) := by
          rw [show (21 * p_or wd b + (st + x - w_of w f 5)) % 21 = st + x - w_of w f 5 by omega]
        have vb : ∀ t z, (S0 t z ∨ vis (fdz w f st wd yv t) b x z) → -150000 ≤ z ∧ z ≤ 150000 := by
          rintro t z (p | ⟨b', x', _, p⟩)
          · exact hS t z p
          · have := fdz_b hw h0 h1 hs p
            omega
        have mb : ∀ (S : Int → Prop) v, x_ml (-9223372036854775808) S v → (∀ z, S z → -150000 ≤ z ∧ z ≤ 150000) → v = (-9223372036854775808) ∨ (-150000 ≤ v ∧ v ≤ 150000) := by
          intro S v m h
          rcases m with ⟨z, _⟩ | ⟨z, _⟩
          · exact Or.inl z
          · exact Or.inr (h v z)
        generalize ht : 21 * p_or wd b + (st + x - w_of w f 5) = t1 at eb zz ec
        generalize hv : yv + p_cost w 5 f x b (st + x - w_of w f 5) = v1 at zz zf
        have t1b : 0 ≤ t1 ∧ t1 < 42 := by omega
        have v1b : -150000 ≤ v1 ∧ v1 ≤ 150000 := by omega
        by_cases ck : w_of w f 7 = 0
        · have m5 := a5 ck
          have m5b := mb _ _ m5 (by
            rintro z (⟨t, _, p⟩ | ⟨b', x', p, t, _, q⟩)
            · exact vb t z (Or.inl p)
            · exact vb t z (Or.inr ⟨b', x', p, q⟩))
          have up := ml_or (fun u => ∃ t, (0 ≤ t ∧ t < 42) ∧ S0 t u) m5 (by
            rintro z (⟨t, _, p⟩ | ⟨b', x', p, t, _, q⟩)
            · have := vb t z (Or.inl p); omega
            · have := vb t z (Or.inr ⟨b', x', p, q⟩); omega) (u := v1) ⟨t1, t1b, zz⟩ (fun u' ⟨t, _, q⟩ => zf t u' q)
          by_cases c1 : σx 60 0 f = (-9223372036854775808) ∨ v1 < σx 60 0 f
          · rw [if_pos c1] at up
            have K3 := K2 (x_st σx 60 0 f v1, xI t1, xJ v1, xI 0, v9) ⟨eqo_st (by simp) a1, fun i hi => by (show x_st σx 60 0 f v1 61 0 i = _; rw [x_st_o (by omega)]; exact a2 i hi), fun k k0 k1 => by omega, fun e he => by
              have : ¬ e = f := fun y => he ⟨y, ck⟩
              show x_st σx 60 0 f v1 60 0 e = _
              rw [x_rd_ne (by omega)]
              exact a4 e he, fun _ => by
              show x_ml _ _ (x_st σx 60 0 f v1 60 0 f)
              rw [x_rd_eq]
              exact up⟩
            rw [bk_200_2]
            by_cases c2 : σx 60 0 f = (-9223372036854775808)
            · simp (disch := first | omega | (simp only [x_wtI, x_wtJ, x_wtR, x_wtN]; omega) | assumption | (simp (disch := omega) only [x_st_o, x_rd_ne]; first | assumption | omega) | (apply mir_eq; assumption; (intro c h1 h2; simp (disch := omega) only [x_st_o])) | (apply mis_eq; assumption; (intro c h1 h2; simp (disch := omega) only [x_st_o])) | rfl) only [bk_200_0, bk_200_3, bk_200_4, bk_200_5, bk_200_6, bk_200_7, bk_200_8, bk_200_9, bk_200_10, bk_200_11, wp_ic, wp_ist3, wp_fall, wp_ild3, wp_icge, wp_ist4, wp_ild4, wp_ald0, wp_ild1, wk_192, wp_icgt, wp_ild2, wk_201, wp_ist5, wp_ild5, wp_icne, wp_goto, wr_50_22, wp_imul, wp_iadd, wl_60, wl_61, wp_pald, wk_202, wp_i2l, wp_ladd, wp_lst6, wp_ifne, wr_50_21, wp_lc, wp_lcmp, wp_ifeq, wp_lld6, wp_ifge, ws_60, ws_61, wp_ist8, wp_ild8, wp_ist9, wp_ild9, wp_inc8, wp_inc4, wp_inc3, wp_ret, x_clr_I, x_clr_J, x_clr_R, x_clr_U, ct_some, ct_none, lc_lt, lc_ge, lc_gt, lc_le, lc_eq, lc_r, xI_inj, xJ_inj, Option.some.injEq, eq_self, bi_r, bi_0, bi_1, bi_n, Classical.not_not, and_true, true_and, ite_true, ite_false, ↓reduceIte, ↓x_andl, z_le, z_nle, z_lt, z_nlt, z_eq, z_neq, if_pos, if_neg, x_andl, false_and, and_false, or_true, true_or, or_false, false_or, not_true, not_false_iff, x_rd_eq, x_rd_ne, x_st_o, Int.cast_ofNat_Int, Int.ofNat_zero, Int.ofNat_one, not_true_eq_false, not_false_eq_true, if_true, if_false, ite_self, and_self, Int.ofNat_eq_natCast, Int.tdiv_eq_ediv_of_nonneg, Int.tmod_eq_emod_of_nonneg, x_bm32, k_of, k_behind, eb, k_costOf g51 gE hw, gy, ec, hv, c2]
              exact K3
            · have c3 := c1.resolve_left c2
              simp (disch := first | omega | (simp only [x_wtI, x_wtJ, x_wtR, x_wtN]; omega) | assumption | (simp (disch := omega) only [x_st_o, x_rd_ne]; first | assumption | omega) | (apply mir_eq; assumption; (intro c h1 h2; simp (disch := omega) only [x_st_o])) | (apply mis_eq; assumption; (intro c h1 h2; simp (disch := omega) only [x_st_o])) | rfl) only [bk_200_0, bk_200_3, bk_200_4, bk_200_5, bk_200_6, bk_200_7, bk_200_8, bk_200_9, bk_200_10, bk_200_11, wp_ic, wp_ist3, wp_fall, wp_ild3, wp_icge, wp_ist4, wp_ild4, wp_ald0, wp_ild1, wk_192, wp_icgt, wp_ild2, wk_201, wp_ist5, wp_ild5, wp_icne, wp_goto, wr_50_22, wp_imul, wp_iadd, wl_60, wl_61, wp_pald, wk_202, wp_i2l, wp_ladd, wp_lst6, wp_ifne, wr_50_21, wp_lc, wp_lcmp, wp_ifeq, wp_lld6, wp_ifge, ws_60, ws_61, wp_ist8, wp_ild8, wp_ist9, wp_ild9, wp_inc8, wp_inc4, wp_inc3, wp_ret, x_clr_I, x_clr_J, x_clr_R, x_clr_U, ct_some, ct_none, lc_lt, lc_ge, lc_gt, lc_le, lc_eq, lc_r, xI_inj, xJ_inj, Option.some.injEq, eq_self, bi_r, bi_0, bi_1, bi_n, Classical.not_not, and_true, true_and, ite_true, ite_false, ↓reduceIte, ↓x_andl, z_le, z_nle, z_lt, z_nlt, z_eq, z_neq, if_pos, if_neg, x_andl, false_and, and_false, or_true, true_or, or_false, false_or, not_true, not_false_iff, x_rd_eq, x_rd_ne, x_st_o, Int.cast_ofNat_Int, Int.ofNat_zero, Int.ofNat_one, not_true_eq_false, not_false_eq_true, if_true, if_false, ite_self, and_self, Int.ofNat_eq_natCast, Int.tdiv_eq_ediv_of_nonneg, Int.tmod_eq_emod_of_nonneg, x_bm32, k_of, k_behind, eb, k_costOf g51 gE hw, gy, ec, hv]
              exact K3
          · rw [if_neg c1] at up
            have K3 := K2 (σx, xI t1, xJ v1, xI 0, v9) ⟨a1, a2, fun k k0 k1 => by omega, a4, fun _ => up⟩
            rw [bk_200_2]
            simp (disch := first | omega | (simp only [x_wtI, x_wtJ, x_wtR, x_wtN]; omega) | assumption | (simp (disch := omega) only [x_st_o, x_rd_ne]; first | assumption | omega) | (apply mir_eq; assumption; (intro c h1 h2; simp (disch := omega) only [x_st_o])) | (apply mis_eq; assumption; (intro c h1 h2; simp (disch := omega) only [x_st_o])) | rfl) only [bk_200_0, bk_200_3, bk_200_4, bk_200_5, bk_200_6, bk_200_7, bk_200_8, bk_200_9, bk_200_10, bk_200_11, wp_ic, wp_ist3, wp_fall, wp_ild3, wp_icge, wp_ist4, wp_ild4, wp_ald0, wp_ild1, wk_192, wp_icgt, wp_ild2, wk_201, wp_ist5, wp_ild5, wp_icne, wp_goto, wr_50_22, wp_imul, wp_iadd, wl_60, wl_61, wp_pald, wk_202, wp_i2l, wp_ladd, wp_lst6, wp_ifne, wr_50_21, wp_lc, wp_lcmp, wp_ifeq, wp_lld6, wp_ifge, ws_60, ws_61, wp_ist8, wp_ild8, wp_ist9, wp_ild9, wp_inc8, wp_inc4, wp_inc3, wp_ret, x_clr_I, x_clr_J, x_clr_R, x_clr_U, ct_some, ct_none, lc_lt, lc_ge, lc_gt, lc_le, lc_eq, lc_r, xI_inj, xJ_inj, Option.some.injEq, eq_self, bi_r, bi_0, bi_1, bi_n, Classical.not_not, and_true, true_and, ite_true, ite_false, ↓reduceIte, ↓x_andl, z_le, z_nle, z_lt, z_nlt, z_eq, z_neq, if_pos, if_neg, x_andl, false_and, and_false, or_true, true_or, or_false, false_or, not_true, not_false_iff, x_rd_eq, x_rd_ne, x_st_o, Int.cast_ofNat_Int, Int.ofNat_zero, Int.ofNat_one, not_true_eq_false, not_false_eq_true, if_true, if_false, ite_self, and_self, Int.ofNat_eq_natCast, Int.tdiv_eq_ediv_of_nonneg, Int.tmod_eq_emod_of_nonneg, x_bm32, k_of, k_behind, eb, k_costOf g51 gE hw, gy, ec, hv]
            exact K3
        · rw [bk_200_2]
          simp (disch := first | omega | (simp only [x_wtI, x_wtJ, x_wtR, x_wtN]; omega) | assumption | (simp (disch := omega) only [x_st_o, x_rd_ne]; first | assumption | omega) | (apply mir_eq; assumption; (intro c h1 h2; simp (disch := omega) only [x_st_o])) | (apply mis_eq; assumption; (intro c h1 h2; simp (disch := omega) only [x_st_o])) | rfl) only [bk_200_0, bk_200_3, bk_200_4, bk_200_5, bk_200_7, bk_200_8, bk_200_9, bk_200_10, bk_200_11, wp_ic, wp_ist3, wp_fall, wp_ild3, wp_icge, wp_ist4, wp_ild4, wp_ald0, wp_ild1, wk_192, wp_icgt, wp_ild2, wk_201, wp_ist5, wp_ild5, wp_icne, wp_goto, wr_50_22, wp_imul, wp_iadd, wl_60, wl_61, wp_pald, wk_202, wp_i2l, wp_ladd, wp_lst6, wp_ifne, wr_50_21, wp_lc, wp_lcmp, wp_ifeq, wp_lld6, wp_ifge, ws_60, ws_61, wp_ist8, wp_ild8, wp_ist9, wp_ild9, wp_inc8, wp_inc4, wp_inc3, wp_ret, x_clr_I, x_clr_J, x_clr_R, x_clr_U, ct_some, ct_none, lc_lt, lc_ge, lc_gt, lc_le, lc_eq, lc_r, xI_inj, xJ_inj, Option.some.injEq, eq_self, bi_r, bi_0, bi_1, bi_n, Classical.not_not, and_true, true_and, ite_true, ite_false, ↓reduceIte, ↓x_andl, z_le, z_nle, z_lt, z_nlt, z_eq, z_neq, if_pos, if_neg, x_andl, false_and, and_false, or_true, true_or, or_false, false_or, not_true, not_false_iff, x_rd_eq, x_rd_ne, x_st_o, Int.cast_ofNat_Int, Int.ofNat_zero, Int.ofNat_one, not_true_eq_false, not_false_eq_true, if_true, if_false, ite_self, and_self, Int.ofNat_eq_natCast, Int.tdiv_eq_ediv_of_nonneg, Int.tmod_eq_emod_of_nonneg, x_bm32, k_of, k_behind, eb, k_costOf g51 gE hw, gy, ec, hv]
          refine x_lpK (α := x_S × x_V) (fun i q => x_eqo [(61, 0)] σx q.1 ∧ (∀ k, 0 ≤ k → k < w_of w f 7 → ∀ t, 0 ≤ t → t < 42 → q.1 61 0 (42 * w_of w f (8 + k) + t) = if k < i ∧ t = t1 then (if σx 61 0 (42 * w_of w f (8 + k) + t) = (-9223372036854775808) ∨ v1 < σx 61 0 (42 * w_of w f (8 + k) + t) then v1 else σx 61 0 (42 * w_of w f (8 + k) + t)) else σx 61 0 (42 * w_of w f (8 + k) + t)) ∧ ∀ i, (∀ k, 0 ≤ k → k < w_of w f 7 → ¬ (42 * w_of w f (8 + k) ≤ i ∧ i < 42 * w_of w f (8 + k) + 42)) → q.1 61 0 i = σx 61 0 i) (fun i q => x_Wp 3 200 (x_blk 200 6) [xR 50 0, xI f, xI (21 * wd + st), xI b, xI x, xI t1, xJ v1, xU, xI i, q.2] [] q.1 Q) (lo := 0) (hi := w_of w f 7) (by omega) (a0 := (σx, v9)) ⟨eqo_refl, fun k k0 k1 t t0 t1' => by rw [if_neg (by omega)], fun _ _ => rfl⟩ ?_ ?_
          · intro i ⟨σk, y9⟩ i0 i1 ⟨n1, n2, n3⟩ K4
            simp only at n1 n2 n3 ⊢
            have kk := wf_k hw h0 h1 i0 i1
            have gk : σk 51 0 = w := by rw [n1 51 0 (by simp)]; exact g51
            have gv := n2 i i0 i1 t1 t1b.1 t1b.2
            rw [if_neg (by omega)] at gv
            have mv := mb _ _ (a3 i i0 i1 t1 t1b.1 t1b.2) (vb t1)
            have dis : ∀ k, 0 ≤ k → k < w_of w f 7 → ¬ k = i → ¬ w_of w f (8 + k) = w_of w f (8 + i) := by
              intro k k0 k1 kn
              by_cases c : k < i
              · have := wf_i hw h0 h1 k0 c i1
                omega
              · have := wf_i hw h0 h1 i0 (show i < k by omega) k1
                omega
            by_cases c1 : σx 61 0 (42 * w_of w f (8 + i) + t1) = (-9223372036854775808) ∨ v1 < σx 61 0 (42 * w_of w f (8 + i) + t1)
            · have K5 := K4 (x_st σk 61 0 (42 * w_of w f (8 + i) + t1) v1, xI (42 * w_of w f (8 + i) + t1)) ⟨eqo_st (by simp) n1, fun k k0 k1 t t0 t2 => by
                show x_st σk 61 0 (42 * w_of w f (8 + i) + t1) v1 61 0 (42 * w_of w f (8 + k) + t) = _
                by_cases ce : k = i ∧ t = t1
                · rw [ce.1, ce.2, x_rd_eq, if_pos ⟨by omega, rfl⟩, if_pos c1]
                · have : ¬ 42 * w_of w f (8 + k) + t = 42 * w_of w f (8 + i) + t1 := by
                    intro y
                    by_cases ck2 : k = i
                    · exact ce ⟨ck2, by rw [ck2] at y; omega⟩
                    · have := dis k k0 k1 ck2
                      omega
                  rw [x_rd_ne (by omega), n2 k k0 k1 t t0 t2]
                  by_cases cq : k < i ∧ t = t1
                  · rw [if_pos cq, if_pos (show k < i + 1 ∧ t = t1 by omega)]
                  · rw [if_neg cq, if_neg (show ¬ (k < i + 1 ∧ t = t1) by omega)], fun q hq => by
                show x_st σk 61 0 (42 * w_of w f (8 + i) + t1) v1 61 0 q = _
                have := hq i i0 i1
                rw [x_rd_ne (by omega)]
                exact n3 q hq⟩
              rw [bk_200_6]
              by_cases c2 : σx 61 0 (42 * w_of w f (8 + i) + t1) = (-9223372036854775808)
              · rw [c2] at gv
                simp (disch := first | omega | (simp only [x_wtI, x_wtJ, x_wtR, x_wtN]; omega) | assumption | (simp (disch := omega) only [x_st_o, x_rd_ne]; first | assumption | omega) | (apply mir_eq; assumption; (intro c h1 h2; simp (disch := omega) only [x_st_o])) | (apply mis_eq; assumption; (intro c h1 h2; simp (disch := omega) only [x_st_o])) | rfl) only [bk_200_0, bk_200_3, bk_200_4, bk_200_5, bk_200_7, bk_200_8, bk_200_9, bk_200_10, bk_200_11, wp_ic, wp_ist3, wp_fall, wp_ild3, wp_icge, wp_ist4, wp_ild4, wp_ald0, wp_ild1, wk_192, wp_icgt, wp_ild2, wk_201, wp_ist5, wp_ild5, wp_icne, wp_goto, wr_50_22, wp_imul, wp_iadd, wl_60, wl_61, wp_pald, wk_202, wp_i2l, wp_ladd, wp_lst6, wp_ifne, wr_50_21, wp_lc, wp_lcmp, wp_ifeq, wp_lld6, wp_ifge, ws_60, ws_61, wp_ist8, wp_ild8, wp_ist9, wp_ild9, wp_inc8, wp_inc4, wp_inc3, wp_ret, x_clr_I, x_clr_J, x_clr_R, x_clr_U, ct_some, ct_none, lc_lt, lc_ge, lc_gt, lc_le, lc_eq, lc_r, xI_inj, xJ_inj, Option.some.injEq, eq_self, bi_r, bi_0, bi_1, bi_n, Classical.not_not, and_true, true_and, ite_true, ite_false, ↓reduceIte, ↓x_andl, z_le, z_nle, z_lt, z_nlt, z_eq, z_neq, if_pos, if_neg, x_andl, false_and, and_false, or_true, true_or, or_false, false_or, not_true, not_false_iff, x_rd_eq, x_rd_ne, x_st_o, Int.cast_ofNat_Int, Int.ofNat_zero, Int.ofNat_one, not_true_eq_false, not_false_eq_true, if_true, if_false, ite_self, and_self, Int.ofNat_eq_natCast, Int.tdiv_eq_ediv_of_nonneg, Int.tmod_eq_emod_of_nonneg, x_bm32, k_of, gv]
                exact K5
              · have c3 := c1.resolve_left c2
                simp (disch := first | omega | (simp only [x_wtI, x_wtJ, x_wtR, x_wtN]; omega) | assumption | (simp (disch := omega) only [x_st_o, x_rd_ne]; first | assumption | omega) | (apply mir_eq; assumption; (intro c h1 h2; simp (disch := omega) only [x_st_o])) | (apply mis_eq; assumption; (intro c h1 h2; simp (disch := omega) only [x_st_o])) | rfl) only [bk_200_0, bk_200_3, bk_200_4, bk_200_5, bk_200_7, bk_200_8, bk_200_9, bk_200_10, bk_200_11, wp_ic, wp_ist3, wp_fall, wp_ild3, wp_icge, wp_ist4, wp_ild4, wp_ald0, wp_ild1, wk_192, wp_icgt, wp_ild2, wk_201, wp_ist5, wp_ild5, wp_icne, wp_goto, wr_50_22, wp_imul, wp_iadd, wl_60, wl_61, wp_pald, wk_202, wp_i2l, wp_ladd, wp_lst6, wp_ifne, wr_50_21, wp_lc, wp_lcmp, wp_ifeq, wp_lld6, wp_ifge, ws_60, ws_61, wp_ist8, wp_ild8, wp_ist9, wp_ild9, wp_inc8, wp_inc4, wp_inc3, wp_ret, x_clr_I, x_clr_J, x_clr_R, x_clr_U, ct_some, ct_none, lc_lt, lc_ge, lc_gt, lc_le, lc_eq, lc_r, xI_inj, xJ_inj, Option.some.injEq, eq_self, bi_r, bi_0, bi_1, bi_n, Classical.not_not, and_true, true_and, ite_true, ite_false, ↓reduceIte, ↓x_andl, z_le, z_nle, z_lt, z_nlt, z_eq, z_neq, if_pos, if_neg, x_andl, false_and, and_false, or_true, true_or, or_false, false_or, not_true, not_false_iff, x_rd_eq, x_rd_ne, x_st_o, Int.cast_ofNat_Int, Int.ofNat_zero, Int.ofNat_one, not_true_eq_false, not_false_eq_true, if_true, if_false, ite_self, and_self, Int.ofNat_eq_natCast, Int.tdiv_eq_ediv_of_nonneg, Int.tmod_eq_emod_of_nonneg, x_bm32, k_of, gv]
                exact K5
            · have K5 := K4 (σk, xI (42 * w_of w f (8 + i) + t1)) ⟨n1, fun k k0 k1 t t0 t2 => by
                show σk 61 0 (42 * w_of w f (8 + k) + t) = _
                rw [n2 k k0 k1 t t0 t2]
                by_cases ce : k = i ∧ t = t1
                · rw [ce.1, ce.2, if_neg (by omega), if_pos ⟨by omega, rfl⟩, if_neg c1]
                · by_cases cq : k < i ∧ t = t1
                  · rw [if_pos cq, if_pos (show k < i + 1 ∧ t = t1 by omega)]
                  · rw [if_neg cq, if_neg (show ¬ (k < i + 1 ∧ t = t1) by omega)], n3⟩
              rw [bk_200_6]
              simp (disch := first | omega | (simp only [x_wtI, x_wtJ, x_wtR, x_wtN]; omega) | assumption | (simp (disch := omega) only [x_st_o, x_rd_ne]; first | assumption | omega) | (apply mir_eq; assumption; (intro c h1 h2; simp (disch := omega) only [x_st_o])) | (apply mis_eq; assumption; (intro c h1 h2; simp (disch := omega) only [x_st_o])) | rfl) only [bk_200_0, bk_200_3, bk_200_4, bk_200_5, bk_200_7, bk_200_8, bk_200_9, bk_200_10, bk_200_11, wp_ic, wp_ist3, wp_fall, wp_ild3, wp_icge, wp_ist4, wp_ild4, wp_ald0, wp_ild1, wk_192, wp_icgt, wp_ild2, wk_201, wp_ist5, wp_ild5, wp_icne, wp_goto, wr_50_22, wp_imul, wp_iadd, wl_60, wl_61, wp_pald, wk_202, wp_i2l, wp_ladd, wp_lst6, wp_ifne, wr_50_21, wp_lc, wp_lcmp, wp_ifeq, wp_lld6, wp_ifge, ws_60, ws_61, wp_ist8, wp_ild8, wp_ist9, wp_ild9, wp_inc8, wp_inc4, wp_inc3, wp_ret, x_clr_I, x_clr_J, x_clr_R, x_clr_U, ct_some, ct_none, lc_lt, lc_ge, lc_gt, lc_le, lc_eq, lc_r, xI_inj, xJ_inj, Option.some.injEq, eq_self, bi_r, bi_0, bi_1, bi_n, Classical.not_not, and_true, true_and, ite_true, ite_false, ↓reduceIte, ↓x_andl, z_le, z_nle, z_lt, z_nlt, z_eq, z_neq, if_pos, if_neg, x_andl, false_and, and_false, or_true, true_or, or_false, false_or, not_true, not_false_iff, x_rd_eq, x_rd_ne, x_st_o, Int.cast_ofNat_Int, Int.ofNat_zero, Int.ofNat_one, not_true_eq_false, not_false_eq_true, if_true, if_false, ite_self, and_self, Int.ofNat_eq_natCast, Int.tdiv_eq_ediv_of_nonneg, Int.tmod_eq_emod_of_nonneg, x_bm32, k_of, gv]
              exact K5
          · intro ⟨σk, y9⟩ ⟨n1, n2, n3⟩
            simp only at n1 n2 n3 ⊢
            have gk : σk 51 0 = w := by rw [n1 51 0 (by simp)]; exact g51
            have K5 := K2 (σk, xI t1, xJ v1, xI (w_of w f 7), y9) ⟨eqo_trans a1 (eqo_mono (by simp) n1), fun i hi => by
                show σk 61 0 i = _
                rw [n3 i hi]
                exact a2 i hi, fun k k0 k1 t t0 t2 => by
                show x_ml _ _ (σk 61 0 (42 * w_of w f (8 + k) + t))
                rw [n2 k k0 k1 t t0 t2]
                by_cases ce : t = t1
                · subst ce
                  rw [if_pos ⟨k1, rfl⟩]
                  exact ml_or _ (a3 k k0 k1 t t0 t2) (fun z p => by have := vb t z p; omega) zz (zf t)
                · rw [if_neg (by omega)]
                  exact ml_on _ (a3 k k0 k1 t t0 t2) (fun u y => ce (by rw [y.1.2]; exact ht)), fun e he => by
                show σk 60 0 e = _
                rw [n1 60 0 (by simp)]
                exact a4 e he, fun y => absurd y ck⟩
            rw [bk_200_6]
            simp (disch := first | omega | (simp only [x_wtI, x_wtJ, x_wtR, x_wtN]; omega) | assumption | (simp (disch := omega) only [x_st_o, x_rd_ne]; first | assumption | omega) | (apply mir_eq; assumption; (intro c h1 h2; simp (disch := omega) only [x_st_o])) | (apply mis_eq; assumption; (intro c h1 h2; simp (disch := omega) only [x_st_o])) | rfl) only [bk_200_0, bk_200_3, bk_200_4, bk_200_5, bk_200_7, bk_200_8, bk_200_9, bk_200_10, bk_200_11, wp_ic, wp_ist3, wp_fall, wp_ild3, wp_icge, wp_ist4, wp_ild4, wp_ald0, wp_ild1, wk_192, wp_icgt, wp_ild2, wk_201, wp_ist5, wp_ild5, wp_icne, wp_goto, wr_50_22, wp_imul, wp_iadd, wl_60, wl_61, wp_pald, wk_202, wp_i2l, wp_ladd, wp_lst6, wp_ifne, wr_50_21, wp_lc, wp_lcmp, wp_ifeq, wp_lld6, wp_ifge, ws_60, ws_61, wp_ist8, wp_ild8, wp_ist9, wp_ild9, wp_inc8, wp_inc4, wp_inc3, wp_ret, x_clr_I, x_clr_J, x_clr_R, x_clr_U, ct_some, ct_none, lc_lt, lc_ge, lc_gt, lc_le, lc_eq, lc_r, xI_inj, xJ_inj, Option.some.injEq, eq_self, bi_r, bi_0, bi_1, bi_n, Classical.not_not, and_true, true_and, ite_true, ite_false, ↓reduceIte, ↓x_andl, z_le, z_nle, z_lt, z_nlt, z_eq, z_neq, if_pos, if_neg, x_andl, false_and, and_false, or_true, true_or, or_false, false_or, not_true, not_false_iff, x_rd_eq, x_rd_ne, x_st_o, Int.cast_ofNat_Int, Int.ofNat_zero, Int.ofNat_one, not_true_eq_false, not_false_eq_true, if_true, if_false, ite_self, and_self, Int.ofNat_eq_natCast, Int.tdiv_eq_ediv_of_nonneg, Int.tmod_eq_emod_of_nonneg, x_bm32, k_of]
            exact K5
      · have eb : p_beh w f (21 * wd + st) x b = -1 := by
          unfold p_beh
          rw [show (21 * wd + st) % 21 = st by omega, show (21 * wd + st) / 21 = wd by omega, if_neg (fun z => cl z.2)]
        have K3 := K2 (σx, xI (-1), v6, v8, v9) (fdI_no hX (fun t u z => cl (kz t u z)))
        rw [bk_200_2]
        simp (disch := first | omega | (simp only [x_wtI, x_wtJ, x_wtR, x_wtN]; omega) | assumption | (simp (disch := omega) only [x_st_o, x_rd_ne]; first | assumption | omega) | (apply mir_eq; assumption; (intro c h1 h2; simp (disch := omega) only [x_st_o])) | (apply mis_eq; assumption; (intro c h1 h2; simp (disch := omega) only [x_st_o])) | rfl) only [bk_200_0, bk_200_3, bk_200_4, bk_200_5, bk_200_6, bk_200_7, bk_200_8, bk_200_9, bk_200_10, bk_200_11, wp_ic, wp_ist3, wp_fall, wp_ild3, wp_icge, wp_ist4, wp_ild4, wp_ald0, wp_ild1, wk_192, wp_icgt, wp_ild2, wk_201, wp_ist5, wp_ild5, wp_icne, wp_goto, wr_50_22, wp_imul, wp_iadd, wl_60, wl_61, wp_pald, wk_202, wp_i2l, wp_ladd, wp_lst6, wp_ifne, wr_50_21, wp_lc, wp_lcmp, wp_ifeq, wp_lld6, wp_ifge, ws_60, ws_61, wp_ist8, wp_ild8, wp_ist9, wp_ild9, wp_inc8, wp_inc4, wp_inc3, wp_ret, x_clr_I, x_clr_J, x_clr_R, x_clr_U, ct_some, ct_none, lc_lt, lc_ge, lc_gt, lc_le, lc_eq, lc_r, xI_inj, xJ_inj, Option.some.injEq, eq_self, bi_r, bi_0, bi_1, bi_n, Classical.not_not, and_true, true_and, ite_true, ite_false, ↓reduceIte, ↓x_andl, z_le, z_nle, z_lt, z_nlt, z_eq, z_neq, if_pos, if_neg, x_andl, false_and, and_false, or_true, true_or, or_false, false_or, not_true, not_false_iff, x_rd_eq, x_rd_ne, x_st_o, Int.cast_ofNat_Int, Int.ofNat_zero, Int.ofNat_one, not_true_eq_false, not_false_eq_true, if_true, if_false, ite_self, and_self, Int.ofNat_eq_natCast, Int.tdiv_eq_ediv_of_nonneg, Int.tmod_eq_emod_of_nonneg, x_bm32, k_of, k_behind, eb]
        exact K3
    · intro ⟨σx, v5, v6, v8, v9⟩ hX
      simp only at hX ⊢
      have g51 : σx 51 0 = w := by rw [hX.1 51 0 (by simp)]; exact h51
      have K3 := K (σx, xI (w_of w f 3 + 1), v5, v6, v8, v9) (fdI_row hw h0 h1 hs hX)
      rw [bk_200_2]
      simp (disch := first | omega | (simp only [x_wtI, x_wtJ, x_wtR, x_wtN]; omega) | assumption | (simp (disch := omega) only [x_st_o, x_rd_ne]; first | assumption | omega) | (apply mir_eq; assumption; (intro c h1 h2; simp (disch := omega) only [x_st_o])) | (apply mis_eq; assumption; (intro c h1 h2; simp (disch := omega) only [x_st_o])) | rfl) only [bk_200_0, bk_200_3, bk_200_4, bk_200_5, bk_200_6, bk_200_7, bk_200_8, bk_200_9, bk_200_10, bk_200_11, wp_ic, wp_ist3, wp_fall, wp_ild3, wp_icge, wp_ist4, wp_ild4, wp_ald0, wp_ild1, wk_192, wp_icgt, wp_ild2, wk_201, wp_ist5, wp_ild5, wp_icne, wp_goto, wr_50_22, wp_imul, wp_iadd, wl_60, wl_61, wp_pald, wk_202, wp_i2l, wp_ladd, wp_lst6, wp_ifne, wr_50_21, wp_lc, wp_lcmp, wp_ifeq, wp_lld6, wp_ifge, ws_60, ws_61, wp_ist8, wp_ild8, wp_ist9, wp_ild9, wp_inc8, wp_inc4, wp_inc3, wp_ret, x_clr_I, x_clr_J, x_clr_R, x_clr_U, ct_some, ct_none, lc_lt, lc_ge, lc_gt, lc_le, lc_eq, lc_r, xI_inj, xJ_inj, Option.some.injEq, eq_self, bi_r, bi_0, bi_1, bi_n, Classical.not_not, and_true, true_and, ite_true, ite_false, ↓reduceIte, ↓x_andl, z_le, z_nle, z_lt, z_nlt, z_eq, z_neq, if_pos, if_neg, x_andl, false_and, and_false, or_true, true_or, or_false, false_or, not_true, not_false_iff, x_rd_eq, x_rd_ne, x_st_o, Int.cast_ofNat_Int, Int.ofNat_zero, Int.ofNat_one, not_true_eq_false, not_false_eq_true, if_true, if_false, ite_self, and_self, Int.ofNat_eq_natCast, Int.tdiv_eq_ediv_of_nonneg, Int.tmod_eq_emod_of_nonneg, x_bm32, k_of]
      exact K3
  · intro ⟨σb, u4, u5, u6, u8, u9⟩ hJ
    simp only at hJ ⊢
    rw [bk_200_1]
    simp (disch := first | omega | (simp only [x_wtI, x_wtJ, x_wtR, x_wtN]; omega) | assumption | (simp (disch := omega) only [x_st_o, x_rd_ne]; first | assumption | omega) | (apply mir_eq; assumption; (intro c h1 h2; simp (disch := omega) only [x_st_o])) | (apply mis_eq; assumption; (intro c h1 h2; simp (disch := omega) only [x_st_o])) | rfl) only [bk_200_0, bk_200_3, bk_200_4, bk_200_5, bk_200_6, bk_200_7, bk_200_8, bk_200_9, bk_200_10, bk_200_11, wp_ic, wp_ist3, wp_fall, wp_ild3, wp_icge, wp_ist4, wp_ild4, wp_ald0, wp_ild1, wk_192, wp_icgt, wp_ild2, wk_201, wp_ist5, wp_ild5, wp_icne, wp_goto, wr_50_22, wp_imul, wp_iadd, wl_60, wl_61, wp_pald, wk_202, wp_i2l, wp_ladd, wp_lst6, wp_ifne, wr_50_21, wp_lc, wp_lcmp, wp_ifeq, wp_lld6, wp_ifge, ws_60, ws_61, wp_ist8, wp_ild8, wp_ist9, wp_ild9, wp_inc8, wp_inc4, wp_inc3, wp_ret, x_clr_I, x_clr_J, x_clr_R, x_clr_U, ct_some, ct_none, lc_lt, lc_ge, lc_gt, lc_le, lc_eq, lc_r, xI_inj, xJ_inj, Option.some.injEq, eq_self, bi_r, bi_0, bi_1, bi_n, Classical.not_not, and_true, true_and, ite_true, ite_false, ↓reduceIte, ↓x_andl, z_le, z_nle, z_lt, z_nlt, z_eq, z_neq, if_pos, if_neg, x_andl, false_and, and_false, or_true, true_or, or_false, false_or, not_true, not_false_iff, x_rd_eq, x_rd_ne, x_st_o, Int.cast_ofNat_Int, Int.ofNat_zero, Int.ofNat_one, not_true_eq_false, not_false_eq_true, if_true, if_false, ite_self, and_self, Int.ofNat_eq_natCast, Int.tdiv_eq_ediv_of_nonneg, Int.tmod_eq_emod_of_nonneg, x_bm32]
    exact hQ _ _ ⟨rfl, hJ⟩

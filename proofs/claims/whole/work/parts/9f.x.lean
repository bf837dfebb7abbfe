theorem zcl_w {w R : Int → Int} {c Wd sc kp f st wd b t u : Int} : zcl w c Wd sc kp R f st wd b t u ↔ (s_law w Wd f st wd b t ∧ ¬ R (21 * p_or wd b + t) = 9223372036854775807 ∧ u = wgh w c sc kp R f (t + w_of w f 5 - st) b t (p_or wd b)) := by
  unfold zcl wgh
  constructor
  · rintro ⟨⟨a, b⟩, e⟩
    exact ⟨a, b, by rw [if_neg b]; exact e⟩
  · rintro ⟨a, b, e⟩
    exact ⟨⟨a, b⟩, by rw [if_neg b] at e; exact e⟩
theorem h_choose {σ : x_S} {w : Int → Int} {j : Nat} {c Wd sc kp f st wd : Int} {P : (Int → Int) → Prop} (hM : mir σ 1 w) (hj : j < 4) (hw : wf w) (h0 : 0 ≤ f) (h1 : f < w 0) (hm : σ 24 j 3 = c) (hc : 0 ≤ c ∧ c ≤ 4 ∧ ¬ c = 3) (hWd : σ 24 j 1 = Wd) (hW2 : 4 ≤ Wd ∧ Wd ≤ 100) (hst : 0 ≤ st ∧ st ≤ 20) (hwd : 0 ≤ wd ∧ wd ≤ 1) (hs : 1 ≤ sc ∧ sc ≤ 100000000) (hk : -99 ≤ kp ∧ kp ≤ 99) (hP : ∀ R, P R → rbd R)
    (hl : x_Sp 3 3 [xR 24 j, xI f] σ (fun r σ' => r = none ∧ x_eqo [(24, j), (27, j)] σ σ' ∧ (∀ k, ¬ (7 ≤ k ∧ k ≤ 9) → σ' 24 j k = σ 24 j k) ∧ ∃ R, P R ∧ lbk w sc kp R σ' j f)) :
    x_Sp 4 12 [xR 24 j, xI f, xI st, xI wd] σ (fun r σ' => x_eqo [(24, j), (27, j)] σ σ' ∧ (∀ k, ¬ (7 ≤ k ∧ k ≤ 9) → σ' 24 j k = σ 24 j k) ∧ ∃ R, P R ∧ ∃ pick low, r = some (xI pick) ∧ ((pick = -1 ∧ low = 9223372036854775807 ∧ ∀ b t u, ¬ zcl w c Wd sc kp R f st wd b t u) ∨ ∃ b0 t0, pick = b0 * 21 + t0 ∧ fL (zcl w c Wd sc kp R f st wd) b0 t0 low)) := by
  have a := wf_h hw
  unfold wf_hdr at a
  have o := wf_f hw h0 h1
  unfold wf_one at o
  refine x_gen (fun Q hQ => ?_)
  simp (disch := first | omega | (simp only [x_wtI, x_wtJ, x_wtR, x_wtN]; omega) | assumption | (simp (disch := omega) only [x_st_o, x_rd_ne]; first | assumption | omega) | (apply mir_eq; assumption; (intro c h1 h2; simp (disch := omega) only [x_st_o])) | (apply mis_eq; assumption; (intro c h1 h2; simp (disch := omega) only [x_st_o])) | rfl) only [sp_12, bk_12_0, bk_12_2, bk_12_3, bk_12_4, bk_12_5, wp_ald0, wp_ild1, wk_3, wp_lc, wp_lst4, wp_ic, wp_ist6, wp_ist7, wp_fall, wp_ild7, wp_ild3, wp_isub, wp_icgt, wp_ior, wp_ist8, wr_24_0, wp_ild2, wp_ild8, wk_68, wp_ist9, wk_69, wp_ist10, wp_ist11, wp_ild11, wp_ild9, wp_ild10, wp_iadd, wk_13, wp_lst12, wp_lld12, wp_lld4, wp_lcmp, wp_ifge, wp_imul, wp_inc11, wp_goto, wp_inc7, wp_ild6, wp_iret mz_12, x_clr_I, x_clr_J, x_clr_R, x_clr_U, ct_some, ct_none, lc_lt, lc_ge, lc_gt, lc_le, lc_eq, lc_r, xI_inj, xJ_inj, Option.some.injEq, eq_self, bi_r, bi_0, bi_1, bi_n, Classical.not_not, and_true, true_and, ite_true, ite_false, ↓reduceIte, ↓x_andl, z_le, z_nle, z_lt, z_nlt, z_eq, z_neq, if_pos, if_neg, x_andl, false_and, and_false, or_true, true_or, or_false, false_or, not_true, not_false_iff, x_rd_eq, x_rd_ne, x_st_o, Int.cast_ofNat_Int, Int.ofNat_zero, Int.ofNat_one, not_true_eq_false, not_false_eq_true, if_true, if_false, ite_self, and_self, Int.ofNat_eq_natCast, Int.tdiv_eq_ediv_of_nonneg, Int.tmod_eq_emod_of_nonneg, x_bm32]
  refine x_use (d := 0) hl ?_
  rintro r σ1 ⟨rfl, e1, k1, R, hPR, lb⟩
  have hM1 : mir σ1 1 w := mir_eq hM (fun c q1 q2 => e1 c 1 (by simp; omega))
  have gm : σ1 24 j 3 = c := by rw [k1 3 (by omega)]; exact hm
  have gW : σ1 24 j 1 = Wd := by rw [k1 1 (by omega)]; exact hWd
  have hR := hP R hPR
  have zb : ∀ b t u, zcl w c Wd sc kp R f st wd b t u → (b = 0 ∨ (b = 1 ∧ wd = 0 ∧ w_of w f 6 ≤ Wd)) ∧ 0 ≤ t ∧ t ≤ p_room w (p_or wd b) ∧ t ≤ st + w_of w f 3 - w_of w f 5 := fun b t u z => z.1.1
  simp (disch := first | omega | (simp only [x_wtI, x_wtJ, x_wtR, x_wtN]; omega) | assumption | (simp (disch := omega) only [x_st_o, x_rd_ne]; first | assumption | omega) | (apply mir_eq; assumption; (intro c h1 h2; simp (disch := omega) only [x_st_o])) | (apply mis_eq; assumption; (intro c h1 h2; simp (disch := omega) only [x_st_o])) | rfl) only [bk_12_0, bk_12_2, bk_12_3, bk_12_4, bk_12_5, wp_ald0, wp_ild1, wk_3, wp_lc, wp_lst4, wp_ic, wp_ist6, wp_ist7, wp_fall, wp_ild7, wp_ild3, wp_isub, wp_icgt, wp_ior, wp_ist8, wr_24_0, wp_ild2, wp_ild8, wk_68, wp_ist9, wk_69, wp_ist10, wp_ist11, wp_ild11, wp_ild9, wp_ild10, wp_iadd, wk_13, wp_lst12, wp_lld12, wp_lld4, wp_lcmp, wp_ifge, wp_imul, wp_inc11, wp_goto, wp_inc7, wp_ild6, wp_iret mz_12, x_clr_I, x_clr_J, x_clr_R, x_clr_U, ct_some, ct_none, lc_lt, lc_ge, lc_gt, lc_le, lc_eq, lc_r, xI_inj, xJ_inj, Option.some.injEq, eq_self, bi_r, bi_0, bi_1, bi_n, Classical.not_not, and_true, true_and, ite_true, ite_false, ↓reduceIte, ↓x_andl, z_le, z_nle, z_lt, z_nlt, z_eq, z_neq, if_pos, if_neg, x_andl, false_and, and_false, or_true, true_or, or_false, false_or, not_true, not_false_iff, x_rd_eq, x_rd_ne, x_st_o, Int.cast_ofNat_Int, Int.ofNat_zero, Int.ofNat_one, not_true_eq_false, not_false_eq_true, if_true, if_false, ite_self, and_self, Int.ofNat_eq_natCast, Int.tdiv_eq_ediv_of_nonneg, Int.tmod_eq_emod_of_nonneg, x_bm32]
  refine x_lpK (α := Int × Int × x_V × x_V × x_V × x_V × x_V) (fun b q => fS (zcl w c Wd sc kp R f st wd) b 0 q.1 q.2.1) (fun b q => x_Wp 4 12 (x_blk 12 1) [xR 24 j, xI f, xI st, xI wd, xJ q.1, xU, xI q.2.1, xI b, q.2.2.1, q.2.2.2.1, q.2.2.2.2.1, q.2.2.2.2.2.1, q.2.2.2.2.2.2, xU] [] σ1 Q) (lo := 0) (hi := 2 - wd) (by omega) (a0 := (9223372036854775807, -1, xU, xU, xU, xU, xU)) (Or.inl ⟨rfl, rfl, fun u z => vis_0 (fun b' t' u' p z => by have := zb _ _ _ z; omega) (fun t' u' p z => by have := zb _ _ _ z; omega) u z⟩) ?_ ?_
  · intro b ⟨low, pick, u9, u10, u11, u12, u13⟩ b0 b1 hJ K
    simp only at hJ ⊢
    have wl : b = 0 ∨ (b = 1 ∧ wd = 0 ∧ w_of w f 6 ≤ Wd) := by
      by_cases q : b = 0
      · exact Or.inl q
      · exact Or.inr ⟨by omega, by omega, by omega⟩
    have po := p_or_01 (a := wd) (b := b)
    have rb := room_b hw (l := p_or wd b)
    obtain ⟨full, hfull⟩ : ∃ full, full = min (p_room w (p_or wd b)) (st + w_of w f 3 - w_of w f 5) := ⟨_, rfl⟩
    have hx := x_or_p (a := wd) (b := b) hwd (by omega)
    rw [bk_12_1]
    simp (disch := first | omega | (simp only [x_wtI, x_wtJ, x_wtR, x_wtN]; omega) | assumption | (simp (disch := omega) only [x_st_o, x_rd_ne]; first | assumption | omega) | (apply mir_eq; assumption; (intro c h1 h2; simp (disch := omega) only [x_st_o])) | (apply mis_eq; assumption; (intro c h1 h2; simp (disch := omega) only [x_st_o])) | rfl) only [bk_12_0, bk_12_3, bk_12_4, bk_12_5, wp_ald0, wp_ild1, wk_3, wp_lc, wp_lst4, wp_ic, wp_ist6, wp_ist7, wp_fall, wp_ild7, wp_ild3, wp_isub, wp_icgt, wp_ior, wp_ist8, wr_24_0, wp_ild2, wp_ild8, wk_68, wp_ist9, wk_69, wp_ist10, wp_ist11, wp_ild11, wp_ild9, wp_ild10, wp_iadd, wk_13, wp_lst12, wp_lld12, wp_lld4, wp_lcmp, wp_ifge, wp_imul, wp_inc11, wp_goto, wp_inc7, wp_ild6, wp_iret mz_12, x_clr_I, x_clr_J, x_clr_R, x_clr_U, ct_some, ct_none, lc_lt, lc_ge, lc_gt, lc_le, lc_eq, lc_r, xI_inj, xJ_inj, Option.some.injEq, eq_self, bi_r, bi_0, bi_1, bi_n, Classical.not_not, and_true, true_and, ite_true, ite_false, ↓reduceIte, ↓x_andl, z_le, z_nle, z_lt, z_nlt, z_eq, z_neq, if_pos, if_neg, x_andl, false_and, and_false, or_true, true_or, or_false, false_or, not_true, not_false_iff, x_rd_eq, x_rd_ne, x_st_o, Int.cast_ofNat_Int, Int.ofNat_zero, Int.ofNat_one, not_true_eq_false, not_false_eq_true, if_true, if_false, ite_self, and_self, Int.ofNat_eq_natCast, Int.tdiv_eq_ediv_of_nonneg, Int.tmod_eq_emod_of_nonneg, x_bm32, hx, k_fullest hM1 hw, k_boughtFor hM1 hw]
    rw [← hfull, show (0 : Int) + w_of w f 5 - st = w_of w f 5 - st by omega]
    refine x_lpK (α := Int × Int × x_V) (fun t q => fS (zcl w c Wd sc kp R f st wd) b t q.1 q.2.1) (fun t q => x_Wp 4 12 (x_blk 12 2) [xR 24 j, xI f, xI st, xI wd, xJ q.1, xU, xI q.2.1, xI b, xI (p_or wd b), xI full, xI (w_of w f 5 - st), xI t, q.2.2, xU] [] σ1 Q) (lo := 0) (hi := max 0 (full + 1)) (by omega) (a0 := (low, pick, u13)) hJ ?_ ?_
    · intro t ⟨low, pick, v13⟩ t0 t1 hT K2
      simp only at hT ⊢
      have law : s_law w Wd f st wd b t := ⟨wl, t0, by omega, by omega⟩
      have sb := sl_b hw h0 h1 hst law
      have wb := wgh_b (c := c) (x := w_of w f 5 - st + t) (b := b) (t := t) (l := p_or wd b) hw h0 h1 hR hs hk (by omega) (by omega) (by omega) (by omega)
      have kw := fun (Q' : Option x_V → x_S → Prop) => k_weigh (σ := σ1) (d := 3) (Q := Q') (x := w_of w f 5 - st + t) (b := b) (t := t) (l := p_or wd b) hj hw h0 h1 gm hc lb hR hs hk (by omega) (by omega) (by omega) (by omega)
      have zw : ∀ u, zcl w c Wd sc kp R f st wd b t u → u = wgh w c sc kp R f (w_of w f 5 - st + t) b t (p_or wd b) := by
        intro u z
        rw [(zcl_w.mp z).2.2, show t + w_of w f 5 - st = w_of w f 5 - st + t by omega]
      have zi : ¬ R (21 * p_or wd b + t) = 9223372036854775807 → zcl w c Wd sc kp R f st wd b t (wgh w c sc kp R f (w_of w f 5 - st + t) b t (p_or wd b)) := by
        intro nd
        refine zcl_w.mpr ⟨law, nd, ?_⟩
        rw [show t + w_of w f 5 - st = w_of w f 5 - st + t by omega]
      generalize hv : wgh w c sc kp R f (w_of w f 5 - st + t) b t (p_or wd b) = v at wb kw zw zi
      have lowb : low = 9223372036854775807 ∨ (-700000000000000000 ≤ low ∧ low ≤ 700000000000000000) := by
        rcases hT with ⟨_, z, _⟩ | ⟨b', t', _, _, z, _⟩
        · exact Or.inl z
        · obtain ⟨l2, n2, e2⟩ := zcl_w.mp z
          have sb2 := sl_b hw h0 h1 hst l2
          have po2 := p_or_01 (a := wd) (b := b')
          have wb2 := wgh_b (c := c) (x := t' + w_of w f 5 - st) (b := b') (t := t') (l := p_or wd b') hw h0 h1 hR hs hk (by omega) (by omega) (by omega) (by omega)
          rw [← e2] at wb2
          omega
      by_cases cl : v < low
      · have K3 := K2 (v, b * 21 + t, xJ v) (fS_lt hT (zi (by omega)) zw cl)
        rw [bk_12_2]
        simp (disch := first | omega | (simp only [x_wtI, x_wtJ, x_wtR, x_wtN]; omega) | assumption | (simp (disch := omega) only [x_st_o, x_rd_ne]; first | assumption | omega) | (apply mir_eq; assumption; (intro c h1 h2; simp (disch := omega) only [x_st_o])) | (apply mis_eq; assumption; (intro c h1 h2; simp (disch := omega) only [x_st_o])) | rfl) only [bk_12_0, bk_12_3, bk_12_4, bk_12_5, wp_ald0, wp_ild1, wk_3, wp_lc, wp_lst4, wp_ic, wp_ist6, wp_ist7, wp_fall, wp_ild7, wp_ild3, wp_isub, wp_icgt, wp_ior, wp_ist8, wr_24_0, wp_ild2, wp_ild8, wk_68, wp_ist9, wk_69, wp_ist10, wp_ist11, wp_ild11, wp_ild9, wp_ild10, wp_iadd, wk_13, wp_lst12, wp_lld12, wp_lld4, wp_lcmp, wp_ifge, wp_imul, wp_inc11, wp_goto, wp_inc7, wp_ild6, wp_iret mz_12, x_clr_I, x_clr_J, x_clr_R, x_clr_U, ct_some, ct_none, lc_lt, lc_ge, lc_gt, lc_le, lc_eq, lc_r, xI_inj, xJ_inj, Option.some.injEq, eq_self, bi_r, bi_0, bi_1, bi_n, Classical.not_not, and_true, true_and, ite_true, ite_false, ↓reduceIte, ↓x_andl, z_le, z_nle, z_lt, z_nlt, z_eq, z_neq, if_pos, if_neg, x_andl, false_and, and_false, or_true, true_or, or_false, false_or, not_true, not_false_iff, x_rd_eq, x_rd_ne, x_st_o, Int.cast_ofNat_Int, Int.ofNat_zero, Int.ofNat_one, not_true_eq_false, not_false_eq_true, if_true, if_false, ite_self, and_self, Int.ofNat_eq_natCast, Int.tdiv_eq_ediv_of_nonneg, Int.tmod_eq_emod_of_nonneg, x_bm32, kw]
        exact K3
      · have K3 : x_Wp 4 12 (x_blk 12 2) [xR 24 j, xI f, xI st, xI wd, xJ low, xU, xI pick, xI b, xI (p_or wd b), xI full, xI (w_of w f 5 - st), xI (t + 1), xJ v, xU] [] σ1 Q := by
          refine K2 (low, pick, xJ v) ?_
          by_cases nd : R (21 * p_or wd b + t) = 9223372036854775807
          · exact fS_no hT (fun u z => (zcl_w.mp z).2.1 nd)
          · exact fS_ge hT zw cl (by omega) (zi nd)
        rw [bk_12_2]
        simp (disch := first | omega | (simp only [x_wtI, x_wtJ, x_wtR, x_wtN]; omega) | assumption | (simp (disch := omega) only [x_st_o, x_rd_ne]; first | assumption | omega) | (apply mir_eq; assumption; (intro c h1 h2; simp (disch := omega) only [x_st_o])) | (apply mis_eq; assumption; (intro c h1 h2; simp (disch := omega) only [x_st_o])) | rfl) only [bk_12_0, bk_12_3, bk_12_4, bk_12_5, wp_ald0, wp_ild1, wk_3, wp_lc, wp_lst4, wp_ic, wp_ist6, wp_ist7, wp_fall, wp_ild7, wp_ild3, wp_isub, wp_icgt, wp_ior, wp_ist8, wr_24_0, wp_ild2, wp_ild8, wk_68, wp_ist9, wk_69, wp_ist10, wp_ist11, wp_ild11, wp_ild9, wp_ild10, wp_iadd, wk_13, wp_lst12, wp_lld12, wp_lld4, wp_lcmp, wp_ifge, wp_imul, wp_inc11, wp_goto, wp_inc7, wp_ild6, wp_iret mz_12, x_clr_I, x_clr_J, x_clr_R, x_clr_U, ct_some, ct_none, lc_lt, lc_ge, lc_gt, lc_le, lc_eq, lc_r, xI_inj, xJ_inj, Option.some.injEq, eq_self, bi_r, bi_0, bi_1, bi_n, Classical.not_not, and_true, true_and, ite_true, ite_false, ↓reduceIte, ↓x_andl, z_le, z_nle, z_lt, z_nlt, z_eq, z_neq, if_pos, if_neg, x_andl, false_and, and_false, or_true, true_or, or_false, false_or, not_true, not_false_iff, x_rd_eq, x_rd_ne, x_st_o, Int.cast_ofNat_Int, Int.ofNat_zero, Int.ofNat_one, not_true_eq_false, not_false_eq_true, if_true, if_false, ite_self, and_self, Int.ofNat_eq_natCast, Int.tdiv_eq_ediv_of_nonneg, Int.tmod_eq_emod_of_nonneg, x_bm32, kw]
        exact K3
    · intro ⟨low, pick, v13⟩ hT
      simp only at hT ⊢
      have K3 := K (low, pick, xI (p_or wd b), xI full, xI (w_of w f 5 - st), xI (max 0 (full + 1)), v13) (fS_row hT (fun t' u p z => by
        have := zb _ _ _ z
        omega) (fun t' u p z => by
        have := zb _ _ _ z
        omega))
      rw [bk_12_2]
      simp (disch := first | omega | (simp only [x_wtI, x_wtJ, x_wtR, x_wtN]; omega) | assumption | (simp (disch := omega) only [x_st_o, x_rd_ne]; first | assumption | omega) | (apply mir_eq; assumption; (intro c h1 h2; simp (disch := omega) only [x_st_o])) | (apply mis_eq; assumption; (intro c h1 h2; simp (disch := omega) only [x_st_o])) | rfl) only [bk_12_0, bk_12_3, bk_12_4, bk_12_5, wp_ald0, wp_ild1, wk_3, wp_lc, wp_lst4, wp_ic, wp_ist6, wp_ist7, wp_fall, wp_ild7, wp_ild3, wp_isub, wp_icgt, wp_ior, wp_ist8, wr_24_0, wp_ild2, wp_ild8, wk_68, wp_ist9, wk_69, wp_ist10, wp_ist11, wp_ild11, wp_ild9, wp_ild10, wp_iadd, wk_13, wp_lst12, wp_lld12, wp_lld4, wp_lcmp, wp_ifge, wp_imul, wp_inc11, wp_goto, wp_inc7, wp_ild6, wp_iret mz_12, x_clr_I, x_clr_J, x_clr_R, x_clr_U, ct_some, ct_none, lc_lt, lc_ge, lc_gt, lc_le, lc_eq, lc_r, xI_inj, xJ_inj, Option.some.injEq, eq_self, bi_r, bi_0, bi_1, bi_n, Classical.not_not, and_true, true_and, ite_true, ite_false, ↓reduceIte, ↓x_andl, z_le, z_nle, z_lt, z_nlt, z_eq, z_neq, if_pos, if_neg, x_andl, false_and, and_false, or_true, true_or, or_false, false_or, not_true, not_false_iff, x_rd_eq, x_rd_ne, x_st_o, Int.cast_ofNat_Int, Int.ofNat_zero, Int.ofNat_one, not_true_eq_false, not_false_eq_true, if_true, if_false, ite_self, and_self, Int.ofNat_eq_natCast, Int.tdiv_eq_ediv_of_nonneg, Int.tmod_eq_emod_of_nonneg, x_bm32]
      exact K3
  · intro ⟨low, pick, u9, u10, u11, u12, u13⟩ hJ
    simp only at hJ ⊢
    rw [bk_12_1]
    simp (disch := first | omega | (simp only [x_wtI, x_wtJ, x_wtR, x_wtN]; omega) | assumption | (simp (disch := omega) only [x_st_o, x_rd_ne]; first | assumption | omega) | (apply mir_eq; assumption; (intro c h1 h2; simp (disch := omega) only [x_st_o])) | (apply mis_eq; assumption; (intro c h1 h2; simp (disch := omega) only [x_st_o])) | rfl) only [bk_12_0, bk_12_3, bk_12_4, bk_12_5, wp_ald0, wp_ild1, wk_3, wp_lc, wp_lst4, wp_ic, wp_ist6, wp_ist7, wp_fall, wp_ild7, wp_ild3, wp_isub, wp_icgt, wp_ior, wp_ist8, wr_24_0, wp_ild2, wp_ild8, wk_68, wp_ist9, wk_69, wp_ist10, wp_ist11, wp_ild11, wp_ild9, wp_ild10, wp_iadd, wk_13, wp_lst12, wp_lld12, wp_lld4, wp_lcmp, wp_ifge, wp_imul, wp_inc11, wp_goto, wp_inc7, wp_ild6, wp_iret mz_12, x_clr_I, x_clr_J, x_clr_R, x_clr_U, ct_some, ct_none, lc_lt, lc_ge, lc_gt, lc_le, lc_eq, lc_r, xI_inj, xJ_inj, Option.some.injEq, eq_self, bi_r, bi_0, bi_1, bi_n, Classical.not_not, and_true, true_and, ite_true, ite_false, ↓reduceIte, ↓x_andl, z_le, z_nle, z_lt, z_nlt, z_eq, z_neq, if_pos, if_neg, x_andl, false_and, and_false, or_true, true_or, or_false, false_or, not_true, not_false_iff, x_rd_eq, x_rd_ne, x_st_o, Int.cast_ofNat_Int, Int.ofNat_zero, Int.ofNat_one, not_true_eq_false, not_false_eq_true, if_true, if_false, ite_self, and_self, Int.ofNat_eq_natCast, Int.tdiv_eq_ediv_of_nonneg, Int.tmod_eq_emod_of_nonneg, x_bm32]
    refine hQ _ _ ⟨e1, k1, R, hPR, pick, low, rfl, fS_end hJ (fun b' t' u n z => ?_)⟩
    have y := zb _ _ _ z
    omega
/-! the steps at a fork are the same on both sides -/
theorem zst_ag {w L L2 T T2 : Int → Int} {c E Wd f st wd : Int} (hw : wf w) (h0 : 0 ≤ f) (h1 : f < w 0) (hk : ¬ p_end w E f → ∀ b t, s_law w Wd f st wd b t → tgk w T T2 f (21 * p_or wd b + t)) (hL : p_end w E f → ∀ b t, s_law w Wd f st wd b t → c = 2 → L2 f = L f) (b t u : Int) : zst (-9223372036854775808) c E Wd w L T f st wd b t u ↔ zst 9223372036854775807 c E Wd w L2 T2 f st wd b t u := by
  unfold zst
  by_cases ce : p_end w E f
  · have ev : s_law w Wd f st wd b t → v_of c E w L T f st wd b t = v_of c E w L2 T2 f st wd b t := by
      intro l
      unfold v_of r_of
      simp only [if_pos ce]
      by_cases c2 : c = 2
      · rw [if_pos c2, if_pos c2, hL ce b t l c2]
      · rw [if_neg c2, if_neg c2]
    constructor
    · rintro ⟨⟨l, _⟩, e⟩
      exact ⟨⟨l, Or.inl ce⟩, by rw [e, ev l]⟩
    · rintro ⟨⟨l, _⟩, e⟩
      exact ⟨⟨l, Or.inl ce⟩, by rw [e, ev l]⟩
  · constructor
    · rintro ⟨⟨l, r⟩, e⟩
      have k := hk ce b t l
      have nd := r.resolve_left ce
      refine ⟨⟨l, Or.inr (fun z => nd ((tgk_dead k).mpr z))⟩, ?_⟩
      rw [e]
      unfold v_of
      rw [tgk_of (L := L) (L2 := L2) hw h0 h1 ce k nd]
    · rintro ⟨⟨l, r⟩, e⟩
      have k := hk ce b t l
      have nd : ¬ r_dead (-9223372036854775808) w T f (21 * p_or wd b + t) := fun z => (r.resolve_left ce) ((tgk_dead k).mp z)
      refine ⟨⟨l, Or.inr nd⟩, ?_⟩
      rw [e]
      unfold v_of
      rw [tgk_of (L := L) (L2 := L2) hw h0 h1 ce k nd]

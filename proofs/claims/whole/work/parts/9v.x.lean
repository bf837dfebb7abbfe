/-! the row of a fork at which one knows what comes -/
def e_atN (mk E : Int) (w T : Int → Int) (f st wd v n : Int) : Prop := ((∃ i, 0 ≤ i ∧ i < n ∧ ∀ u, ¬ ∃ b t, zea mk E w T f i st wd b t u) ∧ v = mk) ∨ ∃ l : Int → Int, (∀ i, 0 ≤ i → i < n → x_ml mk (fun u => ∃ b t, zea mk E w T f i st wd b t u) (l i) ∧ ¬ l i = mk) ∧ v = e_sum w l f n.toNat
theorem eatN_b {w T : Int → Int} {mk f st wd v n : Int} (hw : wf w) (h0 : 0 ≤ f) (h1 : f < w 0) (ne : ¬ p_end w 5 f) (hs : 0 ≤ st ∧ st ≤ 20) (hd : 0 ≤ wd ∧ wd ≤ 1) (hT : ∀ i, 0 ≤ i → i < w_of w f 7 → t_bd mk w T (w_of w f (8 + i))) (n0 : 0 ≤ n) (n1 : n ≤ w_of w f 7) (h : e_atN mk 5 w T f st wd v n) : v = mk ∨ (-(g_b (w_of w f 6)) ≤ v ∧ v ≤ g_b (w_of w f 6)) := by
  have o := wf_f hw h0 h1
  unfold wf_one at o
  rcases h with ⟨_, z⟩ | ⟨l, j1, rfl⟩
  · exact Or.inl z
  · refine Or.inr ?_
    have nf : w_of w f 6 ≤ 3 := by
      by_cases q : w_of w f 7 = 0
      · exact absurd (Or.inl q) ne
      · have kk := wf_k hw (f := f) (i := 0) h0 h1 (by omega) (by omega)
        have ok := wf_f hw (f := w_of w f (8 + 0)) (by omega) kk.2.1
        unfold wf_one at ok
        omega
    have gs := gb_s (k := w_of w f 6) (by omega)
    have gp := gb_pos (k := w_of w f 6 + 1)
    have pb := pay_b (m := w_of w f 6 + 1)
    have lb : ∀ i, 0 ≤ i → i < n → -(30000 * x_pay (w_of w f 6 + 1) + g_b (w_of w f 6 + 1)) ≤ l i ∧ l i ≤ 30000 * x_pay (w_of w f 6 + 1) + g_b (w_of w f 6 + 1) := by
      intro i i0 i1
      rcases (j1 i i0 i1).1 with ⟨z, _⟩ | ⟨⟨b', t', z⟩, _⟩
      · exact absurd z (j1 i i0 i1).2
      · exact zea_bd hw h0 h1 hs hd i0 (by omega) (hT i i0 (by omega)) z
    have e2 : e_sum w l f n.toNat = e_sum w (fun i => if i < n then l i else 0) f n.toNat := (esum_cg n.toNat (fun i p q => if_pos (by omega))).symm
    have eb := esum_b (l := fun i => if i < n then l i else 0) (B := 30000 * x_pay (w_of w f 6 + 1) + g_b (w_of w f 6 + 1)) hw h0 h1 (by omega) (fun i i0 i1 => by
      show -(30000 * x_pay (w_of w f 6 + 1) + g_b (w_of w f 6 + 1)) ≤ (if i < n then l i else 0) ∧ (if i < n then l i else 0) ≤ _
      by_cases q : i < n
      · rw [if_pos q]
        exact lb i i0 q
      · rw [if_neg q]
        omega) n.toNat (by omega)
    rw [e2]
    have m5 := mulb (a := (n.toNat : Int)) (b := 200 * (30000 * x_pay (w_of w f 6 + 1) + g_b (w_of w f 6 + 1))) (A := 5) (B := 200 * (30000 * x_pay (w_of w f 6 + 1) + g_b (w_of w f 6 + 1))) (by omega) (by omega)
    omega
theorem zcl_zea {w T : Int → Int} {f i st wd b t u : Int} (ne : ¬ p_end w 5 f) : zcl w 0 4 (x_pay (w_of w f 6 + 1)) (w 5) (fun s => T (42 * w_of w f (8 + i) + s)) f st wd b t u ↔ zea 9223372036854775807 5 w T f i st wd b t u := by
  have e : kpE w 5 f = w 5 := if_neg ne
  unfold zcl zea
  rw [← e, alg3]
  have ev : ∀ y, v_mx 0 y = y := fun y => if_neg (by omega)
  rw [ev]
theorem eat_s {w T : Int → Int} {f st wd v i lo : Int} (i0 : 0 ≤ i) (h : e_atN 9223372036854775807 5 w T f st wd v i) (hl : x_ml 9223372036854775807 (fun u => ∃ b t, zea 9223372036854775807 5 w T f i st wd b t u) lo) (hb : ∀ b t u, zea 9223372036854775807 5 w T f i st wd b t u → ¬ u = 9223372036854775807) (vb : ∀ l : Int → Int, (∀ q, 0 ≤ q → q < i → x_ml 9223372036854775807 (fun u => ∃ b t, zea 9223372036854775807 5 w T f q st wd b t u) (l q) ∧ ¬ l q = 9223372036854775807) → ¬ e_sum w l f i.toNat = 9223372036854775807) : e_atN 9223372036854775807 5 w T f st wd (if lo = 9223372036854775807 ∨ v = 9223372036854775807 then 9223372036854775807 else v + w_of w (w_of w f (8 + i)) 1 * lo) (i + 1) := by
  by_cases c1 : lo = 9223372036854775807
  · rw [if_pos (Or.inl c1)]
    refine Or.inl ⟨⟨i, i0, by omega, fun u z => ?_⟩, rfl⟩
    rcases hl with ⟨_, y⟩ | ⟨⟨b, t, y⟩, _⟩
    · exact y u z
    · exact hb b t lo y c1
  · by_cases c2 : v = 9223372036854775807
    · rw [if_pos (Or.inr c2)]
      rcases h with ⟨⟨q, q0, q1, y⟩, _⟩ | ⟨l, y1, y2⟩
      · exact Or.inl ⟨⟨q, q0, by omega, y⟩, rfl⟩
      · exact absurd (y2.symm.trans c2) (vb l y1)
    · rw [if_neg (fun z => z.elim c1 c2)]
      rcases h with ⟨_, y⟩ | ⟨l, y1, y2⟩
      · exact absurd y c2
      · refine Or.inr ⟨fun q => if q = i then lo else l q, fun q q0 q1 => ?_, ?_⟩
        · show x_ml 9223372036854775807 _ (if q = i then lo else l q) ∧ ¬ (if q = i then lo else l q) = 9223372036854775807
          by_cases z : q = i
          · subst z
            rw [if_pos rfl]
            exact ⟨hl, c1⟩
          · rw [if_neg z]
            exact y1 q q0 (by omega)
        · rw [esum_s i0, if_pos rfl, esum_cg (l := l) (l' := fun q => if q = i then lo else l q) i.toNat (fun q p q' => if_neg (by omega)), ← y2]
set_option maxHeartbeats 8000000 in
theorem h_known {σ : x_S} {w T : Int → Int} {f : Int} (hM : mir σ 1 w) (hw : wf w) (h0 : 0 ≤ f) (h1 : f < w 0) (hm : σ 24 3 3 = 0) (hWd : σ 24 3 1 = 4) (hE : σ 24 3 2 = 5) (hV : σ 25 3 = T) (ne : ¬ p_end w 5 f) (hT : ∀ i, 0 ≤ i → i < w_of w f 7 → t_bd 9223372036854775807 w T (w_of w f (8 + i))) :
    x_Sp 4 16 [xR 24 3, xI f] σ (fun r σ' => r = none ∧ x_eqo [(24, 3), (25, 3), (27, 3), (28, 3)] σ σ' ∧ (∀ k, ¬ (7 ≤ k ∧ k ≤ 9) → σ' 24 3 k = σ 24 3 k) ∧ (∀ i, ¬ (42 * f ≤ i ∧ i < 42 * f + 42) → σ' 25 3 i = σ 25 3 i) ∧ ∀ st wd, 0 ≤ st → st ≤ 20 → 0 ≤ wd → wd ≤ 1 → e_at 9223372036854775807 5 w T f st wd (σ' 25 3 (42 * f + (21 * wd + st))) ∧ (σ' 25 3 (42 * f + (21 * wd + st)) = 9223372036854775807 ∨ (-(g_b (w_of w f 6)) ≤ σ' 25 3 (42 * f + (21 * wd + st)) ∧ σ' 25 3 (42 * f + (21 * wd + st)) ≤ g_b (w_of w f 6)))) := by
  have a := wf_h hw
  unfold wf_hdr at a
  have o := wf_f hw h0 h1
  unfold wf_one at o
  have nf : w_of w f 6 ≤ 3 := by
    by_cases q : w_of w f 7 = 0
    · exact absurd (Or.inl q) ne
    · have kk := wf_k hw (f := f) (i := 0) h0 h1 (by omega) (by omega)
      have ok := wf_f hw (f := w_of w f (8 + 0)) (by omega) kk.2.1
      unfold wf_one at ok
      omega
  have gp := gb_pos (k := w_of w f 6)
  have pb := pay_b (m := w_of w f 6 + 1)
  refine x_gen (fun Q hQ => ?_)
  simp (disch := first | omega | (simp only [x_wtI, x_wtJ, x_wtR, x_wtN]; omega) | assumption | (simp (disch := omega) only [x_st_o, x_rd_ne]; first | assumption | omega) | (apply mir_eq; assumption; (intro c h1 h2; simp (disch := omega) only [x_st_o])) | (apply mis_eq; assumption; (intro c h1 h2; simp (disch := omega) only [x_st_o])) | rfl) only [sp_16, bk_16_0, bk_16_1, bk_16_3, bk_16_4, bk_16_5, bk_16_6, bk_16_7, bk_16_8, bk_16_9, bk_16_10, bk_16_11, bk_16_12, wp_ald0, wp_ild1, wk_4, wp_ifeq, wp_ret, wp_ic, wp_imul, wp_ist2, wp_ist3, wp_fall, wp_ild3, wp_icge, wr_24_4, wp_ild2, wp_iadd, wp_lc, ws_25, ws_27, ws_28, wp_inc3, wp_goto, wr_24_0, wr_6_14, wl_8, wl_13, wl_14, wl_15, wp_cald, wr_6_15, wp_ist4, wp_ild4, wr_24_6, wp_acpy kd_25 kd_27 (Or.inr rfl), wp_parts, wr_6_13, wl_25, wl_27, wl_28, wp_pald, wp_geti kd_6, wk_6, wk_7, wp_ist5, wp_ild5, wr_24_10, wp_lcmp, wp_ifne, wp_ist6, wp_ild6, wr_6_8, wp_i2l, wp_lmul, wp_ladd, wp_inc5, x_clr_I, x_clr_J, x_clr_R, x_clr_U, ct_some, ct_none, lc_lt, lc_ge, lc_gt, lc_le, lc_eq, lc_r, xI_inj, xJ_inj, Option.some.injEq, eq_self, bi_r, bi_0, bi_1, bi_n, Classical.not_not, and_true, true_and, ite_true, ite_false, ↓reduceIte, ↓x_andl, z_le, z_nle, z_lt, z_nlt, z_eq, z_neq, if_pos, if_neg, x_andl, false_and, and_false, or_true, true_or, or_false, false_or, not_true, not_false_iff, x_rd_eq, x_rd_ne, x_st_o, Int.cast_ofNat_Int, Int.ofNat_zero, Int.ofNat_one, not_true_eq_false, not_false_eq_true, if_true, if_false, ite_self, and_self, Int.ofNat_eq_natCast, Int.tdiv_eq_ediv_of_nonneg, Int.tmod_eq_emod_of_nonneg, x_bm32, k_isEndC hM (show 3 < 4 by omega) hE hw, bi_f ne]
  refine x_lpK (α := x_S) (fun s σ' => x_eqo [(25, 3)] σ σ' ∧ (∀ i, ¬ (42 * f ≤ i ∧ i < 42 * f + 42) → σ' 25 3 i = σ 25 3 i) ∧ ∀ q, 0 ≤ q → q < s → σ' 25 3 (42 * f + q) = 0) (fun s σ' => x_Wp 4 16 (x_blk 16 2) [xR 24 3, xI f, xI (f * 42), xI s, xU, xU, xU] [] σ' Q) (lo := 0) (hi := 42) (by omega) (a0 := σ) ⟨eqo_refl, fun _ _ => rfl, fun q p z => by omega⟩ ?_ ?_
  · intro s σ' s0 s1 ⟨j1, j2, j3⟩ K
    have K2 := K (x_st σ' 25 3 (f * 42 + s) 0) ⟨eqo_st (by simp) j1, fun i hi => by rw [x_rd_ne (by omega)]; exact j2 i hi, fun q q0 q1 => by
      by_cases z : q = s
      · rw [show f * 42 + s = 42 * f + q by omega, x_rd_eq]
      · rw [x_rd_ne (by omega)]
        exact j3 q q0 (by omega)⟩
    rw [bk_16_2]
    simp (disch := first | omega | (simp only [x_wtI, x_wtJ, x_wtR, x_wtN]; omega) | assumption | (simp (disch := omega) only [x_st_o, x_rd_ne]; first | assumption | omega) | (apply mir_eq; assumption; (intro c h1 h2; simp (disch := omega) only [x_st_o])) | (apply mis_eq; assumption; (intro c h1 h2; simp (disch := omega) only [x_st_o])) | rfl) only [bk_16_0, bk_16_1, bk_16_3, bk_16_4, bk_16_5, bk_16_6, bk_16_7, bk_16_8, bk_16_9, bk_16_10, bk_16_11, bk_16_12, wp_ald0, wp_ild1, wk_4, wp_ifeq, wp_ret, wp_ic, wp_imul, wp_ist2, wp_ist3, wp_fall, wp_ild3, wp_icge, wr_24_4, wp_ild2, wp_iadd, wp_lc, ws_25, ws_27, ws_28, wp_inc3, wp_goto, wr_24_0, wr_6_14, wl_8, wl_13, wl_14, wl_15, wp_cald, wr_6_15, wp_ist4, wp_ild4, wr_24_6, wp_acpy kd_25 kd_27 (Or.inr rfl), wp_parts, wr_6_13, wl_25, wl_27, wl_28, wp_pald, wp_geti kd_6, wk_6, wk_7, wp_ist5, wp_ild5, wr_24_10, wp_lcmp, wp_ifne, wp_ist6, wp_ild6, wr_6_8, wp_i2l, wp_lmul, wp_ladd, wp_inc5, x_clr_I, x_clr_J, x_clr_R, x_clr_U, ct_some, ct_none, lc_lt, lc_ge, lc_gt, lc_le, lc_eq, lc_r, xI_inj, xJ_inj, Option.some.injEq, eq_self, bi_r, bi_0, bi_1, bi_n, Classical.not_not, and_true, true_and, ite_true, ite_false, ↓reduceIte, ↓x_andl, z_le, z_nle, z_lt, z_nlt, z_eq, z_neq, if_pos, if_neg, x_andl, false_and, and_false, or_true, true_or, or_false, false_or, not_true, not_false_iff, x_rd_eq, x_rd_ne, x_st_o, Int.cast_ofNat_Int, Int.ofNat_zero, Int.ofNat_one, not_true_eq_false, not_false_eq_true, if_true, if_false, ite_self, and_self, Int.ofNat_eq_natCast, Int.tdiv_eq_ediv_of_nonneg, Int.tmod_eq_emod_of_nonneg, x_bm32]
    exact K2
  · intro σ0 ⟨j1, j2, j3⟩
    have k0 : σ0 24 3 = σ 24 3 := j1 24 3 (by simp)
    obtain ⟨sc, hsc⟩ : ∃ sc, sc = x_pay (w_of w f 6 + 1) := ⟨_, rfl⟩
    have scb : 1 ≤ sc ∧ sc ≤ 100000000 := by rw [hsc]; omega
    rw [bk_16_2]
    simp (disch := first | omega | (simp only [x_wtI, x_wtJ, x_wtR, x_wtN]; omega) | assumption | (simp (disch := omega) only [x_st_o, x_rd_ne]; first | assumption | omega) | (apply mir_eq; assumption; (intro c h1 h2; simp (disch := omega) only [x_st_o])) | (apply mis_eq; assumption; (intro c h1 h2; simp (disch := omega) only [x_st_o])) | rfl) only [bk_16_0, bk_16_1, bk_16_2, bk_16_3, bk_16_5, bk_16_6, bk_16_7, bk_16_8, bk_16_9, bk_16_10, bk_16_11, bk_16_12, wp_ald0, wp_ild1, wk_4, wp_ifeq, wp_ret, wp_ic, wp_imul, wp_ist2, wp_ist3, wp_fall, wp_ild3, wp_icge, wr_24_4, wp_ild2, wp_iadd, wp_lc, ws_25, ws_27, ws_28, wp_inc3, wp_goto, wr_24_0, wr_6_14, wl_8, wl_13, wl_14, wl_15, wp_cald, wr_6_15, wp_ist4, wp_ild4, wr_24_6, wp_acpy kd_25 kd_27 (Or.inr rfl), wp_parts, wr_6_13, wl_25, wl_27, wl_28, wp_pald, wp_geti kd_6, wk_6, wk_7, wp_ist5, wp_ild5, wr_24_10, wp_lcmp, wp_ifne, wp_ist6, wp_ild6, wr_6_8, wp_i2l, wp_lmul, wp_ladd, wp_inc5, x_clr_I, x_clr_J, x_clr_R, x_clr_U, ct_some, ct_none, lc_lt, lc_ge, lc_gt, lc_le, lc_eq, lc_r, xI_inj, xJ_inj, Option.some.injEq, eq_self, bi_r, bi_0, bi_1, bi_n, Classical.not_not, and_true, true_and, ite_true, ite_false, ↓reduceIte, ↓x_andl, z_le, z_nle, z_lt, z_nlt, z_eq, z_neq, if_pos, if_neg, x_andl, false_and, and_false, or_true, true_or, or_false, false_or, not_true, not_false_iff, x_rd_eq, x_rd_ne, x_st_o, Int.cast_ofNat_Int, Int.ofNat_zero, Int.ofNat_one, not_true_eq_false, not_false_eq_true, if_true, if_false, ite_self, and_self, Int.ofNat_eq_natCast, Int.tdiv_eq_ediv_of_nonneg, Int.tmod_eq_emod_of_nonneg, x_bm32]
    refine x_lpK (α := x_S × x_V × x_V × x_V) (fun i q => x_eqo [(24, 3), (25, 3), (27, 3), (28, 3)] σ q.1 ∧ (∀ k, ¬ (7 ≤ k ∧ k ≤ 9) → q.1 24 3 k = σ 24 3 k) ∧ (∀ i, ¬ (42 * f ≤ i ∧ i < 42 * f + 42) → q.1 25 3 i = σ 25 3 i) ∧ ∀ st wd, 0 ≤ st → st ≤ 20 → 0 ≤ wd → wd ≤ 1 → e_atN 9223372036854775807 5 w T f st wd (q.1 25 3 (42 * f + (21 * wd + st))) i) (fun i q => x_Wp 4 16 (x_blk 16 4) [xR 24 3, xI f, xI (f * 42), xI i, q.2.1, q.2.2.1, q.2.2.2] [] q.1 Q) (lo := 0) (hi := w_of w f 7) (by omega) (a0 := (σ0, xU, xU, xU)) ⟨eqo_mono (by simp) j1, fun k _ => by (dsimp only; rw [k0]), j2, fun st wd p q p2 q2 => Or.inr ⟨fun _ => 0, fun i i0 i1 => by omega, j3 _ (by omega) (by omega)⟩⟩ ?_ ?_
    · intro i ⟨σi, u6, u7, u8⟩ i0 i1 ⟨n1, n2, n3, n4⟩ K
      simp only at n1 n2 n3 n4 ⊢
      have hMi : mir σi 1 w := mir_eq hM (fun c q1 q2 => n1 c 1 (by simp))
      have kk := wf_k hw (f := f) (i := i) h0 h1 i0 i1
      have ok := wf_f hw (f := w_of w f (8 + i)) (by omega) kk.2.1
      unfold wf_one at ok
      have hTi := hT i i0 i1
      have gk := gb_pos (k := w_of w (w_of w f (8 + i)) 6)
      have kid1 := mi_kid hMi h0 h1 i0 i1
      generalize hk : w_of w f (8 + i) = k at kk ok hTi gk kid1
      obtain ⟨R, hR⟩ : ∃ R : Int → Int, R = fun s => T (42 * k + s) := ⟨_, rfl⟩
      have hRb : rbd R := by
        intro s s0 s1
        rw [hR]
        show T (42 * k + s) = 9223372036854775807 ∨ _
        rcases hTi s s0 s1 with z | z
        · exact Or.inl z
        · exact Or.inr (by show -600000000000000000 ≤ T (42 * k + s) ∧ T (42 * k + s) ≤ 600000000000000000; omega)
      generalize hσa : x_cp σi 25 3 (k * 42) 27 3 0 42 = σa
      have ea : x_eqo [(27, 3)] σi σa := by
        subst hσa
        exact eqo_cp (by simp) eqo_refl
      have ra : ∀ s, 0 ≤ s → s < 42 → σa 27 3 s = R s := by
        intro s s0 s1
        rw [hR]
        show σa 27 3 s = T (42 * k + s)
        rw [← hV, ← n3 (42 * k + s) (by omega)]
        subst hσa
        simp (disch := omega) only [x_st_o, x_rd_ne, x_rd_eq, s_fl_o, s_fl_in, s_fl_out, x_cp_o, x_cp_in, x_cp_out]
        rw [show k * 42 + (s - 0) = 42 * k + s by omega]
      have hMa : mir σa 1 w := mir_eq hMi (fun c q1 q2 => ea c 1 (by simp))
      obtain ⟨r1, σb, ⟨hr1, eb, kb, lb⟩, evb⟩ := x_ex (h_keep (σ := σa) (j := 3) (f := f) (sc := sc) (kp := w 5) hMa (by omega) hw h0 h1 scb (by omega) (fun s s0 s1 => by rw [ra s s0 s1]; exact hRb s s0 s1))
      have lb' : lbk w sc (w 5) R σb 3 f := ⟨lb.1, fun s s0 s1 => by rw [lb.2 s s0 s1, ra s s0 s1]⟩
      have hMb : mir σb 1 w := mir_eq hMa (fun c q1 q2 => eb c 1 (by simp))
      have kb2 : ∀ k, ¬ (7 ≤ k ∧ k ≤ 9) → σb 24 3 k = σ 24 3 k := fun q hq => by rw [kb q hq, ea 24 3 (by simp)]; exact n2 q hq
      obtain ⟨r2, σc, ⟨hr2, ec, low⟩, evc⟩ := x_ex (h_sweep (σ := σb) (j := 3) (c := 0) (Wd := 4) (f := f) hMb (by omega) hw h0 h1 (by rw [kb2 3 (by omega)]; exact hm) (by omega) (by rw [kb2 1 (by omega)]; exact hWd) (by omega) lb' hRb scb (by omega))
      subst hr1
      subst hr2
      have eic : x_eqo [(24, 3), (27, 3), (28, 3)] σi σc := eqo_trans (eqo_mono (by simp) ea) (eqo_trans (eqo_mono (by simp) eb) (eqo_mono (by simp) ec))
      have e1c : x_eqo [(24, 3), (25, 3), (27, 3), (28, 3)] σ σc := eqo_trans n1 (eqo_mono (by simp) eic)
      have kc : ∀ k, ¬ (7 ≤ k ∧ k ≤ 9) → σc 24 3 k = σ 24 3 k := fun q hq => by rw [ec 24 3 (by simp)]; exact kb2 q hq
      have c25 : σc 25 3 = σi 25 3 := eic 25 3 (by simp)
      have hMc : mir σc 1 w := mir_eq hMi (fun c q1 q2 => eic c 1 (by simp))
      have chk : σc 8 1 k = w_of w k 1 := mi_chance hMc (by omega) kk.2.1
      -- the least of this kid
      have mlz : ∀ st wd, 0 ≤ st → st ≤ 20 → 0 ≤ wd → wd ≤ 1 → x_ml 9223372036854775807 (fun u => ∃ b t, zea 9223372036854775807 5 w T f i st wd b t u) (σc 28 3 (21 * wd + st)) := by
        intro st wd p q p2 q2
        refine ml_cg (low st wd p q p2 q2).1 (fun u => ?_)
        rw [hsc, hR, ← hk]
        exact ⟨fun ⟨b, t, z⟩ => ⟨b, t, (zcl_zea ne).mp z⟩, fun ⟨b, t, z⟩ => ⟨b, t, (zcl_zea ne).mpr z⟩⟩
      have gk2 := gb_pos (k := w_of w f 6 + 1)
      have gs := gb_s (k := w_of w f 6) (by omega)
      have zb : ∀ st wd, 0 ≤ st → st ≤ 20 → 0 ≤ wd → wd ≤ 1 → ∀ b t u, zea 9223372036854775807 5 w T f i st wd b t u → ¬ u = 9223372036854775807 := by
        intro st wd p q p2 q2 b t u z
        have := zea_bd hw h0 h1 ⟨p, q⟩ ⟨p2, q2⟩ i0 i1 (hT i i0 i1) z
        omega
      have vb : ∀ st wd, 0 ≤ st → st ≤ 20 → 0 ≤ wd → wd ≤ 1 → ∀ l : Int → Int, (∀ q, 0 ≤ q → q < i → x_ml 9223372036854775807 (fun u => ∃ b t, zea 9223372036854775807 5 w T f q st wd b t u) (l q) ∧ ¬ l q = 9223372036854775807) → ¬ e_sum w l f i.toNat = 9223372036854775807 := by
        intro st wd p q p2 q2 l hl y
        have B : -(30000 * x_pay (w_of w f 6 + 1) + g_b (w_of w f 6 + 1)) ≤ 0 := by omega
        have lb : ∀ q, 0 ≤ q → q < i → -(30000 * x_pay (w_of w f 6 + 1) + g_b (w_of w f 6 + 1)) ≤ l q ∧ l q ≤ 30000 * x_pay (w_of w f 6 + 1) + g_b (w_of w f 6 + 1) := by
          intro q q0 q1
          rcases (hl q q0 q1).1 with ⟨z, _⟩ | ⟨⟨b', t', z⟩, _⟩
          · exact absurd z (hl q q0 q1).2
          · exact zea_bd hw h0 h1 ⟨p, by omega⟩ ⟨p2, q2⟩ q0 (by omega) (hT q q0 (by omega)) z
        have e2 : e_sum w l f i.toNat = e_sum w (fun q => if q < i then l q else 0) f i.toNat := (esum_cg i.toNat (fun q p q' => if_pos (by omega))).symm
        have eb := esum_b (l := fun q => if q < i then l q else 0) (B := 30000 * x_pay (w_of w f 6 + 1) + g_b (w_of w f 6 + 1)) hw h0 h1 (by omega) (fun q q0 q1 => by
          show -(30000 * x_pay (w_of w f 6 + 1) + g_b (w_of w f 6 + 1)) ≤ (if q < i then l q else 0) ∧ (if q < i then l q else 0) ≤ _
          by_cases z : q < i
          · rw [if_pos z]
            exact lb q q0 z
          · rw [if_neg z]
            omega) i.toNat (by omega)
        rw [← e2, y] at eb
        have m5 := mulb (a := (i.toNat : Int)) (b := 200 * (30000 * x_pay (w_of w f 6 + 1) + g_b (w_of w f 6 + 1))) (A := 5) (B := 200 * (30000 * x_pay (w_of w f 6 + 1) + g_b (w_of w f 6 + 1))) (by omega) (by omega)
        omega
      have fin : x_Wp 4 16 (x_blk 16 5) [xR 24 3, xI f, xI (f * 42), xI i, xI k, xI 0, u8] [] σc Q := by
        refine x_lpK (α := x_S × x_V) (fun s q => x_eqo [(25, 3)] σc q.1 ∧ (∀ p, ¬ (42 * f ≤ p ∧ p < 42 * f + 42) → q.1 25 3 p = σi 25 3 p) ∧ (∀ p, s ≤ p → p < 42 → q.1 25 3 (42 * f + p) = σi 25 3 (42 * f + p)) ∧ ∀ p, 0 ≤ p → p < s → e_atN 9223372036854775807 5 w T f (p % 21) (p / 21) (q.1 25 3 (42 * f + p)) (i + 1)) (fun s q => x_Wp 4 16 (x_blk 16 5) [xR 24 3, xI f, xI (f * 42), xI i, xI k, xI s, q.2] [] q.1 Q) (lo := 0) (hi := 42) (by omega) (a0 := (σc, u8)) ⟨eqo_refl, fun _ _ => by (dsimp only; rw [c25]), fun _ _ _ => by (dsimp only; rw [c25]), fun p p0 p1 => by omega⟩ ?_ ?_
        · intro s ⟨σs, v8⟩ s0 s1 ⟨m1, m2, m3, m4⟩ K2
          simp only at m1 m2 m3 m4 ⊢
          have lowS : σs 28 3 s = σc 28 3 s := by rw [m1 28 3 (by simp)]
          have chS : σs 8 1 k = w_of w k 1 := by rw [m1 8 1 (by simp)]; exact chk
          have vS := m3 s (Int.le_refl _) s1
          have eS := n4 (s % 21) (s / 21) (by omega) (by omega) (by omega) (by omega)
          have mS := mlz (s % 21) (s / 21) (by omega) (by omega) (by omega) (by omega)
          have rS := (low (s % 21) (s / 21) (by omega) (by omega) (by omega) (by omega)).2
          rw [show 21 * (s / 21) + s % 21 = s by omega] at eS mS rS
          have vR := eatN_b hw h0 h1 ne (by omega) (by omega) hT i0 (by omega) eS
          have nx := eat_s i0 eS mS (zb (s % 21) (s / 21) (by omega) (by omega) (by omega) (by omega)) (vb (s % 21) (s / 21) (by omega) (by omega) (by omega) (by omega))
          rw [hk] at nx
          rw [← vS] at nx vR
          rw [← lowS] at nx rS
          have ix : f * 42 + s = 42 * f + s := by omega
          have K3 : ∀ val v9, val = (if σs 28 3 s = 9223372036854775807 ∨ σs 25 3 (42 * f + s) = 9223372036854775807 then 9223372036854775807 else σs 25 3 (42 * f + s) + w_of w k 1 * σs 28 3 s) → x_Wp 4 16 (x_blk 16 5) [xR 24 3, xI f, xI (f * 42), xI i, xI k, xI (s + 1), v9] [] (x_st σs 25 3 (f * 42 + s) val) Q := by
            intro val v9 hval
            refine K2 (x_st σs 25 3 (f * 42 + s) val, v9) ⟨eqo_st (by simp) m1, fun p hp => by (dsimp only; rw [x_rd_ne (by omega)]; exact m2 p hp), fun p p0 p1 => by (dsimp only; rw [x_rd_ne (by omega)]; exact m3 p (by omega) p1), fun p p0 p1 => ?_⟩
            dsimp only
            by_cases z : p = s
            · rw [z, ix, x_rd_eq, hval]
              exact nx
            · rw [x_rd_ne (by omega)]
              exact m4 p p0 (by omega)
          have ix0 : σs 25 3 (f * 42 + s) = σs 25 3 (42 * f + s) := by rw [ix]
          have hx0 : 0 ≤ f * 42 + s ∧ f * 42 + s < 1680 := by omega
          generalize hlo : σs 28 3 s = lo at nx rS K3
          generalize hvv : σs 25 3 (42 * f + s) = vv at nx vR K3 ix0
          rw [bk_16_5]
          by_cases c1 : lo = 9223372036854775807
          · have K4 := K3 9223372036854775807 (xI 1) (by rw [if_pos (Or.inl c1)])
            simp (disch := first | omega | (simp only [x_wtI, x_wtJ, x_wtR, x_wtN]; omega) | assumption | (simp (disch := omega) only [x_st_o, x_rd_ne]; first | assumption | omega) | (apply mir_eq; assumption; (intro c h1 h2; simp (disch := omega) only [x_st_o])) | (apply mis_eq; assumption; (intro c h1 h2; simp (disch := omega) only [x_st_o])) | rfl) only [bk_16_0, bk_16_1, bk_16_2, bk_16_3, bk_16_4, bk_16_6, bk_16_7, bk_16_8, bk_16_9, bk_16_10, bk_16_11, bk_16_12, wp_ald0, wp_ild1, wk_4, wp_ifeq, wp_ret, wp_ic, wp_imul, wp_ist2, wp_ist3, wp_fall, wp_ild3, wp_icge, wr_24_4, wp_ild2, wp_iadd, wp_lc, ws_25, ws_27, ws_28, wp_inc3, wp_goto, wr_24_0, wr_6_14, wl_8, wl_13, wl_14, wl_15, wp_cald, wr_6_15, wp_ist4, wp_ild4, wr_24_6, wp_acpy kd_25 kd_27 (Or.inr rfl), wp_parts, wr_6_13, wl_25, wl_27, wl_28, wp_pald, wp_geti kd_6, wk_6, wk_7, wp_ist5, wp_ild5, wr_24_10, wp_lcmp, wp_ifne, wp_ist6, wp_ild6, wr_6_8, wp_i2l, wp_lmul, wp_ladd, wp_inc5, x_clr_I, x_clr_J, x_clr_R, x_clr_U, ct_some, ct_none, lc_lt, lc_ge, lc_gt, lc_le, lc_eq, lc_r, xI_inj, xJ_inj, Option.some.injEq, eq_self, bi_r, bi_0, bi_1, bi_n, Classical.not_not, and_true, true_and, ite_true, ite_false, ↓reduceIte, ↓x_andl, z_le, z_nle, z_lt, z_nlt, z_eq, z_neq, if_pos, if_neg, x_andl, false_and, and_false, or_true, true_or, or_false, false_or, not_true, not_false_iff, x_rd_eq, x_rd_ne, x_st_o, Int.cast_ofNat_Int, Int.ofNat_zero, Int.ofNat_one, not_true_eq_false, not_false_eq_true, if_true, if_false, ite_self, and_self, Int.ofNat_eq_natCast, Int.tdiv_eq_ediv_of_nonneg, Int.tmod_eq_emod_of_nonneg, x_bm32, hlo, c1]
            exact K4
          · by_cases c2 : vv = 9223372036854775807
            · have K4 := K3 9223372036854775807 (xI 1) (by rw [if_pos (Or.inr c2)])
              simp (disch := first | omega | (simp only [x_wtI, x_wtJ, x_wtR, x_wtN]; omega) | assumption | (simp (disch := omega) only [x_st_o, x_rd_ne]; first | assumption | omega) | (apply mir_eq; assumption; (intro c h1 h2; simp (disch := omega) only [x_st_o])) | (apply mis_eq; assumption; (intro c h1 h2; simp (disch := omega) only [x_st_o])) | rfl) only [bk_16_0, bk_16_1, bk_16_2, bk_16_3, bk_16_4, bk_16_6, bk_16_7, bk_16_8, bk_16_9, bk_16_10, bk_16_11, bk_16_12, wp_ald0, wp_ild1, wk_4, wp_ifeq, wp_ret, wp_ic, wp_imul, wp_ist2, wp_ist3, wp_fall, wp_ild3, wp_icge, wr_24_4, wp_ild2, wp_iadd, wp_lc, ws_25, ws_27, ws_28, wp_inc3, wp_goto, wr_24_0, wr_6_14, wl_8, wl_13, wl_14, wl_15, wp_cald, wr_6_15, wp_ist4, wp_ild4, wr_24_6, wp_acpy kd_25 kd_27 (Or.inr rfl), wp_parts, wr_6_13, wl_25, wl_27, wl_28, wp_pald, wp_geti kd_6, wk_6, wk_7, wp_ist5, wp_ild5, wr_24_10, wp_lcmp, wp_ifne, wp_ist6, wp_ild6, wr_6_8, wp_i2l, wp_lmul, wp_ladd, wp_inc5, x_clr_I, x_clr_J, x_clr_R, x_clr_U, ct_some, ct_none, lc_lt, lc_ge, lc_gt, lc_le, lc_eq, lc_r, xI_inj, xJ_inj, Option.some.injEq, eq_self, bi_r, bi_0, bi_1, bi_n, Classical.not_not, and_true, true_and, ite_true, ite_false, ↓reduceIte, ↓x_andl, z_le, z_nle, z_lt, z_nlt, z_eq, z_neq, if_pos, if_neg, x_andl, false_and, and_false, or_true, true_or, or_false, false_or, not_true, not_false_iff, x_rd_eq, x_rd_ne, x_st_o, Int.cast_ofNat_Int, Int.ofNat_zero, Int.ofNat_one, not_true_eq_false, not_false_eq_true, if_true, if_false, ite_self, and_self, Int.ofNat_eq_natCast, Int.tdiv_eq_ediv_of_nonneg, Int.tmod_eq_emod_of_nonneg, x_bm32, hlo, ix0, c2]
              exact K4
            · have K4 := K3 _ (xI 0) (by rw [if_neg (fun z => z.elim c1 c2)])
              simp (disch := first | omega | (simp only [x_wtI, x_wtJ, x_wtR, x_wtN]; omega) | assumption | (simp (disch := omega) only [x_st_o, x_rd_ne]; first | assumption | omega) | (apply mir_eq; assumption; (intro c h1 h2; simp (disch := omega) only [x_st_o])) | (apply mis_eq; assumption; (intro c h1 h2; simp (disch := omega) only [x_st_o])) | rfl) only [bk_16_0, bk_16_1, bk_16_2, bk_16_3, bk_16_4, bk_16_6, bk_16_7, bk_16_8, bk_16_9, bk_16_10, bk_16_11, bk_16_12, wp_ald0, wp_ild1, wk_4, wp_ifeq, wp_ret, wp_ic, wp_imul, wp_ist2, wp_ist3, wp_fall, wp_ild3, wp_icge, wr_24_4, wp_ild2, wp_iadd, wp_lc, ws_25, ws_27, ws_28, wp_inc3, wp_goto, wr_24_0, wr_6_14, wl_8, wl_13, wl_14, wl_15, wp_cald, wr_6_15, wp_ist4, wp_ild4, wr_24_6, wp_acpy kd_25 kd_27 (Or.inr rfl), wp_parts, wr_6_13, wl_25, wl_27, wl_28, wp_pald, wp_geti kd_6, wk_6, wk_7, wp_ist5, wp_ild5, wr_24_10, wp_lcmp, wp_ifne, wp_ist6, wp_ild6, wr_6_8, wp_i2l, wp_lmul, wp_ladd, wp_inc5, x_clr_I, x_clr_J, x_clr_R, x_clr_U, ct_some, ct_none, lc_lt, lc_ge, lc_gt, lc_le, lc_eq, lc_r, xI_inj, xJ_inj, Option.some.injEq, eq_self, bi_r, bi_0, bi_1, bi_n, Classical.not_not, and_true, true_and, ite_true, ite_false, ↓reduceIte, ↓x_andl, z_le, z_nle, z_lt, z_nlt, z_eq, z_neq, if_pos, if_neg, x_andl, false_and, and_false, or_true, true_or, or_false, false_or, not_true, not_false_iff, x_rd_eq, x_rd_ne, x_st_o, Int.cast_ofNat_Int, Int.ofNat_zero, Int.ofNat_one, not_true_eq_false, not_false_eq_true, if_true, if_false, ite_self, and_self, Int.ofNat_eq_natCast, Int.tdiv_eq_ediv_of_nonneg, Int.tmod_eq_emod_of_nonneg, x_bm32, hlo, ix0, chS]
              exact K4
        · intro ⟨σs, v8⟩ ⟨m1, m2, m3, m4⟩
          simp only at m1 m2 m3 m4 ⊢
          have K3 := K (σs, xI k, xI 42, v8) ⟨eqo_trans e1c (eqo_mono (by simp) m1), fun q hq => by
            simp only
            rw [m1 24 3 (by simp)]
            exact kc q hq, fun p hp => by
            simp only
            rw [m2 p hp]
            exact n3 p hp, fun st wd p q p2 q2 => by
            have z := m4 (21 * wd + st) (by omega) (by omega)
            rw [show (21 * wd + st) % 21 = st by omega, show (21 * wd + st) / 21 = wd by omega] at z
            exact z⟩
          simp only at K3
          rw [bk_16_5]
          simp (disch := first | omega | (simp only [x_wtI, x_wtJ, x_wtR, x_wtN]; omega) | assumption | (simp (disch := omega) only [x_st_o, x_rd_ne]; first | assumption | omega) | (apply mir_eq; assumption; (intro c h1 h2; simp (disch := omega) only [x_st_o])) | (apply mis_eq; assumption; (intro c h1 h2; simp (disch := omega) only [x_st_o])) | rfl) only [bk_16_0, bk_16_1, bk_16_2, bk_16_3, bk_16_6, bk_16_7, bk_16_8, bk_16_9, bk_16_10, bk_16_11, bk_16_12, wp_ald0, wp_ild1, wk_4, wp_ifeq, wp_ret, wp_ic, wp_imul, wp_ist2, wp_ist3, wp_fall, wp_ild3, wp_icge, wr_24_4, wp_ild2, wp_iadd, wp_lc, ws_25, ws_27, ws_28, wp_inc3, wp_goto, wr_24_0, wr_6_14, wl_8, wl_13, wl_14, wl_15, wp_cald, wr_6_15, wp_ist4, wp_ild4, wr_24_6, wp_acpy kd_25 kd_27 (Or.inr rfl), wp_parts, wr_6_13, wl_25, wl_27, wl_28, wp_pald, wp_geti kd_6, wk_6, wk_7, wp_ist5, wp_ild5, wr_24_10, wp_lcmp, wp_ifne, wp_ist6, wp_ild6, wr_6_8, wp_i2l, wp_lmul, wp_ladd, wp_inc5, x_clr_I, x_clr_J, x_clr_R, x_clr_U, ct_some, ct_none, lc_lt, lc_ge, lc_gt, lc_le, lc_eq, lc_r, xI_inj, xJ_inj, Option.some.injEq, eq_self, bi_r, bi_0, bi_1, bi_n, Classical.not_not, and_true, true_and, ite_true, ite_false, ↓reduceIte, ↓x_andl, z_le, z_nle, z_lt, z_nlt, z_eq, z_neq, if_pos, if_neg, x_andl, false_and, and_false, or_true, true_or, or_false, false_or, not_true, not_false_iff, x_rd_eq, x_rd_ne, x_st_o, Int.cast_ofNat_Int, Int.ofNat_zero, Int.ofNat_one, not_true_eq_false, not_false_eq_true, if_true, if_false, ite_self, and_self, Int.ofNat_eq_natCast, Int.tdiv_eq_ediv_of_nonneg, Int.tmod_eq_emod_of_nonneg, x_bm32]
          exact K3
      have b27 : ∀ Q', x_Sp 3 6 [xR 24 3, xI f, xJ sc, xI (w 5)] σa Q' ↔ Q' none σb := fun Q' => evb 2 Q'
      have b28 : ∀ Q', x_Sp 3 7 [xR 24 3, xI f] σb Q' ↔ Q' none σc := fun Q' => evc 0 Q'
      have hx1 : 0 ≤ k * 42 ∧ k * 42 + 42 ≤ 1680 := by omega
      have farS : σa 13 1 k = w_of w f 6 + 1 := (mi_far hMa (by omega) kk.2.1).trans kk.2.2.2
      rw [bk_16_4]
      simp (disch := first | omega | (simp only [x_wtI, x_wtJ, x_wtR, x_wtN]; omega) | assumption | (simp (disch := omega) only [x_st_o, x_rd_ne]; first | assumption | omega) | (apply mir_eq; assumption; (intro c h1 h2; simp (disch := omega) only [x_st_o])) | (apply mis_eq; assumption; (intro c h1 h2; simp (disch := omega) only [x_st_o])) | rfl) only [bk_16_0, bk_16_1, bk_16_2, bk_16_3, bk_16_6, bk_16_7, bk_16_8, bk_16_9, bk_16_10, bk_16_11, bk_16_12, wp_ald0, wp_ild1, wk_4, wp_ifeq, wp_ret, wp_ic, wp_imul, wp_ist2, wp_ist3, wp_fall, wp_ild3, wp_icge, wr_24_4, wp_ild2, wp_iadd, wp_lc, ws_25, ws_27, ws_28, wp_inc3, wp_goto, wr_24_0, wr_6_14, wl_8, wl_13, wl_14, wl_15, wp_cald, wr_6_15, wp_ist4, wp_ild4, wr_24_6, wp_acpy kd_25 kd_27 (Or.inr rfl), wp_parts, wr_6_13, wl_25, wl_27, wl_28, wp_pald, wp_geti kd_6, wk_6, wk_7, wp_ist5, wp_ild5, wr_24_10, wp_lcmp, wp_ifne, wp_ist6, wp_ild6, wr_6_8, wp_i2l, wp_lmul, wp_ladd, wp_inc5, x_clr_I, x_clr_J, x_clr_R, x_clr_U, ct_some, ct_none, lc_lt, lc_ge, lc_gt, lc_le, lc_eq, lc_r, xI_inj, xJ_inj, Option.some.injEq, eq_self, bi_r, bi_0, bi_1, bi_n, Classical.not_not, and_true, true_and, ite_true, ite_false, ↓reduceIte, ↓x_andl, z_le, z_nle, z_lt, z_nlt, z_eq, z_neq, if_pos, if_neg, x_andl, false_and, and_false, or_true, true_or, or_false, false_or, not_true, not_false_iff, x_rd_eq, x_rd_ne, x_st_o, Int.cast_ofNat_Int, Int.ofNat_zero, Int.ofNat_one, not_true_eq_false, not_false_eq_true, if_true, if_false, ite_self, and_self, Int.ofNat_eq_natCast, Int.tdiv_eq_ediv_of_nonneg, Int.tmod_eq_emod_of_nonneg, x_bm32, mi_kids hMi, kid1, hσa, mi_hold hMa, farS, ← hsc, b27, b28]
      exact fin
    · intro ⟨σi, u6, u7, u8⟩ ⟨n1, n2, n3, n4⟩
      simp only at n1 n2 n3 n4 ⊢
      have hMi : mir σi 1 w := mir_eq hM (fun c q1 q2 => n1 c 1 (by simp))
      rw [bk_16_4]
      simp (disch := first | omega | (simp only [x_wtI, x_wtJ, x_wtR, x_wtN]; omega) | assumption | (simp (disch := omega) only [x_st_o, x_rd_ne]; first | assumption | omega) | (apply mir_eq; assumption; (intro c h1 h2; simp (disch := omega) only [x_st_o])) | (apply mis_eq; assumption; (intro c h1 h2; simp (disch := omega) only [x_st_o])) | rfl) only [bk_16_0, bk_16_1, bk_16_2, bk_16_3, bk_16_5, bk_16_6, bk_16_7, bk_16_8, bk_16_9, bk_16_10, bk_16_11, bk_16_12, wp_ald0, wp_ild1, wk_4, wp_ifeq, wp_ret, wp_ic, wp_imul, wp_ist2, wp_ist3, wp_fall, wp_ild3, wp_icge, wr_24_4, wp_ild2, wp_iadd, wp_lc, ws_25, ws_27, ws_28, wp_inc3, wp_goto, wr_24_0, wr_6_14, wl_8, wl_13, wl_14, wl_15, wp_cald, wr_6_15, wp_ist4, wp_ild4, wr_24_6, wp_acpy kd_25 kd_27 (Or.inr rfl), wp_parts, wr_6_13, wl_25, wl_27, wl_28, wp_pald, wp_geti kd_6, wk_6, wk_7, wp_ist5, wp_ild5, wr_24_10, wp_lcmp, wp_ifne, wp_ist6, wp_ild6, wr_6_8, wp_i2l, wp_lmul, wp_ladd, wp_inc5, x_clr_I, x_clr_J, x_clr_R, x_clr_U, ct_some, ct_none, lc_lt, lc_ge, lc_gt, lc_le, lc_eq, lc_r, xI_inj, xJ_inj, Option.some.injEq, eq_self, bi_r, bi_0, bi_1, bi_n, Classical.not_not, and_true, true_and, ite_true, ite_false, ↓reduceIte, ↓x_andl, z_le, z_nle, z_lt, z_nlt, z_eq, z_neq, if_pos, if_neg, x_andl, false_and, and_false, or_true, true_or, or_false, false_or, not_true, not_false_iff, x_rd_eq, x_rd_ne, x_st_o, Int.cast_ofNat_Int, Int.ofNat_zero, Int.ofNat_one, not_true_eq_false, not_false_eq_true, if_true, if_false, ite_self, and_self, Int.ofNat_eq_natCast, Int.tdiv_eq_ediv_of_nonneg, Int.tmod_eq_emod_of_nonneg, x_bm32, mi_kids hMi]
      exact hQ _ _ ⟨rfl, n1, n2, n3, fun st wd p q p2 q2 => ⟨n4 st wd p q p2 q2, eatN_b hw h0 h1 ne ⟨p, q⟩ ⟨p2, q2⟩ hT (by omega) (Int.le_refl _) (n4 st wd p q p2 q2)⟩⟩

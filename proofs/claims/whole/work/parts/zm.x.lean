theorem psD_f {b : Int → Int} {n : Int} {x : PS} (h : ¬ x.1 = 0) : psD b n x = x := by
  have t : ∀ (s : List Int) (lo hi : Int), psT b n s lo hi x = x := by
    intro s lo hi
    unfold psT
    have e : psW b n s x = x := if_pos h
    rw [e]
    exact if_pos h
  unfold psD psD3 psD2 psD1
  rw [t, t, t, t]
theorem psP_c {b : Int → Int} {n : Int} {fr : Int → Int} {x : PS} (h : (psP b n fr x).1 = 0) : x.1 = 0 ∧ tK b n x.2.2 = 2 ∧ mayF fr (psV b n x) := by
  by_cases c : x.1 = 0
  · unfold psP at h
    rw [if_neg (fun z => z c)] at h
    by_cases c2 : tK b n x.2.2 = 2
    · rw [if_neg (fun z => z c2)] at h
      by_cases c3 : mayF fr (psV b n x)
      · exact ⟨c, c2, c3⟩
      · rw [if_pos c3] at h
        exact absurd h ne12'
    · rw [if_pos c2] at h
      exact absurd h ne11'
  · have : psP b n fr x = x := if_pos c
    rw [this] at h
    exact absurd h c
def psK (b : Int → Int) (n : Int) (fr : Int → Int) (y : PS) : PS := psT b n (xst 13) 1 100 (psP b n fr (psW b n (xst 12) y))
theorem psK_f {b : Int → Int} {n : Int} {fr : Int → Int} {y : PS} (h : ¬ y.1 = 0) : psK b n fr y = y := by
  unfold psK psT
  have e1 : psW b n (xst 12) y = y := if_pos h
  have e2 : psP b n fr y = y := if_pos h
  have e3 : psW b n (xst 13) y = y := if_pos h
  rw [e1, e2, e3]
  exact if_pos h
/-! the new fork stands in the draft -/
set_option maxHeartbeats 8000000 in
theorem h_add {σ : x_S} {b : Int → Int} {n f u ch : Int} {fr td wo : Int → Int} {x : PS} (hc : CS σ b n x) (hM : mir σ 0 fr) (h9 : σ 3 0 9 = tbv td (fr 0)) (h5 : ∀ g, 0 < g → g < fr 0 → σ 5 0 g = wo g) (hW : dW fr) (hm : 0 < fr 0 ∧ fr 0 < 40) (hy : mayF fr u) (hch : 1 ≤ ch ∧ ch ≤ 100) : ∃ A σ2, (∀ (d : Nat) (Q : Option x_V → x_S → Prop), x_Sp d 57 [xR 6 0, xI u, xI ch] (x_st σ 5 0 (fr 0) f) Q ↔ Q (some (xI (fr 0))) A) ∧ (∀ (d : Nat) (Q : Option x_V → x_S → Prop), x_Sp (d + 6) 37 [xR 3 0, xI (fr 0)] A Q ↔ Q none σ2) ∧ x_eqo dfS σ σ2 ∧ CS σ2 b n (psD b n x) ∧ ((psD b n x).1 = 0 → ∃ d0 d1 d2 d3, dvs b n x d0 d1 d2 d3 ∧ DR σ2 (frF fr u ch d0 d1 d2 d3) td (w_up wo (fr 0) f)) := by
  have hw : wf fr := (hW.2.2.resolve_left (fun z => by omega)).1
  have ou := wf_f hw hy.1.1 hy.1.2
  unfold wf_one at ou
  have h7 : 0 ≤ w_of fr u 7 ∧ w_of fr u 7 < 5 := by
    have := hy.2.2
    omega
  have hu := hy.1
  have sz := mi_size hM
  have f6 := mi_far hM hu.1 hu.2
  have f7 := mi_kids hM hu.1 hu.2
  have nk : ∀ g i, 0 ≤ g → g < fr 0 → 0 ≤ i → i < w_of fr g 7 → ¬ g * 5 + i = u * 5 + w_of fr u 7 := by
    intro g i g0 g1 i0 i1 z
    have og := wf_f hw g0 g1
    unfold wf_one at og
    by_cases y : g = u
    · rw [y] at z i1
      omega
    · omega
  generalize hmm : fr 0 = m at hm hu sz
  generalize hkk : w_of fr u 7 = k at h7 f7 nk
  generalize hff : w_of fr u 6 = q at f6
  generalize hA : x_st (x_st (x_st (x_st (x_st (x_st (x_st (x_st (x_st (x_st (x_st (x_st (x_st σ 5 0 m f) 6 0 6 (m + 1)) 7 0 m u) 8 0 m ch) 9 0 m 0) 10 0 m 0) 11 0 m 0) 12 0 m 0) 14 0 m 0) 13 0 m 0) 13 0 m (q + 1)) 15 0 (u * 5 + k) m) 14 0 u (k + 1) = A
  have ea : ∀ (d : Nat) (Q : Option x_V → x_S → Prop), x_Sp d 57 [xR 6 0, xI u, xI ch] (x_st σ 5 0 m f) Q ↔ Q (some (xI m)) A := by
    intro d Q
    refine x_sp_of ?_
    simp (disch := first | omega | (simp only [x_wtI, x_wtJ, x_wtR, x_wtN]; omega) | assumption | (simp (disch := omega) only [x_st_o, x_rd_ne]; first | assumption | omega) | (apply mir_eq; assumption; (intro c h1 h2; simp (disch := omega) only [x_st_o])) | (apply mis_eq; assumption; (intro c h1 h2; simp (disch := omega) only [x_st_o])) | rfl) only [sp_57, bk_57_0, bk_57_1, wp_ald0, wp_geti kd_6, wp_ist3, wp_dupi, wp_dupr, wp_ic, wp_iadd, wp_puti kd_6, wr_6_7, wp_ild3, wp_ild1, ws_7, ws_8, ws_9, ws_10, ws_11, ws_12, ws_13, ws_14, ws_15, wr_6_8, wp_ild2, wr_6_9, wr_6_10, wr_6_11, wr_6_12, wr_6_14, wr_6_13, wp_iceq, wl_7, wl_8, wl_9, wl_10, wl_11, wl_12, wl_13, wl_14, wl_15, wp_cald, wr_6_15, wp_imul, wp_dup2, wp_fall, wp_iret mz_57, x_clr_I, x_clr_J, x_clr_R, x_clr_U, ct_some, ct_none, lc_lt, lc_ge, lc_gt, lc_le, lc_eq, lc_r, xI_inj, xJ_inj, Option.some.injEq, eq_self, bi_r, bi_0, bi_1, bi_n, Classical.not_not, and_true, true_and, ite_true, ite_false, ↓reduceIte, ↓x_andl, z_le, z_nle, z_lt, z_nlt, z_eq, z_neq, if_pos, if_neg, x_andl, false_and, and_false, or_true, true_or, or_false, false_or, not_true, not_false_iff, x_rd_eq, x_rd_ne, x_st_o, Int.cast_ofNat_Int, Int.ofNat_zero, Int.ofNat_one, not_true_eq_false, not_false_eq_true, if_true, if_false, ite_self, and_self, Int.ofNat_eq_natCast, Int.tdiv_eq_ediv_of_nonneg, Int.tmod_eq_emod_of_nonneg, x_bm32, sz, f6, f7, hA]
  have eA : x_eqo dfS σ A := by
    subst hA
    repeat (first | exact eqo_refl | refine eqo_st (by unfold dfS; simp) ?_)
  have csA : CS A b n x := by
    refine CS_e hc ?_ ?_
    · subst hA
      rw [x_st_o (by omega), x_st_o (by omega), x_st_o (by omega), x_st_o (by omega), x_st_o (by omega), x_st_o (by omega), x_st_o (by omega), x_st_o (by omega), x_st_o (by omega), x_st_o (by omega), x_st_o (by omega), x_st_o (by omega), x_st_o (by omega)]
    · exact eA 4 0 (by unfold dfS; simp)
  have A3 : A 3 0 = σ 3 0 := by
    subst hA
    rw [x_st_o (by omega), x_st_o (by omega), x_st_o (by omega), x_st_o (by omega), x_st_o (by omega), x_st_o (by omega), x_st_o (by omega), x_st_o (by omega), x_st_o (by omega), x_st_o (by omega), x_st_o (by omega), x_st_o (by omega), x_st_o (by omega)]
  have A5 : ∀ g, A 5 0 g = if g = m then f else σ 5 0 g := by
    intro g
    subst hA
    by_cases z : g = m
    · rw [if_pos z, z]
      simp (disch := omega) only [x_st_o, x_rd_ne, x_rd_eq, s_fl_o, s_fl_in, s_fl_out, x_cp_o, x_cp_in, x_cp_out]
    · rw [if_neg z]
      simp (disch := omega) only [x_st_o, x_rd_ne, x_rd_eq, s_fl_o, s_fl_in, s_fl_out, x_cp_o, x_cp_in, x_cp_out]
  have A66 : A 6 0 6 = m + 1 := by subst hA; simp (disch := omega) only [x_st_o, x_rd_ne, x_rd_eq, s_fl_o, s_fl_in, s_fl_out, x_cp_o, x_cp_in, x_cp_out]
  have A6 : ∀ i, ¬ i = 6 → A 6 0 i = σ 6 0 i := by
    intro i hi
    subst hA
    simp (disch := omega) only [x_st_o, x_rd_ne, x_rd_eq, s_fl_o, s_fl_in, s_fl_out, x_cp_o, x_cp_in, x_cp_out]
  have A7 : ∀ g, A 7 0 g = if g = m then u else σ 7 0 g := by
    intro g
    subst hA
    by_cases z : g = m
    · rw [if_pos z, z]
      simp (disch := omega) only [x_st_o, x_rd_ne, x_rd_eq, s_fl_o, s_fl_in, s_fl_out, x_cp_o, x_cp_in, x_cp_out]
    · rw [if_neg z]
      simp (disch := omega) only [x_st_o, x_rd_ne, x_rd_eq, s_fl_o, s_fl_in, s_fl_out, x_cp_o, x_cp_in, x_cp_out]
  have A8 : ∀ g, A 8 0 g = if g = m then ch else σ 8 0 g := by
    intro g
    subst hA
    by_cases z : g = m
    · rw [if_pos z, z]
      simp (disch := omega) only [x_st_o, x_rd_ne, x_rd_eq, s_fl_o, s_fl_in, s_fl_out, x_cp_o, x_cp_in, x_cp_out]
    · rw [if_neg z]
      simp (disch := omega) only [x_st_o, x_rd_ne, x_rd_eq, s_fl_o, s_fl_in, s_fl_out, x_cp_o, x_cp_in, x_cp_out]
  have A9 : ∀ g, ¬ g = m → A 9 0 g = σ 9 0 g ∧ A 10 0 g = σ 10 0 g ∧ A 11 0 g = σ 11 0 g ∧ A 12 0 g = σ 12 0 g := by
    intro g z
    subst hA
    refine ⟨?_, ?_, ?_, ?_⟩ <;> simp (disch := omega) only [x_st_o, x_rd_ne, x_rd_eq, s_fl_o, s_fl_in, s_fl_out, x_cp_o, x_cp_in, x_cp_out]
  have A13 : ∀ g, A 13 0 g = if g = m then q + 1 else σ 13 0 g := by
    intro g
    subst hA
    by_cases z : g = m
    · rw [if_pos z, z]
      simp (disch := omega) only [x_st_o, x_rd_ne, x_rd_eq, s_fl_o, s_fl_in, s_fl_out, x_cp_o, x_cp_in, x_cp_out]
    · rw [if_neg z]
      simp (disch := omega) only [x_st_o, x_rd_ne, x_rd_eq, s_fl_o, s_fl_in, s_fl_out, x_cp_o, x_cp_in, x_cp_out]
  have A14 : ∀ g, A 14 0 g = if g = u then k + 1 else if g = m then 0 else σ 14 0 g := by
    intro g
    subst hA
    by_cases z : g = u
    · rw [if_pos z, z]
      simp (disch := omega) only [x_st_o, x_rd_ne, x_rd_eq, s_fl_o, s_fl_in, s_fl_out, x_cp_o, x_cp_in, x_cp_out]
    · rw [if_neg z]
      by_cases y : g = m
      · rw [if_pos y, y]
        simp (disch := omega) only [x_st_o, x_rd_ne, x_rd_eq, s_fl_o, s_fl_in, s_fl_out, x_cp_o, x_cp_in, x_cp_out]
      · rw [if_neg y]
        simp (disch := omega) only [x_st_o, x_rd_ne, x_rd_eq, s_fl_o, s_fl_in, s_fl_out, x_cp_o, x_cp_in, x_cp_out]
  have A15 : ∀ i, A 15 0 i = if i = u * 5 + k then m else σ 15 0 i := by
    intro i
    subst hA
    by_cases z : i = u * 5 + k
    · rw [if_pos z, z]
      simp (disch := omega) only [x_st_o, x_rd_ne, x_rd_eq, s_fl_o, s_fl_in, s_fl_out, x_cp_o, x_cp_in, x_cp_out]
    · rw [if_neg z]
      simp (disch := omega) only [x_st_o, x_rd_ne, x_rd_eq, s_fl_o, s_fl_in, s_fl_out, x_cp_o, x_cp_in, x_cp_out]
  obtain ⟨r, σ2, ⟨hr, c2, e2, k2, g2, v2⟩, ev⟩ := x_ex (h_does (f := m) (by omega) csA)
  subst hr
  refine ⟨A, σ2, ea, ev, eqo_trans eA (eqo_mono (by unfold dfS; simp) e2), c2, fun z => ?_⟩
  have v := v2 z
  have rg := (psD_c z).2 _ _ _ _ v
  have h7' : 0 ≤ w_of fr u 7 ∧ w_of fr u 7 < 5 := by rw [hkk]; exact h7
  obtain ⟨F0, Fh⟩ := frF_h (ch := ch) (d0 := σ2 9 0 m) (d1 := σ2 10 0 m) (d2 := σ2 11 0 m) (d3 := σ2 12 0 m) (by omega) hy.1 h7'
  obtain ⟨m0, m1, m2, m3, m4, m5, m6, m7⟩ := frF_m (ch := ch) (d0 := σ2 9 0 m) (d1 := σ2 10 0 m) (d2 := σ2 11 0 m) (d3 := σ2 12 0 m) (by omega) hy.1 h7'
  obtain ⟨u7, u8, Fo⟩ := frF_u (ch := ch) (d0 := σ2 9 0 m) (d1 := σ2 10 0 m) (d2 := σ2 11 0 m) (d3 := σ2 12 0 m) (by omega) hy.1 h7'
  rw [hmm] at F0 m0 m1 m2 m3 m4 m5 m6 m7 u8 Fo
  rw [hkk] at u7 u8 Fo
  rw [hff] at m6
  refine ⟨_, _, _, _, v, ⟨?_, fun g g0 g1 => ?_⟩, ?_, fun g g0 g1 => ?_⟩
  · have s6 : ∀ i, σ2 6 0 i = A 6 0 i := fun i => by rw [e2 6 0 (by simp)]
    have hh := hM.1
    rw [s6, s6, s6, s6, s6, s6, s6, A6 0 (by omega), A6 1 (by omega), A6 2 (by omega), A6 3 (by omega), A6 4 (by omega), A6 5 (by omega), A66, F0, Fh 1 (by omega), Fh 2 (by omega), Fh 3 (by omega), Fh 4 (by omega), Fh 5 (by omega), Fh 6 (by omega)]
    exact ⟨hh.1, hh.2.1, hh.2.2.1, hh.2.2.2.1, hh.2.2.2.2.1, hh.2.2.2.2.2.1, rfl⟩
  · rw [F0] at g1
    rw [e2 7 0 (by simp), e2 8 0 (by simp), e2 13 0 (by simp), e2 14 0 (by simp), e2 15 0 (by simp), A7, A8, A13, A14]
    by_cases zm : g = m
    · rw [if_pos zm, if_pos zm, if_pos zm, if_neg (by omega), if_pos zm, zm, m0, m1, m2, m3, m4, m5, m6, m7]
      exact ⟨⟨rfl, rfl, rfl, rfl, rfl, rfl, rfl, rfl⟩, fun i i0 i1 => by omega⟩
    · have g1' : g < fr 0 := by omega
      have mg := hM.2 g g0 g1'
      have a9 := A9 g zm
      have b9 := g2 g zm
      have oth : ∀ i, 0 ≤ i → i ≤ 6 → w_of (frF fr u ch (σ2 9 0 m) (σ2 10 0 m) (σ2 11 0 m) (σ2 12 0 m)) g i = w_of fr g i := fun i i0 i6 => Fo g i g0 (by omega) i0 (by omega) (by omega)
      rw [if_neg zm, if_neg zm, if_neg zm, if_neg zm, b9.1, b9.2.1, b9.2.2.1, b9.2.2.2, a9.1, a9.2.1, a9.2.2.1, a9.2.2.2, oth 0 (by omega) (by omega), oth 1 (by omega) (by omega), oth 2 (by omega) (by omega), oth 3 (by omega) (by omega), oth 4 (by omega) (by omega), oth 5 (by omega) (by omega), oth 6 (by omega) (by omega)]
      have e7 : (if g = u then k + 1 else σ 14 0 g) = w_of (frF fr u ch (σ2 9 0 m) (σ2 10 0 m) (σ2 11 0 m) (σ2 12 0 m)) g 7 := by
        by_cases y : g = u
        · rw [if_pos y, y, u7]
        · rw [if_neg y, Fo g 7 g0 (by omega) (by omega) (by omega) (by omega)]
          exact mg.1.2.2.2.2.2.2.2
      refine ⟨⟨mg.1.1, mg.1.2.1, mg.1.2.2.1, mg.1.2.2.2.1, mg.1.2.2.2.2.1, mg.1.2.2.2.2.2.1, mg.1.2.2.2.2.2.2.1, e7⟩, fun i i0 i1 => ?_⟩
      have og := wf_f hw g0 g1'
      unfold wf_one at og
      rw [A15]
      by_cases y : g = u ∧ i = k
      · rw [if_pos (by rw [y.1, y.2]), y.1, y.2, u8]
      · have i1' : i < w_of fr g 7 := by
          rw [← e7] at i1
          by_cases yy : g = u
          · rw [if_pos yy] at i1
            rw [yy, hkk]
            omega
          · rw [if_neg yy] at i1
            have := mg.1.2.2.2.2.2.2.2
            omega
        rw [if_neg (nk g i g0 g1' i0 i1'), Fo g (8 + i) g0 (by omega) (by omega) (by omega) (fun yy => by
          have := yy.2
          exact y ⟨yy.1, by omega⟩)]
        exact mg.2 i i0 i1'
  · rw [k2 9 (by omega), A3, h9, F0]
    unfold tbv
    rw [hmm, if_pos (by omega), if_pos (by omega)]
  · rw [F0] at g1
    rw [e2 5 0 (by simp), A5]
    by_cases z : g = m
    · rw [if_pos z, z, up_eq]
    · rw [if_neg z, up_ne z]
      exact h5 g g0 (by omega)

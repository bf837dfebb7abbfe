def fr0 (u : Int → Int) : Int → Int := w_up (fun i => if 0 ≤ i ∧ i < 616 then 0 else u i) 16 (-1)
def td0 (u : Int → Int) : Int → Int := fun i => if 0 ≤ i ∧ i < 5 then 0 else u i
theorem s_fl_w {σ : x_S} {c j : Nat} {lo hi v : Int} : s_fl σ c j lo hi v c j = fun i => if lo ≤ i ∧ i < hi then v else σ c j i := by
  funext i
  unfold s_fl
  by_cases z : lo ≤ i ∧ i < hi
  · rw [if_pos ⟨rfl, rfl, z.1, z.2⟩, if_pos z]
  · rw [if_neg (fun y => z y.2.2), if_neg z]
theorem fr0_z {u : Int → Int} {i : Int} (h : 0 ≤ i ∧ i < 616) (h2 : ¬ i = 16) : fr0 u i = 0 := by
  unfold fr0
  rw [up_ne h2]
  exact if_pos h
theorem fr0_w {u : Int → Int} : dW (fr0 u) ∧ (∀ i, 0 ≤ i → i ≤ 6 → fr0 u i = 0) := by
  have z : ∀ i, 0 ≤ i → i ≤ 6 → fr0 u i = 0 := fun i i0 i1 => fr0_z (by omega) (by omega)
  refine ⟨⟨?_, fun i hi => fr0_z (by omega) (by omega), Or.inl ⟨z 0 (by omega) (by omega), ?_, fun k k0 k1 => ?_⟩⟩, z⟩
  · unfold dHd
    rw [z 1 (by omega) (by omega), z 2 (by omega) (by omega), z 3 (by omega) (by omega), z 4 (by omega) (by omega), z 5 (by omega) (by omega), z 6 (by omega) (by omega)]
    omega
  · unfold w_of fr0
    exact up_eq
  · exact fr0_z (by omega) (by omega)
theorem td0_z {u : Int → Int} : (∀ k, 0 ≤ k → k ≤ 4 → td0 u k = 0) ∧ tdW (td0 u) := by
  have z : ∀ k, 0 ≤ k → k ≤ 4 → td0 u k = 0 := fun k k0 k1 => if_pos (by omega)
  exact ⟨z, fun k k0 k1 => by rw [z k k0 k1]; omega⟩
theorem k_chkN {d : Nat} {σ : x_S} {Q : Option x_V → x_S → Prop} (h : ¬ σ 50 0 12 = 0) (hr : 0 ≤ σ 50 0 12 ∧ σ 50 0 12 ≤ 4) (h0 : 0 ≤ σ 56 0 0 ∧ σ 56 0 0 ≤ 40) : x_Sp (d + 1) 189 [xR 50 0] σ Q ↔ Q none σ := by
  refine x_sp_of ?_
  have kg := fun (d' : Nat) (Q' : Option x_V → x_S → Prop) => k_good (d := d') (σ := σ) (Q := Q') hr
  simp only [if_neg h] at kg
  by_cases z : 0 < σ 56 0 0
  · simp (disch := first | omega | (simp only [x_wtI, x_wtJ, x_wtR, x_wtN]; omega) | assumption | (simp (disch := omega) only [x_st_o, x_rd_ne]; first | assumption | omega) | (apply mir_eq; assumption; (intro c h1 h2; simp (disch := omega) only [x_st_o])) | (apply mis_eq; assumption; (intro c h1 h2; simp (disch := omega) only [x_st_o])) | rfl) only [sp_189, bk_189_0, bk_189_1, bk_189_3, bk_189_4, bk_189_5, wp_ic, wp_ist1, wp_fall, wp_ild1, wp_ald0, wr_50_14, wl_56, wl_57, wp_cald, wp_icge, wk_177, wp_ifeq, wp_imul, wp_iadd, wp_ist2, wp_ist3, wp_ist4, wp_ild4, wp_ild2, wp_ild3, wp_inc4, wp_goto, wp_ifle, wp_iceq, wr_50_15, wk_183, wp_inc1, wp_ret, x_clr_I, x_clr_J, x_clr_R, x_clr_U, ct_some, ct_none, lc_lt, lc_ge, lc_gt, lc_le, lc_eq, lc_r, xI_inj, xJ_inj, Option.some.injEq, eq_self, bi_r, bi_0, bi_1, bi_n, Classical.not_not, and_true, true_and, ite_true, ite_false, ↓reduceIte, ↓x_andl, z_le, z_nle, z_lt, z_nlt, z_eq, z_neq, if_pos, if_neg, x_andl, false_and, and_false, or_true, true_or, or_false, false_or, not_true, not_false_iff, x_rd_eq, x_rd_ne, x_st_o, Int.cast_ofNat_Int, Int.ofNat_zero, Int.ofNat_one, not_true_eq_false, not_false_eq_true, if_true, if_false, ite_self, and_self, Int.ofNat_eq_natCast, Int.tdiv_eq_ediv_of_nonneg, Int.tmod_eq_emod_of_nonneg, x_bm32, kg]
  · simp (disch := first | omega | (simp only [x_wtI, x_wtJ, x_wtR, x_wtN]; omega) | assumption | (simp (disch := omega) only [x_st_o, x_rd_ne]; first | assumption | omega) | (apply mir_eq; assumption; (intro c h1 h2; simp (disch := omega) only [x_st_o])) | (apply mis_eq; assumption; (intro c h1 h2; simp (disch := omega) only [x_st_o])) | rfl) only [sp_189, bk_189_0, bk_189_1, bk_189_3, bk_189_4, bk_189_5, wp_ic, wp_ist1, wp_fall, wp_ild1, wp_ald0, wr_50_14, wl_56, wl_57, wp_cald, wp_icge, wk_177, wp_ifeq, wp_imul, wp_iadd, wp_ist2, wp_ist3, wp_ist4, wp_ild4, wp_ild2, wp_ild3, wp_inc4, wp_goto, wp_ifle, wp_iceq, wr_50_15, wk_183, wp_inc1, wp_ret, x_clr_I, x_clr_J, x_clr_R, x_clr_U, ct_some, ct_none, lc_lt, lc_ge, lc_gt, lc_le, lc_eq, lc_r, xI_inj, xJ_inj, Option.some.injEq, eq_self, bi_r, bi_0, bi_1, bi_n, Classical.not_not, and_true, true_and, ite_true, ite_false, ↓reduceIte, ↓x_andl, z_le, z_nle, z_lt, z_nlt, z_eq, z_neq, if_pos, if_neg, x_andl, false_and, and_false, or_true, true_or, or_false, false_or, not_true, not_false_iff, x_rd_eq, x_rd_ne, x_st_o, Int.cast_ofNat_Int, Int.ofNat_zero, Int.ofNat_one, not_true_eq_false, not_false_eq_true, if_true, if_false, ite_self, and_self, Int.ofNat_eq_natCast, Int.tdiv_eq_ediv_of_nonneg, Int.tmod_eq_emod_of_nonneg, x_bm32]
def mtF (σ σ' : x_S) : Prop := x_eqo [(50, 0), (51, 0), (56, 0), (57, 0), (58, 0)] σ σ' ∧ ∀ q, ¬ (q = 5 ∨ q = 7 ∨ q = 8 ∨ q = 9 ∨ q = 10 ∨ q = 11 ∨ q = 12 ∨ q = 13) → σ' 50 0 q = σ 50 0 q
theorem mtF_t {σ σ1 σ2 : x_S} (a : mtF σ σ1) (c : mtF σ1 σ2) : mtF σ σ2 := ⟨eqo_trans a.1 c.1, fun k hk => by rw [c.2 k hk]; exact a.2 k hk⟩
theorem mtF_l {σ σ' : x_S} (h : mlF σ σ') : mtF σ σ' := ⟨eqo_mono (fun p hp => by simp only [List.mem_cons, List.not_mem_nil, or_false] at hp ⊢; rcases hp with h | h | h | h <;> simp [h]) h.1, fun q hq => h.2 q (by omega)⟩
def mtP (b : Int → Int) (n : Int) (x' : PS) (fr' wo' : Int → Int) (r : Option x_V) (σ σ' : x_S) : Prop := mtF σ σ' ∧ σ' 50 0 5 = 0 ∧ (σ' 50 0 12 = (FN b n x' fr' wo').1 ∧ σ' 50 0 13 = (FN b n x' fr' wo').2) ∧ ((¬ (FN b n x' fr' wo').1 = 0 ∧ r = some (xI (-4)) ∧ σ' 51 0 = σ 51 0) ∨ ((FN b n x' fr' wo').1 = 0 ∧ r = some (xI (fr' 0)) ∧ ∀ i, 0 ≤ i → i < 616 → σ' 51 0 i = if i = 9 then fr' 1 else fr' i))
set_option maxHeartbeats 4000000 in
theorem h_mtext {σ : x_S} {b : Int → Int} {n : Int} {m : Nat} {x' : PS} {fr' td' wo' : Int → Int} (hn : 0 ≤ n ∧ n ≤ 1800) (h5 : σ 50 0 5 = n) (hb : ∀ i, 0 ≤ i → i < n → σ 54 0 i = b i ∧ -128 ≤ b i ∧ b i < 128) (hR : LR b n m 0 (fr0 (σ 56 0)) (td0 (σ 58 0)) (σ 57 0) x' fr' td' wo') (hx : x'.1 = 0 → dW fr' ∧ x'.2.1 = -1) : x_Sp 10 174 [xR 50 0] σ (fun r σ' => mtP b n x' fr' wo' r σ σ') := by
  refine x_gen (fun Q hQ => ?_)
  generalize hA : x_st (x_st (x_st (x_st (x_st σ 50 0 7 n) 50 0 5 0) 50 0 8 0) 50 0 12 0) 50 0 13 (-1) = A
  generalize hP : x_st (s_fl A 56 0 0 616 0) 56 0 16 (-1) = P
  generalize hT : s_fl P 58 0 0 5 0 = T
  have eA : x_eqo [(50, 0), (51, 0), (56, 0), (57, 0), (58, 0)] σ A := by
    subst hA
    repeat (first | exact eqo_refl | refine eqo_st (by simp) ?_)
  have eT : x_eqo [(50, 0), (51, 0), (56, 0), (57, 0), (58, 0)] A T := by
    subst hT
    subst hP
    exact eqo_fl (by simp) (eqo_st (by simp) (eqo_fl (by simp) eqo_refl))
  have t50 : T 50 0 = A 50 0 := by
    subst hT
    subst hP
    rw [s_fl_o (by omega), x_st_o (by omega), s_fl_o (by omega)]
  have t57 : T 57 0 = σ 57 0 := by
    subst hT
    subst hP
    rw [s_fl_o (by omega), x_st_o (by omega), s_fl_o (by omega), ← hA, x_st_o (by omega), x_st_o (by omega), x_st_o (by omega), x_st_o (by omega), x_st_o (by omega)]
  have t58 : T 58 0 = td0 (σ 58 0) := by
    subst hT
    rw [s_fl_w]
    subst hP
    rw [x_st_o (by omega), s_fl_o (by omega), ← hA, x_st_o (by omega), x_st_o (by omega), x_st_o (by omega), x_st_o (by omega), x_st_o (by omega)]
    rfl
  have t56 : T 56 0 = fr0 (σ 56 0) := by
    subst hT
    rw [s_fl_o (by omega)]
    subst hP
    rw [x_st_w, s_fl_w, ← hA, x_st_o (by omega), x_st_o (by omega), x_st_o (by omega), x_st_o (by omega), x_st_o (by omega)]
    rfl
  have a7 : A 50 0 7 = n := by subst hA; simp (disch := omega) only [x_st_o, x_rd_ne, x_rd_eq, s_fl_o, s_fl_in, s_fl_out, x_cp_o, x_cp_in, x_cp_out]
  have a5 : A 50 0 5 = 0 := by subst hA; simp (disch := omega) only [x_st_o, x_rd_ne, x_rd_eq, s_fl_o, s_fl_in, s_fl_out, x_cp_o, x_cp_in, x_cp_out]
  have a8 : A 50 0 8 = 0 := by subst hA; simp (disch := omega) only [x_st_o, x_rd_ne, x_rd_eq, s_fl_o, s_fl_in, s_fl_out, x_cp_o, x_cp_in, x_cp_out]
  have a12 : A 50 0 12 = 0 := by subst hA; simp (disch := omega) only [x_st_o, x_rd_ne, x_rd_eq, s_fl_o, s_fl_in, s_fl_out, x_cp_o, x_cp_in, x_cp_out]
  have a13 : A 50 0 13 = -1 := by subst hA; simp (disch := omega) only [x_st_o, x_rd_ne, x_rd_eq, s_fl_o, s_fl_in, s_fl_out, x_cp_o, x_cp_in, x_cp_out]
  have aF : ∀ q, ¬ (q = 5 ∨ q = 7 ∨ q = 8 ∨ q = 9 ∨ q = 10 ∨ q = 11 ∨ q = 12 ∨ q = 13) → A 50 0 q = σ 50 0 q := by
    intro q hq
    subst hA
    rw [x_rd_ne (by omega), x_rd_ne (by omega), x_rd_ne (by omega), x_rd_ne (by omega), x_rd_ne (by omega)]
  have fT : mtF σ T := ⟨eqo_trans eA eT, fun q hq => by rw [t50]; exact aF q hq⟩
  have T5 : T 50 0 5 = 0 := by rw [t50]; exact a5
  have hBT : mdB T b n := ⟨hn, by rw [t50]; exact a7, fun i i0 i1 => by rw [eT 54 0 (by simp), eA 54 0 (by simp)]; exact hb i i0 i1⟩
  obtain ⟨r1, σ1, ⟨hr1, ms, mt⟩, ev1⟩ := x_ex (h_mstep (p := 0) hBT (by rw [t50]; exact a8) (by omega))
  subst hr1
  have kb := tK_b (b := b) hn.1
  have m1 : MS σ1 b n (0, -1, 0) := ⟨mdB_s hBT ms, ⟨by rw [ms.2 12 (by omega), t50]; exact a12, by rw [ms.2 13 (by omega), t50]; exact a13⟩, by (show (0 : Int) ≤ 0 ∧ (0 : Int) ≤ 4; omega), fun _ => ⟨⟨Int.le_refl 0, hn.1⟩, rfl, mt⟩, by rw [mt.2.1]; omega⟩
  have s56 : σ1 56 0 = fr0 (σ 56 0) := by rw [mkp_o (msp_m ms) (by omega), t56]
  have s57 : σ1 57 0 = σ 57 0 := by rw [mkp_o (msp_m ms) (by omega), t57]
  have s58 : σ1 58 0 = td0 (σ 58 0) := by rw [mkp_o (msp_m ms) (by omega), t58]
  have f1 : mtF σ σ1 := mtF_t fT (mtF_l (mlF_m (msp_m ms)))
  have s5 : σ1 50 0 5 = 0 := by rw [ms.2 5 (by omega)]; exact T5
  have K := h_mread (p := 5) (Q := Q) m 0 σ1 _ _ _ x' fr' td' wo' hR m1 s56 s58 s57 fr0_w.1 td0_z.2 (fun σ' f' g' me => by
    obtain ⟨⟨c2, c3⟩, cr, cg⟩ := me
    have f2 : mtF σ σ' := mtF_t f1 (mtF_l f')
    have s5' : σ' 50 0 5 = 0 := by rw [f'.2 5 (by omega)]; exact s5
    have w51 : σ' 51 0 = σ 51 0 := by
      rw [f'.1 51 0 (by simp), mkp_o (msp_m ms) (by omega), ← hT, s_fl_o (by omega), ← hP, x_st_o (by omega), s_fl_o (by omega), ← hA, x_st_o (by omega), x_st_o (by omega), x_st_o (by omega), x_st_o (by omega), x_st_o (by omega)]
    by_cases g : x'.1 = 0
    · obtain ⟨h9, h6, h7⟩ := cg g
      obtain ⟨hW', p1⟩ := hx g
      have z2 : σ' 50 0 12 = 0 := c2.trans g
      have e0 : σ' 56 0 0 = fr' 0 := by rw [h6]
      by_cases m0 : fr' 0 = 0
      · have fe := FN_2 (b := b) (n := n) (wo' := wo') g m0
        have kw := fun (d' : Nat) (Q' : Option x_V → x_S → Prop) => k_wrong (d := d') (σ := σ') (Q := Q') (c := 1) (by omega)
        simp only [if_pos z2, h9] at kw
        have q2 : x_st (x_st σ' 50 0 12 1) 50 0 13 (tF b n x'.2.2) 50 0 12 = 1 := by rw [x_rd_ne (by omega), x_rd_eq]
        have kc := fun (d' : Nat) (Q' : Option x_V → x_S → Prop) => k_chkN (d := d') (σ := x_st (x_st σ' 50 0 12 1) 50 0 13 (tF b n x'.2.2)) (Q := Q') (by rw [q2]; omega) (by rw [q2]; omega) (by rw [x_st_o (by omega), x_st_o (by omega)]; exact g')
        have kg := fun (d' : Nat) (Q' : Option x_V → x_S → Prop) => k_good (d := d') (σ := x_st (x_st σ' 50 0 12 1) 50 0 13 (tF b n x'.2.2)) (Q := Q') (by rw [q2]; omega)
        simp only [if_neg (show ¬ x_st (x_st σ' 50 0 12 1) 50 0 13 (tF b n x'.2.2) 50 0 12 = 0 by rw [q2]; omega)] at kg
        have F := hQ (some (xI (-4))) (x_st (x_st σ' 50 0 12 1) 50 0 13 (tF b n x'.2.2)) ⟨mtF_t f2 ⟨eqo_st (by simp) (eqo_st (by simp) eqo_refl), fun q hq => by rw [x_rd_ne (by omega), x_rd_ne (by omega)]⟩, by rw [x_rd_ne (by omega), x_rd_ne (by omega)]; exact s5', ⟨by rw [fe]; exact q2, by rw [fe, x_rd_eq]⟩, Or.inl ⟨by rw [fe]; (show ¬ (1 : Int) = 0); omega, rfl, by rw [x_st_o (by omega), x_st_o (by omega)]; exact w51⟩⟩
        rw [m0] at e0
        clear hW' cg q2 hR
        generalize tF b n x'.2.2 = tf at kw kc kg F
        rw [bk_174_4]
        simp (disch := first | omega | (simp only [x_wtI, x_wtJ, x_wtR, x_wtN]; omega) | assumption | (simp (disch := omega) only [x_st_o, x_rd_ne]; first | assumption | omega) | (apply mir_eq; assumption; (intro c h1 h2; simp (disch := omega) only [x_st_o])) | (apply mis_eq; assumption; (intro c h1 h2; simp (disch := omega) only [x_st_o])) | rfl) only [bk_174_0, bk_174_1, bk_174_2, bk_174_3, bk_174_4, bk_174_5, bk_174_6, bk_174_8, wp_ald0, wp_geti kd_50, wp_puti kd_50, wp_ic, wr_50_14, wk_167, wp_ist1, wp_fall, wp_ild1, wp_icge, wr_50_16, ws_58, wp_inc1, wp_goto, wk_175, wk_177, wp_ifeq, wk_178, wl_51, wl_56, wp_cald, wp_ifne, wk_182, wk_189, wp_iret mz_174, wr_50_1, ws_51, ws_56, x_clr_I, x_clr_J, x_clr_R, x_clr_U, ct_some, ct_none, lc_lt, lc_ge, lc_gt, lc_le, lc_eq, lc_r, xI_inj, xJ_inj, Option.some.injEq, eq_self, bi_r, bi_0, bi_1, bi_n, Classical.not_not, and_true, true_and, ite_true, ite_false, ↓reduceIte, ↓x_andl, z_le, z_nle, z_lt, z_nlt, z_eq, z_neq, if_pos, if_neg, x_andl, false_and, and_false, or_true, true_or, or_false, false_or, not_true, not_false_iff, x_rd_eq, x_rd_ne, x_st_o, Int.cast_ofNat_Int, Int.ofNat_zero, Int.ofNat_one, not_true_eq_false, not_false_eq_true, if_true, if_false, ite_self, and_self, Int.ofNat_eq_natCast, Int.tdiv_eq_ediv_of_nonneg, Int.tmod_eq_emod_of_nonneg, x_bm32, e0, kw, kc, kg]
        exact F
      · have fe := FN_3 (b := b) (n := n) (wo' := wo') g m0
        have mb := dW_m hW'
        have hw : wf fr' := (hW'.2.2.resolve_left (fun z => m0 z.1)).1
        have cc : x_Sp 4 189 [xR 50 0] σ' (fun r σ2 => r = none ∧ mkp σ' σ2 ∧ σ2 50 0 12 = (ccR fr' wo' (fr' 0).toNat 0).1 ∧ σ2 50 0 13 = (ccR fr' wo' (fr' 0).toNat 0).2) := by
          refine x_gen (fun Q2 hQ2 => ?_)
          have K := h_mchk (Q := Q2) h6 h7 hw z2 (c3.trans p1) (fr' 0).toNat 0 xU xU xU (by omega) (by omega) (fun σ2 q1 q2 q3 => hQ2 _ _ ⟨rfl, q1, q2, q3⟩)
          simp (disch := first | omega | (simp only [x_wtI, x_wtJ, x_wtR, x_wtN]; omega) | assumption | (simp (disch := omega) only [x_st_o, x_rd_ne]; first | assumption | omega) | (apply mir_eq; assumption; (intro c h1 h2; simp (disch := omega) only [x_st_o])) | (apply mis_eq; assumption; (intro c h1 h2; simp (disch := omega) only [x_st_o])) | rfl) only [sp_189, bk_189_0, bk_189_2, bk_189_3, bk_189_4, bk_189_5, wp_ic, wp_ist1, wp_fall, wp_ild1, wp_ald0, wr_50_14, wl_56, wl_57, wp_cald, wp_icge, wk_177, wp_ifeq, wp_imul, wp_iadd, wp_ist2, wp_ist3, wp_ist4, wp_ild4, wp_ild2, wp_ild3, wp_inc4, wp_goto, wp_ifle, wp_iceq, wr_50_15, wk_183, wp_inc1, wp_ret, x_clr_I, x_clr_J, x_clr_R, x_clr_U, ct_some, ct_none, lc_lt, lc_ge, lc_gt, lc_le, lc_eq, lc_r, xI_inj, xJ_inj, Option.some.injEq, eq_self, bi_r, bi_0, bi_1, bi_n, Classical.not_not, and_true, true_and, ite_true, ite_false, ↓reduceIte, ↓x_andl, z_le, z_nle, z_lt, z_nlt, z_eq, z_neq, if_pos, if_neg, x_andl, false_and, and_false, or_true, true_or, or_false, false_or, not_true, not_false_iff, x_rd_eq, x_rd_ne, x_st_o, Int.cast_ofNat_Int, Int.ofNat_zero, Int.ofNat_one, not_true_eq_false, not_false_eq_true, if_true, if_false, ite_self, and_self, Int.ofNat_eq_natCast, Int.tdiv_eq_ediv_of_nonneg, Int.tmod_eq_emod_of_nonneg, x_bm32]
          exact K
        obtain ⟨r2, σ2, ⟨hr2, q1, q2, q3⟩, ev2⟩ := x_ex cc
        subst hr2
        have crb : 0 ≤ (ccR fr' wo' (fr' 0).toNat 0).1 ∧ (ccR fr' wo' (fr' 0).toNat 0).1 ≤ 4 := by
          rcases ccR_b (fr := fr') (wo := wo') (fr' 0).toNat 0 with z | z
          · omega
          · omega
        have f3 : mtF σ σ2 := mtF_t f2 (mtF_l (mlF_m q1))
        have s52 : σ2 50 0 5 = 0 := by rw [q1.2 5 (by omega)]; exact s5'
        have kg := fun (d' : Nat) (Q' : Option x_V → x_S → Prop) => k_good (d := d') (σ := σ2) (Q := Q') (by rw [q2]; exact crb)
        have w56 : σ2 56 0 = fr' := by rw [mkp_o q1 (by omega), h6]
        have e0n : ¬ σ' 56 0 0 = 0 := by rw [e0]; exact m0
        by_cases cz : (ccR fr' wo' (fr' 0).toNat 0).1 = 0
        · simp only [if_pos (q2.trans cz)] at kg
          have lp : x_Wp 10 174 (x_blk 174 7) [xR 50 0, xI 0] [] (s_wr σ2 51 0 0 0 fr') Q := by
            refine x_lp (P := fun i => x_Wp 10 174 (x_blk 174 7) [xR 50 0, xI i] [] (s_wr σ2 51 0 0 i fr') Q) 0 616 (by omega) ?_ ?_
            · intro i i0 i1 H
              have e1 : s_wr σ2 51 0 0 i fr' 56 0 i = fr' i := by rw [s_wr_n (by omega), w56]
              have e2 : x_st (s_wr σ2 51 0 0 i fr') 51 0 i (fr' i) = s_wr σ2 51 0 0 (i + 1) fr' := s_wr_s i0 rfl
              rw [bk_174_7]
              simp (disch := first | omega | (simp only [x_wtI, x_wtJ, x_wtR, x_wtN]; omega) | assumption | (simp (disch := omega) only [x_st_o, x_rd_ne]; first | assumption | omega) | (apply mir_eq; assumption; (intro c h1 h2; simp (disch := omega) only [x_st_o])) | (apply mis_eq; assumption; (intro c h1 h2; simp (disch := omega) only [x_st_o])) | rfl) only [bk_174_0, bk_174_1, bk_174_2, bk_174_3, bk_174_4, bk_174_5, bk_174_6, bk_174_8, wp_ald0, wp_geti kd_50, wp_puti kd_50, wp_ic, wr_50_14, wk_167, wp_ist1, wp_fall, wp_ild1, wp_icge, wr_50_16, ws_58, wp_inc1, wp_goto, wk_175, wk_177, wp_ifeq, wk_178, wl_51, wl_56, wp_cald, wp_ifne, wk_182, wk_189, wp_iret mz_174, wr_50_1, ws_51, ws_56, x_clr_I, x_clr_J, x_clr_R, x_clr_U, ct_some, ct_none, lc_lt, lc_ge, lc_gt, lc_le, lc_eq, lc_r, xI_inj, xJ_inj, Option.some.injEq, eq_self, bi_r, bi_0, bi_1, bi_n, Classical.not_not, and_true, true_and, ite_true, ite_false, ↓reduceIte, ↓x_andl, z_le, z_nle, z_lt, z_nlt, z_eq, z_neq, if_pos, if_neg, x_andl, false_and, and_false, or_true, true_or, or_false, false_or, not_true, not_false_iff, x_rd_eq, x_rd_ne, x_st_o, Int.cast_ofNat_Int, Int.ofNat_zero, Int.ofNat_one, not_true_eq_false, not_false_eq_true, if_true, if_false, ite_self, and_self, Int.ofNat_eq_natCast, Int.tdiv_eq_ediv_of_nonneg, Int.tmod_eq_emod_of_nonneg, x_bm32, e1, e2]
              exact H
            · have wv : ∀ i, 0 ≤ i → i < 616 → s_wr σ2 51 0 0 616 fr' 51 0 i = fr' i := by
                intro i i0 i1
                unfold s_wr
                rw [if_pos ⟨rfl, rfl, i0, i1⟩]
              have e1 := wv 1 (by omega) (by omega)
              have e2 := wv 0 (by omega) (by omega)
              have o50 : x_st (s_wr σ2 51 0 0 616 fr') 51 0 9 (fr' 1) 50 0 = σ2 50 0 := by
                rw [x_st_o (by omega)]
                funext i
                exact s_wr_n (by omega)
              have F := hQ (some (xI (fr' 0))) (x_st (s_wr σ2 51 0 0 616 fr') 51 0 9 (fr' 1)) ⟨mtF_t f3 ⟨eqo_st (by simp) (fun c j h => by
                funext i
                exact s_wr_n (fun y => h (by rw [y.1, y.2]; simp))), fun q hq => by rw [o50]⟩, by rw [o50]; exact s52, ⟨by rw [o50, fe]; exact q2, by rw [o50, fe]; exact q3⟩, Or.inr ⟨by rw [fe]; exact cz, rfl, fun i i0 i1 => ?_⟩⟩
              · clear hR hx cg hW' hQ fe
                generalize fr' 1 = v1 at e1 e2 F
                generalize fr' 0 = v0 at e2 F mb
                generalize s_wr σ2 51 0 0 616 fr' = W at e1 e2 F
                rw [bk_174_7]
                simp (disch := first | omega | (simp only [x_wtI, x_wtJ, x_wtR, x_wtN]; omega) | assumption | (simp (disch := omega) only [x_st_o, x_rd_ne]; first | assumption | omega) | (apply mir_eq; assumption; (intro c h1 h2; simp (disch := omega) only [x_st_o])) | (apply mis_eq; assumption; (intro c h1 h2; simp (disch := omega) only [x_st_o])) | rfl) only [bk_174_0, bk_174_1, bk_174_2, bk_174_3, bk_174_4, bk_174_5, bk_174_6, bk_174_8, wp_ald0, wp_geti kd_50, wp_puti kd_50, wp_ic, wr_50_14, wk_167, wp_ist1, wp_fall, wp_ild1, wp_icge, wr_50_16, ws_58, wp_inc1, wp_goto, wk_175, wk_177, wp_ifeq, wk_178, wl_51, wl_56, wp_cald, wp_ifne, wk_182, wk_189, wp_iret mz_174, wr_50_1, ws_51, ws_56, x_clr_I, x_clr_J, x_clr_R, x_clr_U, ct_some, ct_none, lc_lt, lc_ge, lc_gt, lc_le, lc_eq, lc_r, xI_inj, xJ_inj, Option.some.injEq, eq_self, bi_r, bi_0, bi_1, bi_n, Classical.not_not, and_true, true_and, ite_true, ite_false, ↓reduceIte, ↓x_andl, z_le, z_nle, z_lt, z_nlt, z_eq, z_neq, if_pos, if_neg, x_andl, false_and, and_false, or_true, true_or, or_false, false_or, not_true, not_false_iff, x_rd_eq, x_rd_ne, x_st_o, Int.cast_ofNat_Int, Int.ofNat_zero, Int.ofNat_one, not_true_eq_false, not_false_eq_true, if_true, if_false, ite_self, and_self, Int.ofNat_eq_natCast, Int.tdiv_eq_ediv_of_nonneg, Int.tmod_eq_emod_of_nonneg, x_bm32, e1, e2]
                exact F
              · by_cases y : i = 9
                · rw [if_pos y, y, x_rd_eq]
                · rw [if_neg y, x_rd_ne (by omega)]
                  exact wv i i0 i1
          rw [s_wr_0] at lp
          clear hR hx cg hW' hQ fe
          generalize fr' 0 = v0 at e0 m0 mb
          rw [bk_174_4]
          simp (disch := first | omega | (simp only [x_wtI, x_wtJ, x_wtR, x_wtN]; omega) | assumption | (simp (disch := omega) only [x_st_o, x_rd_ne]; first | assumption | omega) | (apply mir_eq; assumption; (intro c h1 h2; simp (disch := omega) only [x_st_o])) | (apply mis_eq; assumption; (intro c h1 h2; simp (disch := omega) only [x_st_o])) | rfl) only [bk_174_0, bk_174_1, bk_174_2, bk_174_3, bk_174_4, bk_174_5, bk_174_6, bk_174_8, wp_ald0, wp_geti kd_50, wp_puti kd_50, wp_ic, wr_50_14, wk_167, wp_ist1, wp_fall, wp_ild1, wp_icge, wr_50_16, ws_58, wp_inc1, wp_goto, wk_175, wk_177, wp_ifeq, wk_178, wl_51, wl_56, wp_cald, wp_ifne, wk_182, wk_189, wp_iret mz_174, wr_50_1, ws_51, ws_56, x_clr_I, x_clr_J, x_clr_R, x_clr_U, ct_some, ct_none, lc_lt, lc_ge, lc_gt, lc_le, lc_eq, lc_r, xI_inj, xJ_inj, Option.some.injEq, eq_self, bi_r, bi_0, bi_1, bi_n, Classical.not_not, and_true, true_and, ite_true, ite_false, ↓reduceIte, ↓x_andl, z_le, z_nle, z_lt, z_nlt, z_eq, z_neq, if_pos, if_neg, x_andl, false_and, and_false, or_true, true_or, or_false, false_or, not_true, not_false_iff, x_rd_eq, x_rd_ne, x_st_o, Int.cast_ofNat_Int, Int.ofNat_zero, Int.ofNat_one, not_true_eq_false, not_false_eq_true, if_true, if_false, ite_self, and_self, Int.ofNat_eq_natCast, Int.tdiv_eq_ediv_of_nonneg, Int.tmod_eq_emod_of_nonneg, x_bm32, e0]
          refine (ev2 5 _).mpr ?_
          simp (disch := first | omega | (simp only [x_wtI, x_wtJ, x_wtR, x_wtN]; omega) | assumption | (simp (disch := omega) only [x_st_o, x_rd_ne]; first | assumption | omega) | (apply mir_eq; assumption; (intro c h1 h2; simp (disch := omega) only [x_st_o])) | (apply mis_eq; assumption; (intro c h1 h2; simp (disch := omega) only [x_st_o])) | rfl) only [bk_174_0, bk_174_1, bk_174_2, bk_174_3, bk_174_4, bk_174_5, bk_174_6, bk_174_8, wp_ald0, wp_geti kd_50, wp_puti kd_50, wp_ic, wr_50_14, wk_167, wp_ist1, wp_fall, wp_ild1, wp_icge, wr_50_16, ws_58, wp_inc1, wp_goto, wk_175, wk_177, wp_ifeq, wk_178, wl_51, wl_56, wp_cald, wp_ifne, wk_182, wk_189, wp_iret mz_174, wr_50_1, ws_51, ws_56, x_clr_I, x_clr_J, x_clr_R, x_clr_U, ct_some, ct_none, lc_lt, lc_ge, lc_gt, lc_le, lc_eq, lc_r, xI_inj, xJ_inj, Option.some.injEq, eq_self, bi_r, bi_0, bi_1, bi_n, Classical.not_not, and_true, true_and, ite_true, ite_false, ↓reduceIte, ↓x_andl, z_le, z_nle, z_lt, z_nlt, z_eq, z_neq, if_pos, if_neg, x_andl, false_and, and_false, or_true, true_or, or_false, false_or, not_true, not_false_iff, x_rd_eq, x_rd_ne, x_st_o, Int.cast_ofNat_Int, Int.ofNat_zero, Int.ofNat_one, not_true_eq_false, not_false_eq_true, if_true, if_false, ite_self, and_self, Int.ofNat_eq_natCast, Int.tdiv_eq_ediv_of_nonneg, Int.tmod_eq_emod_of_nonneg, x_bm32, kg]
          exact lp
        · simp only [if_neg (show ¬ σ2 50 0 12 = 0 by rw [q2]; exact cz)] at kg
          have F := hQ (some (xI (-4))) σ2 ⟨f3, s52, ⟨by rw [fe]; exact q2, by rw [fe]; exact q3⟩, Or.inl ⟨by rw [fe]; exact cz, rfl, by rw [mkp_o q1 (by omega)]; exact w51⟩⟩
          clear hR hx cg hW' hQ fe
          generalize fr' 0 = v0 at e0 m0 mb
          rw [bk_174_4]
          simp (disch := first | omega | (simp only [x_wtI, x_wtJ, x_wtR, x_wtN]; omega) | assumption | (simp (disch := omega) only [x_st_o, x_rd_ne]; first | assumption | omega) | (apply mir_eq; assumption; (intro c h1 h2; simp (disch := omega) only [x_st_o])) | (apply mis_eq; assumption; (intro c h1 h2; simp (disch := omega) only [x_st_o])) | rfl) only [bk_174_0, bk_174_1, bk_174_2, bk_174_3, bk_174_4, bk_174_5, bk_174_6, bk_174_8, wp_ald0, wp_geti kd_50, wp_puti kd_50, wp_ic, wr_50_14, wk_167, wp_ist1, wp_fall, wp_ild1, wp_icge, wr_50_16, ws_58, wp_inc1, wp_goto, wk_175, wk_177, wp_ifeq, wk_178, wl_51, wl_56, wp_cald, wp_ifne, wk_182, wk_189, wp_iret mz_174, wr_50_1, ws_51, ws_56, x_clr_I, x_clr_J, x_clr_R, x_clr_U, ct_some, ct_none, lc_lt, lc_ge, lc_gt, lc_le, lc_eq, lc_r, xI_inj, xJ_inj, Option.some.injEq, eq_self, bi_r, bi_0, bi_1, bi_n, Classical.not_not, and_true, true_and, ite_true, ite_false, ↓reduceIte, ↓x_andl, z_le, z_nle, z_lt, z_nlt, z_eq, z_neq, if_pos, if_neg, x_andl, false_and, and_false, or_true, true_or, or_false, false_or, not_true, not_false_iff, x_rd_eq, x_rd_ne, x_st_o, Int.cast_ofNat_Int, Int.ofNat_zero, Int.ofNat_one, not_true_eq_false, not_false_eq_true, if_true, if_false, ite_self, and_self, Int.ofNat_eq_natCast, Int.tdiv_eq_ediv_of_nonneg, Int.tmod_eq_emod_of_nonneg, x_bm32, e0]
          refine (ev2 5 _).mpr ?_
          simp (disch := first | omega | (simp only [x_wtI, x_wtJ, x_wtR, x_wtN]; omega) | assumption | (simp (disch := omega) only [x_st_o, x_rd_ne]; first | assumption | omega) | (apply mir_eq; assumption; (intro c h1 h2; simp (disch := omega) only [x_st_o])) | (apply mis_eq; assumption; (intro c h1 h2; simp (disch := omega) only [x_st_o])) | rfl) only [bk_174_0, bk_174_1, bk_174_2, bk_174_3, bk_174_4, bk_174_5, bk_174_6, bk_174_8, wp_ald0, wp_geti kd_50, wp_puti kd_50, wp_ic, wr_50_14, wk_167, wp_ist1, wp_fall, wp_ild1, wp_icge, wr_50_16, ws_58, wp_inc1, wp_goto, wk_175, wk_177, wp_ifeq, wk_178, wl_51, wl_56, wp_cald, wp_ifne, wk_182, wk_189, wp_iret mz_174, wr_50_1, ws_51, ws_56, x_clr_I, x_clr_J, x_clr_R, x_clr_U, ct_some, ct_none, lc_lt, lc_ge, lc_gt, lc_le, lc_eq, lc_r, xI_inj, xJ_inj, Option.some.injEq, eq_self, bi_r, bi_0, bi_1, bi_n, Classical.not_not, and_true, true_and, ite_true, ite_false, ↓reduceIte, ↓x_andl, z_le, z_nle, z_lt, z_nlt, z_eq, z_neq, if_pos, if_neg, x_andl, false_and, and_false, or_true, true_or, or_false, false_or, not_true, not_false_iff, x_rd_eq, x_rd_ne, x_st_o, Int.cast_ofNat_Int, Int.ofNat_zero, Int.ofNat_one, not_true_eq_false, not_false_eq_true, if_true, if_false, ite_self, and_self, Int.ofNat_eq_natCast, Int.tdiv_eq_ediv_of_nonneg, Int.tmod_eq_emod_of_nonneg, x_bm32, kg]
          exact F
    · have fe := FN_1 (b := b) (n := n) (fr' := fr') (wo' := wo') g
      have n2 : ¬ σ' 50 0 12 = 0 := by rw [c2]; exact g
      have n2r : 0 ≤ σ' 50 0 12 ∧ σ' 50 0 12 ≤ 4 := by rw [c2]; exact cr
      have kw := fun (d' : Nat) (Q' : Option x_V → x_S → Prop) => k_wrong (d := d') (σ := σ') (Q := Q') (c := 1) n2r
      simp only [if_neg n2] at kw
      have kc := fun (d' : Nat) (Q' : Option x_V → x_S → Prop) => k_chkN (d := d') (σ := σ') (Q := Q') n2 n2r g'
      have kg := fun (d' : Nat) (Q' : Option x_V → x_S → Prop) => k_good (d := d') (σ := σ') (Q := Q') n2r
      simp only [if_neg n2] at kg
      have F := hQ (some (xI (-4))) σ' ⟨f2, s5', ⟨by rw [fe]; exact c2, by rw [fe]; exact c3⟩, Or.inl ⟨by rw [fe]; exact g, rfl, w51⟩⟩
      clear hR hx cg hQ fe
      rw [bk_174_4]
      by_cases e0 : σ' 56 0 0 = 0
      · simp (disch := first | omega | (simp only [x_wtI, x_wtJ, x_wtR, x_wtN]; omega) | assumption | (simp (disch := omega) only [x_st_o, x_rd_ne]; first | assumption | omega) | (apply mir_eq; assumption; (intro c h1 h2; simp (disch := omega) only [x_st_o])) | (apply mis_eq; assumption; (intro c h1 h2; simp (disch := omega) only [x_st_o])) | rfl) only [bk_174_0, bk_174_1, bk_174_2, bk_174_3, bk_174_4, bk_174_5, bk_174_6, bk_174_8, wp_ald0, wp_geti kd_50, wp_puti kd_50, wp_ic, wr_50_14, wk_167, wp_ist1, wp_fall, wp_ild1, wp_icge, wr_50_16, ws_58, wp_inc1, wp_goto, wk_175, wk_177, wp_ifeq, wk_178, wl_51, wl_56, wp_cald, wp_ifne, wk_182, wk_189, wp_iret mz_174, wr_50_1, ws_51, ws_56, x_clr_I, x_clr_J, x_clr_R, x_clr_U, ct_some, ct_none, lc_lt, lc_ge, lc_gt, lc_le, lc_eq, lc_r, xI_inj, xJ_inj, Option.some.injEq, eq_self, bi_r, bi_0, bi_1, bi_n, Classical.not_not, and_true, true_and, ite_true, ite_false, ↓reduceIte, ↓x_andl, z_le, z_nle, z_lt, z_nlt, z_eq, z_neq, if_pos, if_neg, x_andl, false_and, and_false, or_true, true_or, or_false, false_or, not_true, not_false_iff, x_rd_eq, x_rd_ne, x_st_o, Int.cast_ofNat_Int, Int.ofNat_zero, Int.ofNat_one, not_true_eq_false, not_false_eq_true, if_true, if_false, ite_self, and_self, Int.ofNat_eq_natCast, Int.tdiv_eq_ediv_of_nonneg, Int.tmod_eq_emod_of_nonneg, x_bm32, e0, kw, kc, kg]
        exact F
      · simp (disch := first | omega | (simp only [x_wtI, x_wtJ, x_wtR, x_wtN]; omega) | assumption | (simp (disch := omega) only [x_st_o, x_rd_ne]; first | assumption | omega) | (apply mir_eq; assumption; (intro c h1 h2; simp (disch := omega) only [x_st_o])) | (apply mis_eq; assumption; (intro c h1 h2; simp (disch := omega) only [x_st_o])) | rfl) only [bk_174_0, bk_174_1, bk_174_2, bk_174_3, bk_174_4, bk_174_5, bk_174_6, bk_174_8, wp_ald0, wp_geti kd_50, wp_puti kd_50, wp_ic, wr_50_14, wk_167, wp_ist1, wp_fall, wp_ild1, wp_icge, wr_50_16, ws_58, wp_inc1, wp_goto, wk_175, wk_177, wp_ifeq, wk_178, wl_51, wl_56, wp_cald, wp_ifne, wk_182, wk_189, wp_iret mz_174, wr_50_1, ws_51, ws_56, x_clr_I, x_clr_J, x_clr_R, x_clr_U, ct_some, ct_none, lc_lt, lc_ge, lc_gt, lc_le, lc_eq, lc_r, xI_inj, xJ_inj, Option.some.injEq, eq_self, bi_r, bi_0, bi_1, bi_n, Classical.not_not, and_true, true_and, ite_true, ite_false, ↓reduceIte, ↓x_andl, z_le, z_nle, z_lt, z_nlt, z_eq, z_neq, if_pos, if_neg, x_andl, false_and, and_false, or_true, true_or, or_false, false_or, not_true, not_false_iff, x_rd_eq, x_rd_ne, x_st_o, Int.cast_ofNat_Int, Int.ofNat_zero, Int.ofNat_one, not_true_eq_false, not_false_eq_true, if_true, if_false, ite_self, and_self, Int.ofNat_eq_natCast, Int.tdiv_eq_ediv_of_nonneg, Int.tmod_eq_emod_of_nonneg, x_bm32, kc, kg]
        exact F)
  have lp : x_Wp 10 174 (x_blk 174 1) [xR 50 0, xI 0] [] (s_fl P 58 0 0 0 0) Q := by
    refine x_lp (P := fun i => x_Wp 10 174 (x_blk 174 1) [xR 50 0, xI i] [] (s_fl P 58 0 0 i 0) Q) 0 5 (by omega) ?_ ?_
    · intro i i0 i1 H
      rw [bk_174_1]
      simp (disch := first | omega | (simp only [x_wtI, x_wtJ, x_wtR, x_wtN]; omega) | assumption | (simp (disch := omega) only [x_st_o, x_rd_ne]; first | assumption | omega) | (apply mir_eq; assumption; (intro c h1 h2; simp (disch := omega) only [x_st_o])) | (apply mis_eq; assumption; (intro c h1 h2; simp (disch := omega) only [x_st_o])) | rfl) only [bk_174_0, bk_174_3, bk_174_4, bk_174_5, bk_174_6, bk_174_7, bk_174_8, wp_ald0, wp_geti kd_50, wp_puti kd_50, wp_ic, wr_50_14, wk_167, wp_ist1, wp_fall, wp_ild1, wp_icge, wr_50_16, ws_58, wp_inc1, wp_goto, wk_175, wk_177, wp_ifeq, wk_178, wl_51, wl_56, wp_cald, wp_ifne, wk_182, wk_189, wp_iret mz_174, wr_50_1, ws_51, ws_56, x_clr_I, x_clr_J, x_clr_R, x_clr_U, ct_some, ct_none, lc_lt, lc_ge, lc_gt, lc_le, lc_eq, lc_r, xI_inj, xJ_inj, Option.some.injEq, eq_self, bi_r, bi_0, bi_1, bi_n, Classical.not_not, and_true, true_and, ite_true, ite_false, ↓reduceIte, ↓x_andl, z_le, z_nle, z_lt, z_nlt, z_eq, z_neq, if_pos, if_neg, x_andl, false_and, and_false, or_true, true_or, or_false, false_or, not_true, not_false_iff, x_rd_eq, x_rd_ne, x_st_o, Int.cast_ofNat_Int, Int.ofNat_zero, Int.ofNat_one, not_true_eq_false, not_false_eq_true, if_true, if_false, ite_self, and_self, Int.ofNat_eq_natCast, Int.tdiv_eq_ediv_of_nonneg, Int.tmod_eq_emod_of_nonneg, x_bm32, s_fl_s]
      exact H
    · rw [bk_174_1]
      simp (disch := first | omega | (simp only [x_wtI, x_wtJ, x_wtR, x_wtN]; omega) | assumption | (simp (disch := omega) only [x_st_o, x_rd_ne]; first | assumption | omega) | (apply mir_eq; assumption; (intro c h1 h2; simp (disch := omega) only [x_st_o])) | (apply mis_eq; assumption; (intro c h1 h2; simp (disch := omega) only [x_st_o])) | rfl) only [bk_174_0, bk_174_2, bk_174_4, bk_174_5, bk_174_6, bk_174_7, bk_174_8, wp_ald0, wp_geti kd_50, wp_puti kd_50, wp_ic, wr_50_14, wk_167, wp_ist1, wp_fall, wp_ild1, wp_icge, wr_50_16, ws_58, wp_inc1, wp_goto, wk_175, wk_177, wp_ifeq, wk_178, wl_51, wl_56, wp_cald, wp_ifne, wk_182, wk_189, wp_iret mz_174, wr_50_1, ws_51, ws_56, x_clr_I, x_clr_J, x_clr_R, x_clr_U, ct_some, ct_none, lc_lt, lc_ge, lc_gt, lc_le, lc_eq, lc_r, xI_inj, xJ_inj, Option.some.injEq, eq_self, bi_r, bi_0, bi_1, bi_n, Classical.not_not, and_true, true_and, ite_true, ite_false, ↓reduceIte, ↓x_andl, z_le, z_nle, z_lt, z_nlt, z_eq, z_neq, if_pos, if_neg, x_andl, false_and, and_false, or_true, true_or, or_false, false_or, not_true, not_false_iff, x_rd_eq, x_rd_ne, x_st_o, Int.cast_ofNat_Int, Int.ofNat_zero, Int.ofNat_one, not_true_eq_false, not_false_eq_true, if_true, if_false, ite_self, and_self, Int.ofNat_eq_natCast, Int.tdiv_eq_ediv_of_nonneg, Int.tmod_eq_emod_of_nonneg, x_bm32, hT]
      refine (ev1 8 _).mpr ?_
      simp (disch := first | omega | (simp only [x_wtI, x_wtJ, x_wtR, x_wtN]; omega) | assumption | (simp (disch := omega) only [x_st_o, x_rd_ne]; first | assumption | omega) | (apply mir_eq; assumption; (intro c h1 h2; simp (disch := omega) only [x_st_o])) | (apply mis_eq; assumption; (intro c h1 h2; simp (disch := omega) only [x_st_o])) | rfl) only [bk_174_0, bk_174_1, bk_174_2, bk_174_4, bk_174_5, bk_174_6, bk_174_7, bk_174_8, wp_ald0, wp_geti kd_50, wp_puti kd_50, wp_ic, wr_50_14, wk_167, wp_ist1, wp_fall, wp_ild1, wp_icge, wr_50_16, ws_58, wp_inc1, wp_goto, wk_175, wk_177, wp_ifeq, wk_178, wl_51, wl_56, wp_cald, wp_ifne, wk_182, wk_189, wp_iret mz_174, wr_50_1, ws_51, ws_56, x_clr_I, x_clr_J, x_clr_R, x_clr_U, ct_some, ct_none, lc_lt, lc_ge, lc_gt, lc_le, lc_eq, lc_r, xI_inj, xJ_inj, Option.some.injEq, eq_self, bi_r, bi_0, bi_1, bi_n, Classical.not_not, and_true, true_and, ite_true, ite_false, ↓reduceIte, ↓x_andl, z_le, z_nle, z_lt, z_nlt, z_eq, z_neq, if_pos, if_neg, x_andl, false_and, and_false, or_true, true_or, or_false, false_or, not_true, not_false_iff, x_rd_eq, x_rd_ne, x_st_o, Int.cast_ofNat_Int, Int.ofNat_zero, Int.ofNat_one, not_true_eq_false, not_false_eq_true, if_true, if_false, ite_self, and_self, Int.ofNat_eq_natCast, Int.tdiv_eq_ediv_of_nonneg, Int.tmod_eq_emod_of_nonneg, x_bm32]
      exact K
  rw [s_fl_0] at lp
  have kp := fun (d' : Nat) (Q' : Option x_V → x_S → Prop) => c_plain (d := d') (u := 56) (σ := A) (Q := Q') (Or.inr rfl)
  rw [hP] at kp
  clear K hR hx hQ
  simp (disch := first | omega | (simp only [x_wtI, x_wtJ, x_wtR, x_wtN]; omega) | assumption | (simp (disch := omega) only [x_st_o, x_rd_ne]; first | assumption | omega) | (apply mir_eq; assumption; (intro c h1 h2; simp (disch := omega) only [x_st_o])) | (apply mis_eq; assumption; (intro c h1 h2; simp (disch := omega) only [x_st_o])) | rfl) only [sp_174, bk_174_0, bk_174_2, bk_174_3, bk_174_4, bk_174_5, bk_174_6, bk_174_7, bk_174_8, wp_ald0, wp_geti kd_50, wp_puti kd_50, wp_ic, wr_50_14, wk_167, wp_ist1, wp_fall, wp_ild1, wp_icge, wr_50_16, ws_58, wp_inc1, wp_goto, wk_175, wk_177, wp_ifeq, wk_178, wl_51, wl_56, wp_cald, wp_ifne, wk_182, wk_189, wp_iret mz_174, wr_50_1, ws_51, ws_56, x_clr_I, x_clr_J, x_clr_R, x_clr_U, ct_some, ct_none, lc_lt, lc_ge, lc_gt, lc_le, lc_eq, lc_r, xI_inj, xJ_inj, Option.some.injEq, eq_self, bi_r, bi_0, bi_1, bi_n, Classical.not_not, and_true, true_and, ite_true, ite_false, ↓reduceIte, ↓x_andl, z_le, z_nle, z_lt, z_nlt, z_eq, z_neq, if_pos, if_neg, x_andl, false_and, and_false, or_true, true_or, or_false, false_or, not_true, not_false_iff, x_rd_eq, x_rd_ne, x_st_o, Int.cast_ofNat_Int, Int.ofNat_zero, Int.ofNat_one, not_true_eq_false, not_false_eq_true, if_true, if_false, ite_self, and_self, Int.ofNat_eq_natCast, Int.tdiv_eq_ediv_of_nonneg, Int.tmod_eq_emod_of_nonneg, x_bm32, h5, hA, kp]
  exact lp

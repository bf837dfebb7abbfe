theorem may9 {b : Int → Int} {n p : Int} {fr : Int → Int} (hW : dW fr) (h : p ≤ n) (hk : tK b n p = 2) : (mayF fr (nv 9999 b (tF b n p) (tA b n p)) ↔ mayF fr (nv 100000 b (tF b n p) (tA b n p))) ∧ (0 ≤ nv 9999 b (tF b n p) (tA b n p) ∧ nv 9999 b (tF b n p) (tA b n p) ≤ 9999) ∧ (0 ≤ nv 100000 b (tF b n p) (tA b n p)) ∧ (mayF fr (nv 100000 b (tF b n p) (tA b n p)) → nv 100000 b (tF b n p) (tA b n p) ≤ 39) := by
  have e := nv_2 h hk
  have v := nv_b (cap := 100000) h hk (by omega)
  have v9 := nv_b (cap := 9999) h hk (by omega)
  have mb := dW_m hW
  refine ⟨?_, v9, v.1, fun z => by have := z.1; omega⟩
  generalize nv 100000 b (tF b n p) (tA b n p) = x at e v
  generalize nv 9999 b (tF b n p) (tA b n p) = y at e v9
  by_cases c : x ≤ 9999
  · have : y = x := by omega
    rw [this]
  · exact ⟨fun z => by have := z.1; omega, fun z => by have := z.1; omega⟩
set_option maxHeartbeats 8000000 in
theorem h_mfk {σ : x_S} {b : Int → Int} {n A : Int} {fr td wo : Int → Int} (h : MS σ b n (0, -1, A)) (e6 : σ 56 0 = fr) (e8 : σ 58 0 = td) (e7 : σ 57 0 = wo) (hW : dW fr) (hm : 0 < fr 0) : x_Sp 8 188 [xR 50 0] σ (fun r σ' => r = none ∧ mlF σ σ' ∧ (0 ≤ σ' 56 0 0 ∧ σ' 56 0 0 ≤ 40) ∧ ((fr 0 = 40 ∧ MS σ' b n (3, tF b n A, A)) ∨ (fr 0 < 40 ∧ MS σ' b n (psD b n (psK b n fr (0, -1, tA b n A))) ∧ ((psD b n (psK b n fr (0, -1, tA b n A))).1 = 0 → σ' 58 0 = td ∧ σ' 57 0 = w_up wo (fr 0) (tF b n A) ∧ ∃ d0 d1 d2 d3, dvs b n (psK b n fr (0, -1, tA b n A)) d0 d1 d2 d3 ∧ σ' 56 0 = frF fr (psV b n (psW b n (xst 12) (0, -1, tA b n A))) (psU b n (xst 13) (psP b n fr (psW b n (xst 12) (0, -1, tA b n A)))) d0 d1 d2 d3)))) := by
  obtain ⟨hB, ⟨h12, h13⟩, hc, hx, h10⟩ := id h
  obtain ⟨pr, _, t9, _⟩ := hx rfl
  have z12 : σ 50 0 12 = 0 := h12
  have kg := fun (d' : Nat) (Q' : Option x_V → x_S → Prop) => k_good (d := d') (σ := σ) (Q := Q') (by omega)
  have kw := fun (d' : Nat) (Q' : Option x_V → x_S → Prop) => k_wrong (d := d') (σ := σ) (Q := Q') (c := 3) (by omega)
  simp only [if_pos z12] at kg kw
  have mb := dW_m hW
  have em : σ 56 0 0 = fr 0 := by rw [e6]
  have hw : wf fr := (hW.2.2.resolve_left (fun z => by omega)).1
  refine x_gen (fun Q hQ => ?_)
  by_cases c40 : fr 0 = 40
  · obtain ⟨mk, e9, m2⟩ := MS_f (c := 3) h rfl (by omega)
    have F := hQ none _ ⟨rfl, mlF_m mk, by rw [mkp_o mk (by omega), e6]; exact mb, Or.inl ⟨c40, m2⟩⟩
    have kg2 := fun (d' : Nat) (Q' : Option x_V → x_S → Prop) => k_good (d := d') (σ := x_st (x_st σ 50 0 12 3) 50 0 13 (σ 50 0 9)) (Q := Q') (by rw [m2.2.1.1]; exact m2.2.2.1)
    have ne2 : ¬ x_st (x_st σ 50 0 12 3) 50 0 13 (σ 50 0 9) 50 0 12 = 0 := by rw [m2.2.1.1]; (show ¬ (3 : Int) = 0); omega
    simp only [if_neg ne2] at kg2
    rw [c40] at em
    simp (disch := first | omega | (simp only [x_wtI, x_wtJ, x_wtR, x_wtN]; omega) | assumption | (simp (disch := omega) only [x_st_o, x_rd_ne]; first | assumption | omega) | (apply mir_eq; assumption; (intro c h1 h2; simp (disch := omega) only [x_st_o])) | (apply mis_eq; assumption; (intro c h1 h2; simp (disch := omega) only [x_st_o])) | rfl) only [sp_188, bk_188_0, bk_188_1, bk_188_2, bk_188_3, bk_188_4, bk_188_5, bk_188_6, bk_188_7, bk_188_8, bk_188_9, wp_ald0, wr_50_14, wp_ic, wl_56, wl_57, wp_cald, wp_ist1, wp_ild1, wp_icne, wk_182, wp_fall, wk_177, wp_ifne, wp_ret, wr_50_15, wp_geti kd_50, ws_56, ws_57, wk_175, wp_lds, wk_186, wp_ifeq, wp_icge, wp_goto, wp_ist2, wp_ild2, wp_imul, wp_iadd, wk_184, wk_185, wp_ist3, wp_ist4, wp_ild4, wk_187, wp_ist5, wp_ild3, wp_ild5, wp_dup2, x_clr_I, x_clr_J, x_clr_R, x_clr_U, ct_some, ct_none, lc_lt, lc_ge, lc_gt, lc_le, lc_eq, lc_r, xI_inj, xJ_inj, Option.some.injEq, eq_self, bi_r, bi_0, bi_1, bi_n, Classical.not_not, and_true, true_and, ite_true, ite_false, ↓reduceIte, ↓x_andl, z_le, z_nle, z_lt, z_nlt, z_eq, z_neq, if_pos, if_neg, x_andl, false_and, and_false, or_true, true_or, or_false, false_or, not_true, not_false_iff, x_rd_eq, x_rd_ne, x_st_o, Int.cast_ofNat_Int, Int.ofNat_zero, Int.ofNat_one, not_true_eq_false, not_false_eq_true, if_true, if_false, ite_self, and_self, Int.ofNat_eq_natCast, Int.tdiv_eq_ediv_of_nonneg, Int.tmod_eq_emod_of_nonneg, x_bm32, em, kw, kg2]
    exact F
  · have mr : fr 0 < 40 := by omega
    generalize hA : x_st σ 57 0 (fr 0) (tF b n A) = σa
    have ma : MS σa b n (0, -1, A) := MS_e h (by subst hA; exact x_st_o (by omega)) (by subst hA; exact x_st_o (by omega))
    have a8 : σa 58 0 = td := by subst hA; rw [x_st_o (by omega), e8]
    have a7 : σa 57 0 = w_up wo (fr 0) (tF b n A) := by subst hA; rw [x_st_w, e7]
    have a6 : σa 56 0 = fr := by subst hA; rw [x_st_o (by omega), e6]
    have fa : mlF σ σa := by subst hA; exact mlF_s (by omega)
    obtain ⟨r1, σ1, ⟨hr1, ms, m1⟩, ev1⟩ := x_ex (h_mgo ma rfl)
    subst hr1
    have m1' : MS σ1 b n (0, -1, tA b n A) := m1
    obtain ⟨r2, σ2, σ3, ev2, mk3, m3, hr2⟩ := h_mW (j := 26) (by decide) m1'
    have m3' : MS σ3 b n (psW b n (xst 12) (0, -1, tA b n A)) := m3
    have k13 : mkp σa σ3 := mkp_t (msp_m ms) mk3
    -- from block 8 on
    have fin : ∀ (σ8 : x_S) (z : PS) (l2 : x_V), mkp σ3 σ8 → MS σ8 b n z → psN b n 0 39 z = psP b n fr (psW b n (xst 12) (0, -1, tA b n A)) → ((psP b n fr (psW b n (xst 12) (0, -1, tA b n A))).1 = 0 → z = psW b n (xst 12) (0, -1, tA b n A)) → x_Wp 8 188 (x_blk 188 8) [xR 50 0, xI (fr 0), l2, xU, xU, xU] [] σ8 Q := by
      intro σ8 z l2 mk8 m8 pz zy
      obtain ⟨r4, σ4, ⟨mk4, m4, v, hr4, vb, hv⟩, ev4⟩ := x_ex (h_mnum (lo := 0) (hi := 39) (by omega) (by omega) m8)
      subst hr4
      rw [pz] at m4 hv
      obtain ⟨r5, σ5, ⟨mk5, m5, ch, hr5, chb, hch⟩, ev5⟩ := x_ex (h_mtold (j := 27) (lo := 1) (hi := 100) (by decide) (by omega) (by omega) m4)
      subst hr5
      have m5' : MS σ5 b n (psK b n fr (0, -1, tA b n A)) := m5
      have hch' : (psK b n fr (0, -1, tA b n A)).1 = 0 → ch = psU b n (xst 13) (psP b n fr (psW b n (xst 12) (0, -1, tA b n A))) := hch
      have kk5 : mkp σa σ5 := mkp_t k13 (mkp_t mk8 (mkp_t mk4 mk5))
      obtain ⟨r6, σ6, ⟨hr6, m6, eq6, k6, v0, v1, v2, v3, w6, hd⟩, ev6⟩ := x_ex (h_mdoes (k := 16 + 13 * fr 0) (by omega) m5')
      subst hr6
      rw [mkp_o kk5 (by omega), a6] at w6
      have f6 : mlF σ σ6 := mlF_t fa (mlF_t (mlF_m kk5) ⟨eqo_mono (by simp) eq6, k6⟩)
      have s8 : σ6 58 0 = td := by rw [eq6 58 0 (by simp), mkp_o kk5 (by omega), a8]
      have s7 : σ6 57 0 = w_up wo (fr 0) (tF b n A) := by rw [eq6 57 0 (by simp), mkp_o kk5 (by omega), a7]
      have m12 := m6.2.1.1
      have m12r := m6.2.2.1
      have kg6 := fun (d' : Nat) (Q' : Option x_V → x_S → Prop) => k_good (d := d') (σ := σ6) (Q := Q') (by rw [m12]; exact m12r)
      by_cases zz : (psD b n (psK b n fr (0, -1, tA b n A))).1 = 0
      · have pd := psD_c zz
        have pt := psT_c (b := b) (n := n) (s := xst 13) (lo := 1) (hi := 100) (x := psP b n fr (psW b n (xst 12) (0, -1, tA b n A))) pd.1
        have pp := psP_c pt.1
        have ev' : v = psV b n (psW b n (xst 12) (0, -1, tA b n A)) := by
          have := hv pt.1
          rw [zy pt.1] at this
          exact this
        have ech := hch' pd.1
        have dv := hd zz
        have hy : mayF fr v := by rw [ev']; exact pp.2.2
        have ou := wf_f hw hy.1.1 hy.1.2
        unfold wf_one at ou
        have hu := hy.1
        have h7 := hy.2.2
        simp only [if_pos (m12.trans zz)] at kg6
        have q6 : σ6 56 0 (16 + 13 * v + 6) = w_of fr v 6 := by
          rw [w6, up_ne (by omega), up_ne (by omega), up_ne (by omega), up_ne (by omega)]
          rfl
        have q7 : σ6 56 0 (16 + 13 * v + 7) = w_of fr v 7 := by
          rw [w6, up_ne (by omega), up_ne (by omega), up_ne (by omega), up_ne (by omega)]
          rfl
        have q0 : σ6 56 0 0 = fr 0 := by
          rw [w6, up_ne (by omega), up_ne (by omega), up_ne (by omega), up_ne (by omega)]
        have F := hQ none (x_st (x_st (x_st (x_st (x_st (x_st (x_st σ6 56 0 (16 + 13 * fr 0 + 0) v) 56 0 (16 + 13 * fr 0 + 1) ch) 56 0 (16 + 13 * fr 0 + 6) (w_of fr v 6 + 1)) 56 0 (16 + 13 * fr 0 + 7) 0) 56 0 (16 + 13 * v + 8 + w_of fr v 7) (fr 0)) 56 0 (16 + 13 * v + 7) (w_of fr v 7 + 1)) 56 0 0 (fr 0 + 1)) ⟨rfl, mlF_t f6 (mlF_t (mlF_s (by omega)) (mlF_t (mlF_s (by omega)) (mlF_t (mlF_s (by omega)) (mlF_t (mlF_s (by omega)) (mlF_t (mlF_s (by omega)) (mlF_t (mlF_s (by omega)) (mlF_s (by omega)))))))), by rw [x_rd_eq]; omega, Or.inr ⟨mr, ?_, fun _ => ⟨?_, ?_, v0, v1, v2, v3, dv, ?_⟩⟩⟩
        · generalize w_of fr v 6 = g6 at q6 F ou
          generalize w_of fr v 7 = g7 at q7 F ou h7
          generalize fr 0 = m at ev6 q0 F mr hm hu
          rw [bk_188_8]
          simp (disch := first | omega | (simp only [x_wtI, x_wtJ, x_wtR, x_wtN]; omega) | assumption | (simp (disch := omega) only [x_st_o, x_rd_ne]; first | assumption | omega) | (apply mir_eq; assumption; (intro c h1 h2; simp (disch := omega) only [x_st_o])) | (apply mis_eq; assumption; (intro c h1 h2; simp (disch := omega) only [x_st_o])) | rfl) only [bk_188_0, bk_188_1, bk_188_2, bk_188_3, bk_188_4, bk_188_5, bk_188_6, bk_188_7, bk_188_8, bk_188_9, wp_ald0, wr_50_14, wp_ic, wl_56, wl_57, wp_cald, wp_ist1, wp_ild1, wp_icne, wk_182, wp_fall, wk_177, wp_ifne, wp_ret, wr_50_15, wp_geti kd_50, ws_56, ws_57, wk_175, wp_lds, wk_186, wp_ifeq, wp_icge, wp_goto, wp_ist2, wp_ild2, wp_imul, wp_iadd, wk_184, wk_185, wp_ist3, wp_ist4, wp_ild4, wk_187, wp_ist5, wp_ild3, wp_ild5, wp_dup2, x_clr_I, x_clr_J, x_clr_R, x_clr_U, ct_some, ct_none, lc_lt, lc_ge, lc_gt, lc_le, lc_eq, lc_r, xI_inj, xJ_inj, Option.some.injEq, eq_self, bi_r, bi_0, bi_1, bi_n, Classical.not_not, and_true, true_and, ite_true, ite_false, ↓reduceIte, ↓x_andl, z_le, z_nle, z_lt, z_nlt, z_eq, z_neq, if_pos, if_neg, x_andl, false_and, and_false, or_true, true_or, or_false, false_or, not_true, not_false_iff, x_rd_eq, x_rd_ne, x_st_o, Int.cast_ofNat_Int, Int.ofNat_zero, Int.ofNat_one, not_true_eq_false, not_false_eq_true, if_true, if_false, ite_self, and_self, Int.ofNat_eq_natCast, Int.tdiv_eq_ediv_of_nonneg, Int.tmod_eq_emod_of_nonneg, x_bm32]
          refine (ev4 3 _).mpr ?_
          simp (disch := first | omega | (simp only [x_wtI, x_wtJ, x_wtR, x_wtN]; omega) | assumption | (simp (disch := omega) only [x_st_o, x_rd_ne]; first | assumption | omega) | (apply mir_eq; assumption; (intro c h1 h2; simp (disch := omega) only [x_st_o])) | (apply mis_eq; assumption; (intro c h1 h2; simp (disch := omega) only [x_st_o])) | rfl) only [bk_188_0, bk_188_1, bk_188_2, bk_188_3, bk_188_4, bk_188_5, bk_188_6, bk_188_7, bk_188_8, bk_188_9, wp_ald0, wr_50_14, wp_ic, wl_56, wl_57, wp_cald, wp_ist1, wp_ild1, wp_icne, wk_182, wp_fall, wk_177, wp_ifne, wp_ret, wr_50_15, wp_geti kd_50, ws_56, ws_57, wk_175, wp_lds, wk_186, wp_ifeq, wp_icge, wp_goto, wp_ist2, wp_ild2, wp_imul, wp_iadd, wk_184, wk_185, wp_ist3, wp_ist4, wp_ild4, wk_187, wp_ist5, wp_ild3, wp_ild5, wp_dup2, x_clr_I, x_clr_J, x_clr_R, x_clr_U, ct_some, ct_none, lc_lt, lc_ge, lc_gt, lc_le, lc_eq, lc_r, xI_inj, xJ_inj, Option.some.injEq, eq_self, bi_r, bi_0, bi_1, bi_n, Classical.not_not, and_true, true_and, ite_true, ite_false, ↓reduceIte, ↓x_andl, z_le, z_nle, z_lt, z_nlt, z_eq, z_neq, if_pos, if_neg, x_andl, false_and, and_false, or_true, true_or, or_false, false_or, not_true, not_false_iff, x_rd_eq, x_rd_ne, x_st_o, Int.cast_ofNat_Int, Int.ofNat_zero, Int.ofNat_one, not_true_eq_false, not_false_eq_true, if_true, if_false, ite_self, and_self, Int.ofNat_eq_natCast, Int.tdiv_eq_ediv_of_nonneg, Int.tmod_eq_emod_of_nonneg, x_bm32]
          refine (ev5 1 _).mpr ?_
          simp (disch := first | omega | (simp only [x_wtI, x_wtJ, x_wtR, x_wtN]; omega) | assumption | (simp (disch := omega) only [x_st_o, x_rd_ne]; first | assumption | omega) | (apply mir_eq; assumption; (intro c h1 h2; simp (disch := omega) only [x_st_o])) | (apply mis_eq; assumption; (intro c h1 h2; simp (disch := omega) only [x_st_o])) | rfl) only [bk_188_0, bk_188_1, bk_188_2, bk_188_3, bk_188_4, bk_188_5, bk_188_6, bk_188_7, bk_188_8, bk_188_9, wp_ald0, wr_50_14, wp_ic, wl_56, wl_57, wp_cald, wp_ist1, wp_ild1, wp_icne, wk_182, wp_fall, wk_177, wp_ifne, wp_ret, wr_50_15, wp_geti kd_50, ws_56, ws_57, wk_175, wp_lds, wk_186, wp_ifeq, wp_icge, wp_goto, wp_ist2, wp_ild2, wp_imul, wp_iadd, wk_184, wk_185, wp_ist3, wp_ist4, wp_ild4, wk_187, wp_ist5, wp_ild3, wp_ild5, wp_dup2, x_clr_I, x_clr_J, x_clr_R, x_clr_U, ct_some, ct_none, lc_lt, lc_ge, lc_gt, lc_le, lc_eq, lc_r, xI_inj, xJ_inj, Option.some.injEq, eq_self, bi_r, bi_0, bi_1, bi_n, Classical.not_not, and_true, true_and, ite_true, ite_false, ↓reduceIte, ↓x_andl, z_le, z_nle, z_lt, z_nlt, z_eq, z_neq, if_pos, if_neg, x_andl, false_and, and_false, or_true, true_or, or_false, false_or, not_true, not_false_iff, x_rd_eq, x_rd_ne, x_st_o, Int.cast_ofNat_Int, Int.ofNat_zero, Int.ofNat_one, not_true_eq_false, not_false_eq_true, if_true, if_false, ite_self, and_self, Int.ofNat_eq_natCast, Int.tdiv_eq_ediv_of_nonneg, Int.tmod_eq_emod_of_nonneg, x_bm32]
          refine (ev6 0 _).mpr ?_
          simp (disch := first | omega | (simp only [x_wtI, x_wtJ, x_wtR, x_wtN]; omega) | assumption | (simp (disch := omega) only [x_st_o, x_rd_ne]; first | assumption | omega) | (apply mir_eq; assumption; (intro c h1 h2; simp (disch := omega) only [x_st_o])) | (apply mis_eq; assumption; (intro c h1 h2; simp (disch := omega) only [x_st_o])) | rfl) only [bk_188_0, bk_188_1, bk_188_2, bk_188_3, bk_188_4, bk_188_5, bk_188_6, bk_188_7, bk_188_8, bk_188_9, wp_ald0, wr_50_14, wp_ic, wl_56, wl_57, wp_cald, wp_ist1, wp_ild1, wp_icne, wk_182, wp_fall, wk_177, wp_ifne, wp_ret, wr_50_15, wp_geti kd_50, ws_56, ws_57, wk_175, wp_lds, wk_186, wp_ifeq, wp_icge, wp_goto, wp_ist2, wp_ild2, wp_imul, wp_iadd, wk_184, wk_185, wp_ist3, wp_ist4, wp_ild4, wk_187, wp_ist5, wp_ild3, wp_ild5, wp_dup2, x_clr_I, x_clr_J, x_clr_R, x_clr_U, ct_some, ct_none, lc_lt, lc_ge, lc_gt, lc_le, lc_eq, lc_r, xI_inj, xJ_inj, Option.some.injEq, eq_self, bi_r, bi_0, bi_1, bi_n, Classical.not_not, and_true, true_and, ite_true, ite_false, ↓reduceIte, ↓x_andl, z_le, z_nle, z_lt, z_nlt, z_eq, z_neq, if_pos, if_neg, x_andl, false_and, and_false, or_true, true_or, or_false, false_or, not_true, not_false_iff, x_rd_eq, x_rd_ne, x_st_o, Int.cast_ofNat_Int, Int.ofNat_zero, Int.ofNat_one, not_true_eq_false, not_false_eq_true, if_true, if_false, ite_self, and_self, Int.ofNat_eq_natCast, Int.tdiv_eq_ediv_of_nonneg, Int.tmod_eq_emod_of_nonneg, x_bm32, kg6, q6, q7, q0]
          exact F
        · exact MS_e m6 (by rw [x_st_o (by omega), x_st_o (by omega), x_st_o (by omega), x_st_o (by omega), x_st_o (by omega), x_st_o (by omega), x_st_o (by omega)]) (by rw [x_st_o (by omega), x_st_o (by omega), x_st_o (by omega), x_st_o (by omega), x_st_o (by omega), x_st_o (by omega), x_st_o (by omega)])
        · rw [x_st_o (by omega), x_st_o (by omega), x_st_o (by omega), x_st_o (by omega), x_st_o (by omega), x_st_o (by omega), x_st_o (by omega), s8]
        · rw [x_st_o (by omega), x_st_o (by omega), x_st_o (by omega), x_st_o (by omega), x_st_o (by omega), x_st_o (by omega), x_st_o (by omega), s7]
        · rw [x_st_w, x_st_w, x_st_w, x_st_w, x_st_w, x_st_w, x_st_w, w6, ← ev', ← ech]
          rfl
      · have F := hQ none σ6 ⟨rfl, f6, by rw [w6, up_ne (by omega), up_ne (by omega), up_ne (by omega), up_ne (by omega)]; exact mb, Or.inr ⟨mr, m6, fun y => absurd y zz⟩⟩
        simp only [if_neg (show ¬ σ6 50 0 12 = 0 by rw [m12]; exact zz)] at kg6
        generalize fr 0 = m at ev6 mr hm
        rw [bk_188_8]
        simp (disch := first | omega | (simp only [x_wtI, x_wtJ, x_wtR, x_wtN]; omega) | assumption | (simp (disch := omega) only [x_st_o, x_rd_ne]; first | assumption | omega) | (apply mir_eq; assumption; (intro c h1 h2; simp (disch := omega) only [x_st_o])) | (apply mis_eq; assumption; (intro c h1 h2; simp (disch := omega) only [x_st_o])) | rfl) only [bk_188_0, bk_188_1, bk_188_2, bk_188_3, bk_188_4, bk_188_5, bk_188_6, bk_188_7, bk_188_8, bk_188_9, wp_ald0, wr_50_14, wp_ic, wl_56, wl_57, wp_cald, wp_ist1, wp_ild1, wp_icne, wk_182, wp_fall, wk_177, wp_ifne, wp_ret, wr_50_15, wp_geti kd_50, ws_56, ws_57, wk_175, wp_lds, wk_186, wp_ifeq, wp_icge, wp_goto, wp_ist2, wp_ild2, wp_imul, wp_iadd, wk_184, wk_185, wp_ist3, wp_ist4, wp_ild4, wk_187, wp_ist5, wp_ild3, wp_ild5, wp_dup2, x_clr_I, x_clr_J, x_clr_R, x_clr_U, ct_some, ct_none, lc_lt, lc_ge, lc_gt, lc_le, lc_eq, lc_r, xI_inj, xJ_inj, Option.some.injEq, eq_self, bi_r, bi_0, bi_1, bi_n, Classical.not_not, and_true, true_and, ite_true, ite_false, ↓reduceIte, ↓x_andl, z_le, z_nle, z_lt, z_nlt, z_eq, z_neq, if_pos, if_neg, x_andl, false_and, and_false, or_true, true_or, or_false, false_or, not_true, not_false_iff, x_rd_eq, x_rd_ne, x_st_o, Int.cast_ofNat_Int, Int.ofNat_zero, Int.ofNat_one, not_true_eq_false, not_false_eq_true, if_true, if_false, ite_self, and_self, Int.ofNat_eq_natCast, Int.tdiv_eq_ediv_of_nonneg, Int.tmod_eq_emod_of_nonneg, x_bm32]
        refine (ev4 3 _).mpr ?_
        simp (disch := first | omega | (simp only [x_wtI, x_wtJ, x_wtR, x_wtN]; omega) | assumption | (simp (disch := omega) only [x_st_o, x_rd_ne]; first | assumption | omega) | (apply mir_eq; assumption; (intro c h1 h2; simp (disch := omega) only [x_st_o])) | (apply mis_eq; assumption; (intro c h1 h2; simp (disch := omega) only [x_st_o])) | rfl) only [bk_188_0, bk_188_1, bk_188_2, bk_188_3, bk_188_4, bk_188_5, bk_188_6, bk_188_7, bk_188_8, bk_188_9, wp_ald0, wr_50_14, wp_ic, wl_56, wl_57, wp_cald, wp_ist1, wp_ild1, wp_icne, wk_182, wp_fall, wk_177, wp_ifne, wp_ret, wr_50_15, wp_geti kd_50, ws_56, ws_57, wk_175, wp_lds, wk_186, wp_ifeq, wp_icge, wp_goto, wp_ist2, wp_ild2, wp_imul, wp_iadd, wk_184, wk_185, wp_ist3, wp_ist4, wp_ild4, wk_187, wp_ist5, wp_ild3, wp_ild5, wp_dup2, x_clr_I, x_clr_J, x_clr_R, x_clr_U, ct_some, ct_none, lc_lt, lc_ge, lc_gt, lc_le, lc_eq, lc_r, xI_inj, xJ_inj, Option.some.injEq, eq_self, bi_r, bi_0, bi_1, bi_n, Classical.not_not, and_true, true_and, ite_true, ite_false, ↓reduceIte, ↓x_andl, z_le, z_nle, z_lt, z_nlt, z_eq, z_neq, if_pos, if_neg, x_andl, false_and, and_false, or_true, true_or, or_false, false_or, not_true, not_false_iff, x_rd_eq, x_rd_ne, x_st_o, Int.cast_ofNat_Int, Int.ofNat_zero, Int.ofNat_one, not_true_eq_false, not_false_eq_true, if_true, if_false, ite_self, and_self, Int.ofNat_eq_natCast, Int.tdiv_eq_ediv_of_nonneg, Int.tmod_eq_emod_of_nonneg, x_bm32]
        refine (ev5 1 _).mpr ?_
        simp (disch := first | omega | (simp only [x_wtI, x_wtJ, x_wtR, x_wtN]; omega) | assumption | (simp (disch := omega) only [x_st_o, x_rd_ne]; first | assumption | omega) | (apply mir_eq; assumption; (intro c h1 h2; simp (disch := omega) only [x_st_o])) | (apply mis_eq; assumption; (intro c h1 h2; simp (disch := omega) only [x_st_o])) | rfl) only [bk_188_0, bk_188_1, bk_188_2, bk_188_3, bk_188_4, bk_188_5, bk_188_6, bk_188_7, bk_188_8, bk_188_9, wp_ald0, wr_50_14, wp_ic, wl_56, wl_57, wp_cald, wp_ist1, wp_ild1, wp_icne, wk_182, wp_fall, wk_177, wp_ifne, wp_ret, wr_50_15, wp_geti kd_50, ws_56, ws_57, wk_175, wp_lds, wk_186, wp_ifeq, wp_icge, wp_goto, wp_ist2, wp_ild2, wp_imul, wp_iadd, wk_184, wk_185, wp_ist3, wp_ist4, wp_ild4, wk_187, wp_ist5, wp_ild3, wp_ild5, wp_dup2, x_clr_I, x_clr_J, x_clr_R, x_clr_U, ct_some, ct_none, lc_lt, lc_ge, lc_gt, lc_le, lc_eq, lc_r, xI_inj, xJ_inj, Option.some.injEq, eq_self, bi_r, bi_0, bi_1, bi_n, Classical.not_not, and_true, true_and, ite_true, ite_false, ↓reduceIte, ↓x_andl, z_le, z_nle, z_lt, z_nlt, z_eq, z_neq, if_pos, if_neg, x_andl, false_and, and_false, or_true, true_or, or_false, false_or, not_true, not_false_iff, x_rd_eq, x_rd_ne, x_st_o, Int.cast_ofNat_Int, Int.ofNat_zero, Int.ofNat_one, not_true_eq_false, not_false_eq_true, if_true, if_false, ite_self, and_self, Int.ofNat_eq_natCast, Int.tdiv_eq_ediv_of_nonneg, Int.tmod_eq_emod_of_nonneg, x_bm32]
        refine (ev6 0 _).mpr ?_
        simp (disch := first | omega | (simp only [x_wtI, x_wtJ, x_wtR, x_wtN]; omega) | assumption | (simp (disch := omega) only [x_st_o, x_rd_ne]; first | assumption | omega) | (apply mir_eq; assumption; (intro c h1 h2; simp (disch := omega) only [x_st_o])) | (apply mis_eq; assumption; (intro c h1 h2; simp (disch := omega) only [x_st_o])) | rfl) only [bk_188_0, bk_188_1, bk_188_2, bk_188_3, bk_188_4, bk_188_5, bk_188_6, bk_188_7, bk_188_8, bk_188_9, wp_ald0, wr_50_14, wp_ic, wl_56, wl_57, wp_cald, wp_ist1, wp_ild1, wp_icne, wk_182, wp_fall, wk_177, wp_ifne, wp_ret, wr_50_15, wp_geti kd_50, ws_56, ws_57, wk_175, wp_lds, wk_186, wp_ifeq, wp_icge, wp_goto, wp_ist2, wp_ild2, wp_imul, wp_iadd, wk_184, wk_185, wp_ist3, wp_ist4, wp_ild4, wk_187, wp_ist5, wp_ild3, wp_ild5, wp_dup2, x_clr_I, x_clr_J, x_clr_R, x_clr_U, ct_some, ct_none, lc_lt, lc_ge, lc_gt, lc_le, lc_eq, lc_r, xI_inj, xJ_inj, Option.some.injEq, eq_self, bi_r, bi_0, bi_1, bi_n, Classical.not_not, and_true, true_and, ite_true, ite_false, ↓reduceIte, ↓x_andl, z_le, z_nle, z_lt, z_nlt, z_eq, z_neq, if_pos, if_neg, x_andl, false_and, and_false, or_true, true_or, or_false, false_or, not_true, not_false_iff, x_rd_eq, x_rd_ne, x_st_o, Int.cast_ofNat_Int, Int.ofNat_zero, Int.ofNat_one, not_true_eq_false, not_false_eq_true, if_true, if_false, ite_self, and_self, Int.ofNat_eq_natCast, Int.tdiv_eq_ediv_of_nonneg, Int.tmod_eq_emod_of_nonneg, x_bm32, kg6]
        exact F
    -- from block 3 on
    have mid : x_Wp 8 188 (x_blk 188 3) [xR 50 0, xI (fr 0), xU, xU, xU, xU] [] σ3 Q := by
      obtain ⟨hB3, ⟨y12, y13⟩, hc3, hx3, y10⟩ := id m3'
      have kg3 := fun (d' : Nat) (Q' : Option x_V → x_S → Prop) => k_good (d := d') (σ := σ3) (Q := Q') (by rw [y12]; exact hc3)
      have kw3 := fun (d' : Nat) (Q' : Option x_V → x_S → Prop) => k_wrong (d := d') (σ := σ3) (Q := Q') (c := 2) (by rw [y12]; exact hc3)
      have w3 : σ3 56 0 = fr := by rw [mkp_o k13 (by omega), a6]
      generalize hy : psW b n (xst 12) (0, -1, tA b n A) = y at fin m3' y12 y13 hc3 hx3
      by_cases c0 : y.1 = 0
      · obtain ⟨pr3, hm3, u9, u10, u8, u11⟩ := hx3 c0
        simp only [if_pos (y12.trans c0)] at kg3 kw3
        by_cases ck : tK b n y.2.2 = 2
        · obtain ⟨my, v9, v5, v39⟩ := may9 hW pr3.2 ck
          have ev := u11 ck
          have eps : psV b n y = nv 100000 b (tF b n y.2.2) (tA b n y.2.2) := rfl
          rw [← eps] at my v5 v39
          rw [ck] at u10
          by_cases cm : mayF fr (psV b n y)
          · have ps : psP b n fr y = (0, -1, tA b n y.2.2) := by
              unfold psP
              rw [if_neg (fun z => z c0), if_neg (fun z => z ck), if_neg (fun z => z cm)]
            have pn : psN b n 0 39 y = (0, -1, tA b n y.2.2) := by
              unfold psN
              rw [if_neg (fun z => z c0), if_neg (fun z => z ck), if_neg (fun z => z ⟨v5, v39 cm⟩)]
            have K := fin σ3 y (xI 1) mkp_r m3' (pn.trans ps.symm) (fun _ => rfl)
            have cm9 := my.mpr cm
            generalize nv 9999 b (tF b n y.2.2) (tA b n y.2.2) = w at ev v9 cm9
            have hu := cm9.1
            have ou := wf_f hw hu.1 hu.2
            unfold wf_one at ou
            have o6 := cm9.2.1
            have o7 := cm9.2.2
            have q6 : σ3 56 0 (16 + 13 * w + 6) = w_of fr w 6 := by rw [w3]; rfl
            have q7 : σ3 56 0 (16 + 13 * w + 7) = w_of fr w 7 := by rw [w3]; rfl
            clear cm9 my v39 cm eps v5
            generalize w_of fr w 6 = g6 at q6 ou o6
            generalize w_of fr w 7 = g7 at q7 ou o7
            generalize fr 0 = m at K mr hm hu
            rw [bk_188_3]
            simp (disch := first | omega | (simp only [x_wtI, x_wtJ, x_wtR, x_wtN]; omega) | assumption | (simp (disch := omega) only [x_st_o, x_rd_ne]; first | assumption | omega) | (apply mir_eq; assumption; (intro c h1 h2; simp (disch := omega) only [x_st_o])) | (apply mis_eq; assumption; (intro c h1 h2; simp (disch := omega) only [x_st_o])) | rfl) only [bk_188_0, bk_188_1, bk_188_2, bk_188_3, bk_188_4, bk_188_5, bk_188_6, bk_188_7, bk_188_9, wp_ald0, wr_50_14, wp_ic, wl_56, wl_57, wp_cald, wp_ist1, wp_ild1, wp_icne, wk_182, wp_fall, wk_177, wp_ifne, wp_ret, wr_50_15, wp_geti kd_50, ws_56, ws_57, wk_175, wp_lds, wk_186, wp_ifeq, wp_icge, wp_goto, wp_ist2, wp_ild2, wp_imul, wp_iadd, wk_184, wk_185, wp_ist3, wp_ist4, wp_ild4, wk_187, wp_ist5, wp_ild3, wp_ild5, wp_dup2, x_clr_I, x_clr_J, x_clr_R, x_clr_U, ct_some, ct_none, lc_lt, lc_ge, lc_gt, lc_le, lc_eq, lc_r, xI_inj, xJ_inj, Option.some.injEq, eq_self, bi_r, bi_0, bi_1, bi_n, Classical.not_not, and_true, true_and, ite_true, ite_false, ↓reduceIte, ↓x_andl, z_le, z_nle, z_lt, z_nlt, z_eq, z_neq, if_pos, if_neg, x_andl, false_and, and_false, or_true, true_or, or_false, false_or, not_true, not_false_iff, x_rd_eq, x_rd_ne, x_st_o, Int.cast_ofNat_Int, Int.ofNat_zero, Int.ofNat_one, not_true_eq_false, not_false_eq_true, if_true, if_false, ite_self, and_self, Int.ofNat_eq_natCast, Int.tdiv_eq_ediv_of_nonneg, Int.tmod_eq_emod_of_nonneg, x_bm32, kg3, u10, ev, q6, q7]
            exact K
          · have ps : psP b n fr y = (2, tF b n y.2.2, y.2.2) := by
              unfold psP
              rw [if_neg (fun z => z c0), if_neg (fun z => z ck), if_pos cm]
            obtain ⟨mk, e9, m2⟩ := MS_f (c := 2) m3' c0 (by omega)
            have pn : psN b n 0 39 (2, tF b n y.2.2, y.2.2) = psP b n fr y := by rw [ps]; exact psN_f ne12'
            have K := fin _ (2, tF b n y.2.2, y.2.2) (xI 0) mk m2 pn (fun z => by rw [ps] at z; exact absurd z ne12')
            have cm9 := mt my.mp cm
            generalize nv 9999 b (tF b n y.2.2) (tA b n y.2.2) = w at ev v9 cm9
            by_cases hu : w < fr 0
            · have ou := wf_f hw v9.1 hu
              unfold wf_one at ou
              have q6 : σ3 56 0 (16 + 13 * w + 6) = w_of fr w 6 := by rw [w3]; rfl
              have q7 : σ3 56 0 (16 + 13 * w + 7) = w_of fr w 7 := by rw [w3]; rfl
              have o67 : ¬ w_of fr w 6 < 4 ∨ ¬ w_of fr w 7 < 5 := by
                by_cases y1 : w_of fr w 6 < 4
                · exact Or.inr (fun y2 => cm9 ⟨⟨v9.1, hu⟩, y1, y2⟩)
                · exact Or.inl y1
              clear cm9 my v39 cm eps v5
              generalize w_of fr w 6 = g6 at q6 ou o67
              generalize w_of fr w 7 = g7 at q7 ou o67
              generalize fr 0 = m at K mr hm hu
              rw [bk_188_3]
              by_cases y1 : g6 < 4
              · simp (disch := first | omega | (simp only [x_wtI, x_wtJ, x_wtR, x_wtN]; omega) | assumption | (simp (disch := omega) only [x_st_o, x_rd_ne]; first | assumption | omega) | (apply mir_eq; assumption; (intro c h1 h2; simp (disch := omega) only [x_st_o])) | (apply mis_eq; assumption; (intro c h1 h2; simp (disch := omega) only [x_st_o])) | rfl) only [bk_188_0, bk_188_1, bk_188_2, bk_188_3, bk_188_4, bk_188_5, bk_188_6, bk_188_7, bk_188_9, wp_ald0, wr_50_14, wp_ic, wl_56, wl_57, wp_cald, wp_ist1, wp_ild1, wp_icne, wk_182, wp_fall, wk_177, wp_ifne, wp_ret, wr_50_15, wp_geti kd_50, ws_56, ws_57, wk_175, wp_lds, wk_186, wp_ifeq, wp_icge, wp_goto, wp_ist2, wp_ild2, wp_imul, wp_iadd, wk_184, wk_185, wp_ist3, wp_ist4, wp_ild4, wk_187, wp_ist5, wp_ild3, wp_ild5, wp_dup2, x_clr_I, x_clr_J, x_clr_R, x_clr_U, ct_some, ct_none, lc_lt, lc_ge, lc_gt, lc_le, lc_eq, lc_r, xI_inj, xJ_inj, Option.some.injEq, eq_self, bi_r, bi_0, bi_1, bi_n, Classical.not_not, and_true, true_and, ite_true, ite_false, ↓reduceIte, ↓x_andl, z_le, z_nle, z_lt, z_nlt, z_eq, z_neq, if_pos, if_neg, x_andl, false_and, and_false, or_true, true_or, or_false, false_or, not_true, not_false_iff, x_rd_eq, x_rd_ne, x_st_o, Int.cast_ofNat_Int, Int.ofNat_zero, Int.ofNat_one, not_true_eq_false, not_false_eq_true, if_true, if_false, ite_self, and_self, Int.ofNat_eq_natCast, Int.tdiv_eq_ediv_of_nonneg, Int.tmod_eq_emod_of_nonneg, x_bm32, kg3, u10, ev, q6, q7, kw3]
                exact K
              · simp (disch := first | omega | (simp only [x_wtI, x_wtJ, x_wtR, x_wtN]; omega) | assumption | (simp (disch := omega) only [x_st_o, x_rd_ne]; first | assumption | omega) | (apply mir_eq; assumption; (intro c h1 h2; simp (disch := omega) only [x_st_o])) | (apply mis_eq; assumption; (intro c h1 h2; simp (disch := omega) only [x_st_o])) | rfl) only [bk_188_0, bk_188_1, bk_188_2, bk_188_3, bk_188_4, bk_188_5, bk_188_6, bk_188_7, bk_188_9, wp_ald0, wr_50_14, wp_ic, wl_56, wl_57, wp_cald, wp_ist1, wp_ild1, wp_icne, wk_182, wp_fall, wk_177, wp_ifne, wp_ret, wr_50_15, wp_geti kd_50, ws_56, ws_57, wk_175, wp_lds, wk_186, wp_ifeq, wp_icge, wp_goto, wp_ist2, wp_ild2, wp_imul, wp_iadd, wk_184, wk_185, wp_ist3, wp_ist4, wp_ild4, wk_187, wp_ist5, wp_ild3, wp_ild5, wp_dup2, x_clr_I, x_clr_J, x_clr_R, x_clr_U, ct_some, ct_none, lc_lt, lc_ge, lc_gt, lc_le, lc_eq, lc_r, xI_inj, xJ_inj, Option.some.injEq, eq_self, bi_r, bi_0, bi_1, bi_n, Classical.not_not, and_true, true_and, ite_true, ite_false, ↓reduceIte, ↓x_andl, z_le, z_nle, z_lt, z_nlt, z_eq, z_neq, if_pos, if_neg, x_andl, false_and, and_false, or_true, true_or, or_false, false_or, not_true, not_false_iff, x_rd_eq, x_rd_ne, x_st_o, Int.cast_ofNat_Int, Int.ofNat_zero, Int.ofNat_one, not_true_eq_false, not_false_eq_true, if_true, if_false, ite_self, and_self, Int.ofNat_eq_natCast, Int.tdiv_eq_ediv_of_nonneg, Int.tmod_eq_emod_of_nonneg, x_bm32, kg3, u10, ev, q6, kw3]
                exact K
            · clear cm9 my v39 cm eps v5
              generalize fr 0 = m at K mr hm hu
              rw [bk_188_3]
              simp (disch := first | omega | (simp only [x_wtI, x_wtJ, x_wtR, x_wtN]; omega) | assumption | (simp (disch := omega) only [x_st_o, x_rd_ne]; first | assumption | omega) | (apply mir_eq; assumption; (intro c h1 h2; simp (disch := omega) only [x_st_o])) | (apply mis_eq; assumption; (intro c h1 h2; simp (disch := omega) only [x_st_o])) | rfl) only [bk_188_0, bk_188_1, bk_188_2, bk_188_3, bk_188_4, bk_188_5, bk_188_6, bk_188_7, bk_188_9, wp_ald0, wr_50_14, wp_ic, wl_56, wl_57, wp_cald, wp_ist1, wp_ild1, wp_icne, wk_182, wp_fall, wk_177, wp_ifne, wp_ret, wr_50_15, wp_geti kd_50, ws_56, ws_57, wk_175, wp_lds, wk_186, wp_ifeq, wp_icge, wp_goto, wp_ist2, wp_ild2, wp_imul, wp_iadd, wk_184, wk_185, wp_ist3, wp_ist4, wp_ild4, wk_187, wp_ist5, wp_ild3, wp_ild5, wp_dup2, x_clr_I, x_clr_J, x_clr_R, x_clr_U, ct_some, ct_none, lc_lt, lc_ge, lc_gt, lc_le, lc_eq, lc_r, xI_inj, xJ_inj, Option.some.injEq, eq_self, bi_r, bi_0, bi_1, bi_n, Classical.not_not, and_true, true_and, ite_true, ite_false, ↓reduceIte, ↓x_andl, z_le, z_nle, z_lt, z_nlt, z_eq, z_neq, if_pos, if_neg, x_andl, false_and, and_false, or_true, true_or, or_false, false_or, not_true, not_false_iff, x_rd_eq, x_rd_ne, x_st_o, Int.cast_ofNat_Int, Int.ofNat_zero, Int.ofNat_one, not_true_eq_false, not_false_eq_true, if_true, if_false, ite_self, and_self, Int.ofNat_eq_natCast, Int.tdiv_eq_ediv_of_nonneg, Int.tmod_eq_emod_of_nonneg, x_bm32, kg3, u10, ev, kw3]
              exact K
        · have ps : psP b n fr y = (1, tF b n y.2.2, y.2.2) := by
            unfold psP
            rw [if_neg (fun z => z c0), if_pos ck]
          have pn : psN b n 0 39 y = (1, tF b n y.2.2, y.2.2) := by
            unfold psN
            rw [if_neg (fun z => z c0), if_pos ck]
          have K := fin σ3 y xU mkp_r m3' (pn.trans ps.symm) (fun _ => rfl)
          have kb := tK_b (b := b) pr3.2
          generalize tK b n y.2.2 = tk at u10 ck kb
          generalize fr 0 = m at K mr hm
          rw [bk_188_3]
          simp (disch := first | omega | (simp only [x_wtI, x_wtJ, x_wtR, x_wtN]; omega) | assumption | (simp (disch := omega) only [x_st_o, x_rd_ne]; first | assumption | omega) | (apply mir_eq; assumption; (intro c h1 h2; simp (disch := omega) only [x_st_o])) | (apply mis_eq; assumption; (intro c h1 h2; simp (disch := omega) only [x_st_o])) | rfl) only [bk_188_0, bk_188_1, bk_188_2, bk_188_3, bk_188_4, bk_188_5, bk_188_6, bk_188_7, bk_188_9, wp_ald0, wr_50_14, wp_ic, wl_56, wl_57, wp_cald, wp_ist1, wp_ild1, wp_icne, wk_182, wp_fall, wk_177, wp_ifne, wp_ret, wr_50_15, wp_geti kd_50, ws_56, ws_57, wk_175, wp_lds, wk_186, wp_ifeq, wp_icge, wp_goto, wp_ist2, wp_ild2, wp_imul, wp_iadd, wk_184, wk_185, wp_ist3, wp_ist4, wp_ild4, wk_187, wp_ist5, wp_ild3, wp_ild5, wp_dup2, x_clr_I, x_clr_J, x_clr_R, x_clr_U, ct_some, ct_none, lc_lt, lc_ge, lc_gt, lc_le, lc_eq, lc_r, xI_inj, xJ_inj, Option.some.injEq, eq_self, bi_r, bi_0, bi_1, bi_n, Classical.not_not, and_true, true_and, ite_true, ite_false, ↓reduceIte, ↓x_andl, z_le, z_nle, z_lt, z_nlt, z_eq, z_neq, if_pos, if_neg, x_andl, false_and, and_false, or_true, true_or, or_false, false_or, not_true, not_false_iff, x_rd_eq, x_rd_ne, x_st_o, Int.cast_ofNat_Int, Int.ofNat_zero, Int.ofNat_one, not_true_eq_false, not_false_eq_true, if_true, if_false, ite_self, and_self, Int.ofNat_eq_natCast, Int.tdiv_eq_ediv_of_nonneg, Int.tmod_eq_emod_of_nonneg, x_bm32, kg3, u10]
          exact K
      · have ps : psP b n fr y = y := if_pos c0
        have K := fin σ3 y xU mkp_r m3' ((psN_f c0).trans ps.symm) (fun _ => rfl)
        simp only [if_neg (show ¬ σ3 50 0 12 = 0 by rw [y12]; exact c0)] at kg3
        generalize fr 0 = m at K mr hm
        rw [bk_188_3]
        simp (disch := first | omega | (simp only [x_wtI, x_wtJ, x_wtR, x_wtN]; omega) | assumption | (simp (disch := omega) only [x_st_o, x_rd_ne]; first | assumption | omega) | (apply mir_eq; assumption; (intro c h1 h2; simp (disch := omega) only [x_st_o])) | (apply mis_eq; assumption; (intro c h1 h2; simp (disch := omega) only [x_st_o])) | rfl) only [bk_188_0, bk_188_1, bk_188_2, bk_188_3, bk_188_4, bk_188_5, bk_188_6, bk_188_7, bk_188_9, wp_ald0, wr_50_14, wp_ic, wl_56, wl_57, wp_cald, wp_ist1, wp_ild1, wp_icne, wk_182, wp_fall, wk_177, wp_ifne, wp_ret, wr_50_15, wp_geti kd_50, ws_56, ws_57, wk_175, wp_lds, wk_186, wp_ifeq, wp_icge, wp_goto, wp_ist2, wp_ild2, wp_imul, wp_iadd, wk_184, wk_185, wp_ist3, wp_ist4, wp_ild4, wk_187, wp_ist5, wp_ild3, wp_ild5, wp_dup2, x_clr_I, x_clr_J, x_clr_R, x_clr_U, ct_some, ct_none, lc_lt, lc_ge, lc_gt, lc_le, lc_eq, lc_r, xI_inj, xJ_inj, Option.some.injEq, eq_self, bi_r, bi_0, bi_1, bi_n, Classical.not_not, and_true, true_and, ite_true, ite_false, ↓reduceIte, ↓x_andl, z_le, z_nle, z_lt, z_nlt, z_eq, z_neq, if_pos, if_neg, x_andl, false_and, and_false, or_true, true_or, or_false, false_or, not_true, not_false_iff, x_rd_eq, x_rd_ne, x_st_o, Int.cast_ofNat_Int, Int.ofNat_zero, Int.ofNat_one, not_true_eq_false, not_false_eq_true, if_true, if_false, ite_self, and_self, Int.ofNat_eq_natCast, Int.tdiv_eq_ediv_of_nonneg, Int.tmod_eq_emod_of_nonneg, x_bm32, kg3]
        exact K
    rcases hr2 with ⟨hr2, hσ⟩ | ⟨hr2, ew⟩
    · subst hσ
      subst hr2
      generalize fr 0 = m at em mid mr hm hA c40
      simp (disch := first | omega | (simp only [x_wtI, x_wtJ, x_wtR, x_wtN]; omega) | assumption | (simp (disch := omega) only [x_st_o, x_rd_ne]; first | assumption | omega) | (apply mir_eq; assumption; (intro c h1 h2; simp (disch := omega) only [x_st_o])) | (apply mis_eq; assumption; (intro c h1 h2; simp (disch := omega) only [x_st_o])) | rfl) only [sp_188, bk_188_0, bk_188_1, bk_188_2, bk_188_4, bk_188_5, bk_188_6, bk_188_7, bk_188_8, bk_188_9, wp_ald0, wr_50_14, wp_ic, wl_56, wl_57, wp_cald, wp_ist1, wp_ild1, wp_icne, wk_182, wp_fall, wk_177, wp_ifne, wp_ret, wr_50_15, wp_geti kd_50, ws_56, ws_57, wk_175, wp_lds, wk_186, wp_ifeq, wp_icge, wp_goto, wp_ist2, wp_ild2, wp_imul, wp_iadd, wk_184, wk_185, wp_ist3, wp_ist4, wp_ild4, wk_187, wp_ist5, wp_ild3, wp_ild5, wp_dup2, x_clr_I, x_clr_J, x_clr_R, x_clr_U, ct_some, ct_none, lc_lt, lc_ge, lc_gt, lc_le, lc_eq, lc_r, xI_inj, xJ_inj, Option.some.injEq, eq_self, bi_r, bi_0, bi_1, bi_n, Classical.not_not, and_true, true_and, ite_true, ite_false, ↓reduceIte, ↓x_andl, z_le, z_nle, z_lt, z_nlt, z_eq, z_neq, if_pos, if_neg, x_andl, false_and, and_false, or_true, true_or, or_false, false_or, not_true, not_false_iff, x_rd_eq, x_rd_ne, x_st_o, Int.cast_ofNat_Int, Int.ofNat_zero, Int.ofNat_one, not_true_eq_false, not_false_eq_true, if_true, if_false, ite_self, and_self, Int.ofNat_eq_natCast, Int.tdiv_eq_ediv_of_nonneg, Int.tmod_eq_emod_of_nonneg, x_bm32, em, kg, t9, hA]
      refine (ev1 6 _).mpr ?_
      simp (disch := first | omega | (simp only [x_wtI, x_wtJ, x_wtR, x_wtN]; omega) | assumption | (simp (disch := omega) only [x_st_o, x_rd_ne]; first | assumption | omega) | (apply mir_eq; assumption; (intro c h1 h2; simp (disch := omega) only [x_st_o])) | (apply mis_eq; assumption; (intro c h1 h2; simp (disch := omega) only [x_st_o])) | rfl) only [bk_188_0, bk_188_1, bk_188_2, bk_188_4, bk_188_5, bk_188_6, bk_188_7, bk_188_8, bk_188_9, wp_ald0, wr_50_14, wp_ic, wl_56, wl_57, wp_cald, wp_ist1, wp_ild1, wp_icne, wk_182, wp_fall, wk_177, wp_ifne, wp_ret, wr_50_15, wp_geti kd_50, ws_56, ws_57, wk_175, wp_lds, wk_186, wp_ifeq, wp_icge, wp_goto, wp_ist2, wp_ild2, wp_imul, wp_iadd, wk_184, wk_185, wp_ist3, wp_ist4, wp_ild4, wk_187, wp_ist5, wp_ild3, wp_ild5, wp_dup2, x_clr_I, x_clr_J, x_clr_R, x_clr_U, ct_some, ct_none, lc_lt, lc_ge, lc_gt, lc_le, lc_eq, lc_r, xI_inj, xJ_inj, Option.some.injEq, eq_self, bi_r, bi_0, bi_1, bi_n, Classical.not_not, and_true, true_and, ite_true, ite_false, ↓reduceIte, ↓x_andl, z_le, z_nle, z_lt, z_nlt, z_eq, z_neq, if_pos, if_neg, x_andl, false_and, and_false, or_true, true_or, or_false, false_or, not_true, not_false_iff, x_rd_eq, x_rd_ne, x_st_o, Int.cast_ofNat_Int, Int.ofNat_zero, Int.ofNat_one, not_true_eq_false, not_false_eq_true, if_true, if_false, ite_self, and_self, Int.ofNat_eq_natCast, Int.tdiv_eq_ediv_of_nonneg, Int.tmod_eq_emod_of_nonneg, x_bm32]
      refine (ev2 2 _).mpr ?_
      simp (disch := first | omega | (simp only [x_wtI, x_wtJ, x_wtR, x_wtN]; omega) | assumption | (simp (disch := omega) only [x_st_o, x_rd_ne]; first | assumption | omega) | (apply mir_eq; assumption; (intro c h1 h2; simp (disch := omega) only [x_st_o])) | (apply mis_eq; assumption; (intro c h1 h2; simp (disch := omega) only [x_st_o])) | rfl) only [bk_188_0, bk_188_1, bk_188_2, bk_188_4, bk_188_5, bk_188_6, bk_188_7, bk_188_8, bk_188_9, wp_ald0, wr_50_14, wp_ic, wl_56, wl_57, wp_cald, wp_ist1, wp_ild1, wp_icne, wk_182, wp_fall, wk_177, wp_ifne, wp_ret, wr_50_15, wp_geti kd_50, ws_56, ws_57, wk_175, wp_lds, wk_186, wp_ifeq, wp_icge, wp_goto, wp_ist2, wp_ild2, wp_imul, wp_iadd, wk_184, wk_185, wp_ist3, wp_ist4, wp_ild4, wk_187, wp_ist5, wp_ild3, wp_ild5, wp_dup2, x_clr_I, x_clr_J, x_clr_R, x_clr_U, ct_some, ct_none, lc_lt, lc_ge, lc_gt, lc_le, lc_eq, lc_r, xI_inj, xJ_inj, Option.some.injEq, eq_self, bi_r, bi_0, bi_1, bi_n, Classical.not_not, and_true, true_and, ite_true, ite_false, ↓reduceIte, ↓x_andl, z_le, z_nle, z_lt, z_nlt, z_eq, z_neq, if_pos, if_neg, x_andl, false_and, and_false, or_true, true_or, or_false, false_or, not_true, not_false_iff, x_rd_eq, x_rd_ne, x_st_o, Int.cast_ofNat_Int, Int.ofNat_zero, Int.ofNat_one, not_true_eq_false, not_false_eq_true, if_true, if_false, ite_self, and_self, Int.ofNat_eq_natCast, Int.tdiv_eq_ediv_of_nonneg, Int.tmod_eq_emod_of_nonneg, x_bm32]
      exact mid
    · subst hr2
      generalize fr 0 = m at em mid mr hm hA c40
      simp (disch := first | omega | (simp only [x_wtI, x_wtJ, x_wtR, x_wtN]; omega) | assumption | (simp (disch := omega) only [x_st_o, x_rd_ne]; first | assumption | omega) | (apply mir_eq; assumption; (intro c h1 h2; simp (disch := omega) only [x_st_o])) | (apply mis_eq; assumption; (intro c h1 h2; simp (disch := omega) only [x_st_o])) | rfl) only [sp_188, bk_188_0, bk_188_1, bk_188_2, bk_188_4, bk_188_5, bk_188_6, bk_188_7, bk_188_8, bk_188_9, wp_ald0, wr_50_14, wp_ic, wl_56, wl_57, wp_cald, wp_ist1, wp_ild1, wp_icne, wk_182, wp_fall, wk_177, wp_ifne, wp_ret, wr_50_15, wp_geti kd_50, ws_56, ws_57, wk_175, wp_lds, wk_186, wp_ifeq, wp_icge, wp_goto, wp_ist2, wp_ild2, wp_imul, wp_iadd, wk_184, wk_185, wp_ist3, wp_ist4, wp_ild4, wk_187, wp_ist5, wp_ild3, wp_ild5, wp_dup2, x_clr_I, x_clr_J, x_clr_R, x_clr_U, ct_some, ct_none, lc_lt, lc_ge, lc_gt, lc_le, lc_eq, lc_r, xI_inj, xJ_inj, Option.some.injEq, eq_self, bi_r, bi_0, bi_1, bi_n, Classical.not_not, and_true, true_and, ite_true, ite_false, ↓reduceIte, ↓x_andl, z_le, z_nle, z_lt, z_nlt, z_eq, z_neq, if_pos, if_neg, x_andl, false_and, and_false, or_true, true_or, or_false, false_or, not_true, not_false_iff, x_rd_eq, x_rd_ne, x_st_o, Int.cast_ofNat_Int, Int.ofNat_zero, Int.ofNat_one, not_true_eq_false, not_false_eq_true, if_true, if_false, ite_self, and_self, Int.ofNat_eq_natCast, Int.tdiv_eq_ediv_of_nonneg, Int.tmod_eq_emod_of_nonneg, x_bm32, em, kg, t9, hA]
      refine (ev1 6 _).mpr ?_
      simp (disch := first | omega | (simp only [x_wtI, x_wtJ, x_wtR, x_wtN]; omega) | assumption | (simp (disch := omega) only [x_st_o, x_rd_ne]; first | assumption | omega) | (apply mir_eq; assumption; (intro c h1 h2; simp (disch := omega) only [x_st_o])) | (apply mis_eq; assumption; (intro c h1 h2; simp (disch := omega) only [x_st_o])) | rfl) only [bk_188_0, bk_188_1, bk_188_2, bk_188_4, bk_188_5, bk_188_6, bk_188_7, bk_188_8, bk_188_9, wp_ald0, wr_50_14, wp_ic, wl_56, wl_57, wp_cald, wp_ist1, wp_ild1, wp_icne, wk_182, wp_fall, wk_177, wp_ifne, wp_ret, wr_50_15, wp_geti kd_50, ws_56, ws_57, wk_175, wp_lds, wk_186, wp_ifeq, wp_icge, wp_goto, wp_ist2, wp_ild2, wp_imul, wp_iadd, wk_184, wk_185, wp_ist3, wp_ist4, wp_ild4, wk_187, wp_ist5, wp_ild3, wp_ild5, wp_dup2, x_clr_I, x_clr_J, x_clr_R, x_clr_U, ct_some, ct_none, lc_lt, lc_ge, lc_gt, lc_le, lc_eq, lc_r, xI_inj, xJ_inj, Option.some.injEq, eq_self, bi_r, bi_0, bi_1, bi_n, Classical.not_not, and_true, true_and, ite_true, ite_false, ↓reduceIte, ↓x_andl, z_le, z_nle, z_lt, z_nlt, z_eq, z_neq, if_pos, if_neg, x_andl, false_and, and_false, or_true, true_or, or_false, false_or, not_true, not_false_iff, x_rd_eq, x_rd_ne, x_st_o, Int.cast_ofNat_Int, Int.ofNat_zero, Int.ofNat_one, not_true_eq_false, not_false_eq_true, if_true, if_false, ite_self, and_self, Int.ofNat_eq_natCast, Int.tdiv_eq_ediv_of_nonneg, Int.tmod_eq_emod_of_nonneg, x_bm32]
      refine (ev2 2 _).mpr ?_
      simp (disch := first | omega | (simp only [x_wtI, x_wtJ, x_wtR, x_wtN]; omega) | assumption | (simp (disch := omega) only [x_st_o, x_rd_ne]; first | assumption | omega) | (apply mir_eq; assumption; (intro c h1 h2; simp (disch := omega) only [x_st_o])) | (apply mis_eq; assumption; (intro c h1 h2; simp (disch := omega) only [x_st_o])) | rfl) only [bk_188_0, bk_188_1, bk_188_2, bk_188_4, bk_188_5, bk_188_6, bk_188_7, bk_188_8, bk_188_9, wp_ald0, wr_50_14, wp_ic, wl_56, wl_57, wp_cald, wp_ist1, wp_ild1, wp_icne, wk_182, wp_fall, wk_177, wp_ifne, wp_ret, wr_50_15, wp_geti kd_50, ws_56, ws_57, wk_175, wp_lds, wk_186, wp_ifeq, wp_icge, wp_goto, wp_ist2, wp_ild2, wp_imul, wp_iadd, wk_184, wk_185, wp_ist3, wp_ist4, wp_ild4, wk_187, wp_ist5, wp_ild3, wp_ild5, wp_dup2, x_clr_I, x_clr_J, x_clr_R, x_clr_U, ct_some, ct_none, lc_lt, lc_ge, lc_gt, lc_le, lc_eq, lc_r, xI_inj, xJ_inj, Option.some.injEq, eq_self, bi_r, bi_0, bi_1, bi_n, Classical.not_not, and_true, true_and, ite_true, ite_false, ↓reduceIte, ↓x_andl, z_le, z_nle, z_lt, z_nlt, z_eq, z_neq, if_pos, if_neg, x_andl, false_and, and_false, or_true, true_or, or_false, false_or, not_true, not_false_iff, x_rd_eq, x_rd_ne, x_st_o, Int.cast_ofNat_Int, Int.ofNat_zero, Int.ofNat_one, not_true_eq_false, not_false_eq_true, if_true, if_false, ite_self, and_self, Int.ofNat_eq_natCast, Int.tdiv_eq_ediv_of_nonneg, Int.tmod_eq_emod_of_nonneg, x_bm32]
      refine (ew 5 _).mpr ?_
      simp (disch := first | omega | (simp only [x_wtI, x_wtJ, x_wtR, x_wtN]; omega) | assumption | (simp (disch := omega) only [x_st_o, x_rd_ne]; first | assumption | omega) | (apply mir_eq; assumption; (intro c h1 h2; simp (disch := omega) only [x_st_o])) | (apply mis_eq; assumption; (intro c h1 h2; simp (disch := omega) only [x_st_o])) | rfl) only [bk_188_0, bk_188_1, bk_188_2, bk_188_4, bk_188_5, bk_188_6, bk_188_7, bk_188_8, bk_188_9, wp_ald0, wr_50_14, wp_ic, wl_56, wl_57, wp_cald, wp_ist1, wp_ild1, wp_icne, wk_182, wp_fall, wk_177, wp_ifne, wp_ret, wr_50_15, wp_geti kd_50, ws_56, ws_57, wk_175, wp_lds, wk_186, wp_ifeq, wp_icge, wp_goto, wp_ist2, wp_ild2, wp_imul, wp_iadd, wk_184, wk_185, wp_ist3, wp_ist4, wp_ild4, wk_187, wp_ist5, wp_ild3, wp_ild5, wp_dup2, x_clr_I, x_clr_J, x_clr_R, x_clr_U, ct_some, ct_none, lc_lt, lc_ge, lc_gt, lc_le, lc_eq, lc_r, xI_inj, xJ_inj, Option.some.injEq, eq_self, bi_r, bi_0, bi_1, bi_n, Classical.not_not, and_true, true_and, ite_true, ite_false, ↓reduceIte, ↓x_andl, z_le, z_nle, z_lt, z_nlt, z_eq, z_neq, if_pos, if_neg, x_andl, false_and, and_false, or_true, true_or, or_false, false_or, not_true, not_false_iff, x_rd_eq, x_rd_ne, x_st_o, Int.cast_ofNat_Int, Int.ofNat_zero, Int.ofNat_one, not_true_eq_false, not_false_eq_true, if_true, if_false, ite_self, and_self, Int.ofNat_eq_natCast, Int.tdiv_eq_ediv_of_nonneg, Int.tmod_eq_emod_of_nonneg, x_bm32]
      exact mid

theorem fiv_W {b : Int → Int} {n A k ix hi : Int} {j : Nat} (h : fiv k ix hi j) (hw : wrd b n A j) : fivW b n A k ∧ (0 ≤ k ∧ k ≤ 4) ∧ ¬ k = 2 ∧ ∀ ix' hi' : Int, ((k < 3 ∧ ix' = 1 + k ∧ hi' = 20) ∨ (3 ≤ k ∧ ix' = 5 + k - 3 ∧ hi' = 99)) → ix' = ix ∧ hi' = hi := by
  rcases h with ⟨rfl, rfl, rfl, rfl⟩ | ⟨rfl, rfl, rfl, rfl⟩ | ⟨rfl, rfl, rfl, rfl⟩ | ⟨rfl, rfl, rfl, rfl⟩
  · exact ⟨Or.inl ⟨rfl, hw⟩, by omega, by omega, fun _ _ _ => by omega⟩
  · exact ⟨Or.inr (Or.inl ⟨rfl, hw⟩), by omega, by omega, fun _ _ _ => by omega⟩
  · exact ⟨Or.inr (Or.inr (Or.inr (Or.inl ⟨rfl, hw⟩))), by omega, by omega, fun _ _ _ => by omega⟩
  · exact ⟨Or.inr (Or.inr (Or.inr (Or.inr ⟨rfl, hw⟩))), by omega, by omega, fun _ _ _ => by omega⟩
theorem fivW_r {b : Int → Int} {n A k : Int} (h : fivW b n A k) : 0 ≤ k ∧ k ≤ 4 := by
  rcases h with h | h | h | h | h <;> (have := h.1; omega)
set_option maxHeartbeats 8000000 in
theorem h_mline {σ : x_S} {b : Int → Int} {n A : Int} {fr td wo fr' td' wo' : Int → Int} {x' : PS} (h : MS σ b n (0, -1, A)) (e6 : σ 56 0 = fr) (e8 : σ 58 0 = td) (e7 : σ 57 0 = wo) (hW : dW fr) (ht : tdW td) (hL : LN b n A fr td wo x' fr' td' wo') : x_Sp 9 178 [xR 50 0] σ (fun r σ' => r = none ∧ mlF σ σ' ∧ (0 ≤ σ' 56 0 0 ∧ σ' 56 0 0 ≤ 40) ∧ MS σ' b n x' ∧ (x'.1 = 0 → σ' 56 0 = fr' ∧ σ' 58 0 = td' ∧ σ' 57 0 = wo')) := by
  obtain ⟨hB, ⟨h12, h13⟩, hc, hx, h10⟩ := id h
  have z12 : σ 50 0 12 = 0 := h12
  have kg := fun (d' : Nat) (Q' : Option x_V → x_S → Prop) => k_good (d := d') (σ := σ) (Q := Q') (by omega)
  have kw1 := fun (d' : Nat) (Q' : Option x_V → x_S → Prop) => k_wrong (d := d') (σ := σ) (Q := Q') (c := 1) (by omega)
  have kw3 := fun (d' : Nat) (Q' : Option x_V → x_S → Prop) => k_wrong (d := d') (σ := σ) (Q := Q') (c := 3) (by omega)
  simp only [if_pos z12] at kg kw1 kw3
  have mb := dW_m hW
  have em : σ 56 0 0 = fr 0 := by rw [e6]
  have wr := fun (d' : Nat) (Q' : Option x_V → x_S → Prop) => k_mw (d := d') (Q := Q') (j := 20) 6 (by decide) rfl h
  have wf := fun (d' : Nat) (Q' : Option x_V → x_S → Prop) => k_mw (d := d') (Q := Q') (j := 25) 11 (by decide) rfl h
  refine x_gen (fun Q hQ => ?_)
  have tail : ∀ (σ2 : x_S) (p q : Int) (y : PS), mlF σ σ2 → (0 ≤ σ2 56 0 0 ∧ σ2 56 0 0 ≤ 40) → MS σ2 b n y → x' = psS b n y → (x'.1 = 0 → σ2 56 0 = fr' ∧ σ2 58 0 = td' ∧ σ2 57 0 = wo') → x_Wp 9 178 (x_blk 178 7) [xR 50 0, xI p, xI q] [] σ2 Q := by
    intro σ2 p q y f2 g2 m2 ex hz
    refine h_mend m2 (fun σ' mk m' => hQ none σ' ⟨rfl, mlF_t f2 (mlF_m mk), by rw [mkp_o mk (by omega)]; exact g2, by rw [ex]; exact m', fun z => ?_⟩)
    rw [mkp_o mk (by omega), mkp_o mk (by omega), mkp_o mk (by omega)]
    exact hz z
  have flt : ∀ (σ2 : x_S) (p q c a : Int), ¬ c = 0 → mlF σ σ2 → (0 ≤ σ2 56 0 0 ∧ σ2 56 0 0 ≤ 40) → MS σ2 b n (c, tF b n A, a) → x' = (c, tF b n A, tA b n A) → x_Wp 9 178 (x_blk 178 7) [xR 50 0, xI p, xI q] [] σ2 Q := by
    intro σ2 p q c a c0 f2 g2 m2 ex
    refine tail σ2 p q (c, tF b n A, tA b n A) f2 g2 (MS_p m2 c0) (by rw [ex, psS_f (show ¬ (c, tF b n A, tA b n A).1 = 0 from c0)]) (fun z => ?_)
    rw [ex] at z
    exact absurd z c0
  have fk1 := MS_f (c := 1) h rfl (by omega)
  have fk3 := MS_f (c := 3) h rfl (by omega)
  have noF : wrd b n A 6 ∨ wrd b n A 11 → ∀ k, ¬ fivW b n A k := by
    intro z k y
    rcases z with z | z
    · exact (fw_d y).1 z
    · exact (fw_d y).2 z
  rcases hL with ⟨c, ex, hh⟩ | ⟨k, ix, hi, j, hf, hw, m0, t0, ex, efr, etd, ewo⟩ | ⟨hw, m0, t0, ex, efr, etd, ewo⟩ | ⟨hw, m0, ex, ⟨d0, d1, d2, d3, hd, efr⟩, etd, ewo⟩ | ⟨hw, m0, m40, ex, ⟨d0, d1, d2, d3, hd, efr⟩, etd, ewo⟩
  · rcases hh with ⟨rfl, hh⟩ | ⟨rfl, hh⟩
    · rcases hh with ⟨k, hk, m0⟩ | ⟨hw, m0⟩ | ⟨hk, n6, n11⟩
      · have w6 := fun d' Q' => (wr d' Q').2 (fw_d hk).1
        have w11 := fun d' Q' => (wf d' Q').2 (fw_d hk).2
        have kf := fun (d' : Nat) (Q' : Option x_V → x_S → Prop) => k_five (d := d') (Q := Q') h hk
        have kr := fivW_r hk
        have K := flt _ k 1 1 A (by omega) (mlF_m fk1.1) (by rw [mkp_o fk1.1 (by omega), e6]; exact mb) fk1.2.2 ex
        clear hW ht wr wf tail flt hQ
        generalize fr 0 = m at em m0 mb
        simp (disch := first | omega | (simp only [x_wtI, x_wtJ, x_wtR, x_wtN]; omega) | assumption | (simp (disch := omega) only [x_st_o, x_rd_ne]; first | assumption | omega) | (apply mir_eq; assumption; (intro c h1 h2; simp (disch := omega) only [x_st_o])) | (apply mis_eq; assumption; (intro c h1 h2; simp (disch := omega) only [x_st_o])) | rfl) only [sp_178, bk_178_0, bk_178_1, bk_178_2, bk_178_3, bk_178_4, bk_178_5, bk_178_6, bk_178_8, bk_178_9, wp_ald0, wk_179, wp_ist1, wr_50_14, wp_ic, wl_56, wp_cald, wp_ifle, wp_goto, wp_fall, wp_ist2, wp_ild1, wp_iceq, wp_ild2, wp_ifne, wk_181, wp_lds, wk_180, wp_ifeq, wk_182, wk_177, wk_175, wk_187, ws_56, wk_188, wp_geti kd_50, wp_ret, x_clr_I, x_clr_J, x_clr_R, x_clr_U, ct_some, ct_none, lc_lt, lc_ge, lc_gt, lc_le, lc_eq, lc_r, xI_inj, xJ_inj, Option.some.injEq, eq_self, bi_r, bi_0, bi_1, bi_n, Classical.not_not, and_true, true_and, ite_true, ite_false, ↓reduceIte, ↓x_andl, z_le, z_nle, z_lt, z_nlt, z_eq, z_neq, if_pos, if_neg, x_andl, false_and, and_false, or_true, true_or, or_false, false_or, not_true, not_false_iff, x_rd_eq, x_rd_ne, x_st_o, Int.cast_ofNat_Int, Int.ofNat_zero, Int.ofNat_one, not_true_eq_false, not_false_eq_true, if_true, if_false, ite_self, and_self, Int.ofNat_eq_natCast, Int.tdiv_eq_ediv_of_nonneg, Int.tmod_eq_emod_of_nonneg, x_bm32, em, kf, w6, w11, kw1]
        exact K
      · have w6 := fun d' Q' => (wr d' Q').2 (fun z => xw_d.2.2.2.2.2.2.2.2.2.2 (wrd_u z hw))
        have w11 := fun d' Q' => (wf d' Q').1 hw
        have kf := fun (d' : Nat) (Q' : Option x_V → x_S → Prop) => k_fiveN (d := d') (Q := Q') h (noF (Or.inr hw))
        have K := flt _ (-1) 0 1 A (by omega) (mlF_m fk1.1) (by rw [mkp_o fk1.1 (by omega), e6]; exact mb) fk1.2.2 ex
        rw [m0] at em
        clear hW ht wr wf tail flt hQ
        simp (disch := first | omega | (simp only [x_wtI, x_wtJ, x_wtR, x_wtN]; omega) | assumption | (simp (disch := omega) only [x_st_o, x_rd_ne]; first | assumption | omega) | (apply mir_eq; assumption; (intro c h1 h2; simp (disch := omega) only [x_st_o])) | (apply mis_eq; assumption; (intro c h1 h2; simp (disch := omega) only [x_st_o])) | rfl) only [sp_178, bk_178_0, bk_178_1, bk_178_2, bk_178_3, bk_178_4, bk_178_5, bk_178_6, bk_178_8, bk_178_9, wp_ald0, wk_179, wp_ist1, wr_50_14, wp_ic, wl_56, wp_cald, wp_ifle, wp_goto, wp_fall, wp_ist2, wp_ild1, wp_iceq, wp_ild2, wp_ifne, wk_181, wp_lds, wk_180, wp_ifeq, wk_182, wk_177, wk_175, wk_187, ws_56, wk_188, wp_geti kd_50, wp_ret, x_clr_I, x_clr_J, x_clr_R, x_clr_U, ct_some, ct_none, lc_lt, lc_ge, lc_gt, lc_le, lc_eq, lc_r, xI_inj, xJ_inj, Option.some.injEq, eq_self, bi_r, bi_0, bi_1, bi_n, Classical.not_not, and_true, true_and, ite_true, ite_false, ↓reduceIte, ↓x_andl, z_le, z_nle, z_lt, z_nlt, z_eq, z_neq, if_pos, if_neg, x_andl, false_and, and_false, or_true, true_or, or_false, false_or, not_true, not_false_iff, x_rd_eq, x_rd_ne, x_st_o, Int.cast_ofNat_Int, Int.ofNat_zero, Int.ofNat_one, not_true_eq_false, not_false_eq_true, if_true, if_false, ite_self, and_self, Int.ofNat_eq_natCast, Int.tdiv_eq_ediv_of_nonneg, Int.tmod_eq_emod_of_nonneg, x_bm32, em, kf, w6, w11, kw1]
        exact K
      · have w6 := fun d' Q' => (wr d' Q').2 n6
        have w11 := fun d' Q' => (wf d' Q').2 n11
        have kf := fun (d' : Nat) (Q' : Option x_V → x_S → Prop) => k_fiveN (d := d') (Q := Q') h hk
        have K := fun q => flt _ (-1) q 1 A (by omega) (mlF_m fk1.1) (by rw [mkp_o fk1.1 (by omega), e6]; exact mb) fk1.2.2 ex
        have K0 := K 0
        have K1 := K 1
        clear hW ht wr wf tail flt hQ K
        generalize fr 0 = m at em mb
        by_cases m0 : 0 < m
        · simp (disch := first | omega | (simp only [x_wtI, x_wtJ, x_wtR, x_wtN]; omega) | assumption | (simp (disch := omega) only [x_st_o, x_rd_ne]; first | assumption | omega) | (apply mir_eq; assumption; (intro c h1 h2; simp (disch := omega) only [x_st_o])) | (apply mis_eq; assumption; (intro c h1 h2; simp (disch := omega) only [x_st_o])) | rfl) only [sp_178, bk_178_0, bk_178_1, bk_178_2, bk_178_3, bk_178_4, bk_178_5, bk_178_6, bk_178_8, bk_178_9, wp_ald0, wk_179, wp_ist1, wr_50_14, wp_ic, wl_56, wp_cald, wp_ifle, wp_goto, wp_fall, wp_ist2, wp_ild1, wp_iceq, wp_ild2, wp_ifne, wk_181, wp_lds, wk_180, wp_ifeq, wk_182, wk_177, wk_175, wk_187, ws_56, wk_188, wp_geti kd_50, wp_ret, x_clr_I, x_clr_J, x_clr_R, x_clr_U, ct_some, ct_none, lc_lt, lc_ge, lc_gt, lc_le, lc_eq, lc_r, xI_inj, xJ_inj, Option.some.injEq, eq_self, bi_r, bi_0, bi_1, bi_n, Classical.not_not, and_true, true_and, ite_true, ite_false, ↓reduceIte, ↓x_andl, z_le, z_nle, z_lt, z_nlt, z_eq, z_neq, if_pos, if_neg, x_andl, false_and, and_false, or_true, true_or, or_false, false_or, not_true, not_false_iff, x_rd_eq, x_rd_ne, x_st_o, Int.cast_ofNat_Int, Int.ofNat_zero, Int.ofNat_one, not_true_eq_false, not_false_eq_true, if_true, if_false, ite_self, and_self, Int.ofNat_eq_natCast, Int.tdiv_eq_ediv_of_nonneg, Int.tmod_eq_emod_of_nonneg, x_bm32, em, kf, w6, w11, kw1]
          exact K1
        · simp (disch := first | omega | (simp only [x_wtI, x_wtJ, x_wtR, x_wtN]; omega) | assumption | (simp (disch := omega) only [x_st_o, x_rd_ne]; first | assumption | omega) | (apply mir_eq; assumption; (intro c h1 h2; simp (disch := omega) only [x_st_o])) | (apply mis_eq; assumption; (intro c h1 h2; simp (disch := omega) only [x_st_o])) | rfl) only [sp_178, bk_178_0, bk_178_1, bk_178_2, bk_178_3, bk_178_4, bk_178_5, bk_178_6, bk_178_8, bk_178_9, wp_ald0, wk_179, wp_ist1, wr_50_14, wp_ic, wl_56, wp_cald, wp_ifle, wp_goto, wp_fall, wp_ist2, wp_ild1, wp_iceq, wp_ild2, wp_ifne, wk_181, wp_lds, wk_180, wp_ifeq, wk_182, wk_177, wk_175, wk_187, ws_56, wk_188, wp_geti kd_50, wp_ret, x_clr_I, x_clr_J, x_clr_R, x_clr_U, ct_some, ct_none, lc_lt, lc_ge, lc_gt, lc_le, lc_eq, lc_r, xI_inj, xJ_inj, Option.some.injEq, eq_self, bi_r, bi_0, bi_1, bi_n, Classical.not_not, and_true, true_and, ite_true, ite_false, ↓reduceIte, ↓x_andl, z_le, z_nle, z_lt, z_nlt, z_eq, z_neq, if_pos, if_neg, x_andl, false_and, and_false, or_true, true_or, or_false, false_or, not_true, not_false_iff, x_rd_eq, x_rd_ne, x_st_o, Int.cast_ofNat_Int, Int.ofNat_zero, Int.ofNat_one, not_true_eq_false, not_false_eq_true, if_true, if_false, ite_self, and_self, Int.ofNat_eq_natCast, Int.tdiv_eq_ediv_of_nonneg, Int.tmod_eq_emod_of_nonneg, x_bm32, em, kf, w6, w11, kw1]
          exact K0
    · rcases hh with ⟨k, hk, m0, t1⟩ | ⟨hw, m0⟩ | ⟨hw, m0⟩
      · have kf := fun (d' : Nat) (Q' : Option x_V → x_S → Prop) => k_five (d := d') (Q := Q') h hk
        have kr := fivW_r hk
        obtain ⟨r1, σ1, ⟨hr1, f1, g1, hh⟩, ev⟩ := x_ex (h_mfive h e6 e8 e7 kr (Or.inr t1))
        subst hr1
        have m1 : MS σ1 b n (3, tF b n A, A) := by
          rcases hh with z | z
          · exact z.2
          · exfalso
            have := z.1
            omega
        have K := flt σ1 k 0 3 A (by omega) f1 (by rw [g1]; exact mb) m1 ex
        rw [m0] at em
        clear hW ht wr wf tail flt hQ hh
        simp (disch := first | omega | (simp only [x_wtI, x_wtJ, x_wtR, x_wtN]; omega) | assumption | (simp (disch := omega) only [x_st_o, x_rd_ne]; first | assumption | omega) | (apply mir_eq; assumption; (intro c h1 h2; simp (disch := omega) only [x_st_o])) | (apply mis_eq; assumption; (intro c h1 h2; simp (disch := omega) only [x_st_o])) | rfl) only [sp_178, bk_178_0, bk_178_1, bk_178_2, bk_178_3, bk_178_4, bk_178_5, bk_178_6, bk_178_8, bk_178_9, wp_ald0, wk_179, wp_ist1, wr_50_14, wp_ic, wl_56, wp_cald, wp_ifle, wp_goto, wp_fall, wp_ist2, wp_ild1, wp_iceq, wp_ild2, wp_ifne, wk_181, wp_lds, wk_180, wp_ifeq, wk_182, wk_177, wk_175, wk_187, ws_56, wk_188, wp_geti kd_50, wp_ret, x_clr_I, x_clr_J, x_clr_R, x_clr_U, ct_some, ct_none, lc_lt, lc_ge, lc_gt, lc_le, lc_eq, lc_r, xI_inj, xJ_inj, Option.some.injEq, eq_self, bi_r, bi_0, bi_1, bi_n, Classical.not_not, and_true, true_and, ite_true, ite_false, ↓reduceIte, ↓x_andl, z_le, z_nle, z_lt, z_nlt, z_eq, z_neq, if_pos, if_neg, x_andl, false_and, and_false, or_true, true_or, or_false, false_or, not_true, not_false_iff, x_rd_eq, x_rd_ne, x_st_o, Int.cast_ofNat_Int, Int.ofNat_zero, Int.ofNat_one, not_true_eq_false, not_false_eq_true, if_true, if_false, ite_self, and_self, Int.ofNat_eq_natCast, Int.tdiv_eq_ediv_of_nonneg, Int.tmod_eq_emod_of_nonneg, x_bm32, em, kf]
        refine (ev 1 _).mpr ?_
        simp (disch := first | omega | (simp only [x_wtI, x_wtJ, x_wtR, x_wtN]; omega) | assumption | (simp (disch := omega) only [x_st_o, x_rd_ne]; first | assumption | omega) | (apply mir_eq; assumption; (intro c h1 h2; simp (disch := omega) only [x_st_o])) | (apply mis_eq; assumption; (intro c h1 h2; simp (disch := omega) only [x_st_o])) | rfl) only [bk_178_0, bk_178_1, bk_178_2, bk_178_3, bk_178_4, bk_178_5, bk_178_6, bk_178_8, bk_178_9, wp_ald0, wk_179, wp_ist1, wr_50_14, wp_ic, wl_56, wp_cald, wp_ifle, wp_goto, wp_fall, wp_ist2, wp_ild1, wp_iceq, wp_ild2, wp_ifne, wk_181, wp_lds, wk_180, wp_ifeq, wk_182, wk_177, wk_175, wk_187, ws_56, wk_188, wp_geti kd_50, wp_ret, x_clr_I, x_clr_J, x_clr_R, x_clr_U, ct_some, ct_none, lc_lt, lc_ge, lc_gt, lc_le, lc_eq, lc_r, xI_inj, xJ_inj, Option.some.injEq, eq_self, bi_r, bi_0, bi_1, bi_n, Classical.not_not, and_true, true_and, ite_true, ite_false, ↓reduceIte, ↓x_andl, z_le, z_nle, z_lt, z_nlt, z_eq, z_neq, if_pos, if_neg, x_andl, false_and, and_false, or_true, true_or, or_false, false_or, not_true, not_false_iff, x_rd_eq, x_rd_ne, x_st_o, Int.cast_ofNat_Int, Int.ofNat_zero, Int.ofNat_one, not_true_eq_false, not_false_eq_true, if_true, if_false, ite_self, and_self, Int.ofNat_eq_natCast, Int.tdiv_eq_ediv_of_nonneg, Int.tmod_eq_emod_of_nonneg, x_bm32]
        exact K
      · have w6 := fun d' Q' => (wr d' Q').1 hw
        have kf := fun (d' : Nat) (Q' : Option x_V → x_S → Prop) => k_fiveN (d := d') (Q := Q') h (noF (Or.inl hw))
        have m2 := fk3.2.2
        have kg2 := fun (d' : Nat) (Q' : Option x_V → x_S → Prop) => k_good (d := d') (σ := x_st (x_st σ 50 0 12 3) 50 0 13 (σ 50 0 9)) (Q := Q') (by rw [m2.2.1.1]; exact m2.2.2.1)
        have ne2 : ¬ x_st (x_st σ 50 0 12 3) 50 0 13 (σ 50 0 9) 50 0 12 = 0 := by rw [m2.2.1.1]; (show ¬ (3 : Int) = 0); omega
        simp only [if_neg ne2] at kg2
        have K := flt _ (-1) 1 3 A (by omega) (mlF_m fk3.1) (by rw [mkp_o fk3.1 (by omega), e6]; exact mb) m2 ex
        clear hW ht wr wf tail flt hQ
        generalize fr 0 = m at em mb m0
        simp (disch := first | omega | (simp only [x_wtI, x_wtJ, x_wtR, x_wtN]; omega) | assumption | (simp (disch := omega) only [x_st_o, x_rd_ne]; first | assumption | omega) | (apply mir_eq; assumption; (intro c h1 h2; simp (disch := omega) only [x_st_o])) | (apply mis_eq; assumption; (intro c h1 h2; simp (disch := omega) only [x_st_o])) | rfl) only [sp_178, bk_178_0, bk_178_1, bk_178_2, bk_178_3, bk_178_4, bk_178_5, bk_178_6, bk_178_8, bk_178_9, wp_ald0, wk_179, wp_ist1, wr_50_14, wp_ic, wl_56, wp_cald, wp_ifle, wp_goto, wp_fall, wp_ist2, wp_ild1, wp_iceq, wp_ild2, wp_ifne, wk_181, wp_lds, wk_180, wp_ifeq, wk_182, wk_177, wk_175, wk_187, ws_56, wk_188, wp_geti kd_50, wp_ret, x_clr_I, x_clr_J, x_clr_R, x_clr_U, ct_some, ct_none, lc_lt, lc_ge, lc_gt, lc_le, lc_eq, lc_r, xI_inj, xJ_inj, Option.some.injEq, eq_self, bi_r, bi_0, bi_1, bi_n, Classical.not_not, and_true, true_and, ite_true, ite_false, ↓reduceIte, ↓x_andl, z_le, z_nle, z_lt, z_nlt, z_eq, z_neq, if_pos, if_neg, x_andl, false_and, and_false, or_true, true_or, or_false, false_or, not_true, not_false_iff, x_rd_eq, x_rd_ne, x_st_o, Int.cast_ofNat_Int, Int.ofNat_zero, Int.ofNat_one, not_true_eq_false, not_false_eq_true, if_true, if_false, ite_self, and_self, Int.ofNat_eq_natCast, Int.tdiv_eq_ediv_of_nonneg, Int.tmod_eq_emod_of_nonneg, x_bm32, em, kf, w6, kw3, kg2]
        exact K
      · have w6 := fun d' Q' => (wr d' Q').2 (fun z => xw_d.2.2.2.2.2.2.2.2.2.2 (wrd_u z hw))
        have w11 := fun d' Q' => (wf d' Q').1 hw
        have kf := fun (d' : Nat) (Q' : Option x_V → x_S → Prop) => k_fiveN (d := d') (Q := Q') h (noF (Or.inr hw))
        obtain ⟨r1, σ1, ⟨hr1, f1, g1, hh⟩, ev⟩ := x_ex (h_mfk h e6 e8 e7 hW (by omega))
        subst hr1
        have m1 : MS σ1 b n (3, tF b n A, A) := by
          rcases hh with z | z
          · exact z.2
          · exfalso
            have := z.1
            omega
        have K := flt σ1 (-1) 1 3 A (by omega) f1 g1 m1 ex
        rw [m0] at em
        clear hW ht wr wf tail flt hQ hh
        simp (disch := first | omega | (simp only [x_wtI, x_wtJ, x_wtR, x_wtN]; omega) | assumption | (simp (disch := omega) only [x_st_o, x_rd_ne]; first | assumption | omega) | (apply mir_eq; assumption; (intro c h1 h2; simp (disch := omega) only [x_st_o])) | (apply mis_eq; assumption; (intro c h1 h2; simp (disch := omega) only [x_st_o])) | rfl) only [sp_178, bk_178_0, bk_178_1, bk_178_2, bk_178_3, bk_178_4, bk_178_5, bk_178_6, bk_178_8, bk_178_9, wp_ald0, wk_179, wp_ist1, wr_50_14, wp_ic, wl_56, wp_cald, wp_ifle, wp_goto, wp_fall, wp_ist2, wp_ild1, wp_iceq, wp_ild2, wp_ifne, wk_181, wp_lds, wk_180, wp_ifeq, wk_182, wk_177, wk_175, wk_187, ws_56, wk_188, wp_geti kd_50, wp_ret, x_clr_I, x_clr_J, x_clr_R, x_clr_U, ct_some, ct_none, lc_lt, lc_ge, lc_gt, lc_le, lc_eq, lc_r, xI_inj, xJ_inj, Option.some.injEq, eq_self, bi_r, bi_0, bi_1, bi_n, Classical.not_not, and_true, true_and, ite_true, ite_false, ↓reduceIte, ↓x_andl, z_le, z_nle, z_lt, z_nlt, z_eq, z_neq, if_pos, if_neg, x_andl, false_and, and_false, or_true, true_or, or_false, false_or, not_true, not_false_iff, x_rd_eq, x_rd_ne, x_st_o, Int.cast_ofNat_Int, Int.ofNat_zero, Int.ofNat_one, not_true_eq_false, not_false_eq_true, if_true, if_false, ite_self, and_self, Int.ofNat_eq_natCast, Int.tdiv_eq_ediv_of_nonneg, Int.tmod_eq_emod_of_nonneg, x_bm32, em, kf, w6, w11]
        refine (ev 0 _).mpr ?_
        simp (disch := first | omega | (simp only [x_wtI, x_wtJ, x_wtR, x_wtN]; omega) | assumption | (simp (disch := omega) only [x_st_o, x_rd_ne]; first | assumption | omega) | (apply mir_eq; assumption; (intro c h1 h2; simp (disch := omega) only [x_st_o])) | (apply mis_eq; assumption; (intro c h1 h2; simp (disch := omega) only [x_st_o])) | rfl) only [bk_178_0, bk_178_1, bk_178_2, bk_178_3, bk_178_4, bk_178_5, bk_178_6, bk_178_8, bk_178_9, wp_ald0, wk_179, wp_ist1, wr_50_14, wp_ic, wl_56, wp_cald, wp_ifle, wp_goto, wp_fall, wp_ist2, wp_ild1, wp_iceq, wp_ild2, wp_ifne, wk_181, wp_lds, wk_180, wp_ifeq, wk_182, wk_177, wk_175, wk_187, ws_56, wk_188, wp_geti kd_50, wp_ret, x_clr_I, x_clr_J, x_clr_R, x_clr_U, ct_some, ct_none, lc_lt, lc_ge, lc_gt, lc_le, lc_eq, lc_r, xI_inj, xJ_inj, Option.some.injEq, eq_self, bi_r, bi_0, bi_1, bi_n, Classical.not_not, and_true, true_and, ite_true, ite_false, ↓reduceIte, ↓x_andl, z_le, z_nle, z_lt, z_nlt, z_eq, z_neq, if_pos, if_neg, x_andl, false_and, and_false, or_true, true_or, or_false, false_or, not_true, not_false_iff, x_rd_eq, x_rd_ne, x_st_o, Int.cast_ofNat_Int, Int.ofNat_zero, Int.ofNat_one, not_true_eq_false, not_false_eq_true, if_true, if_false, ite_self, and_self, Int.ofNat_eq_natCast, Int.tdiv_eq_ediv_of_nonneg, Int.tmod_eq_emod_of_nonneg, x_bm32]
        exact K
  · obtain ⟨hk, kr, k2, hix⟩ := fiv_W hf hw
    have kf := fun (d' : Nat) (Q' : Option x_V → x_S → Prop) => k_five (d := d') (Q := Q') h hk
    obtain ⟨r1, σ1, ⟨hr1, f1, g1, hh⟩, ev⟩ := x_ex (h_mfive h e6 e8 e7 kr (Or.inl t0))
    subst hr1
    have K : x_Wp 9 178 (x_blk 178 7) [xR 50 0, xI k, xI 0] [] σ1 Q := by
      rcases hh with z | ⟨_, s8, s7, z | z⟩
      · exfalso
        have := z.1
        omega
      · obtain ⟨_, ix', hi', hq, m1, w1⟩ := z
        obtain ⟨rfl, rfl⟩ := hix _ _ hq
        refine tail σ1 k 0 _ f1 (by rw [g1]; exact mb) m1 ex (fun y => ⟨?_, by rw [s8, etd], by rw [s7, ewo]⟩)
        rw [ex] at y
        rw [w1 (psS_c y), efr]
      · exact absurd z.1 k2
    rw [m0] at em
    clear hW ht wr wf tail flt hQ hh
    simp (disch := first | omega | (simp only [x_wtI, x_wtJ, x_wtR, x_wtN]; omega) | assumption | (simp (disch := omega) only [x_st_o, x_rd_ne]; first | assumption | omega) | (apply mir_eq; assumption; (intro c h1 h2; simp (disch := omega) only [x_st_o])) | (apply mis_eq; assumption; (intro c h1 h2; simp (disch := omega) only [x_st_o])) | rfl) only [sp_178, bk_178_0, bk_178_1, bk_178_2, bk_178_3, bk_178_4, bk_178_5, bk_178_6, bk_178_8, bk_178_9, wp_ald0, wk_179, wp_ist1, wr_50_14, wp_ic, wl_56, wp_cald, wp_ifle, wp_goto, wp_fall, wp_ist2, wp_ild1, wp_iceq, wp_ild2, wp_ifne, wk_181, wp_lds, wk_180, wp_ifeq, wk_182, wk_177, wk_175, wk_187, ws_56, wk_188, wp_geti kd_50, wp_ret, x_clr_I, x_clr_J, x_clr_R, x_clr_U, ct_some, ct_none, lc_lt, lc_ge, lc_gt, lc_le, lc_eq, lc_r, xI_inj, xJ_inj, Option.some.injEq, eq_self, bi_r, bi_0, bi_1, bi_n, Classical.not_not, and_true, true_and, ite_true, ite_false, ↓reduceIte, ↓x_andl, z_le, z_nle, z_lt, z_nlt, z_eq, z_neq, if_pos, if_neg, x_andl, false_and, and_false, or_true, true_or, or_false, false_or, not_true, not_false_iff, x_rd_eq, x_rd_ne, x_st_o, Int.cast_ofNat_Int, Int.ofNat_zero, Int.ofNat_one, not_true_eq_false, not_false_eq_true, if_true, if_false, ite_self, and_self, Int.ofNat_eq_natCast, Int.tdiv_eq_ediv_of_nonneg, Int.tmod_eq_emod_of_nonneg, x_bm32, em, kf]
    refine (ev 1 _).mpr ?_
    simp (disch := first | omega | (simp only [x_wtI, x_wtJ, x_wtR, x_wtN]; omega) | assumption | (simp (disch := omega) only [x_st_o, x_rd_ne]; first | assumption | omega) | (apply mir_eq; assumption; (intro c h1 h2; simp (disch := omega) only [x_st_o])) | (apply mis_eq; assumption; (intro c h1 h2; simp (disch := omega) only [x_st_o])) | rfl) only [bk_178_0, bk_178_1, bk_178_2, bk_178_3, bk_178_4, bk_178_5, bk_178_6, bk_178_8, bk_178_9, wp_ald0, wk_179, wp_ist1, wr_50_14, wp_ic, wl_56, wp_cald, wp_ifle, wp_goto, wp_fall, wp_ist2, wp_ild1, wp_iceq, wp_ild2, wp_ifne, wk_181, wp_lds, wk_180, wp_ifeq, wk_182, wk_177, wk_175, wk_187, ws_56, wk_188, wp_geti kd_50, wp_ret, x_clr_I, x_clr_J, x_clr_R, x_clr_U, ct_some, ct_none, lc_lt, lc_ge, lc_gt, lc_le, lc_eq, lc_r, xI_inj, xJ_inj, Option.some.injEq, eq_self, bi_r, bi_0, bi_1, bi_n, Classical.not_not, and_true, true_and, ite_true, ite_false, ↓reduceIte, ↓x_andl, z_le, z_nle, z_lt, z_nlt, z_eq, z_neq, if_pos, if_neg, x_andl, false_and, and_false, or_true, true_or, or_false, false_or, not_true, not_false_iff, x_rd_eq, x_rd_ne, x_st_o, Int.cast_ofNat_Int, Int.ofNat_zero, Int.ofNat_one, not_true_eq_false, not_false_eq_true, if_true, if_false, ite_self, and_self, Int.ofNat_eq_natCast, Int.tdiv_eq_ediv_of_nonneg, Int.tmod_eq_emod_of_nonneg, x_bm32]
    exact K
  · have hk : fivW b n A 2 := Or.inr (Or.inr (Or.inl ⟨rfl, hw⟩))
    have kf := fun (d' : Nat) (Q' : Option x_V → x_S → Prop) => k_five (d := d') (Q := Q') h hk
    obtain ⟨r1, σ1, ⟨hr1, f1, g1, hh⟩, ev⟩ := x_ex (h_mfive (k := 2) h e6 e8 e7 (by omega) (Or.inl t0))
    subst hr1
    have K : x_Wp 9 178 (x_blk 178 7) [xR 50 0, xI 2, xI 0] [] σ1 Q := by
      rcases hh with z | ⟨_, s8, s7, z | z⟩
      · exfalso
        have := z.1
        omega
      · exact absurd rfl z.1
      · obtain ⟨_, m1, w1⟩ := z
        refine tail σ1 2 0 _ f1 (by rw [g1]; exact mb) m1 ex (fun y => ⟨?_, by rw [s8, etd], by rw [s7, ewo]⟩)
        rw [ex] at y
        rw [w1 (psS_c y), efr]
    rw [m0] at em
    clear hW ht wr wf tail flt hQ hh
    simp (disch := first | omega | (simp only [x_wtI, x_wtJ, x_wtR, x_wtN]; omega) | assumption | (simp (disch := omega) only [x_st_o, x_rd_ne]; first | assumption | omega) | (apply mir_eq; assumption; (intro c h1 h2; simp (disch := omega) only [x_st_o])) | (apply mis_eq; assumption; (intro c h1 h2; simp (disch := omega) only [x_st_o])) | rfl) only [sp_178, bk_178_0, bk_178_1, bk_178_2, bk_178_3, bk_178_4, bk_178_5, bk_178_6, bk_178_8, bk_178_9, wp_ald0, wk_179, wp_ist1, wr_50_14, wp_ic, wl_56, wp_cald, wp_ifle, wp_goto, wp_fall, wp_ist2, wp_ild1, wp_iceq, wp_ild2, wp_ifne, wk_181, wp_lds, wk_180, wp_ifeq, wk_182, wk_177, wk_175, wk_187, ws_56, wk_188, wp_geti kd_50, wp_ret, x_clr_I, x_clr_J, x_clr_R, x_clr_U, ct_some, ct_none, lc_lt, lc_ge, lc_gt, lc_le, lc_eq, lc_r, xI_inj, xJ_inj, Option.some.injEq, eq_self, bi_r, bi_0, bi_1, bi_n, Classical.not_not, and_true, true_and, ite_true, ite_false, ↓reduceIte, ↓x_andl, z_le, z_nle, z_lt, z_nlt, z_eq, z_neq, if_pos, if_neg, x_andl, false_and, and_false, or_true, true_or, or_false, false_or, not_true, not_false_iff, x_rd_eq, x_rd_ne, x_st_o, Int.cast_ofNat_Int, Int.ofNat_zero, Int.ofNat_one, not_true_eq_false, not_false_eq_true, if_true, if_false, ite_self, and_self, Int.ofNat_eq_natCast, Int.tdiv_eq_ediv_of_nonneg, Int.tmod_eq_emod_of_nonneg, x_bm32, em, kf]
    refine (ev 1 _).mpr ?_
    simp (disch := first | omega | (simp only [x_wtI, x_wtJ, x_wtR, x_wtN]; omega) | assumption | (simp (disch := omega) only [x_st_o, x_rd_ne]; first | assumption | omega) | (apply mir_eq; assumption; (intro c h1 h2; simp (disch := omega) only [x_st_o])) | (apply mis_eq; assumption; (intro c h1 h2; simp (disch := omega) only [x_st_o])) | rfl) only [bk_178_0, bk_178_1, bk_178_2, bk_178_3, bk_178_4, bk_178_5, bk_178_6, bk_178_8, bk_178_9, wp_ald0, wk_179, wp_ist1, wr_50_14, wp_ic, wl_56, wp_cald, wp_ifle, wp_goto, wp_fall, wp_ist2, wp_ild1, wp_iceq, wp_ild2, wp_ifne, wk_181, wp_lds, wk_180, wp_ifeq, wk_182, wk_177, wk_175, wk_187, ws_56, wk_188, wp_geti kd_50, wp_ret, x_clr_I, x_clr_J, x_clr_R, x_clr_U, ct_some, ct_none, lc_lt, lc_ge, lc_gt, lc_le, lc_eq, lc_r, xI_inj, xJ_inj, Option.some.injEq, eq_self, bi_r, bi_0, bi_1, bi_n, Classical.not_not, and_true, true_and, ite_true, ite_false, ↓reduceIte, ↓x_andl, z_le, z_nle, z_lt, z_nlt, z_eq, z_neq, if_pos, if_neg, x_andl, false_and, and_false, or_true, true_or, or_false, false_or, not_true, not_false_iff, x_rd_eq, x_rd_ne, x_st_o, Int.cast_ofNat_Int, Int.ofNat_zero, Int.ofNat_one, not_true_eq_false, not_false_eq_true, if_true, if_false, ite_self, and_self, Int.ofNat_eq_natCast, Int.tdiv_eq_ediv_of_nonneg, Int.tmod_eq_emod_of_nonneg, x_bm32]
    exact K
  · have w6 := fun d' Q' => (wr d' Q').1 hw
    have kf := fun (d' : Nat) (Q' : Option x_V → x_S → Prop) => k_fiveN (d := d') (Q := Q') h (noF (Or.inl hw))
    obtain ⟨r1, σ1, ⟨hr1, ms, m1⟩, ev1⟩ := x_ex (h_mgo h rfl)
    subst hr1
    have m1' : MS σ1 b n (0, -1, tA b n A) := m1
    obtain ⟨r2, σ2, ⟨hr2, m2, eq2, k2, v0, v1, v2, v3, w2, hd2⟩, ev2⟩ := x_ex (h_mdoes (k := 16) (by omega) m1')
    subst hr2
    have s8 : σ2 58 0 = td := by rw [eq2 58 0 (by simp), mkp_o (msp_m ms) (by omega), e8]
    have s7 : σ2 57 0 = wo := by rw [eq2 57 0 (by simp), mkp_o (msp_m ms) (by omega), e7]
    rw [mkp_o (msp_m ms) (by omega), e6] at w2
    have f2 : mlF σ σ2 := mlF_t (mlF_m (msp_m ms)) ⟨eqo_mono (by simp) eq2, k2⟩
    have m12 := m2.2.1.1
    have m12r := m2.2.2.1
    have kg2 := fun (d' : Nat) (Q' : Option x_V → x_S → Prop) => k_good (d := d') (σ := σ2) (Q := Q') (by rw [m12]; exact m12r)
    rw [m0] at em
    by_cases zz : (psD b n (0, -1, tA b n A)).1 = 0
    · simp only [if_pos (m12.trans zz)] at kg2
      have K := tail (x_st σ2 56 0 0 1) (-1) 0 _ (mlF_t f2 (mlF_s (by omega))) (by rw [x_rd_eq]; omega) (MS_e m2 (x_st_o (by omega)) (x_st_o (by omega))) ex (fun y => ⟨?_, by rw [x_st_o (by omega), s8, etd], by rw [x_st_o (by omega), s7, ewo]⟩)
      · clear hW ht wr wf tail flt hQ hd2
        simp (disch := first | omega | (simp only [x_wtI, x_wtJ, x_wtR, x_wtN]; omega) | assumption | (simp (disch := omega) only [x_st_o, x_rd_ne]; first | assumption | omega) | (apply mir_eq; assumption; (intro c h1 h2; simp (disch := omega) only [x_st_o])) | (apply mis_eq; assumption; (intro c h1 h2; simp (disch := omega) only [x_st_o])) | rfl) only [sp_178, bk_178_0, bk_178_1, bk_178_2, bk_178_3, bk_178_4, bk_178_5, bk_178_6, bk_178_8, bk_178_9, wp_ald0, wk_179, wp_ist1, wr_50_14, wp_ic, wl_56, wp_cald, wp_ifle, wp_goto, wp_fall, wp_ist2, wp_ild1, wp_iceq, wp_ild2, wp_ifne, wk_181, wp_lds, wk_180, wp_ifeq, wk_182, wk_177, wk_175, wk_187, ws_56, wk_188, wp_geti kd_50, wp_ret, x_clr_I, x_clr_J, x_clr_R, x_clr_U, ct_some, ct_none, lc_lt, lc_ge, lc_gt, lc_le, lc_eq, lc_r, xI_inj, xJ_inj, Option.some.injEq, eq_self, bi_r, bi_0, bi_1, bi_n, Classical.not_not, and_true, true_and, ite_true, ite_false, ↓reduceIte, ↓x_andl, z_le, z_nle, z_lt, z_nlt, z_eq, z_neq, if_pos, if_neg, x_andl, false_and, and_false, or_true, true_or, or_false, false_or, not_true, not_false_iff, x_rd_eq, x_rd_ne, x_st_o, Int.cast_ofNat_Int, Int.ofNat_zero, Int.ofNat_one, not_true_eq_false, not_false_eq_true, if_true, if_false, ite_self, and_self, Int.ofNat_eq_natCast, Int.tdiv_eq_ediv_of_nonneg, Int.tmod_eq_emod_of_nonneg, x_bm32, em, kf, w6, kg]
        refine (ev1 7 _).mpr ?_
        simp (disch := first | omega | (simp only [x_wtI, x_wtJ, x_wtR, x_wtN]; omega) | assumption | (simp (disch := omega) only [x_st_o, x_rd_ne]; first | assumption | omega) | (apply mir_eq; assumption; (intro c h1 h2; simp (disch := omega) only [x_st_o])) | (apply mis_eq; assumption; (intro c h1 h2; simp (disch := omega) only [x_st_o])) | rfl) only [bk_178_0, bk_178_1, bk_178_2, bk_178_3, bk_178_4, bk_178_5, bk_178_6, bk_178_8, bk_178_9, wp_ald0, wk_179, wp_ist1, wr_50_14, wp_ic, wl_56, wp_cald, wp_ifle, wp_goto, wp_fall, wp_ist2, wp_ild1, wp_iceq, wp_ild2, wp_ifne, wk_181, wp_lds, wk_180, wp_ifeq, wk_182, wk_177, wk_175, wk_187, ws_56, wk_188, wp_geti kd_50, wp_ret, x_clr_I, x_clr_J, x_clr_R, x_clr_U, ct_some, ct_none, lc_lt, lc_ge, lc_gt, lc_le, lc_eq, lc_r, xI_inj, xJ_inj, Option.some.injEq, eq_self, bi_r, bi_0, bi_1, bi_n, Classical.not_not, and_true, true_and, ite_true, ite_false, ↓reduceIte, ↓x_andl, z_le, z_nle, z_lt, z_nlt, z_eq, z_neq, if_pos, if_neg, x_andl, false_and, and_false, or_true, true_or, or_false, false_or, not_true, not_false_iff, x_rd_eq, x_rd_ne, x_st_o, Int.cast_ofNat_Int, Int.ofNat_zero, Int.ofNat_one, not_true_eq_false, not_false_eq_true, if_true, if_false, ite_self, and_self, Int.ofNat_eq_natCast, Int.tdiv_eq_ediv_of_nonneg, Int.tmod_eq_emod_of_nonneg, x_bm32]
        refine (ev2 1 _).mpr ?_
        simp (disch := first | omega | (simp only [x_wtI, x_wtJ, x_wtR, x_wtN]; omega) | assumption | (simp (disch := omega) only [x_st_o, x_rd_ne]; first | assumption | omega) | (apply mir_eq; assumption; (intro c h1 h2; simp (disch := omega) only [x_st_o])) | (apply mis_eq; assumption; (intro c h1 h2; simp (disch := omega) only [x_st_o])) | rfl) only [bk_178_0, bk_178_1, bk_178_2, bk_178_3, bk_178_4, bk_178_5, bk_178_6, bk_178_8, bk_178_9, wp_ald0, wk_179, wp_ist1, wr_50_14, wp_ic, wl_56, wp_cald, wp_ifle, wp_goto, wp_fall, wp_ist2, wp_ild1, wp_iceq, wp_ild2, wp_ifne, wk_181, wp_lds, wk_180, wp_ifeq, wk_182, wk_177, wk_175, wk_187, ws_56, wk_188, wp_geti kd_50, wp_ret, x_clr_I, x_clr_J, x_clr_R, x_clr_U, ct_some, ct_none, lc_lt, lc_ge, lc_gt, lc_le, lc_eq, lc_r, xI_inj, xJ_inj, Option.some.injEq, eq_self, bi_r, bi_0, bi_1, bi_n, Classical.not_not, and_true, true_and, ite_true, ite_false, ↓reduceIte, ↓x_andl, z_le, z_nle, z_lt, z_nlt, z_eq, z_neq, if_pos, if_neg, x_andl, false_and, and_false, or_true, true_or, or_false, false_or, not_true, not_false_iff, x_rd_eq, x_rd_ne, x_st_o, Int.cast_ofNat_Int, Int.ofNat_zero, Int.ofNat_one, not_true_eq_false, not_false_eq_true, if_true, if_false, ite_self, and_self, Int.ofNat_eq_natCast, Int.tdiv_eq_ediv_of_nonneg, Int.tmod_eq_emod_of_nonneg, x_bm32, kg2]
        exact K
      · obtain ⟨q0, q1, q2, q3⟩ := hd2 zz
        obtain ⟨p0, p1, p2, p3⟩ := hd
        rw [x_st_w, w2, efr, q0, q1, q2, q3, p0, p1, p2, p3]
        rfl
    · simp only [if_neg (show ¬ σ2 50 0 12 = 0 by rw [m12]; exact zz)] at kg2
      have K := tail σ2 (-1) 0 _ f2 (by rw [w2, up_ne (by omega), up_ne (by omega), up_ne (by omega), up_ne (by omega)]; exact mb) m2 ex (fun y => by
        rw [ex] at y
        exact absurd (psS_c y) zz)
      clear hW ht wr wf tail flt hQ hd2
      simp (disch := first | omega | (simp only [x_wtI, x_wtJ, x_wtR, x_wtN]; omega) | assumption | (simp (disch := omega) only [x_st_o, x_rd_ne]; first | assumption | omega) | (apply mir_eq; assumption; (intro c h1 h2; simp (disch := omega) only [x_st_o])) | (apply mis_eq; assumption; (intro c h1 h2; simp (disch := omega) only [x_st_o])) | rfl) only [sp_178, bk_178_0, bk_178_1, bk_178_2, bk_178_3, bk_178_4, bk_178_5, bk_178_6, bk_178_8, bk_178_9, wp_ald0, wk_179, wp_ist1, wr_50_14, wp_ic, wl_56, wp_cald, wp_ifle, wp_goto, wp_fall, wp_ist2, wp_ild1, wp_iceq, wp_ild2, wp_ifne, wk_181, wp_lds, wk_180, wp_ifeq, wk_182, wk_177, wk_175, wk_187, ws_56, wk_188, wp_geti kd_50, wp_ret, x_clr_I, x_clr_J, x_clr_R, x_clr_U, ct_some, ct_none, lc_lt, lc_ge, lc_gt, lc_le, lc_eq, lc_r, xI_inj, xJ_inj, Option.some.injEq, eq_self, bi_r, bi_0, bi_1, bi_n, Classical.not_not, and_true, true_and, ite_true, ite_false, ↓reduceIte, ↓x_andl, z_le, z_nle, z_lt, z_nlt, z_eq, z_neq, if_pos, if_neg, x_andl, false_and, and_false, or_true, true_or, or_false, false_or, not_true, not_false_iff, x_rd_eq, x_rd_ne, x_st_o, Int.cast_ofNat_Int, Int.ofNat_zero, Int.ofNat_one, not_true_eq_false, not_false_eq_true, if_true, if_false, ite_self, and_self, Int.ofNat_eq_natCast, Int.tdiv_eq_ediv_of_nonneg, Int.tmod_eq_emod_of_nonneg, x_bm32, em, kf, w6, kg]
      refine (ev1 7 _).mpr ?_
      simp (disch := first | omega | (simp only [x_wtI, x_wtJ, x_wtR, x_wtN]; omega) | assumption | (simp (disch := omega) only [x_st_o, x_rd_ne]; first | assumption | omega) | (apply mir_eq; assumption; (intro c h1 h2; simp (disch := omega) only [x_st_o])) | (apply mis_eq; assumption; (intro c h1 h2; simp (disch := omega) only [x_st_o])) | rfl) only [bk_178_0, bk_178_1, bk_178_2, bk_178_3, bk_178_4, bk_178_5, bk_178_6, bk_178_8, bk_178_9, wp_ald0, wk_179, wp_ist1, wr_50_14, wp_ic, wl_56, wp_cald, wp_ifle, wp_goto, wp_fall, wp_ist2, wp_ild1, wp_iceq, wp_ild2, wp_ifne, wk_181, wp_lds, wk_180, wp_ifeq, wk_182, wk_177, wk_175, wk_187, ws_56, wk_188, wp_geti kd_50, wp_ret, x_clr_I, x_clr_J, x_clr_R, x_clr_U, ct_some, ct_none, lc_lt, lc_ge, lc_gt, lc_le, lc_eq, lc_r, xI_inj, xJ_inj, Option.some.injEq, eq_self, bi_r, bi_0, bi_1, bi_n, Classical.not_not, and_true, true_and, ite_true, ite_false, ↓reduceIte, ↓x_andl, z_le, z_nle, z_lt, z_nlt, z_eq, z_neq, if_pos, if_neg, x_andl, false_and, and_false, or_true, true_or, or_false, false_or, not_true, not_false_iff, x_rd_eq, x_rd_ne, x_st_o, Int.cast_ofNat_Int, Int.ofNat_zero, Int.ofNat_one, not_true_eq_false, not_false_eq_true, if_true, if_false, ite_self, and_self, Int.ofNat_eq_natCast, Int.tdiv_eq_ediv_of_nonneg, Int.tmod_eq_emod_of_nonneg, x_bm32]
      refine (ev2 1 _).mpr ?_
      simp (disch := first | omega | (simp only [x_wtI, x_wtJ, x_wtR, x_wtN]; omega) | assumption | (simp (disch := omega) only [x_st_o, x_rd_ne]; first | assumption | omega) | (apply mir_eq; assumption; (intro c h1 h2; simp (disch := omega) only [x_st_o])) | (apply mis_eq; assumption; (intro c h1 h2; simp (disch := omega) only [x_st_o])) | rfl) only [bk_178_0, bk_178_1, bk_178_2, bk_178_3, bk_178_4, bk_178_5, bk_178_6, bk_178_8, bk_178_9, wp_ald0, wk_179, wp_ist1, wr_50_14, wp_ic, wl_56, wp_cald, wp_ifle, wp_goto, wp_fall, wp_ist2, wp_ild1, wp_iceq, wp_ild2, wp_ifne, wk_181, wp_lds, wk_180, wp_ifeq, wk_182, wk_177, wk_175, wk_187, ws_56, wk_188, wp_geti kd_50, wp_ret, x_clr_I, x_clr_J, x_clr_R, x_clr_U, ct_some, ct_none, lc_lt, lc_ge, lc_gt, lc_le, lc_eq, lc_r, xI_inj, xJ_inj, Option.some.injEq, eq_self, bi_r, bi_0, bi_1, bi_n, Classical.not_not, and_true, true_and, ite_true, ite_false, ↓reduceIte, ↓x_andl, z_le, z_nle, z_lt, z_nlt, z_eq, z_neq, if_pos, if_neg, x_andl, false_and, and_false, or_true, true_or, or_false, false_or, not_true, not_false_iff, x_rd_eq, x_rd_ne, x_st_o, Int.cast_ofNat_Int, Int.ofNat_zero, Int.ofNat_one, not_true_eq_false, not_false_eq_true, if_true, if_false, ite_self, and_self, Int.ofNat_eq_natCast, Int.tdiv_eq_ediv_of_nonneg, Int.tmod_eq_emod_of_nonneg, x_bm32, kg2]
      exact K
  · have w6 := fun d' Q' => (wr d' Q').2 (fun z => xw_d.2.2.2.2.2.2.2.2.2.2 (wrd_u z hw))
    have w11 := fun d' Q' => (wf d' Q').1 hw
    have kf := fun (d' : Nat) (Q' : Option x_V → x_S → Prop) => k_fiveN (d := d') (Q := Q') h (noF (Or.inr hw))
    obtain ⟨r1, σ1, ⟨hr1, f1, g1, hh⟩, ev⟩ := x_ex (h_mfk h e6 e8 e7 hW m0)
    subst hr1
    have K : x_Wp 9 178 (x_blk 178 7) [xR 50 0, xI (-1), xI 1] [] σ1 Q := by
      rcases hh with z | ⟨_, m1, w1⟩
      · exfalso
        have := z.1
        omega
      · refine tail σ1 (-1) 1 _ f1 g1 m1 ex (fun y => ?_)
        have y2 : (psS b n (psD b n (psK b n fr (0, -1, tA b n A)))).1 = 0 := by
          rw [ex] at y
          exact y
        obtain ⟨s8, s7, u0, u1, u2, u3, hu, w56⟩ := w1 (psS_c y2)
        obtain ⟨q0, q1, q2, q3⟩ := hu
        obtain ⟨p0, p1, p2, p3⟩ := hd
        refine ⟨?_, by rw [s8, etd], by rw [s7, ewo]⟩
        rw [w56, efr, q0, q1, q2, q3, p0, p1, p2, p3]
        rfl
    clear hW ht wr wf tail flt hQ hh
    generalize fr 0 = m at em m0 m40
    simp (disch := first | omega | (simp only [x_wtI, x_wtJ, x_wtR, x_wtN]; omega) | assumption | (simp (disch := omega) only [x_st_o, x_rd_ne]; first | assumption | omega) | (apply mir_eq; assumption; (intro c h1 h2; simp (disch := omega) only [x_st_o])) | (apply mis_eq; assumption; (intro c h1 h2; simp (disch := omega) only [x_st_o])) | rfl) only [sp_178, bk_178_0, bk_178_1, bk_178_2, bk_178_3, bk_178_4, bk_178_5, bk_178_6, bk_178_8, bk_178_9, wp_ald0, wk_179, wp_ist1, wr_50_14, wp_ic, wl_56, wp_cald, wp_ifle, wp_goto, wp_fall, wp_ist2, wp_ild1, wp_iceq, wp_ild2, wp_ifne, wk_181, wp_lds, wk_180, wp_ifeq, wk_182, wk_177, wk_175, wk_187, ws_56, wk_188, wp_geti kd_50, wp_ret, x_clr_I, x_clr_J, x_clr_R, x_clr_U, ct_some, ct_none, lc_lt, lc_ge, lc_gt, lc_le, lc_eq, lc_r, xI_inj, xJ_inj, Option.some.injEq, eq_self, bi_r, bi_0, bi_1, bi_n, Classical.not_not, and_true, true_and, ite_true, ite_false, ↓reduceIte, ↓x_andl, z_le, z_nle, z_lt, z_nlt, z_eq, z_neq, if_pos, if_neg, x_andl, false_and, and_false, or_true, true_or, or_false, false_or, not_true, not_false_iff, x_rd_eq, x_rd_ne, x_st_o, Int.cast_ofNat_Int, Int.ofNat_zero, Int.ofNat_one, not_true_eq_false, not_false_eq_true, if_true, if_false, ite_self, and_self, Int.ofNat_eq_natCast, Int.tdiv_eq_ediv_of_nonneg, Int.tmod_eq_emod_of_nonneg, x_bm32, em, kf, w6, w11]
    refine (ev 0 _).mpr ?_
    simp (disch := first | omega | (simp only [x_wtI, x_wtJ, x_wtR, x_wtN]; omega) | assumption | (simp (disch := omega) only [x_st_o, x_rd_ne]; first | assumption | omega) | (apply mir_eq; assumption; (intro c h1 h2; simp (disch := omega) only [x_st_o])) | (apply mis_eq; assumption; (intro c h1 h2; simp (disch := omega) only [x_st_o])) | rfl) only [bk_178_0, bk_178_1, bk_178_2, bk_178_3, bk_178_4, bk_178_5, bk_178_6, bk_178_8, bk_178_9, wp_ald0, wk_179, wp_ist1, wr_50_14, wp_ic, wl_56, wp_cald, wp_ifle, wp_goto, wp_fall, wp_ist2, wp_ild1, wp_iceq, wp_ild2, wp_ifne, wk_181, wp_lds, wk_180, wp_ifeq, wk_182, wk_177, wk_175, wk_187, ws_56, wk_188, wp_geti kd_50, wp_ret, x_clr_I, x_clr_J, x_clr_R, x_clr_U, ct_some, ct_none, lc_lt, lc_ge, lc_gt, lc_le, lc_eq, lc_r, xI_inj, xJ_inj, Option.some.injEq, eq_self, bi_r, bi_0, bi_1, bi_n, Classical.not_not, and_true, true_and, ite_true, ite_false, ↓reduceIte, ↓x_andl, z_le, z_nle, z_lt, z_nlt, z_eq, z_neq, if_pos, if_neg, x_andl, false_and, and_false, or_true, true_or, or_false, false_or, not_true, not_false_iff, x_rd_eq, x_rd_ne, x_st_o, Int.cast_ofNat_Int, Int.ofNat_zero, Int.ofNat_one, not_true_eq_false, not_false_eq_true, if_true, if_false, ite_self, and_self, Int.ofNat_eq_natCast, Int.tdiv_eq_ediv_of_nonneg, Int.tmod_eq_emod_of_nonneg, x_bm32]
    exact K

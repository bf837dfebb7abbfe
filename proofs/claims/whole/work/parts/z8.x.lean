theorem h_under {w W : Int → Int} {σc : x_S} (hw : wf w) (hA : lkA 1 w σc 0) (hS : wS W) (e0 : W 0 = w 0) (hL : ∀ f, 0 ≤ f → f < w 0 → jL σc W f) : ∀ (n : Nat) (f : Int) (σ : x_S), σ 51 0 = W → 0 ≤ f → f < w 0 → 4 ≤ n + w_of W f 6 → x_Sp (n + 1) 255 [xR 50 0, xI f] σ (fun r σ' => σ' = σ ∧ r = some (xI (σc 46 0 f))) := by
  have a := wf_h hw
  unfold wf_hdr at a
  intro n
  induction n with
  | zero =>
    intro f σ h51 f0 f1 hn
    obtain ⟨sf1, sf2, sf3, sf4⟩ := hS.2 f f0 (by rw [e0]; exact f1)
    have k0 : w_of W f 7 = 0 := by
      by_cases z : w_of W f 7 = 0
      · exact z
      · have x := sf4 0 (by omega) (by omega)
        have y := (hS.2 _ x.1.1 x.1.2).2.1
        omega
    have l := hL f f0 f1
    have b := (hA.1 f f0 f1).1.2
    rw [← l.1, k0] at b
    have b1 : σc 46 0 f = 1 := b
    rw [b1]
    refine x_gen (fun Q hQ => ?_)
    have F := hQ (some (xI 1)) σ ⟨rfl, rfl⟩
    simp (disch := first | omega | (simp only [x_wtI, x_wtJ, x_wtR, x_wtN]; omega) | assumption | (simp (disch := omega) only [x_st_o, x_rd_ne]; first | assumption | omega) | (apply mir_eq; assumption; (intro c h1 h2; simp (disch := omega) only [x_st_o])) | (apply mis_eq; assumption; (intro c h1 h2; simp (disch := omega) only [x_st_o])) | rfl) only [sp_255, bk_255_0, bk_255_1, bk_255_2, wp_ic, wp_ist2, wp_ist3, wp_fall, wp_ild3, wp_ald0, wp_ild1, wk_192, wp_icge, wp_ild2, wp_iadd, wk_255, wp_inc3, wp_goto, wp_iret mz_255, x_clr_I, x_clr_J, x_clr_R, x_clr_U, ct_some, ct_none, lc_lt, lc_ge, lc_gt, lc_le, lc_eq, lc_r, xI_inj, xJ_inj, Option.some.injEq, eq_self, bi_r, bi_0, bi_1, bi_n, Classical.not_not, and_true, true_and, ite_true, ite_false, ↓reduceIte, ↓x_andl, z_le, z_nle, z_lt, z_nlt, z_eq, z_neq, if_pos, if_neg, x_andl, false_and, and_false, or_true, true_or, or_false, false_or, not_true, not_false_iff, x_rd_eq, x_rd_ne, x_st_o, Int.cast_ofNat_Int, Int.ofNat_zero, Int.ofNat_one, not_true_eq_false, not_false_eq_true, if_true, if_false, ite_self, and_self, Int.ofNat_eq_natCast, Int.tdiv_eq_ediv_of_nonneg, Int.tmod_eq_emod_of_nonneg, x_bm32, k_of, k0]
    exact F
  | succ n ih =>
    intro f σ h51 f0 f1 hn
    obtain ⟨sf1, sf2, sf3, sf4⟩ := hS.2 f f0 (by rw [e0]; exact f1)
    have l := hL f f0 f1
    have b := (hA.1 f f0 f1).1.2
    rw [← l.1] at b
    refine x_gen (fun Q hQ => ?_)
    have F := hQ (some (xI (σc 46 0 f))) σ ⟨rfl, rfl⟩
    simp (disch := first | omega | (simp only [x_wtI, x_wtJ, x_wtR, x_wtN]; omega) | assumption | (simp (disch := omega) only [x_st_o, x_rd_ne]; first | assumption | omega) | (apply mir_eq; assumption; (intro c h1 h2; simp (disch := omega) only [x_st_o])) | (apply mis_eq; assumption; (intro c h1 h2; simp (disch := omega) only [x_st_o])) | rfl) only [sp_255, bk_255_0, bk_255_2, wp_ic, wp_ist2, wp_ist3, wp_fall, wp_ild3, wp_ald0, wp_ild1, wk_192, wp_icge, wp_ild2, wp_iadd, wk_255, wp_inc3, wp_goto, wp_iret mz_255, x_clr_I, x_clr_J, x_clr_R, x_clr_U, ct_some, ct_none, lc_lt, lc_ge, lc_gt, lc_le, lc_eq, lc_r, xI_inj, xJ_inj, Option.some.injEq, eq_self, bi_r, bi_0, bi_1, bi_n, Classical.not_not, and_true, true_and, ite_true, ite_false, ↓reduceIte, ↓x_andl, z_le, z_nle, z_lt, z_nlt, z_eq, z_neq, if_pos, if_neg, x_andl, false_and, and_false, or_true, true_or, or_false, false_or, not_true, not_false_iff, x_rd_eq, x_rd_ne, x_st_o, Int.cast_ofNat_Int, Int.ofNat_zero, Int.ofNat_one, not_true_eq_false, not_false_eq_true, if_true, if_false, ite_self, and_self, Int.ofNat_eq_natCast, Int.tdiv_eq_ediv_of_nonneg, Int.tmod_eq_emod_of_nonneg, x_bm32]
    suffices h : x_Wp (n + 1 + 1) 255 (x_blk 255 1) [xR 50 0, xI f, xI (1 + bS (σc 46 0) (lkl σc f) (Int.toNat 0)), xI 0] [] σ Q by
      exact h
    refine x_lpK (α := Unit) (fun _ _ => True) (fun i _ => x_Wp (n + 1 + 1) 255 (x_blk 255 1) [xR 50 0, xI f, xI (1 + bS (σc 46 0) (lkl σc f) i.toNat), xI i] [] σ Q) (lo := 0) (hi := w_of W f 7) (by omega) (a0 := ()) trivial ?_ ?_
    · intro i _ i0 i1 _ K
      have x := sf4 i i0 i1
      have li := (l.2 i i0 (by rw [← l.1]; exact i1)).1
      rw [li] at x
      obtain ⟨r, σ', ⟨hσ', hr⟩, ev⟩ := x_ex (ih (lkl σc f i) σ h51 x.1.1 (by rw [← e0]; exact x.1.2) (by omega))
      subst hσ'
      subst hr
      have ev0 := fun Q' => ev 0 Q'
      simp only [Nat.zero_add] at ev0
      have K2 := K () trivial
      rw [bS_s i0, ← Int.add_assoc] at K2
      generalize hk : lkl σc f i = k at li x ev0 K2
      generalize 1 + bS (σc 46 0) (lkl σc f) i.toNat = s at K2
      rw [bk_255_1]
      simp (disch := first | omega | (simp only [x_wtI, x_wtJ, x_wtR, x_wtN]; omega) | assumption | (simp (disch := omega) only [x_st_o, x_rd_ne]; first | assumption | omega) | (apply mir_eq; assumption; (intro c h1 h2; simp (disch := omega) only [x_st_o])) | (apply mis_eq; assumption; (intro c h1 h2; simp (disch := omega) only [x_st_o])) | rfl) only [bk_255_0, bk_255_2, wp_ic, wp_ist2, wp_ist3, wp_fall, wp_ild3, wp_ald0, wp_ild1, wk_192, wp_icge, wp_ild2, wp_iadd, wk_255, wp_inc3, wp_goto, wp_iret mz_255, x_clr_I, x_clr_J, x_clr_R, x_clr_U, ct_some, ct_none, lc_lt, lc_ge, lc_gt, lc_le, lc_eq, lc_r, xI_inj, xJ_inj, Option.some.injEq, eq_self, bi_r, bi_0, bi_1, bi_n, Classical.not_not, and_true, true_and, ite_true, ite_false, ↓reduceIte, ↓x_andl, z_le, z_nle, z_lt, z_nlt, z_eq, z_neq, if_pos, if_neg, x_andl, false_and, and_false, or_true, true_or, or_false, false_or, not_true, not_false_iff, x_rd_eq, x_rd_ne, x_st_o, Int.cast_ofNat_Int, Int.ofNat_zero, Int.ofNat_one, not_true_eq_false, not_false_eq_true, if_true, if_false, ite_self, and_self, Int.ofNat_eq_natCast, Int.tdiv_eq_ediv_of_nonneg, Int.tmod_eq_emod_of_nonneg, x_bm32, k_of, li]
      refine (ev0 _).mpr ?_
      simp (disch := first | omega | (simp only [x_wtI, x_wtJ, x_wtR, x_wtN]; omega) | assumption | (simp (disch := omega) only [x_st_o, x_rd_ne]; first | assumption | omega) | (apply mir_eq; assumption; (intro c h1 h2; simp (disch := omega) only [x_st_o])) | (apply mis_eq; assumption; (intro c h1 h2; simp (disch := omega) only [x_st_o])) | rfl) only [bk_255_0, bk_255_2, wp_ic, wp_ist2, wp_ist3, wp_fall, wp_ild3, wp_ald0, wp_ild1, wk_192, wp_icge, wp_ild2, wp_iadd, wk_255, wp_inc3, wp_goto, wp_iret mz_255, x_clr_I, x_clr_J, x_clr_R, x_clr_U, ct_some, ct_none, lc_lt, lc_ge, lc_gt, lc_le, lc_eq, lc_r, xI_inj, xJ_inj, Option.some.injEq, eq_self, bi_r, bi_0, bi_1, bi_n, Classical.not_not, and_true, true_and, ite_true, ite_false, ↓reduceIte, ↓x_andl, z_le, z_nle, z_lt, z_nlt, z_eq, z_neq, if_pos, if_neg, x_andl, false_and, and_false, or_true, true_or, or_false, false_or, not_true, not_false_iff, x_rd_eq, x_rd_ne, x_st_o, Int.cast_ofNat_Int, Int.ofNat_zero, Int.ofNat_one, not_true_eq_false, not_false_eq_true, if_true, if_false, ite_self, and_self, Int.ofNat_eq_natCast, Int.tdiv_eq_ediv_of_nonneg, Int.tmod_eq_emod_of_nonneg, x_bm32]
      exact K2
    · intro _ _
      rw [← b]
      rw [bk_255_1]
      simp (disch := first | omega | (simp only [x_wtI, x_wtJ, x_wtR, x_wtN]; omega) | assumption | (simp (disch := omega) only [x_st_o, x_rd_ne]; first | assumption | omega) | (apply mir_eq; assumption; (intro c h1 h2; simp (disch := omega) only [x_st_o])) | (apply mis_eq; assumption; (intro c h1 h2; simp (disch := omega) only [x_st_o])) | rfl) only [bk_255_0, bk_255_2, wp_ic, wp_ist2, wp_ist3, wp_fall, wp_ild3, wp_ald0, wp_ild1, wk_192, wp_icge, wp_ild2, wp_iadd, wk_255, wp_inc3, wp_goto, wp_iret mz_255, x_clr_I, x_clr_J, x_clr_R, x_clr_U, ct_some, ct_none, lc_lt, lc_ge, lc_gt, lc_le, lc_eq, lc_r, xI_inj, xJ_inj, Option.some.injEq, eq_self, bi_r, bi_0, bi_1, bi_n, Classical.not_not, and_true, true_and, ite_true, ite_false, ↓reduceIte, ↓x_andl, z_le, z_nle, z_lt, z_nlt, z_eq, z_neq, if_pos, if_neg, x_andl, false_and, and_false, or_true, true_or, or_false, false_or, not_true, not_false_iff, x_rd_eq, x_rd_ne, x_st_o, Int.cast_ofNat_Int, Int.ofNat_zero, Int.ofNat_one, not_true_eq_false, not_false_eq_true, if_true, if_false, ite_self, and_self, Int.ofNat_eq_natCast, Int.tdiv_eq_ediv_of_nonneg, Int.tmod_eq_emod_of_nonneg, x_bm32, k_of]
      exact F
section OJO
variable {L : Int} {S0 : Int → Int}
set_option maxHeartbeats 4000000 in
theorem o_joined : x_o23 (iN L S0) := by
  intro σ hh
  refine ag_I ?_
  obtain ⟨w, h51, hw, h100, hn, hq, hM, hS⟩ := iN_w hh
  have a := wf_h hw
  unfold wf_hdr at a
  simp (disch := first | omega | (simp only [x_wtI, x_wtJ, x_wtR, x_wtN]; omega) | assumption | (simp (disch := omega) only [x_st_o, x_rd_ne]; first | assumption | omega) | (apply mir_eq; assumption; (intro c h1 h2; simp (disch := omega) only [x_st_o])) | (apply mis_eq; assumption; (intro c h1 h2; simp (disch := omega) only [x_st_o])) | rfl) only [sp_149, bk_149_0, wp_ald0, wr_0_10, wp_ic, wk_18, wr_44_2, wl_46, wp_cald, wp_iret mz_149, x_clr_I, x_clr_J, x_clr_R, x_clr_U, ct_some, ct_none, lc_lt, lc_ge, lc_gt, lc_le, lc_eq, lc_r, xI_inj, xJ_inj, Option.some.injEq, eq_self, bi_r, bi_0, bi_1, bi_n, Classical.not_not, and_true, true_and, ite_true, ite_false, ↓reduceIte, ↓x_andl, z_le, z_nle, z_lt, z_nlt, z_eq, z_neq, if_pos, if_neg, x_andl, false_and, and_false, or_true, true_or, or_false, false_or, not_true, not_false_iff, x_rd_eq, x_rd_ne, x_st_o, Int.cast_ofNat_Int, Int.ofNat_zero, Int.ofNat_one, not_true_eq_false, not_false_eq_true, if_true, if_false, ite_self, and_self, Int.ofNat_eq_natCast, Int.tdiv_eq_ediv_of_nonneg, Int.tmod_eq_emod_of_nonneg, x_bm32]
  refine x_use (d := 995) (h_sort (jn := 1) hM hw (Or.inr rfl)) ?_
  rintro r σc ⟨rfl, e1, hA⟩
  have g51 : σc 51 0 = w := (e1 51 0 (by simp)).trans h51
  have hh1 := iN_lk hh e1
  simp (disch := first | omega | (simp only [x_wtI, x_wtJ, x_wtR, x_wtN]; omega) | assumption | (simp (disch := omega) only [x_st_o, x_rd_ne]; first | assumption | omega) | (apply mir_eq; assumption; (intro c h1 h2; simp (disch := omega) only [x_st_o])) | (apply mis_eq; assumption; (intro c h1 h2; simp (disch := omega) only [x_st_o])) | rfl) only [bk_149_0, wp_ald0, wr_0_10, wp_ic, wk_18, wr_44_2, wl_46, wp_cald, wp_iret mz_149, x_clr_I, x_clr_J, x_clr_R, x_clr_U, ct_some, ct_none, lc_lt, lc_ge, lc_gt, lc_le, lc_eq, lc_r, xI_inj, xJ_inj, Option.some.injEq, eq_self, bi_r, bi_0, bi_1, bi_n, Classical.not_not, and_true, true_and, ite_true, ite_false, ↓reduceIte, ↓x_andl, z_le, z_nle, z_lt, z_nlt, z_eq, z_neq, if_pos, if_neg, x_andl, false_and, and_false, or_true, true_or, or_false, false_or, not_true, not_false_iff, x_rd_eq, x_rd_ne, x_st_o, Int.cast_ofNat_Int, Int.ofNat_zero, Int.ofNat_one, not_true_eq_false, not_false_eq_true, if_true, if_false, ite_self, and_self, Int.ofNat_eq_natCast, Int.tdiv_eq_ediv_of_nonneg, Int.tmod_eq_emod_of_nonneg, x_bm32]
  refine ⟨_, rfl, fun j i => by rw [e1 100 j (by simp)], ?_⟩
  obtain ⟨Q, hQd⟩ : ∃ Q : Option x_V → x_S → Prop, Q = fun r2 σ3 => r2 = some (xI (σc 46 0 0)) ∧ iN L S0 σ3 := ⟨_, rfl⟩
  rw [← hQd]
  -- the world is put back
  have back : ∀ (σ' : x_S) (u2 : x_V), x_eqo [(51, 0), (69, 0)] σc σ' → (∀ i, 0 ≤ i → i < 616 → σ' 69 0 i = w i) → (∀ i, i < 16 ∨ 536 ≤ i → σ' 51 0 i = w i) → x_Wp 999 253 (x_blk 253 8) [xR 50 0, xI (σc 46 0 0), xI 0] [] σ' Q := by
    intro σ' u2 e hs hb
    refine x_lpK (α := x_S) (fun i σi => x_eqo [(51, 0)] σ' σi ∧ (∀ q, 0 ≤ q → q < i → σi 51 0 q = w q) ∧ ∀ q, q < 16 ∨ 536 ≤ q → σi 51 0 q = w q) (fun i σi => x_Wp 999 253 (x_blk 253 8) [xR 50 0, xI (σc 46 0 0), xI i] [] σi Q) (lo := 0) (hi := 616) (by omega) (a0 := σ') ⟨eqo_refl, fun q a b => by omega, hb⟩ ?_ ?_
    · intro i σi i0 i1 ⟨n1, n2, n3⟩ K
      have s := hs i i0 i1
      have s2 : σi 69 0 i = w i := by rw [n1 69 0 (by simp)]; exact s
      have K2 := K (x_st σi 51 0 i (w i)) ⟨eqo_st (by simp) n1, fun q q0 q1 => by
        by_cases z : q = i
        · rw [z, x_rd_eq]
        · rw [x_rd_ne (by omega)]
          exact n2 q q0 (by omega), fun q hq => by
        by_cases z : q = i
        · rw [z, x_rd_eq]
        · rw [x_rd_ne (by omega)]
          exact n3 q hq⟩
      rw [bk_253_8]
      simp (disch := first | omega | (simp only [x_wtI, x_wtJ, x_wtR, x_wtN]; omega) | assumption | (simp (disch := omega) only [x_st_o, x_rd_ne]; first | assumption | omega) | (apply mir_eq; assumption; (intro c h1 h2; simp (disch := omega) only [x_st_o])) | (apply mis_eq; assumption; (intro c h1 h2; simp (disch := omega) only [x_st_o])) | rfl) only [bk_253_0, bk_253_1, bk_253_2, bk_253_3, bk_253_4, bk_253_5, bk_253_6, bk_253_7, bk_253_9, wp_ic, wp_ist1, wp_fall, wp_ild1, wp_icge, wp_ald0, wr_50_32, wr_50_1, wl_51, wl_69, wp_cald, ws_51, ws_69, wp_inc1, wp_goto, wp_iflt, wp_ist2, wp_ild2, wk_192, wp_icne, wk_254, wp_inc2, wk_255, wp_iret mz_253, x_clr_I, x_clr_J, x_clr_R, x_clr_U, ct_some, ct_none, lc_lt, lc_ge, lc_gt, lc_le, lc_eq, lc_r, xI_inj, xJ_inj, Option.some.injEq, eq_self, bi_r, bi_0, bi_1, bi_n, Classical.not_not, and_true, true_and, ite_true, ite_false, ↓reduceIte, ↓x_andl, z_le, z_nle, z_lt, z_nlt, z_eq, z_neq, if_pos, if_neg, x_andl, false_and, and_false, or_true, true_or, or_false, false_or, not_true, not_false_iff, x_rd_eq, x_rd_ne, x_st_o, Int.cast_ofNat_Int, Int.ofNat_zero, Int.ofNat_one, not_true_eq_false, not_false_eq_true, if_true, if_false, ite_self, and_self, Int.ofNat_eq_natCast, Int.tdiv_eq_ediv_of_nonneg, Int.tmod_eq_emod_of_nonneg, x_bm32, s2]
      exact K2
    · intro σi ⟨n1, n2, n3⟩
      have ew : σi 51 0 = σc 51 0 := by
        rw [g51]
        funext q
        by_cases z : 0 ≤ q ∧ q < 616
        · exact n2 q z.1 z.2
        · exact n3 q (by omega)
      have F : Q (some (xI (σc 46 0 0))) σi := by
        rw [hQd]
        refine ⟨rfl, iN_e hh1 (S := [(69, 0)]) (fun c j hc => ?_) (by decide)⟩
        by_cases z : c = 51 ∧ j = 0
        · obtain ⟨rfl, rfl⟩ := z
          exact ew
        · rw [n1 c j (by simp; omega)]
          exact e c j (by
            simp only [List.mem_cons, Prod.mk.injEq, List.not_mem_nil, or_false] at hc ⊢
            omega)
      rw [bk_253_8]
      simp (disch := first | omega | (simp only [x_wtI, x_wtJ, x_wtR, x_wtN]; omega) | assumption | (simp (disch := omega) only [x_st_o, x_rd_ne]; first | assumption | omega) | (apply mir_eq; assumption; (intro c h1 h2; simp (disch := omega) only [x_st_o])) | (apply mis_eq; assumption; (intro c h1 h2; simp (disch := omega) only [x_st_o])) | rfl) only [bk_253_0, bk_253_1, bk_253_2, bk_253_3, bk_253_4, bk_253_5, bk_253_6, bk_253_7, bk_253_9, wp_ic, wp_ist1, wp_fall, wp_ild1, wp_icge, wp_ald0, wr_50_32, wr_50_1, wl_51, wl_69, wp_cald, ws_51, ws_69, wp_inc1, wp_goto, wp_iflt, wp_ist2, wp_ild2, wk_192, wp_icne, wk_254, wp_inc2, wk_255, wp_iret mz_253, x_clr_I, x_clr_J, x_clr_R, x_clr_U, ct_some, ct_none, lc_lt, lc_ge, lc_gt, lc_le, lc_eq, lc_r, xI_inj, xJ_inj, Option.some.injEq, eq_self, bi_r, bi_0, bi_1, bi_n, Classical.not_not, and_true, true_and, ite_true, ite_false, ↓reduceIte, ↓x_andl, z_le, z_nle, z_lt, z_nlt, z_eq, z_neq, if_pos, if_neg, x_andl, false_and, and_false, or_true, true_or, or_false, false_or, not_true, not_false_iff, x_rd_eq, x_rd_ne, x_st_o, Int.cast_ofNat_Int, Int.ofNat_zero, Int.ofNat_one, not_true_eq_false, not_false_eq_true, if_true, if_false, ite_self, and_self, Int.ofNat_eq_natCast, Int.tdiv_eq_ediv_of_nonneg, Int.tmod_eq_emod_of_nonneg, x_bm32]
      exact F
  -- the levels
  have levels : ∀ (σ' : x_S) (c : Int) (u2 : x_V), -1 ≤ c → c ≤ 3 → x_eqo [(51, 0), (69, 0)] σc σ' → (∀ i, 0 ≤ i → i < 616 → σ' 69 0 i = w i) → jW w σc c 0 (σ' 51 0) → x_Wp 999 253 (x_blk 253 3) [xR 50 0, xI c, u2] [] σ' Q := by
    intro σ' c u2 c0 c3 e hs hW
    have key : ∀ (m : Nat) (c : Int) (σ' : x_S) (u2 : x_V), c + 1 = m → c ≤ 3 → x_eqo [(51, 0), (69, 0)] σc σ' → (∀ i, 0 ≤ i → i < 616 → σ' 69 0 i = w i) → jW w σc c 0 (σ' 51 0) → x_Wp 999 253 (x_blk 253 3) [xR 50 0, xI c, u2] [] σ' Q := by
      intro m
      induction m with
      | zero =>
        intro c σ' u2 hm c3 e hs hW
        have c1 : c = -1 := by omega
        subst c1
        have hL : ∀ f, 0 ≤ f → f < w 0 → jL σc (σ' 51 0) f := by
          intro f f0 f1
          have o := wf_f hw f0 f1
          unfold wf_one at o
          exact (hW.2 f f0 f1).1 (Or.inl (by omega))
        have wSW : wS (σ' 51 0) := jwS hw hA hW.1 (fun h h0 h1 => Or.inl (hL h h0 h1))
        have b := back σ' xU e hs hW.1.1
        have o6 := wSW.2 0 (Int.le_refl 0) (by rw [hW.1.1 0 (by omega)]; omega)
        obtain ⟨r, σ2, ⟨hσ2, hr⟩, ev⟩ := x_ex (h_under hw hA wSW (hW.1.1 0 (by omega)) hL 4 0 σ' rfl (Int.le_refl 0) (by omega) (by have := o6.2.1; omega))
        subst hσ2
        subst hr
        rw [bk_253_3]
        simp (disch := first | omega | (simp only [x_wtI, x_wtJ, x_wtR, x_wtN]; omega) | assumption | (simp (disch := omega) only [x_st_o, x_rd_ne]; first | assumption | omega) | (apply mir_eq; assumption; (intro c h1 h2; simp (disch := omega) only [x_st_o])) | (apply mis_eq; assumption; (intro c h1 h2; simp (disch := omega) only [x_st_o])) | rfl) only [bk_253_0, bk_253_1, bk_253_2, bk_253_4, bk_253_5, bk_253_6, bk_253_7, bk_253_9, wp_ic, wp_ist1, wp_fall, wp_ild1, wp_icge, wp_ald0, wr_50_32, wr_50_1, wl_51, wl_69, wp_cald, ws_51, ws_69, wp_inc1, wp_goto, wp_iflt, wp_ist2, wp_ild2, wk_192, wp_icne, wk_254, wp_inc2, wk_255, wp_iret mz_253, x_clr_I, x_clr_J, x_clr_R, x_clr_U, ct_some, ct_none, lc_lt, lc_ge, lc_gt, lc_le, lc_eq, lc_r, xI_inj, xJ_inj, Option.some.injEq, eq_self, bi_r, bi_0, bi_1, bi_n, Classical.not_not, and_true, true_and, ite_true, ite_false, ↓reduceIte, ↓x_andl, z_le, z_nle, z_lt, z_nlt, z_eq, z_neq, if_pos, if_neg, x_andl, false_and, and_false, or_true, true_or, or_false, false_or, not_true, not_false_iff, x_rd_eq, x_rd_ne, x_st_o, Int.cast_ofNat_Int, Int.ofNat_zero, Int.ofNat_one, not_true_eq_false, not_false_eq_true, if_true, if_false, ite_self, and_self, Int.ofNat_eq_natCast, Int.tdiv_eq_ediv_of_nonneg, Int.tmod_eq_emod_of_nonneg, x_bm32]
        refine (ev 993 _).mpr ?_
        simp (disch := first | omega | (simp only [x_wtI, x_wtJ, x_wtR, x_wtN]; omega) | assumption | (simp (disch := omega) only [x_st_o, x_rd_ne]; first | assumption | omega) | (apply mir_eq; assumption; (intro c h1 h2; simp (disch := omega) only [x_st_o])) | (apply mis_eq; assumption; (intro c h1 h2; simp (disch := omega) only [x_st_o])) | rfl) only [bk_253_0, bk_253_1, bk_253_2, bk_253_3, bk_253_4, bk_253_5, bk_253_6, bk_253_7, bk_253_9, wp_ic, wp_ist1, wp_fall, wp_ild1, wp_icge, wp_ald0, wr_50_32, wr_50_1, wl_51, wl_69, wp_cald, ws_51, ws_69, wp_inc1, wp_goto, wp_iflt, wp_ist2, wp_ild2, wk_192, wp_icne, wk_254, wp_inc2, wk_255, wp_iret mz_253, x_clr_I, x_clr_J, x_clr_R, x_clr_U, ct_some, ct_none, lc_lt, lc_ge, lc_gt, lc_le, lc_eq, lc_r, xI_inj, xJ_inj, Option.some.injEq, eq_self, bi_r, bi_0, bi_1, bi_n, Classical.not_not, and_true, true_and, ite_true, ite_false, ↓reduceIte, ↓x_andl, z_le, z_nle, z_lt, z_nlt, z_eq, z_neq, if_pos, if_neg, x_andl, false_and, and_false, or_true, true_or, or_false, false_or, not_true, not_false_iff, x_rd_eq, x_rd_ne, x_st_o, Int.cast_ofNat_Int, Int.ofNat_zero, Int.ofNat_one, not_true_eq_false, not_false_eq_true, if_true, if_false, ite_self, and_self, Int.ofNat_eq_natCast, Int.tdiv_eq_ediv_of_nonneg, Int.tmod_eq_emod_of_nonneg, x_bm32]
        exact b
      | succ m ih =>
        intro c σ' u2 hm c3 e hs hW
        have inner : x_Wp 999 253 (x_blk 253 4) [xR 50 0, xI c, xI 0] [] σ' Q := by
          refine x_lpK (α := x_S) (fun f σf => x_eqo [(51, 0), (69, 0)] σc σf ∧ (∀ i, 0 ≤ i → i < 616 → σf 69 0 i = w i) ∧ jW w σc c f (σf 51 0)) (fun f σf => x_Wp 999 253 (x_blk 253 4) [xR 50 0, xI c, xI f] [] σf Q) (lo := 0) (hi := w 0) (by omega) (a0 := σ') ⟨e, hs, hW⟩ ?_ ?_
          · intro f σf f0 f1 ⟨n1, n2, n3⟩ K
            have o := wf_f hw f0 f1
            unfold wf_one at o
            have s0 : σf 69 0 0 = w 0 := n2 0 (Int.le_refl 0) (by omega)
            have f6 := n3.1.2.1 f 6 f0 f1 (by omega) (by omega) (by omega)
            obtain ⟨W, hWd⟩ : ∃ W, σf 51 0 = W := ⟨_, rfl⟩
            rw [hWd] at f6
            by_cases cf : w_of w f 6 = c
            · rw [bk_253_4]
              simp (disch := first | omega | (simp only [x_wtI, x_wtJ, x_wtR, x_wtN]; omega) | assumption | (simp (disch := omega) only [x_st_o, x_rd_ne]; first | assumption | omega) | (apply mir_eq; assumption; (intro c h1 h2; simp (disch := omega) only [x_st_o])) | (apply mis_eq; assumption; (intro c h1 h2; simp (disch := omega) only [x_st_o])) | rfl) only [bk_253_0, bk_253_1, bk_253_2, bk_253_3, bk_253_5, bk_253_6, bk_253_7, bk_253_8, bk_253_9, wp_ic, wp_ist1, wp_fall, wp_ild1, wp_icge, wp_ald0, wr_50_32, wr_50_1, wl_51, wl_69, wp_cald, ws_51, ws_69, wp_inc1, wp_goto, wp_iflt, wp_ist2, wp_ild2, wk_192, wp_icne, wk_254, wp_inc2, wk_255, wp_iret mz_253, x_clr_I, x_clr_J, x_clr_R, x_clr_U, ct_some, ct_none, lc_lt, lc_ge, lc_gt, lc_le, lc_eq, lc_r, xI_inj, xJ_inj, Option.some.injEq, eq_self, bi_r, bi_0, bi_1, bi_n, Classical.not_not, and_true, true_and, ite_true, ite_false, ↓reduceIte, ↓x_andl, z_le, z_nle, z_lt, z_nlt, z_eq, z_neq, if_pos, if_neg, x_andl, false_and, and_false, or_true, true_or, or_false, false_or, not_true, not_false_iff, x_rd_eq, x_rd_ne, x_st_o, Int.cast_ofNat_Int, Int.ofNat_zero, Int.ofNat_one, not_true_eq_false, not_false_eq_true, if_true, if_false, ite_self, and_self, Int.ofNat_eq_natCast, Int.tdiv_eq_ediv_of_nonneg, Int.tmod_eq_emod_of_nonneg, x_bm32, s0, k_of hWd, f6]
              refine x_use (d := 992) (h_joins hw hA f0 f1 cf n3 n2) ?_
              rintro r σ2 ⟨rfl, e2, w2⟩
              have K2 := K σ2 ⟨eqo_trans n1 (eqo_mono (by simp) e2), fun i i0 i1 => by rw [e2 69 0 (by simp)]; exact n2 i i0 i1, w2⟩
              simp (disch := first | omega | (simp only [x_wtI, x_wtJ, x_wtR, x_wtN]; omega) | assumption | (simp (disch := omega) only [x_st_o, x_rd_ne]; first | assumption | omega) | (apply mir_eq; assumption; (intro c h1 h2; simp (disch := omega) only [x_st_o])) | (apply mis_eq; assumption; (intro c h1 h2; simp (disch := omega) only [x_st_o])) | rfl) only [bk_253_0, bk_253_1, bk_253_2, bk_253_3, bk_253_5, bk_253_6, bk_253_7, bk_253_8, bk_253_9, wp_ic, wp_ist1, wp_fall, wp_ild1, wp_icge, wp_ald0, wr_50_32, wr_50_1, wl_51, wl_69, wp_cald, ws_51, ws_69, wp_inc1, wp_goto, wp_iflt, wp_ist2, wp_ild2, wk_192, wp_icne, wk_254, wp_inc2, wk_255, wp_iret mz_253, x_clr_I, x_clr_J, x_clr_R, x_clr_U, ct_some, ct_none, lc_lt, lc_ge, lc_gt, lc_le, lc_eq, lc_r, xI_inj, xJ_inj, Option.some.injEq, eq_self, bi_r, bi_0, bi_1, bi_n, Classical.not_not, and_true, true_and, ite_true, ite_false, ↓reduceIte, ↓x_andl, z_le, z_nle, z_lt, z_nlt, z_eq, z_neq, if_pos, if_neg, x_andl, false_and, and_false, or_true, true_or, or_false, false_or, not_true, not_false_iff, x_rd_eq, x_rd_ne, x_st_o, Int.cast_ofNat_Int, Int.ofNat_zero, Int.ofNat_one, not_true_eq_false, not_false_eq_true, if_true, if_false, ite_self, and_self, Int.ofNat_eq_natCast, Int.tdiv_eq_ediv_of_nonneg, Int.tmod_eq_emod_of_nonneg, x_bm32]
              exact K2
            · have K2 := K σf ⟨n1, n2, n3.1, fun h h0 h1 => by
                have x := n3.2 h h0 h1
                refine ⟨fun z => x.1 ?_, fun z => x.2 ?_⟩
                · by_cases y : h = f
                  · rw [y] at z ⊢
                    omega
                  · omega
                · by_cases y : h = f
                  · rw [y] at z ⊢
                    omega
                  · omega⟩
              rw [bk_253_4]
              simp (disch := first | omega | (simp only [x_wtI, x_wtJ, x_wtR, x_wtN]; omega) | assumption | (simp (disch := omega) only [x_st_o, x_rd_ne]; first | assumption | omega) | (apply mir_eq; assumption; (intro c h1 h2; simp (disch := omega) only [x_st_o])) | (apply mis_eq; assumption; (intro c h1 h2; simp (disch := omega) only [x_st_o])) | rfl) only [bk_253_0, bk_253_1, bk_253_2, bk_253_3, bk_253_5, bk_253_6, bk_253_7, bk_253_8, bk_253_9, wp_ic, wp_ist1, wp_fall, wp_ild1, wp_icge, wp_ald0, wr_50_32, wr_50_1, wl_51, wl_69, wp_cald, ws_51, ws_69, wp_inc1, wp_goto, wp_iflt, wp_ist2, wp_ild2, wk_192, wp_icne, wk_254, wp_inc2, wk_255, wp_iret mz_253, x_clr_I, x_clr_J, x_clr_R, x_clr_U, ct_some, ct_none, lc_lt, lc_ge, lc_gt, lc_le, lc_eq, lc_r, xI_inj, xJ_inj, Option.some.injEq, eq_self, bi_r, bi_0, bi_1, bi_n, Classical.not_not, and_true, true_and, ite_true, ite_false, ↓reduceIte, ↓x_andl, z_le, z_nle, z_lt, z_nlt, z_eq, z_neq, if_pos, if_neg, x_andl, false_and, and_false, or_true, true_or, or_false, false_or, not_true, not_false_iff, x_rd_eq, x_rd_ne, x_st_o, Int.cast_ofNat_Int, Int.ofNat_zero, Int.ofNat_one, not_true_eq_false, not_false_eq_true, if_true, if_false, ite_self, and_self, Int.ofNat_eq_natCast, Int.tdiv_eq_ediv_of_nonneg, Int.tmod_eq_emod_of_nonneg, x_bm32, s0, k_of hWd, f6]
              exact K2
          · intro σf ⟨n1, n2, n3⟩
            have s0 : σf 69 0 0 = w 0 := n2 0 (Int.le_refl 0) (by omega)
            have K2 := ih (c - 1) σf (xI (w 0)) (by omega) (by omega) n1 n2 ⟨n3.1, fun h h0 h1 => by
              have x := n3.2 h h0 h1
              exact ⟨fun z => x.1 (by omega), fun z => x.2 (by omega)⟩⟩
            rw [bk_253_4]
            simp (disch := first | omega | (simp only [x_wtI, x_wtJ, x_wtR, x_wtN]; omega) | assumption | (simp (disch := omega) only [x_st_o, x_rd_ne]; first | assumption | omega) | (apply mir_eq; assumption; (intro c h1 h2; simp (disch := omega) only [x_st_o])) | (apply mis_eq; assumption; (intro c h1 h2; simp (disch := omega) only [x_st_o])) | rfl) only [bk_253_0, bk_253_1, bk_253_2, bk_253_5, bk_253_6, bk_253_7, bk_253_8, bk_253_9, wp_ic, wp_ist1, wp_fall, wp_ild1, wp_icge, wp_ald0, wr_50_32, wr_50_1, wl_51, wl_69, wp_cald, ws_51, ws_69, wp_inc1, wp_goto, wp_iflt, wp_ist2, wp_ild2, wk_192, wp_icne, wk_254, wp_inc2, wk_255, wp_iret mz_253, x_clr_I, x_clr_J, x_clr_R, x_clr_U, ct_some, ct_none, lc_lt, lc_ge, lc_gt, lc_le, lc_eq, lc_r, xI_inj, xJ_inj, Option.some.injEq, eq_self, bi_r, bi_0, bi_1, bi_n, Classical.not_not, and_true, true_and, ite_true, ite_false, ↓reduceIte, ↓x_andl, z_le, z_nle, z_lt, z_nlt, z_eq, z_neq, if_pos, if_neg, x_andl, false_and, and_false, or_true, true_or, or_false, false_or, not_true, not_false_iff, x_rd_eq, x_rd_ne, x_st_o, Int.cast_ofNat_Int, Int.ofNat_zero, Int.ofNat_one, not_true_eq_false, not_false_eq_true, if_true, if_false, ite_self, and_self, Int.ofNat_eq_natCast, Int.tdiv_eq_ediv_of_nonneg, Int.tmod_eq_emod_of_nonneg, x_bm32, s0]
            exact K2
        rw [bk_253_3]
        simp (disch := first | omega | (simp only [x_wtI, x_wtJ, x_wtR, x_wtN]; omega) | assumption | (simp (disch := omega) only [x_st_o, x_rd_ne]; first | assumption | omega) | (apply mir_eq; assumption; (intro c h1 h2; simp (disch := omega) only [x_st_o])) | (apply mis_eq; assumption; (intro c h1 h2; simp (disch := omega) only [x_st_o])) | rfl) only [bk_253_0, bk_253_1, bk_253_2, bk_253_5, bk_253_6, bk_253_7, bk_253_8, bk_253_9, wp_ic, wp_ist1, wp_fall, wp_ild1, wp_icge, wp_ald0, wr_50_32, wr_50_1, wl_51, wl_69, wp_cald, ws_51, ws_69, wp_inc1, wp_goto, wp_iflt, wp_ist2, wp_ild2, wk_192, wp_icne, wk_254, wp_inc2, wk_255, wp_iret mz_253, x_clr_I, x_clr_J, x_clr_R, x_clr_U, ct_some, ct_none, lc_lt, lc_ge, lc_gt, lc_le, lc_eq, lc_r, xI_inj, xJ_inj, Option.some.injEq, eq_self, bi_r, bi_0, bi_1, bi_n, Classical.not_not, and_true, true_and, ite_true, ite_false, ↓reduceIte, ↓x_andl, z_le, z_nle, z_lt, z_nlt, z_eq, z_neq, if_pos, if_neg, x_andl, false_and, and_false, or_true, true_or, or_false, false_or, not_true, not_false_iff, x_rd_eq, x_rd_ne, x_st_o, Int.cast_ofNat_Int, Int.ofNat_zero, Int.ofNat_one, not_true_eq_false, not_false_eq_true, if_true, if_false, ite_self, and_self, Int.ofNat_eq_natCast, Int.tdiv_eq_ediv_of_nonneg, Int.tmod_eq_emod_of_nonneg, x_bm32]
        exact inner
    exact key (c + 1).toNat c σ' u2 (by omega) c3 e hs hW
  -- the world is saved
  simp (disch := first | omega | (simp only [x_wtI, x_wtJ, x_wtR, x_wtN]; omega) | assumption | (simp (disch := omega) only [x_st_o, x_rd_ne]; first | assumption | omega) | (apply mir_eq; assumption; (intro c h1 h2; simp (disch := omega) only [x_st_o])) | (apply mis_eq; assumption; (intro c h1 h2; simp (disch := omega) only [x_st_o])) | rfl) only [sp_253, bk_253_0, bk_253_2, bk_253_3, bk_253_4, bk_253_5, bk_253_6, bk_253_7, bk_253_8, bk_253_9, wp_ic, wp_ist1, wp_fall, wp_ild1, wp_icge, wp_ald0, wr_50_32, wr_50_1, wl_51, wl_69, wp_cald, ws_51, ws_69, wp_inc1, wp_goto, wp_iflt, wp_ist2, wp_ild2, wk_192, wp_icne, wk_254, wp_inc2, wk_255, wp_iret mz_253, x_clr_I, x_clr_J, x_clr_R, x_clr_U, ct_some, ct_none, lc_lt, lc_ge, lc_gt, lc_le, lc_eq, lc_r, xI_inj, xJ_inj, Option.some.injEq, eq_self, bi_r, bi_0, bi_1, bi_n, Classical.not_not, and_true, true_and, ite_true, ite_false, ↓reduceIte, ↓x_andl, z_le, z_nle, z_lt, z_nlt, z_eq, z_neq, if_pos, if_neg, x_andl, false_and, and_false, or_true, true_or, or_false, false_or, not_true, not_false_iff, x_rd_eq, x_rd_ne, x_st_o, Int.cast_ofNat_Int, Int.ofNat_zero, Int.ofNat_one, not_true_eq_false, not_false_eq_true, if_true, if_false, ite_self, and_self, Int.ofNat_eq_natCast, Int.tdiv_eq_ediv_of_nonneg, Int.tmod_eq_emod_of_nonneg, x_bm32]
  refine x_lpK (α := x_S) (fun i σi => x_eqo [(69, 0)] σc σi ∧ ∀ q, 0 ≤ q → q < i → σi 69 0 q = w q) (fun i σi => x_Wp 999 253 (x_blk 253 1) [xR 50 0, xI i, xU] [] σi Q) (lo := 0) (hi := 616) (by omega) (a0 := σc) ⟨eqo_refl, fun q a b => by omega⟩ ?_ ?_
  · intro i σi i0 i1 ⟨n1, n2⟩ K
    have w1 : σi 51 0 i = w i := by rw [n1 51 0 (by simp), g51]
    have K2 := K (x_st σi 69 0 i (w i)) ⟨eqo_st (by simp) n1, fun q q0 q1 => by
      by_cases z : q = i
      · rw [z, x_rd_eq]
      · rw [x_rd_ne (by omega)]
        exact n2 q q0 (by omega)⟩
    rw [bk_253_1]
    simp (disch := first | omega | (simp only [x_wtI, x_wtJ, x_wtR, x_wtN]; omega) | assumption | (simp (disch := omega) only [x_st_o, x_rd_ne]; first | assumption | omega) | (apply mir_eq; assumption; (intro c h1 h2; simp (disch := omega) only [x_st_o])) | (apply mis_eq; assumption; (intro c h1 h2; simp (disch := omega) only [x_st_o])) | rfl) only [bk_253_0, bk_253_2, bk_253_3, bk_253_4, bk_253_5, bk_253_6, bk_253_7, bk_253_8, bk_253_9, wp_ic, wp_ist1, wp_fall, wp_ild1, wp_icge, wp_ald0, wr_50_32, wr_50_1, wl_51, wl_69, wp_cald, ws_51, ws_69, wp_inc1, wp_goto, wp_iflt, wp_ist2, wp_ild2, wk_192, wp_icne, wk_254, wp_inc2, wk_255, wp_iret mz_253, x_clr_I, x_clr_J, x_clr_R, x_clr_U, ct_some, ct_none, lc_lt, lc_ge, lc_gt, lc_le, lc_eq, lc_r, xI_inj, xJ_inj, Option.some.injEq, eq_self, bi_r, bi_0, bi_1, bi_n, Classical.not_not, and_true, true_and, ite_true, ite_false, ↓reduceIte, ↓x_andl, z_le, z_nle, z_lt, z_nlt, z_eq, z_neq, if_pos, if_neg, x_andl, false_and, and_false, or_true, true_or, or_false, false_or, not_true, not_false_iff, x_rd_eq, x_rd_ne, x_st_o, Int.cast_ofNat_Int, Int.ofNat_zero, Int.ofNat_one, not_true_eq_false, not_false_eq_true, if_true, if_false, ite_self, and_self, Int.ofNat_eq_natCast, Int.tdiv_eq_ediv_of_nonneg, Int.tmod_eq_emod_of_nonneg, x_bm32, w1]
    exact K2
  · intro σi ⟨n1, n2⟩
    have g51i : σi 51 0 = w := (n1 51 0 (by simp)).trans g51
    have K2 := levels σi 3 xU (by omega) (by omega) (eqo_mono (by simp) n1) n2 (by
      rw [g51i]
      refine ⟨⟨fun _ _ => rfl, fun _ _ _ _ _ _ _ => rfl, fun f f0 f1 => ?_⟩, fun f f0 f1 => ⟨fun z => ?_, fun _ => ⟨rfl, fun _ _ _ => ⟨rfl, rfl⟩⟩⟩⟩
      · have o := wf_f hw f0 f1
        unfold wf_one at o
        omega
      · have o := wf_f hw f0 f1
        unfold wf_one at o
        have k0 : w_of w f 7 = 0 := by
          by_cases y : w_of w f 7 = 0
          · exact y
          · have kk := wf_k hw (f := f) (i := 0) f0 f1 (by omega) (by omega)
            have ok := wf_f hw (f := w_of w f (8 + 0)) (by omega) kk.2.1
            unfold wf_one at ok
            omega
        have ln := lkn hw hA f0 f1
        exact ⟨by omega, fun i i0 i1 => by omega⟩)
    rw [bk_253_1]
    simp (disch := first | omega | (simp only [x_wtI, x_wtJ, x_wtR, x_wtN]; omega) | assumption | (simp (disch := omega) only [x_st_o, x_rd_ne]; first | assumption | omega) | (apply mir_eq; assumption; (intro c h1 h2; simp (disch := omega) only [x_st_o])) | (apply mis_eq; assumption; (intro c h1 h2; simp (disch := omega) only [x_st_o])) | rfl) only [bk_253_0, bk_253_1, bk_253_2, bk_253_4, bk_253_5, bk_253_6, bk_253_7, bk_253_8, bk_253_9, wp_ic, wp_ist1, wp_fall, wp_ild1, wp_icge, wp_ald0, wr_50_32, wr_50_1, wl_51, wl_69, wp_cald, ws_51, ws_69, wp_inc1, wp_goto, wp_iflt, wp_ist2, wp_ild2, wk_192, wp_icne, wk_254, wp_inc2, wk_255, wp_iret mz_253, x_clr_I, x_clr_J, x_clr_R, x_clr_U, ct_some, ct_none, lc_lt, lc_ge, lc_gt, lc_le, lc_eq, lc_r, xI_inj, xJ_inj, Option.some.injEq, eq_self, bi_r, bi_0, bi_1, bi_n, Classical.not_not, and_true, true_and, ite_true, ite_false, ↓reduceIte, ↓x_andl, z_le, z_nle, z_lt, z_nlt, z_eq, z_neq, if_pos, if_neg, x_andl, false_and, and_false, or_true, true_or, or_false, false_or, not_true, not_false_iff, x_rd_eq, x_rd_ne, x_st_o, Int.cast_ofNat_Int, Int.ofNat_zero, Int.ofNat_one, not_true_eq_false, not_false_eq_true, if_true, if_false, ite_self, and_self, Int.ofNat_eq_natCast, Int.tdiv_eq_ediv_of_nonneg, Int.tmod_eq_emod_of_nonneg, x_bm32]
    exact K2
end OJO

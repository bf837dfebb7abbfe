theorem h_refillL {σ : x_S} {w : Int → Int} {N : Nat} (hM : mir σ 1 w) (hw : wf w) (hn : wn w) (hN : ckN w N) (hN4 : N ≤ 4) (hm : σ 24 3 3 = 4) (hWd : σ 24 3 1 = 4) (hE : σ 24 3 2 = 5) : x_Sp 5 139 [xR 0 0, xI (ck w N), xI (w 8)] σ (fun r σ' => r = none ∧ x_eqo [(24, 3), (25, 3), (27, 3), (28, 3)] σ σ' ∧ (∀ k, ¬ (7 ≤ k ∧ k ≤ 9) → σ' 24 3 k = σ 24 3 k) ∧ ∀ k : Nat, 1 ≤ k → k ≤ N → rowL w (σ' 25 3) (ck w k) (N - k)) := by
  have a := wf_h hw
  unfold wf_hdr at a
  have n8 := hn.1
  refine x_gen (fun Q hQ => ?_)
  have key : ∀ k : Nat, k ≤ N → ∀ σ' : x_S, x_eqo [(24, 3), (25, 3), (27, 3), (28, 3)] σ σ' → (∀ k, ¬ (7 ≤ k ∧ k ≤ 9) → σ' 24 3 k = σ 24 3 k) → (∀ q : Nat, k < q → q ≤ N → rowL w (σ' 25 3) (ck w q) (N - q)) → x_Wp 5 139 (x_blk 139 1) [xR 0 0, xI (ck w N), xI (w 8), xI (ck w k), xI ((N : Int) - k)] [] σ' Q := by
    intro k
    induction k with
    | zero =>
      intro hk σ' e kk rows
      have F := hQ none σ' ⟨rfl, e, kk, fun q q1 q2 => rows q (by omega) q2⟩
      have e8 : ck w 0 = w 8 := rfl
      have on := (ck_f hw hn hN.1 N (Nat.le_refl _)).1
      rw [bk_139_1, e8]
      by_cases z : (N : Int) - ((0 : Nat) : Int) < 4
      · simp (disch := first | omega | (simp only [x_wtI, x_wtJ, x_wtR, x_wtN]; omega) | assumption | (simp (disch := omega) only [x_st_o, x_rd_ne]; first | assumption | omega) | (apply mir_eq; assumption; (intro c h1 h2; simp (disch := omega) only [x_st_o])) | (apply mis_eq; assumption; (intro c h1 h2; simp (disch := omega) only [x_st_o])) | rfl) only [bk_139_0, bk_139_2, wp_ild1, wp_ist3, wp_ic, wp_ist4, wp_fall, wp_ild4, wp_icge, wp_ild3, wp_ild2, wp_icle, wp_ald0, wr_0_7, wk_2, wr_0_2, wr_20_0, wr_6_7, wl_7, wp_cald, wp_inc4, wp_goto, wp_ret, x_clr_I, x_clr_J, x_clr_R, x_clr_U, ct_some, ct_none, lc_lt, lc_ge, lc_gt, lc_le, lc_eq, lc_r, xI_inj, xJ_inj, Option.some.injEq, eq_self, bi_r, bi_0, bi_1, bi_n, Classical.not_not, and_true, true_and, ite_true, ite_false, ↓reduceIte, ↓x_andl, z_le, z_nle, z_lt, z_nlt, z_eq, z_neq, if_pos, if_neg, x_andl, false_and, and_false, or_true, true_or, or_false, false_or, not_true, not_false_iff, x_rd_eq, x_rd_ne, x_st_o, Int.cast_ofNat_Int, Int.ofNat_zero, Int.ofNat_one, not_true_eq_false, not_false_eq_true, if_true, if_false, ite_self, and_self, Int.ofNat_eq_natCast, Int.tdiv_eq_ediv_of_nonneg, Int.tmod_eq_emod_of_nonneg, x_bm32]
        exact F
      · simp (disch := first | omega | (simp only [x_wtI, x_wtJ, x_wtR, x_wtN]; omega) | assumption | (simp (disch := omega) only [x_st_o, x_rd_ne]; first | assumption | omega) | (apply mir_eq; assumption; (intro c h1 h2; simp (disch := omega) only [x_st_o])) | (apply mis_eq; assumption; (intro c h1 h2; simp (disch := omega) only [x_st_o])) | rfl) only [bk_139_0, bk_139_2, wp_ild1, wp_ist3, wp_ic, wp_ist4, wp_fall, wp_ild4, wp_icge, wp_ild3, wp_ild2, wp_icle, wp_ald0, wr_0_7, wk_2, wr_0_2, wr_20_0, wr_6_7, wl_7, wp_cald, wp_inc4, wp_goto, wp_ret, x_clr_I, x_clr_J, x_clr_R, x_clr_U, ct_some, ct_none, lc_lt, lc_ge, lc_gt, lc_le, lc_eq, lc_r, xI_inj, xJ_inj, Option.some.injEq, eq_self, bi_r, bi_0, bi_1, bi_n, Classical.not_not, and_true, true_and, ite_true, ite_false, ↓reduceIte, ↓x_andl, z_le, z_nle, z_lt, z_nlt, z_eq, z_neq, if_pos, if_neg, x_andl, false_and, and_false, or_true, true_or, or_false, false_or, not_true, not_false_iff, x_rd_eq, x_rd_ne, x_st_o, Int.cast_ofNat_Int, Int.ofNat_zero, Int.ofNat_one, not_true_eq_false, not_false_eq_true, if_true, if_false, ite_self, and_self, Int.ofNat_eq_natCast, Int.tdiv_eq_ediv_of_nonneg, Int.tmod_eq_emod_of_nonneg, x_bm32]
        exact F
    | succ k ih =>
      intro hk σ' e kk rows
      have cf := ck_f hw hn hN.1 (k + 1) hk
      have cs := ck_s hw hn hN.1 (k := k) (by omega)
      have ck0 := (ck_f hw hn hN.1 k (by omega)).1
      have cN := (ck_f hw hn hN.1 N (Nat.le_refl _)).1
      have hM' : mir σ' 1 w := mir_eq hM (fun c q1 q2 => e c 1 (by simp))
      have bR := likR_b (T := σ' 25 3) hN hk (fun z => rows (k + 1 + 1) (by omega) (by omega))
      have hb : rbd (likR w (σ' 25 3) (ck w (k + 1))) := by
        intro s s0 s1
        rcases bR s s0 s1 with z | z
        · exact Or.inl z
        · exact Or.inr (by omega)
      obtain ⟨r, σ2, ⟨hr, e2, k2, o2, R, hR, m2⟩, ev⟩ := x_ex (h_ff (σ := σ') (j := 3) (f := ck w (k + 1)) (c := 4) (Wd := 4) (sc := 1) (kp := kpE w 5 (ck w (k + 1))) (P := fun R => R = likR w (σ' 25 3) (ck w (k + 1))) hM' (by omega) hw (by omega) cf.1.2 (by rw [kk 3 (by omega)]; exact hm) (by omega) (by rw [kk 1 (by omega)]; exact hWd) (by omega) (by omega) (kpE_b hw) (fun R h => by rw [h]; exact hb) (h_lookL hM' hw (by omega) cf.1.2 (by rw [kk 3 (by omega)]; exact hm) (by rw [kk 2 (by omega)]; exact hE) rfl hb))
      subst hr
      subst hR
      have same : ∀ q : Nat, k + 1 < q → q ≤ N → ∀ s, 0 ≤ s → s < 42 → σ2 25 3 (42 * ck w q + s) = σ' 25 3 (42 * ck w q + s) := by
        intro q q0 q1 s s0 s1
        have := ck_lt hw hn hN.1 q (k + 1) q0 q1
        exact o2 _ (by omega)
      have lik : ∀ q : Nat, k + 1 ≤ q → q ≤ N → ∀ s, 0 ≤ s → s < 42 → likR w (σ2 25 3) (ck w q) s = likR w (σ' 25 3) (ck w q) s := by
        intro q q0 q1 s s0 s1
        unfold likR
        by_cases z : q = N
        · rw [if_pos (by rw [z]; exact hN.2), if_pos (by rw [z]; exact hN.2)]
        · have kp := hN.1 q (by omega)
          rw [if_neg (by omega), if_neg (by omega)]
          exact same (q + 1) (by omega) (by omega) s s0 s1
      have K := ih (by omega) σ2 (eqo_trans e e2) (fun q hq => by rw [k2 q hq]; exact kk q hq) (fun q q0 q1 => by
        by_cases z : q = k + 1
        · subst z
          intro st wd p1 p2 p3 p4
          have x := m2 st wd p1 p2 p3 p4
          have y : x_ml 9223372036854775807 (fun u => ∃ b t, zR 9223372036854775807 w (likR w (σ2 25 3) (ck w (k + 1))) (ck w (k + 1)) st wd b t u) (σ2 25 3 (42 * ck w (k + 1) + (21 * wd + st))) := by
            refine ml_cg x (fun u => ?_)
            constructor
            · rintro ⟨b, t, z⟩
              exact ⟨b, t, (zR_cg hw (by omega) cf.1.2 ⟨p1, p2⟩ (lik (k + 1) (Nat.le_refl _) q1)).mpr (zcl_zR.mp z)⟩
            · rintro ⟨b, t, z⟩
              exact ⟨b, t, zcl_zR.mpr ((zR_cg hw (by omega) cf.1.2 ⟨p1, p2⟩ (lik (k + 1) (Nat.le_refl _) q1)).mp z)⟩
          refine ⟨y, ?_⟩
          rcases y with ⟨y, _⟩ | ⟨⟨b, t, y⟩, _⟩
          · exact Or.inl y
          · have := zR_bd hw (by omega) cf.1.2 ⟨p1, p2⟩ bR ((zR_cg hw (by omega) cf.1.2 ⟨p1, p2⟩ (lik (k + 1) (Nat.le_refl _) q1)).mp y)
            exact Or.inr (by omega)
        · intro st wd p1 p2 p3 p4
          have x := rows q (by omega) q1 st wd p1 p2 p3 p4
          have cq := (ck_f hw hn hN.1 q q1).1
          rw [same q (by omega) q1 _ (by omega) (by omega)]
          refine ⟨ml_cg x.1 (fun u => ?_), x.2⟩
          constructor
          · rintro ⟨b, t, z⟩
            exact ⟨b, t, (zR_cg hw (by omega) cq.2 ⟨p1, p2⟩ (lik q (by omega) q1)).mpr z⟩
          · rintro ⟨b, t, z⟩
            exact ⟨b, t, (zR_cg hw (by omega) cq.2 ⟨p1, p2⟩ (lik q (by omega) q1)).mp z⟩)
      have hM2 : mir σ2 1 w := mir_eq hM' (fun c q1 q2 => e2 c 1 (by simp))
      have un := mi_under hM2 (f := ck w (k + 1)) (by omega) cf.1.2
      rw [cs.2] at un
      have ei : (N : Int) - (k : Int) = (N : Int) - ((k + 1 : Nat) : Int) + 1 := by omega
      rw [ei] at K
      have hi4 : (N : Int) - ((k + 1 : Nat) : Int) < 4 := by omega
      have gtt : w 8 < ck w (k + 1) := by omega
      generalize hg : ck w (k + 1) = g at ev un gtt cf
      generalize hii : (N : Int) - ((k + 1 : Nat) : Int) = ii at K hi4
      have iib : 0 ≤ ii := by omega
      rw [bk_139_1]
      simp (disch := first | omega | (simp only [x_wtI, x_wtJ, x_wtR, x_wtN]; omega) | assumption | (simp (disch := omega) only [x_st_o, x_rd_ne]; first | assumption | omega) | (apply mir_eq; assumption; (intro c h1 h2; simp (disch := omega) only [x_st_o])) | (apply mis_eq; assumption; (intro c h1 h2; simp (disch := omega) only [x_st_o])) | rfl) only [bk_139_0, bk_139_2, wp_ild1, wp_ist3, wp_ic, wp_ist4, wp_fall, wp_ild4, wp_icge, wp_ild3, wp_ild2, wp_icle, wp_ald0, wr_0_7, wk_2, wr_0_2, wr_20_0, wr_6_7, wl_7, wp_cald, wp_inc4, wp_goto, wp_ret, x_clr_I, x_clr_J, x_clr_R, x_clr_U, ct_some, ct_none, lc_lt, lc_ge, lc_gt, lc_le, lc_eq, lc_r, xI_inj, xJ_inj, Option.some.injEq, eq_self, bi_r, bi_0, bi_1, bi_n, Classical.not_not, and_true, true_and, ite_true, ite_false, ↓reduceIte, ↓x_andl, z_le, z_nle, z_lt, z_nlt, z_eq, z_neq, if_pos, if_neg, x_andl, false_and, and_false, or_true, true_or, or_false, false_or, not_true, not_false_iff, x_rd_eq, x_rd_ne, x_st_o, Int.cast_ofNat_Int, Int.ofNat_zero, Int.ofNat_one, not_true_eq_false, not_false_eq_true, if_true, if_false, ite_self, and_self, Int.ofNat_eq_natCast, Int.tdiv_eq_ediv_of_nonneg, Int.tmod_eq_emod_of_nonneg, x_bm32]
      refine (ev 0 _).mpr ?_
      simp (disch := first | omega | (simp only [x_wtI, x_wtJ, x_wtR, x_wtN]; omega) | assumption | (simp (disch := omega) only [x_st_o, x_rd_ne]; first | assumption | omega) | (apply mir_eq; assumption; (intro c h1 h2; simp (disch := omega) only [x_st_o])) | (apply mis_eq; assumption; (intro c h1 h2; simp (disch := omega) only [x_st_o])) | rfl) only [bk_139_0, bk_139_2, wp_ild1, wp_ist3, wp_ic, wp_ist4, wp_fall, wp_ild4, wp_icge, wp_ild3, wp_ild2, wp_icle, wp_ald0, wr_0_7, wk_2, wr_0_2, wr_20_0, wr_6_7, wl_7, wp_cald, wp_inc4, wp_goto, wp_ret, x_clr_I, x_clr_J, x_clr_R, x_clr_U, ct_some, ct_none, lc_lt, lc_ge, lc_gt, lc_le, lc_eq, lc_r, xI_inj, xJ_inj, Option.some.injEq, eq_self, bi_r, bi_0, bi_1, bi_n, Classical.not_not, and_true, true_and, ite_true, ite_false, ↓reduceIte, ↓x_andl, z_le, z_nle, z_lt, z_nlt, z_eq, z_neq, if_pos, if_neg, x_andl, false_and, and_false, or_true, true_or, or_false, false_or, not_true, not_false_iff, x_rd_eq, x_rd_ne, x_st_o, Int.cast_ofNat_Int, Int.ofNat_zero, Int.ofNat_one, not_true_eq_false, not_false_eq_true, if_true, if_false, ite_self, and_self, Int.ofNat_eq_natCast, Int.tdiv_eq_ediv_of_nonneg, Int.tmod_eq_emod_of_nonneg, x_bm32, un]
      exact K
  have K := key N (Nat.le_refl _) σ eqo_refl (fun _ _ => rfl) (fun q q0 q1 => by omega)
  rw [show (N : Int) - (N : Int) = 0 by omega] at K
  simp (disch := first | omega | (simp only [x_wtI, x_wtJ, x_wtR, x_wtN]; omega) | assumption | (simp (disch := omega) only [x_st_o, x_rd_ne]; first | assumption | omega) | (apply mir_eq; assumption; (intro c h1 h2; simp (disch := omega) only [x_st_o])) | (apply mis_eq; assumption; (intro c h1 h2; simp (disch := omega) only [x_st_o])) | rfl) only [sp_139, bk_139_0, bk_139_2, wp_ild1, wp_ist3, wp_ic, wp_ist4, wp_fall, wp_ild4, wp_icge, wp_ild3, wp_ild2, wp_icle, wp_ald0, wr_0_7, wk_2, wr_0_2, wr_20_0, wr_6_7, wl_7, wp_cald, wp_inc4, wp_goto, wp_ret, x_clr_I, x_clr_J, x_clr_R, x_clr_U, ct_some, ct_none, lc_lt, lc_ge, lc_gt, lc_le, lc_eq, lc_r, xI_inj, xJ_inj, Option.some.injEq, eq_self, bi_r, bi_0, bi_1, bi_n, Classical.not_not, and_true, true_and, ite_true, ite_false, ↓reduceIte, ↓x_andl, z_le, z_nle, z_lt, z_nlt, z_eq, z_neq, if_pos, if_neg, x_andl, false_and, and_false, or_true, true_or, or_false, false_or, not_true, not_false_iff, x_rd_eq, x_rd_ne, x_st_o, Int.cast_ofNat_Int, Int.ofNat_zero, Int.ofNat_one, not_true_eq_false, not_false_eq_true, if_true, if_false, ite_self, and_self, Int.ofNat_eq_natCast, Int.tdiv_eq_ediv_of_nonneg, Int.tmod_eq_emod_of_nonneg, x_bm32]
  exact K
section OMI
variable {L : Int} {S0 : Int → Int}
set_option maxHeartbeats 8000000 in
theorem h_midM {σ : x_S} {w V : Int → Int} {N : Nat} {v : Int} (hh : iN L S0 σ) (h51 : σ 51 0 = w) (hN : ckN w N) (hN4 : N ≤ 4) (rows : ∀ k : Nat, 1 ≤ k → k ≤ N → rowL w V (ck w k) (N - k))
    (hv : (v = (-9223372036854775808) ∧ ∀ b t u, ¬ zR 9223372036854775807 w (likR w V (w 8)) (w 8) (w 9) (w 10) b t u) ∨ ∃ b0 t0 low, fL (zR 9223372036854775807 w (likR w V (w 8)) (w 8) (w 9) (w 10)) b0 t0 low ∧ ∀ σm : x_S, iN L S0 σm → σm 51 0 = w → x_Sp 8 237 [xR 50 0, xI (t0 + w_of w (w 8) 5 - w 9), xI b0] σm (fun r σ' => r = some (xJ v) ∧ iN L S0 σ')) : x_Sp 999 233 [xR 50 0] σ (fun r2 σ2 => r2 = some (xJ v) ∧ iN L S0 σ2) := by
  obtain ⟨w', h51', hw, h100, hn, hq, hM, hS⟩ := iN_w hh
  have ew : w' = w := h51'.symm.trans h51
  subst ew
  have a := wf_h hw
  unfold wf_hdr at a
  obtain ⟨n8, n9, n10, _⟩ := id hn
  have mm := hh.2.2.2.1
  obtain ⟨Q, hQd⟩ : ∃ Q : Option x_V → x_S → Prop, Q = fun r2 σ2 => r2 = some (xJ v) ∧ iN L S0 σ2 := ⟨_, rfl⟩
  rw [← hQd]
  -- what stays
  have inv : ∀ σ' : x_S, x_eqo [(50, 0), (65, 0), (66, 0), (67, 0)] σ σ' → (∀ k, ¬ (k = 23 ∨ k = 24) → σ' 50 0 k = σ 50 0 k) → iN L S0 σ' := by
    intro σ' e k
    refine iN_scr hh (eqo_mono (by decide) e) ?_ ?_
    · intro j q _ _ _
      rw [e 24 j (by simp)]
    · intro q hq
      exact k q (by omega)
  -- the last part
  have last : ∀ (σ' : x_S) (u1 : Int) (u3 : x_V) (kk : Int), kk ≤ 0 → -5 ≤ kk → x_eqo [(50, 0), (65, 0), (66, 0), (67, 0)] σ σ' → (∀ k, ¬ (k = 23 ∨ k = 24) → σ' 50 0 k = σ 50 0 k) → (∀ s, 0 ≤ s → s < 42 → tg (σ' 65 0 s) (likR w' V (w' 8) s)) → x_Wp 999 233 (x_blk 233 5) [xR 50 0, xI u1, xI kk, u3] [] σ' Q := by
    intro σ' u1 u3 kk k0 k5 e k ag
    have bR := likR_b (T := V) hN (k := 0) (by omega) (fun z => rows 1 (by omega) (by omega))
    have bO : ∀ s, 0 ≤ s → s < 42 → σ' 65 0 s = (-9223372036854775808) ∨ (-150000 ≤ σ' 65 0 s ∧ σ' 65 0 s ≤ 150000) := by
      intro s s0 s1
      rcases ag s s0 s1 with ⟨z, _⟩ | ⟨z, _, y⟩
      · exact Or.inl z
      · have := (bR s s0 s1).resolve_left y
        exact Or.inr (by
          have e8 : ck w' 0 = w' 8 := rfl
          rw [e8] at this
          omega)
    have g51 : σ' 51 0 = w' := (e 51 0 (by simp)).trans h51
    obtain ⟨r, σ2, ⟨k2, v2, hr, vb, h2⟩, ev⟩ := x_ex (h_lway (σ := σ') (w := w') (O := σ' 65 0) (f := w' 8) (st := w' 9) (wd := w' 10) (B := 150000) g51 (by rw [k 17 (by omega)]; exact mm.1) rfl hw n8.1 n8.2 n9 n10 (by omega) bO)
    subst hr
    have zi : ∀ b t u, zR (-9223372036854775808) w' (σ' 65 0) (w' 8) (w' 9) (w' 10) b t u ↔ zR 9223372036854775807 w' (likR w' V (w' 8)) (w' 8) (w' 9) (w' 10) b t u := fun b t u => zR_tg hw n8.1 n8.2 n9 ag
    have hh2 : iN L S0 σ2 := inv σ2 (eqo_trans e (eqo_mono (by simp) k2.1)) (fun q hq => by rw [k2.2 q hq]; exact k q hq)
    have g512 : σ2 51 0 = w' := by rw [k2.1 51 0 (by simp)]; exact g51
    rw [bk_233_5]
    simp (disch := first | omega | (simp only [x_wtI, x_wtJ, x_wtR, x_wtN]; omega) | assumption | (simp (disch := omega) only [x_st_o, x_rd_ne]; first | assumption | omega) | (apply mir_eq; assumption; (intro c h1 h2; simp (disch := omega) only [x_st_o])) | (apply mis_eq; assumption; (intro c h1 h2; simp (disch := omega) only [x_st_o])) | rfl) only [bk_233_0, bk_233_1, bk_233_2, bk_233_3, bk_233_4, bk_233_6, bk_233_7, bk_233_8, bk_233_9, bk_233_10, bk_233_11, wp_ic, wp_ist1, wp_ald0, wr_50_1, wl_51, wl_67, wp_cald, wp_ist2, wp_fall, wp_ild2, wp_iceq, wr_50_30, wp_ild1, ws_51, ws_67, wp_inc1, wk_234, wp_goto, wp_icge, wr_50_28, wp_lc, ws_65, ws_66, wp_inc2, wp_isub, wp_ifle, wp_ist3, wp_ild3, wr_50_29, wk_235, wp_inc3, wl_65, wl_66, wp_pald, wk_197, wp_lcmp, wp_ifne, wp_lret, wp_geti kd_50, wk_237, x_clr_I, x_clr_J, x_clr_R, x_clr_U, ct_some, ct_none, lc_lt, lc_ge, lc_gt, lc_le, lc_eq, lc_r, xI_inj, xJ_inj, Option.some.injEq, eq_self, bi_r, bi_0, bi_1, bi_n, Classical.not_not, and_true, true_and, ite_true, ite_false, ↓reduceIte, ↓x_andl, z_le, z_nle, z_lt, z_nlt, z_eq, z_neq, if_pos, if_neg, x_andl, false_and, and_false, or_true, true_or, or_false, false_or, not_true, not_false_iff, x_rd_eq, x_rd_ne, x_st_o, Int.cast_ofNat_Int, Int.ofNat_zero, Int.ofNat_one, not_true_eq_false, not_false_eq_true, if_true, if_false, ite_self, and_self, Int.ofNat_eq_natCast, Int.tdiv_eq_ediv_of_nonneg, Int.tmod_eq_emod_of_nonneg, x_bm32, g51, k_stateNow]
    refine (ev 993 _).mpr ?_
    rcases h2 with ⟨z1, z2⟩ | ⟨b1, t1, z1, z2, z3, z4⟩
    · subst z1
      rcases hv with ⟨y1, _⟩ | ⟨b0, t0, low, y1, _⟩
      · simp (disch := first | omega | (simp only [x_wtI, x_wtJ, x_wtR, x_wtN]; omega) | assumption | (simp (disch := omega) only [x_st_o, x_rd_ne]; first | assumption | omega) | (apply mir_eq; assumption; (intro c h1 h2; simp (disch := omega) only [x_st_o])) | (apply mis_eq; assumption; (intro c h1 h2; simp (disch := omega) only [x_st_o])) | rfl) only [bk_233_0, bk_233_1, bk_233_2, bk_233_3, bk_233_4, bk_233_6, bk_233_7, bk_233_8, bk_233_9, bk_233_10, bk_233_11, wp_ic, wp_ist1, wp_ald0, wr_50_1, wl_51, wl_67, wp_cald, wp_ist2, wp_fall, wp_ild2, wp_iceq, wr_50_30, wp_ild1, ws_51, ws_67, wp_inc1, wk_234, wp_goto, wp_icge, wr_50_28, wp_lc, ws_65, ws_66, wp_inc2, wp_isub, wp_ifle, wp_ist3, wp_ild3, wr_50_29, wk_235, wp_inc3, wl_65, wl_66, wp_pald, wk_197, wp_lcmp, wp_ifne, wp_lret, wp_geti kd_50, wk_237, x_clr_I, x_clr_J, x_clr_R, x_clr_U, ct_some, ct_none, lc_lt, lc_ge, lc_gt, lc_le, lc_eq, lc_r, xI_inj, xJ_inj, Option.some.injEq, eq_self, bi_r, bi_0, bi_1, bi_n, Classical.not_not, and_true, true_and, ite_true, ite_false, ↓reduceIte, ↓x_andl, z_le, z_nle, z_lt, z_nlt, z_eq, z_neq, if_pos, if_neg, x_andl, false_and, and_false, or_true, true_or, or_false, false_or, not_true, not_false_iff, x_rd_eq, x_rd_ne, x_st_o, Int.cast_ofNat_Int, Int.ofNat_zero, Int.ofNat_one, not_true_eq_false, not_false_eq_true, if_true, if_false, ite_self, and_self, Int.ofNat_eq_natCast, Int.tdiv_eq_ediv_of_nonneg, Int.tmod_eq_emod_of_nonneg, x_bm32]
        rw [hQd, y1]
        exact ⟨rfl, hh2⟩
      · exact absurd ((zi _ _ _).mpr y1.1) (z2 _ _ _)
    · rcases hv with ⟨_, y2⟩ | ⟨b0, t0, low, y1, y2⟩
      · exact absurd ((zi _ _ _).mp z1.1) (y2 _ _ _)
      · obtain ⟨q1, q2, _⟩ := fL_uniq (fL_cg z1 (fun b t u => (zi b t u).symm)) y1
        rw [q1] at z4
        rw [q2] at z3
        have v2b := vb.resolve_left z2
        simp (disch := first | omega | (simp only [x_wtI, x_wtJ, x_wtR, x_wtN]; omega) | assumption | (simp (disch := omega) only [x_st_o, x_rd_ne]; first | assumption | omega) | (apply mir_eq; assumption; (intro c h1 h2; simp (disch := omega) only [x_st_o])) | (apply mis_eq; assumption; (intro c h1 h2; simp (disch := omega) only [x_st_o])) | rfl) only [bk_233_0, bk_233_1, bk_233_2, bk_233_3, bk_233_4, bk_233_6, bk_233_7, bk_233_8, bk_233_9, bk_233_10, bk_233_11, wp_ic, wp_ist1, wp_ald0, wr_50_1, wl_51, wl_67, wp_cald, wp_ist2, wp_fall, wp_ild2, wp_iceq, wr_50_30, wp_ild1, ws_51, ws_67, wp_inc1, wk_234, wp_goto, wp_icge, wr_50_28, wp_lc, ws_65, ws_66, wp_inc2, wp_isub, wp_ifle, wp_ist3, wp_ild3, wr_50_29, wk_235, wp_inc3, wl_65, wl_66, wp_pald, wk_197, wp_lcmp, wp_ifne, wp_lret, wp_geti kd_50, wk_237, x_clr_I, x_clr_J, x_clr_R, x_clr_U, ct_some, ct_none, lc_lt, lc_ge, lc_gt, lc_le, lc_eq, lc_r, xI_inj, xJ_inj, Option.some.injEq, eq_self, bi_r, bi_0, bi_1, bi_n, Classical.not_not, and_true, true_and, ite_true, ite_false, ↓reduceIte, ↓x_andl, z_le, z_nle, z_lt, z_nlt, z_eq, z_neq, if_pos, if_neg, x_andl, false_and, and_false, or_true, true_or, or_false, false_or, not_true, not_false_iff, x_rd_eq, x_rd_ne, x_st_o, Int.cast_ofNat_Int, Int.ofNat_zero, Int.ofNat_one, not_true_eq_false, not_false_eq_true, if_true, if_false, ite_self, and_self, Int.ofNat_eq_natCast, Int.tdiv_eq_ediv_of_nonneg, Int.tmod_eq_emod_of_nonneg, x_bm32, z3, z4]
        refine x_use (d := 990) (y2 σ2 hh2 g512) ?_
        rintro r σ3 ⟨rfl, hh3⟩
        simp (disch := first | omega | (simp only [x_wtI, x_wtJ, x_wtR, x_wtN]; omega) | assumption | (simp (disch := omega) only [x_st_o, x_rd_ne]; first | assumption | omega) | (apply mir_eq; assumption; (intro c h1 h2; simp (disch := omega) only [x_st_o])) | (apply mis_eq; assumption; (intro c h1 h2; simp (disch := omega) only [x_st_o])) | rfl) only [bk_233_0, bk_233_1, bk_233_2, bk_233_3, bk_233_4, bk_233_6, bk_233_7, bk_233_8, bk_233_9, bk_233_10, bk_233_11, wp_ic, wp_ist1, wp_ald0, wr_50_1, wl_51, wl_67, wp_cald, wp_ist2, wp_fall, wp_ild2, wp_iceq, wr_50_30, wp_ild1, ws_51, ws_67, wp_inc1, wk_234, wp_goto, wp_icge, wr_50_28, wp_lc, ws_65, ws_66, wp_inc2, wp_isub, wp_ifle, wp_ist3, wp_ild3, wr_50_29, wk_235, wp_inc3, wl_65, wl_66, wp_pald, wk_197, wp_lcmp, wp_ifne, wp_lret, wp_geti kd_50, wk_237, x_clr_I, x_clr_J, x_clr_R, x_clr_U, ct_some, ct_none, lc_lt, lc_ge, lc_gt, lc_le, lc_eq, lc_r, xI_inj, xJ_inj, Option.some.injEq, eq_self, bi_r, bi_0, bi_1, bi_n, Classical.not_not, and_true, true_and, ite_true, ite_false, ↓reduceIte, ↓x_andl, z_le, z_nle, z_lt, z_nlt, z_eq, z_neq, if_pos, if_neg, x_andl, false_and, and_false, or_true, true_or, or_false, false_or, not_true, not_false_iff, x_rd_eq, x_rd_ne, x_st_o, Int.cast_ofNat_Int, Int.ofNat_zero, Int.ofNat_one, not_true_eq_false, not_false_eq_true, if_true, if_false, ite_self, and_self, Int.ofNat_eq_natCast, Int.tdiv_eq_ediv_of_nonneg, Int.tmod_eq_emod_of_nonneg, x_bm32]
        rw [hQd]
        exact ⟨rfl, hh3⟩
  -- rows are found from the last fork of the way on
  have down : ∀ k : Nat, k ≤ N → ∀ (σ' : x_S) (u1 : Int) (u3 : x_V), x_eqo [(50, 0), (65, 0), (66, 0), (67, 0)] σ σ' → (∀ k, ¬ (k = 23 ∨ k = 24) → σ' 50 0 k = σ 50 0 k) → (∀ q : Nat, q ≤ N → σ' 67 0 q = ck w' q) → (∀ s, 0 ≤ s → s < 42 → tg (σ' 65 0 s) (likR w' V (ck w' k) s)) → x_Wp 999 233 (x_blk 233 5) [xR 50 0, xI u1, xI (k : Int), u3] [] σ' Q := by
    intro k
    induction k with
    | zero =>
      intro hk σ' u1 u3 e kp ch ag
      exact last σ' u1 u3 ((0 : Nat) : Int) (by omega) (by omega) e kp ag
    | succ k ih =>
      intro hk σ' u1 u3 e kp ch ag
      have cf := (ck_f hw hn hN.1 (k + 1) hk).1
      have bR := likR_b (T := V) hN hk (fun z => rows (k + 1 + 1) (by omega) (by omega))
      have bO : ∀ s, 0 ≤ s → s < 42 → σ' 65 0 s = (-9223372036854775808) ∨ (-150000 ≤ σ' 65 0 s ∧ σ' 65 0 s ≤ 150000) := by
        intro s s0 s1
        rcases ag s s0 s1 with ⟨z, _⟩ | ⟨z, _, y⟩
        · exact Or.inl z
        · have := (bR s s0 s1).resolve_left y
          exact Or.inr (by omega)
      have cq := ch (k + 1) hk
      have rw1 := rows (k + 1) (by omega) hk
      -- copied back
      have copy : ∀ (σ1 : x_S) (u1 : Int), x_eqo [(50, 0), (65, 0), (66, 0), (67, 0)] σ σ1 → (∀ k, ¬ (k = 23 ∨ k = 24) → σ1 50 0 k = σ 50 0 k) → (∀ q : Nat, q ≤ N → σ1 67 0 q = ck w' q) → (∀ s, 0 ≤ s → s < 42 → tg (σ1 66 0 s) (V (42 * ck w' (k + 1) + s))) → (∀ s, 0 ≤ s → s < 42 → -9223372036854775808 ≤ σ1 66 0 s ∧ σ1 66 0 s ≤ 9223372036854775807) → x_Wp 999 233 (x_blk 233 8) [xR 50 0, xI u1, xI ((k + 1 : Nat) : Int), xI 0] [] σ1 Q := by
        intro σ1 u1 e1 k1 ch1 ag1 rg1
        refine x_lpK (α := x_S) (fun s σs => x_eqo [(65, 0)] σ1 σs ∧ ∀ q, 0 ≤ q → q < s → σs 65 0 q = σ1 66 0 q) (fun s σs => x_Wp 999 233 (x_blk 233 8) [xR 50 0, xI u1, xI ((k + 1 : Nat) : Int), xI s] [] σs Q) (lo := 0) (hi := 42) (by omega) (a0 := σ1) ⟨eqo_refl, fun q a b => by omega⟩ ?_ ?_
        · intro s σs s0 s1 ⟨m1, m2⟩ K
          have e66 : σs 66 0 s = σ1 66 0 s := by rw [m1 66 0 (by simp)]
          have K2 := K (x_st σs 65 0 s (σ1 66 0 s)) ⟨eqo_st (by simp) m1, fun q q0 q1 => by
            by_cases z : q = s
            · rw [z, x_rd_eq]
            · rw [x_rd_ne (by omega)]
              exact m2 q q0 (by omega)⟩
          rw [bk_233_8]
          simp (disch := first | omega | (simp only [x_wtI, x_wtJ, x_wtR, x_wtN]; omega) | assumption | (simp (disch := omega) only [x_st_o, x_rd_ne]; first | assumption | omega) | (apply mir_eq; assumption; (intro c h1 h2; simp (disch := omega) only [x_st_o])) | (apply mis_eq; assumption; (intro c h1 h2; simp (disch := omega) only [x_st_o])) | rfl) only [bk_233_0, bk_233_1, bk_233_2, bk_233_3, bk_233_4, bk_233_5, bk_233_6, bk_233_7, bk_233_9, bk_233_10, bk_233_11, wp_ic, wp_ist1, wp_ald0, wr_50_1, wl_51, wl_67, wp_cald, wp_ist2, wp_fall, wp_ild2, wp_iceq, wr_50_30, wp_ild1, ws_51, ws_67, wp_inc1, wk_234, wp_goto, wp_icge, wr_50_28, wp_lc, ws_65, ws_66, wp_inc2, wp_isub, wp_ifle, wp_ist3, wp_ild3, wr_50_29, wk_235, wp_inc3, wl_65, wl_66, wp_pald, wk_197, wp_lcmp, wp_ifne, wp_lret, wp_geti kd_50, wk_237, x_clr_I, x_clr_J, x_clr_R, x_clr_U, ct_some, ct_none, lc_lt, lc_ge, lc_gt, lc_le, lc_eq, lc_r, xI_inj, xJ_inj, Option.some.injEq, eq_self, bi_r, bi_0, bi_1, bi_n, Classical.not_not, and_true, true_and, ite_true, ite_false, ↓reduceIte, ↓x_andl, z_le, z_nle, z_lt, z_nlt, z_eq, z_neq, if_pos, if_neg, x_andl, false_and, and_false, or_true, true_or, or_false, false_or, not_true, not_false_iff, x_rd_eq, x_rd_ne, x_st_o, Int.cast_ofNat_Int, Int.ofNat_zero, Int.ofNat_one, not_true_eq_false, not_false_eq_true, if_true, if_false, ite_self, and_self, Int.ofNat_eq_natCast, Int.tdiv_eq_ediv_of_nonneg, Int.tmod_eq_emod_of_nonneg, x_bm32, e66]
          exact K2
        · intro σs ⟨m1, m2⟩
          have K := ih (by omega) σs u1 (xI 42) (eqo_trans e1 (eqo_mono (by simp) m1)) (fun q hq => by rw [m1 50 0 (by simp)]; exact k1 q hq) (fun q hq => by rw [m1 67 0 (by simp)]; exact ch1 q hq) (fun s s0 s1 => by
            rw [m2 s s0 s1]
            have kpp := hN.1 k (by omega)
            have el : likR w' V (ck w' k) s = V (42 * ck w' (k + 1) + s) := if_neg (by omega)
            rw [el]
            exact ag1 s s0 s1)
          rw [show ((k + 1 : Nat) : Int) = (k : Int) + 1 by omega]
          rw [bk_233_8]
          simp (disch := first | omega | (simp only [x_wtI, x_wtJ, x_wtR, x_wtN]; omega) | assumption | (simp (disch := omega) only [x_st_o, x_rd_ne]; first | assumption | omega) | (apply mir_eq; assumption; (intro c h1 h2; simp (disch := omega) only [x_st_o])) | (apply mis_eq; assumption; (intro c h1 h2; simp (disch := omega) only [x_st_o])) | rfl) only [bk_233_0, bk_233_1, bk_233_2, bk_233_3, bk_233_4, bk_233_6, bk_233_7, bk_233_9, bk_233_10, bk_233_11, wp_ic, wp_ist1, wp_ald0, wr_50_1, wl_51, wl_67, wp_cald, wp_ist2, wp_fall, wp_ild2, wp_iceq, wr_50_30, wp_ild1, ws_51, ws_67, wp_inc1, wk_234, wp_goto, wp_icge, wr_50_28, wp_lc, ws_65, ws_66, wp_inc2, wp_isub, wp_ifle, wp_ist3, wp_ild3, wr_50_29, wk_235, wp_inc3, wl_65, wl_66, wp_pald, wk_197, wp_lcmp, wp_ifne, wp_lret, wp_geti kd_50, wk_237, x_clr_I, x_clr_J, x_clr_R, x_clr_U, ct_some, ct_none, lc_lt, lc_ge, lc_gt, lc_le, lc_eq, lc_r, xI_inj, xJ_inj, Option.some.injEq, eq_self, bi_r, bi_0, bi_1, bi_n, Classical.not_not, and_true, true_and, ite_true, ite_false, ↓reduceIte, ↓x_andl, z_le, z_nle, z_lt, z_nlt, z_eq, z_neq, if_pos, if_neg, x_andl, false_and, and_false, or_true, true_or, or_false, false_or, not_true, not_false_iff, x_rd_eq, x_rd_ne, x_st_o, Int.cast_ofNat_Int, Int.ofNat_zero, Int.ofNat_one, not_true_eq_false, not_false_eq_true, if_true, if_false, ite_self, and_self, Int.ofNat_eq_natCast, Int.tdiv_eq_ediv_of_nonneg, Int.tmod_eq_emod_of_nonneg, x_bm32]
          rw [show (k : Int) + 1 + -1 = (k : Int) by omega]
          exact K
      -- one fork of the way
      have fill : ∀ u1 : Int, x_Wp 999 233 (x_blk 233 6) [xR 50 0, xI u1, xI ((k + 1 : Nat) : Int), xI 0] [] σ' Q := by
        intro u1
        refine x_lpK (α := x_S) (fun s σs => x_eqo [(50, 0), (66, 0)] σ' σs ∧ (∀ k, ¬ (k = 23 ∨ k = 24) → σs 50 0 k = σ' 50 0 k) ∧ ∀ q, 0 ≤ q → q < s → tg (σs 66 0 q) (V (42 * ck w' (k + 1) + q)) ∧ -9223372036854775808 ≤ σs 66 0 q ∧ σs 66 0 q ≤ 9223372036854775807) (fun s σs => x_Wp 999 233 (x_blk 233 6) [xR 50 0, xI u1, xI ((k + 1 : Nat) : Int), xI s] [] σs Q) (lo := 0) (hi := 42) (by omega) (a0 := σ') ⟨eqo_refl, fun _ _ => rfl, fun q a b => by omega⟩ ?_ ?_
        · intro s σs s0 s1 ⟨m1, m2, m3⟩ K
          have g51 : σs 51 0 = w' := by rw [m1 51 0 (by simp), e 51 0 (by simp)]; exact h51
          have e65 : σs 65 0 = σ' 65 0 := m1 65 0 (by simp)
          obtain ⟨r, σ2, ⟨k2, v2, hr, vb, h2⟩, ev⟩ := x_ex (h_lway (σ := σs) (w := w') (O := σ' 65 0) (f := ck w' (k + 1)) (st := s % 21) (wd := s / 21) (B := 150000) g51 (by rw [m2 17 (by omega), kp 17 (by omega)]; exact mm.1) e65 hw (by omega) cf.2 (by omega) (by omega) (by omega) bO)
          subst hr
          have x := rw1 (s % 21) (s / 21) (by omega) (by omega) (by omega) (by omega)
          rw [show 21 * (s / 21) + s % 21 = s by omega] at ev x
          have zi : ∀ b t u, zR (-9223372036854775808) w' (σ' 65 0) (ck w' (k + 1)) (s % 21) (s / 21) b t u ↔ zR 9223372036854775807 w' (likR w' V (ck w' (k + 1))) (ck w' (k + 1)) (s % 21) (s / 21) b t u := fun b t u => zR_tg hw (by omega) cf.2 (by omega) ag
          have tgv : tg v2 (V (42 * ck w' (k + 1) + s)) := by
            rcases h2 with ⟨z1, z2⟩ | ⟨b1, t1, z1, z2, _⟩
            · refine Or.inl ⟨z1, ?_⟩
              rcases x.1 with ⟨y, _⟩ | ⟨⟨b, t, y⟩, _⟩
              · exact y
              · exact absurd ((zi _ _ _).mpr y) (z2 _ _ _)
            · have y := fL_ml (mk := 9223372036854775807) (fL_cg z1 (fun b t u => (zi b t u).symm))
              have eq := ml_uniq y x.1
              have vb2 := vb.resolve_left z2
              exact Or.inr ⟨eq, z2, by omega⟩
          have vr : -9223372036854775808 ≤ v2 ∧ v2 ≤ 9223372036854775807 := by
            rcases vb with z | z <;> omega
          have K2 := K (x_st σ2 66 0 s v2) ⟨eqo_st (by simp) (eqo_trans m1 (eqo_mono (by simp) k2.1)), fun q hq => by
            rw [x_st_o (by omega), k2.2 q hq]
            exact m2 q hq, fun q q0 q1 => by
            by_cases z : q = s
            · rw [z, x_rd_eq]
              exact ⟨tgv, vr⟩
            · rw [x_rd_ne (by omega), k2.1 66 0 (by simp)]
              exact m3 q q0 (by omega)⟩
          have c67 : σs 67 0 ((k + 1 : Nat) : Int) = ck w' (k + 1) := by rw [m1 67 0 (by simp)]; exact cq
          have kb : 0 ≤ ((k + 1 : Nat) : Int) ∧ ((k + 1 : Nat) : Int) < 8 := by omega
          generalize ((k + 1 : Nat) : Int) = k1 at c67 kb K2
          rw [bk_233_6]
          simp (disch := first | omega | (simp only [x_wtI, x_wtJ, x_wtR, x_wtN]; omega) | assumption | (simp (disch := omega) only [x_st_o, x_rd_ne]; first | assumption | omega) | (apply mir_eq; assumption; (intro c h1 h2; simp (disch := omega) only [x_st_o])) | (apply mis_eq; assumption; (intro c h1 h2; simp (disch := omega) only [x_st_o])) | rfl) only [bk_233_0, bk_233_1, bk_233_2, bk_233_3, bk_233_4, bk_233_5, bk_233_7, bk_233_8, bk_233_9, bk_233_10, bk_233_11, wp_ic, wp_ist1, wp_ald0, wr_50_1, wl_51, wl_67, wp_cald, wp_ist2, wp_fall, wp_ild2, wp_iceq, wr_50_30, wp_ild1, ws_51, ws_67, wp_inc1, wk_234, wp_goto, wp_icge, wr_50_28, wp_lc, ws_65, ws_66, wp_inc2, wp_isub, wp_ifle, wp_ist3, wp_ild3, wr_50_29, wk_235, wp_inc3, wl_65, wl_66, wp_pald, wk_197, wp_lcmp, wp_ifne, wp_lret, wp_geti kd_50, wk_237, x_clr_I, x_clr_J, x_clr_R, x_clr_U, ct_some, ct_none, lc_lt, lc_ge, lc_gt, lc_le, lc_eq, lc_r, xI_inj, xJ_inj, Option.some.injEq, eq_self, bi_r, bi_0, bi_1, bi_n, Classical.not_not, and_true, true_and, ite_true, ite_false, ↓reduceIte, ↓x_andl, z_le, z_nle, z_lt, z_nlt, z_eq, z_neq, if_pos, if_neg, x_andl, false_and, and_false, or_true, true_or, or_false, false_or, not_true, not_false_iff, x_rd_eq, x_rd_ne, x_st_o, Int.cast_ofNat_Int, Int.ofNat_zero, Int.ofNat_one, not_true_eq_false, not_false_eq_true, if_true, if_false, ite_self, and_self, Int.ofNat_eq_natCast, Int.tdiv_eq_ediv_of_nonneg, Int.tmod_eq_emod_of_nonneg, x_bm32, c67]
          refine (ev 993 _).mpr ?_
          simp (disch := first | omega | (simp only [x_wtI, x_wtJ, x_wtR, x_wtN]; omega) | assumption | (simp (disch := omega) only [x_st_o, x_rd_ne]; first | assumption | omega) | (apply mir_eq; assumption; (intro c h1 h2; simp (disch := omega) only [x_st_o])) | (apply mis_eq; assumption; (intro c h1 h2; simp (disch := omega) only [x_st_o])) | rfl) only [bk_233_0, bk_233_1, bk_233_2, bk_233_3, bk_233_4, bk_233_5, bk_233_7, bk_233_8, bk_233_9, bk_233_10, bk_233_11, wp_ic, wp_ist1, wp_ald0, wr_50_1, wl_51, wl_67, wp_cald, wp_ist2, wp_fall, wp_ild2, wp_iceq, wr_50_30, wp_ild1, ws_51, ws_67, wp_inc1, wk_234, wp_goto, wp_icge, wr_50_28, wp_lc, ws_65, ws_66, wp_inc2, wp_isub, wp_ifle, wp_ist3, wp_ild3, wr_50_29, wk_235, wp_inc3, wl_65, wl_66, wp_pald, wk_197, wp_lcmp, wp_ifne, wp_lret, wp_geti kd_50, wk_237, x_clr_I, x_clr_J, x_clr_R, x_clr_U, ct_some, ct_none, lc_lt, lc_ge, lc_gt, lc_le, lc_eq, lc_r, xI_inj, xJ_inj, Option.some.injEq, eq_self, bi_r, bi_0, bi_1, bi_n, Classical.not_not, and_true, true_and, ite_true, ite_false, ↓reduceIte, ↓x_andl, z_le, z_nle, z_lt, z_nlt, z_eq, z_neq, if_pos, if_neg, x_andl, false_and, and_false, or_true, true_or, or_false, false_or, not_true, not_false_iff, x_rd_eq, x_rd_ne, x_st_o, Int.cast_ofNat_Int, Int.ofNat_zero, Int.ofNat_one, not_true_eq_false, not_false_eq_true, if_true, if_false, ite_self, and_self, Int.ofNat_eq_natCast, Int.tdiv_eq_ediv_of_nonneg, Int.tmod_eq_emod_of_nonneg, x_bm32]
          exact K2
        · intro σs ⟨m1, m2, m3⟩
          have K := copy σs u1 (eqo_trans e (eqo_mono (by simp) m1)) (fun q hq => by rw [m2 q hq]; exact kp q hq) (fun q hq => by rw [m1 67 0 (by simp)]; exact ch q hq) (fun s s0 s1 => (m3 s s0 s1).1) (fun s s0 s1 => (m3 s s0 s1).2)
          rw [bk_233_6]
          simp (disch := first | omega | (simp only [x_wtI, x_wtJ, x_wtR, x_wtN]; omega) | assumption | (simp (disch := omega) only [x_st_o, x_rd_ne]; first | assumption | omega) | (apply mir_eq; assumption; (intro c h1 h2; simp (disch := omega) only [x_st_o])) | (apply mis_eq; assumption; (intro c h1 h2; simp (disch := omega) only [x_st_o])) | rfl) only [bk_233_0, bk_233_1, bk_233_2, bk_233_3, bk_233_4, bk_233_5, bk_233_6, bk_233_7, bk_233_9, bk_233_10, bk_233_11, wp_ic, wp_ist1, wp_ald0, wr_50_1, wl_51, wl_67, wp_cald, wp_ist2, wp_fall, wp_ild2, wp_iceq, wr_50_30, wp_ild1, ws_51, ws_67, wp_inc1, wk_234, wp_goto, wp_icge, wr_50_28, wp_lc, ws_65, ws_66, wp_inc2, wp_isub, wp_ifle, wp_ist3, wp_ild3, wr_50_29, wk_235, wp_inc3, wl_65, wl_66, wp_pald, wk_197, wp_lcmp, wp_ifne, wp_lret, wp_geti kd_50, wk_237, x_clr_I, x_clr_J, x_clr_R, x_clr_U, ct_some, ct_none, lc_lt, lc_ge, lc_gt, lc_le, lc_eq, lc_r, xI_inj, xJ_inj, Option.some.injEq, eq_self, bi_r, bi_0, bi_1, bi_n, Classical.not_not, and_true, true_and, ite_true, ite_false, ↓reduceIte, ↓x_andl, z_le, z_nle, z_lt, z_nlt, z_eq, z_neq, if_pos, if_neg, x_andl, false_and, and_false, or_true, true_or, or_false, false_or, not_true, not_false_iff, x_rd_eq, x_rd_ne, x_st_o, Int.cast_ofNat_Int, Int.ofNat_zero, Int.ofNat_one, not_true_eq_false, not_false_eq_true, if_true, if_false, ite_self, and_self, Int.ofNat_eq_natCast, Int.tdiv_eq_ediv_of_nonneg, Int.tmod_eq_emod_of_nonneg, x_bm32]
          exact K
      have F := fill u1
      have kb : 0 < ((k + 1 : Nat) : Int) ∧ ((k + 1 : Nat) : Int) < 8 := by omega
      generalize ((k + 1 : Nat) : Int) = k1 at kb F
      rw [bk_233_5]
      simp (disch := first | omega | (simp only [x_wtI, x_wtJ, x_wtR, x_wtN]; omega) | assumption | (simp (disch := omega) only [x_st_o, x_rd_ne]; first | assumption | omega) | (apply mir_eq; assumption; (intro c h1 h2; simp (disch := omega) only [x_st_o])) | (apply mis_eq; assumption; (intro c h1 h2; simp (disch := omega) only [x_st_o])) | rfl) only [bk_233_0, bk_233_1, bk_233_2, bk_233_3, bk_233_4, bk_233_5, bk_233_7, bk_233_8, bk_233_9, bk_233_10, bk_233_11, wp_ic, wp_ist1, wp_ald0, wr_50_1, wl_51, wl_67, wp_cald, wp_ist2, wp_fall, wp_ild2, wp_iceq, wr_50_30, wp_ild1, ws_51, ws_67, wp_inc1, wk_234, wp_goto, wp_icge, wr_50_28, wp_lc, ws_65, ws_66, wp_inc2, wp_isub, wp_ifle, wp_ist3, wp_ild3, wr_50_29, wk_235, wp_inc3, wl_65, wl_66, wp_pald, wk_197, wp_lcmp, wp_ifne, wp_lret, wp_geti kd_50, wk_237, x_clr_I, x_clr_J, x_clr_R, x_clr_U, ct_some, ct_none, lc_lt, lc_ge, lc_gt, lc_le, lc_eq, lc_r, xI_inj, xJ_inj, Option.some.injEq, eq_self, bi_r, bi_0, bi_1, bi_n, Classical.not_not, and_true, true_and, ite_true, ite_false, ↓reduceIte, ↓x_andl, z_le, z_nle, z_lt, z_nlt, z_eq, z_neq, if_pos, if_neg, x_andl, false_and, and_false, or_true, true_or, or_false, false_or, not_true, not_false_iff, x_rd_eq, x_rd_ne, x_st_o, Int.cast_ofNat_Int, Int.ofNat_zero, Int.ofNat_one, not_true_eq_false, not_false_eq_true, if_true, if_false, ite_self, and_self, Int.ofNat_eq_natCast, Int.tdiv_eq_ediv_of_nonneg, Int.tmod_eq_emod_of_nonneg, x_bm32]
      exact F
  -- onWay is set to 0
  have zero : ∀ (σ' : x_S), x_eqo [(50, 0), (65, 0), (66, 0), (67, 0)] σ σ' → (∀ k, ¬ (k = 23 ∨ k = 24) → σ' 50 0 k = σ 50 0 k) → (∀ q : Nat, q ≤ N → σ' 67 0 q = ck w' q) → x_Wp 999 233 (x_blk 233 3) [xR 50 0, xI ((N : Int) + 1), xI 0, xU] [] σ' Q := by
    intro σ' e k ch
    refine x_lpK (α := x_S) (fun s σs => x_eqo [(65, 0)] σ' σs ∧ ∀ q, 0 ≤ q → q < s → σs 65 0 q = 0) (fun s σs => x_Wp 999 233 (x_blk 233 3) [xR 50 0, xI ((N : Int) + 1), xI s, xU] [] σs Q) (lo := 0) (hi := 42) (by omega) (a0 := σ') ⟨eqo_refl, fun q a b => by omega⟩ ?_ ?_
    · intro s σs s0 s1 ⟨m1, m2⟩ K
      have K2 := K (x_st σs 65 0 s 0) ⟨eqo_st (by simp) m1, fun q q0 q1 => by
        by_cases z : q = s
        · rw [z, x_rd_eq]
        · rw [x_rd_ne (by omega)]
          exact m2 q q0 (by omega)⟩
      rw [bk_233_3]
      simp (disch := first | omega | (simp only [x_wtI, x_wtJ, x_wtR, x_wtN]; omega) | assumption | (simp (disch := omega) only [x_st_o, x_rd_ne]; first | assumption | omega) | (apply mir_eq; assumption; (intro c h1 h2; simp (disch := omega) only [x_st_o])) | (apply mis_eq; assumption; (intro c h1 h2; simp (disch := omega) only [x_st_o])) | rfl) only [bk_233_0, bk_233_1, bk_233_2, bk_233_4, bk_233_5, bk_233_6, bk_233_7, bk_233_8, bk_233_9, bk_233_10, bk_233_11, wp_ic, wp_ist1, wp_ald0, wr_50_1, wl_51, wl_67, wp_cald, wp_ist2, wp_fall, wp_ild2, wp_iceq, wr_50_30, wp_ild1, ws_51, ws_67, wp_inc1, wk_234, wp_goto, wp_icge, wr_50_28, wp_lc, ws_65, ws_66, wp_inc2, wp_isub, wp_ifle, wp_ist3, wp_ild3, wr_50_29, wk_235, wp_inc3, wl_65, wl_66, wp_pald, wk_197, wp_lcmp, wp_ifne, wp_lret, wp_geti kd_50, wk_237, x_clr_I, x_clr_J, x_clr_R, x_clr_U, ct_some, ct_none, lc_lt, lc_ge, lc_gt, lc_le, lc_eq, lc_r, xI_inj, xJ_inj, Option.some.injEq, eq_self, bi_r, bi_0, bi_1, bi_n, Classical.not_not, and_true, true_and, ite_true, ite_false, ↓reduceIte, ↓x_andl, z_le, z_nle, z_lt, z_nlt, z_eq, z_neq, if_pos, if_neg, x_andl, false_and, and_false, or_true, true_or, or_false, false_or, not_true, not_false_iff, x_rd_eq, x_rd_ne, x_st_o, Int.cast_ofNat_Int, Int.ofNat_zero, Int.ofNat_one, not_true_eq_false, not_false_eq_true, if_true, if_false, ite_self, and_self, Int.ofNat_eq_natCast, Int.tdiv_eq_ediv_of_nonneg, Int.tmod_eq_emod_of_nonneg, x_bm32]
      exact K2
    · intro σs ⟨m1, m2⟩
      have K := down N (Nat.le_refl _) σs ((N : Int) + 1) xU (eqo_trans e (eqo_mono (by simp) m1)) (fun q hq => by rw [m1 50 0 (by simp)]; exact k q hq) (fun q hq => by rw [m1 67 0 (by simp)]; exact ch q hq) (fun s s0 s1 => by
        rw [m2 s s0 s1]
        have el : likR w' V (ck w' N) s = 0 := if_pos hN.2
        rw [el]
        exact Or.inr ⟨rfl, by omega, by omega⟩)
      rw [bk_233_3]
      simp (disch := first | omega | (simp only [x_wtI, x_wtJ, x_wtR, x_wtN]; omega) | assumption | (simp (disch := omega) only [x_st_o, x_rd_ne]; first | assumption | omega) | (apply mir_eq; assumption; (intro c h1 h2; simp (disch := omega) only [x_st_o])) | (apply mis_eq; assumption; (intro c h1 h2; simp (disch := omega) only [x_st_o])) | rfl) only [bk_233_0, bk_233_1, bk_233_2, bk_233_3, bk_233_4, bk_233_6, bk_233_7, bk_233_8, bk_233_9, bk_233_10, bk_233_11, wp_ic, wp_ist1, wp_ald0, wr_50_1, wl_51, wl_67, wp_cald, wp_ist2, wp_fall, wp_ild2, wp_iceq, wr_50_30, wp_ild1, ws_51, ws_67, wp_inc1, wk_234, wp_goto, wp_icge, wr_50_28, wp_lc, ws_65, ws_66, wp_inc2, wp_isub, wp_ifle, wp_ist3, wp_ild3, wr_50_29, wk_235, wp_inc3, wl_65, wl_66, wp_pald, wk_197, wp_lcmp, wp_ifne, wp_lret, wp_geti kd_50, wk_237, x_clr_I, x_clr_J, x_clr_R, x_clr_U, ct_some, ct_none, lc_lt, lc_ge, lc_gt, lc_le, lc_eq, lc_r, xI_inj, xJ_inj, Option.some.injEq, eq_self, bi_r, bi_0, bi_1, bi_n, Classical.not_not, and_true, true_and, ite_true, ite_false, ↓reduceIte, ↓x_andl, z_le, z_nle, z_lt, z_nlt, z_eq, z_neq, if_pos, if_neg, x_andl, false_and, and_false, or_true, true_or, or_false, false_or, not_true, not_false_iff, x_rd_eq, x_rd_ne, x_st_o, Int.cast_ofNat_Int, Int.ofNat_zero, Int.ofNat_one, not_true_eq_false, not_false_eq_true, if_true, if_false, ite_self, and_self, Int.ofNat_eq_natCast, Int.tdiv_eq_ediv_of_nonneg, Int.tmod_eq_emod_of_nonneg, x_bm32]
      rw [show (N : Int) + 1 - 1 = (N : Int) by omega]
      exact K
  -- the way is listed
  have up : ∀ m k : Nat, k + m = N → ∀ σ' : x_S, x_eqo [(67, 0)] σ σ' → (∀ q : Nat, q < k → σ' 67 0 q = ck w' q) → x_Wp 999 233 (x_blk 233 1) [xR 50 0, xI (k : Int), xI (ck w' k), xU] [] σ' Q := by
    intro m
    induction m with
    | zero =>
      intro k hk σ' e ch
      have ek : k = N := by omega
      subst ek
      have cf := (ck_f hw hn hN.1 k (Nat.le_refl _)).1
      have g51 : σ' 51 0 = w' := (e 51 0 (by simp)).trans h51
      have K := zero (x_st σ' 67 0 k (ck w' k)) (eqo_st (by simp) (eqo_mono (by simp) e)) (fun q _ => by rw [x_st_o (by omega), e 50 0 (by simp)]) (fun q hq => by
        by_cases z : q = k
        · rw [z, x_rd_eq]
        · rw [x_rd_ne (by omega)]
          exact ch q (by omega))
      have km := fun (d' : Nat) (Q' : Option x_V → x_S → Prop) => k_likM (d := d') (σ := x_st σ' 67 0 k (ck w' k)) (Q := Q') (f := ck w' k) (w := w') (by rw [x_st_o (by omega)]; exact g51) hw (by omega) cf.2
      rw [if_pos hN.2] at km
      have kb : 0 ≤ (k : Int) ∧ (k : Int) < 8 := by omega
      generalize hc : ck w' k = c at cf km K
      generalize (k : Int) = kk at kb km K
      rw [bk_233_1]
      simp (disch := first | omega | (simp only [x_wtI, x_wtJ, x_wtR, x_wtN]; omega) | assumption | (simp (disch := omega) only [x_st_o, x_rd_ne]; first | assumption | omega) | (apply mir_eq; assumption; (intro c h1 h2; simp (disch := omega) only [x_st_o])) | (apply mis_eq; assumption; (intro c h1 h2; simp (disch := omega) only [x_st_o])) | rfl) only [bk_233_0, bk_233_2, bk_233_3, bk_233_4, bk_233_5, bk_233_6, bk_233_7, bk_233_8, bk_233_9, bk_233_10, bk_233_11, wp_ic, wp_ist1, wp_ald0, wr_50_1, wl_51, wl_67, wp_cald, wp_ist2, wp_fall, wp_ild2, wp_iceq, wr_50_30, wp_ild1, ws_51, ws_67, wp_inc1, wk_234, wp_goto, wp_icge, wr_50_28, wp_lc, ws_65, ws_66, wp_inc2, wp_isub, wp_ifle, wp_ist3, wp_ild3, wr_50_29, wk_235, wp_inc3, wl_65, wl_66, wp_pald, wk_197, wp_lcmp, wp_ifne, wp_lret, wp_geti kd_50, wk_237, x_clr_I, x_clr_J, x_clr_R, x_clr_U, ct_some, ct_none, lc_lt, lc_ge, lc_gt, lc_le, lc_eq, lc_r, xI_inj, xJ_inj, Option.some.injEq, eq_self, bi_r, bi_0, bi_1, bi_n, Classical.not_not, and_true, true_and, ite_true, ite_false, ↓reduceIte, ↓x_andl, z_le, z_nle, z_lt, z_nlt, z_eq, z_neq, if_pos, if_neg, x_andl, false_and, and_false, or_true, true_or, or_false, false_or, not_true, not_false_iff, x_rd_eq, x_rd_ne, x_st_o, Int.cast_ofNat_Int, Int.ofNat_zero, Int.ofNat_one, not_true_eq_false, not_false_eq_true, if_true, if_false, ite_self, and_self, Int.ofNat_eq_natCast, Int.tdiv_eq_ediv_of_nonneg, Int.tmod_eq_emod_of_nonneg, x_bm32, km]
      rw [bk_233_1]
      simp (disch := first | omega | (simp only [x_wtI, x_wtJ, x_wtR, x_wtN]; omega) | assumption | (simp (disch := omega) only [x_st_o, x_rd_ne]; first | assumption | omega) | (apply mir_eq; assumption; (intro c h1 h2; simp (disch := omega) only [x_st_o])) | (apply mis_eq; assumption; (intro c h1 h2; simp (disch := omega) only [x_st_o])) | rfl) only [bk_233_0, bk_233_1, bk_233_2, bk_233_4, bk_233_5, bk_233_6, bk_233_7, bk_233_8, bk_233_9, bk_233_10, bk_233_11, wp_ic, wp_ist1, wp_ald0, wr_50_1, wl_51, wl_67, wp_cald, wp_ist2, wp_fall, wp_ild2, wp_iceq, wr_50_30, wp_ild1, ws_51, ws_67, wp_inc1, wk_234, wp_goto, wp_icge, wr_50_28, wp_lc, ws_65, ws_66, wp_inc2, wp_isub, wp_ifle, wp_ist3, wp_ild3, wr_50_29, wk_235, wp_inc3, wl_65, wl_66, wp_pald, wk_197, wp_lcmp, wp_ifne, wp_lret, wp_geti kd_50, wk_237, x_clr_I, x_clr_J, x_clr_R, x_clr_U, ct_some, ct_none, lc_lt, lc_ge, lc_gt, lc_le, lc_eq, lc_r, xI_inj, xJ_inj, Option.some.injEq, eq_self, bi_r, bi_0, bi_1, bi_n, Classical.not_not, and_true, true_and, ite_true, ite_false, ↓reduceIte, ↓x_andl, z_le, z_nle, z_lt, z_nlt, z_eq, z_neq, if_pos, if_neg, x_andl, false_and, and_false, or_true, true_or, or_false, false_or, not_true, not_false_iff, x_rd_eq, x_rd_ne, x_st_o, Int.cast_ofNat_Int, Int.ofNat_zero, Int.ofNat_one, not_true_eq_false, not_false_eq_true, if_true, if_false, ite_self, and_self, Int.ofNat_eq_natCast, Int.tdiv_eq_ediv_of_nonneg, Int.tmod_eq_emod_of_nonneg, x_bm32]
      exact K
    | succ m ih =>
      intro k hk σ' e ch
      have cf := (ck_f hw hn hN.1 k (by omega)).1
      have g51 : σ' 51 0 = w' := (e 51 0 (by simp)).trans h51
      have kp := hN.1 k (by omega)
      have K := ih (k + 1) (by omega) (x_st σ' 67 0 k (ck w' k)) (eqo_st (by simp) e) (fun q hq => by
        by_cases z : q = k
        · rw [z, x_rd_eq]
        · rw [x_rd_ne (by omega)]
          exact ch q (by omega))
      rw [show ((k + 1 : Nat) : Int) = (k : Int) + 1 by omega] at K
      have km := fun (d' : Nat) (Q' : Option x_V → x_S → Prop) => k_likM (d := d') (σ := x_st σ' 67 0 k (ck w' k)) (Q := Q') (f := ck w' k) (w := w') (by rw [x_st_o (by omega)]; exact g51) hw (by omega) cf.2
      rw [if_neg (by omega)] at km
      have el : p_lik w' (ck w' k) = ck w' (k + 1) := rfl
      rw [el] at km
      have kb : 0 ≤ (k : Int) ∧ (k : Int) < 8 := by omega
      generalize hc : ck w' (k + 1) = c2 at km K
      generalize hc : ck w' k = c at cf km K
      generalize (k : Int) = kk at kb km K
      rw [bk_233_1]
      simp (disch := first | omega | (simp only [x_wtI, x_wtJ, x_wtR, x_wtN]; omega) | assumption | (simp (disch := omega) only [x_st_o, x_rd_ne]; first | assumption | omega) | (apply mir_eq; assumption; (intro c h1 h2; simp (disch := omega) only [x_st_o])) | (apply mis_eq; assumption; (intro c h1 h2; simp (disch := omega) only [x_st_o])) | rfl) only [bk_233_0, bk_233_2, bk_233_3, bk_233_4, bk_233_5, bk_233_6, bk_233_7, bk_233_8, bk_233_9, bk_233_10, bk_233_11, wp_ic, wp_ist1, wp_ald0, wr_50_1, wl_51, wl_67, wp_cald, wp_ist2, wp_fall, wp_ild2, wp_iceq, wr_50_30, wp_ild1, ws_51, ws_67, wp_inc1, wk_234, wp_goto, wp_icge, wr_50_28, wp_lc, ws_65, ws_66, wp_inc2, wp_isub, wp_ifle, wp_ist3, wp_ild3, wr_50_29, wk_235, wp_inc3, wl_65, wl_66, wp_pald, wk_197, wp_lcmp, wp_ifne, wp_lret, wp_geti kd_50, wk_237, x_clr_I, x_clr_J, x_clr_R, x_clr_U, ct_some, ct_none, lc_lt, lc_ge, lc_gt, lc_le, lc_eq, lc_r, xI_inj, xJ_inj, Option.some.injEq, eq_self, bi_r, bi_0, bi_1, bi_n, Classical.not_not, and_true, true_and, ite_true, ite_false, ↓reduceIte, ↓x_andl, z_le, z_nle, z_lt, z_nlt, z_eq, z_neq, if_pos, if_neg, x_andl, false_and, and_false, or_true, true_or, or_false, false_or, not_true, not_false_iff, x_rd_eq, x_rd_ne, x_st_o, Int.cast_ofNat_Int, Int.ofNat_zero, Int.ofNat_one, not_true_eq_false, not_false_eq_true, if_true, if_false, ite_self, and_self, Int.ofNat_eq_natCast, Int.tdiv_eq_ediv_of_nonneg, Int.tmod_eq_emod_of_nonneg, x_bm32, km]
      exact K
  have K := up N 0 (by omega) σ eqo_refl (fun q hq => by omega)
  have e8 : ck w' 0 = w' 8 := rfl
  rw [e8] at K
  simp (disch := first | omega | (simp only [x_wtI, x_wtJ, x_wtR, x_wtN]; omega) | assumption | (simp (disch := omega) only [x_st_o, x_rd_ne]; first | assumption | omega) | (apply mir_eq; assumption; (intro c h1 h2; simp (disch := omega) only [x_st_o])) | (apply mis_eq; assumption; (intro c h1 h2; simp (disch := omega) only [x_st_o])) | rfl) only [sp_233, bk_233_0, bk_233_2, bk_233_3, bk_233_4, bk_233_5, bk_233_6, bk_233_7, bk_233_8, bk_233_9, bk_233_10, bk_233_11, wp_ic, wp_ist1, wp_ald0, wr_50_1, wl_51, wl_67, wp_cald, wp_ist2, wp_fall, wp_ild2, wp_iceq, wr_50_30, wp_ild1, ws_51, ws_67, wp_inc1, wk_234, wp_goto, wp_icge, wr_50_28, wp_lc, ws_65, ws_66, wp_inc2, wp_isub, wp_ifle, wp_ist3, wp_ild3, wr_50_29, wk_235, wp_inc3, wl_65, wl_66, wp_pald, wk_197, wp_lcmp, wp_ifne, wp_lret, wp_geti kd_50, wk_237, x_clr_I, x_clr_J, x_clr_R, x_clr_U, ct_some, ct_none, lc_lt, lc_ge, lc_gt, lc_le, lc_eq, lc_r, xI_inj, xJ_inj, Option.some.injEq, eq_self, bi_r, bi_0, bi_1, bi_n, Classical.not_not, and_true, true_and, ite_true, ite_false, ↓reduceIte, ↓x_andl, z_le, z_nle, z_lt, z_nlt, z_eq, z_neq, if_pos, if_neg, x_andl, false_and, and_false, or_true, true_or, or_false, false_or, not_true, not_false_iff, x_rd_eq, x_rd_ne, x_st_o, Int.cast_ofNat_Int, Int.ofNat_zero, Int.ofNat_one, not_true_eq_false, not_false_eq_true, if_true, if_false, ite_self, and_self, Int.ofNat_eq_natCast, Int.tdiv_eq_ediv_of_nonneg, Int.tmod_eq_emod_of_nonneg, x_bm32, h51]
  exact K
set_option maxHeartbeats 8000000 in
theorem o_middle : x_o29 (iN L S0) := by
  intro σ hh
  refine ag_J ?_
  obtain ⟨w, h51, hw, h100, hn, hq, hM, hS⟩ := iN_w hh
  have a := wf_h hw
  unfold wf_hdr at a
  obtain ⟨n8, n9, n10, _⟩ := id hn
  obtain ⟨N, hN4, hN⟩ := ck_ex hw hn
  simp (disch := first | omega | (simp only [x_wtI, x_wtJ, x_wtR, x_wtN]; omega) | assumption | (simp (disch := omega) only [x_st_o, x_rd_ne]; first | assumption | omega) | (apply mir_eq; assumption; (intro c h1 h2; simp (disch := omega) only [x_st_o])) | (apply mis_eq; assumption; (intro c h1 h2; simp (disch := omega) only [x_st_o])) | rfl) only [sp_140, bk_140_0, bk_140_2, wp_ald0, wr_0_2, wr_20_0, wp_ast1, wr_0_7, wp_ic, wk_14, wp_geti kd_20, wp_ist2, wp_ist3, wp_fall, wp_ild3, wp_icge, wp_ald1, wr_6_14, wp_ild2, wl_14, wp_cald, wp_ifle, wk_66, wp_inc3, wp_goto, wk_139, wk_109, wk_104, wk_141, wp_lret, sp_14, bk_14_0, wp_ild1, wp_puti kd_24, wp_ret, x_clr_I, x_clr_J, x_clr_R, x_clr_U, ct_some, ct_none, lc_lt, lc_ge, lc_gt, lc_le, lc_eq, lc_r, xI_inj, xJ_inj, Option.some.injEq, eq_self, bi_r, bi_0, bi_1, bi_n, Classical.not_not, and_true, true_and, ite_true, ite_false, ↓reduceIte, ↓x_andl, z_le, z_nle, z_lt, z_nlt, z_eq, z_neq, if_pos, if_neg, x_andl, false_and, and_false, or_true, true_or, or_false, false_or, not_true, not_false_iff, x_rd_eq, x_rd_ne, x_st_o, Int.cast_ofNat_Int, Int.ofNat_zero, Int.ofNat_one, not_true_eq_false, not_false_eq_true, if_true, if_false, ite_self, and_self, Int.ofNat_eq_natCast, Int.tdiv_eq_ediv_of_nonneg, Int.tmod_eq_emod_of_nonneg, x_bm32, hS.1.1]
  generalize hσ0 : x_st (x_st (x_st σ 24 3 3 4) 24 3 1 4) 24 3 2 5 = σ0
  have e0 : x_eqo [(24, 3), (25, 3), (27, 3), (28, 3)] σ σ0 := by
    subst hσ0
    repeat (first | exact eqo_refl | refine eqo_st (by simp) ?_)
  have f0 : σ0 24 3 3 = 4 ∧ σ0 24 3 1 = 4 ∧ σ0 24 3 2 = 5 := by
    subst hσ0
    refine ⟨?_, ?_, ?_⟩ <;> simp (disch := omega) only [x_st_o, x_rd_ne, x_rd_eq, s_fl_o, s_fl_in, s_fl_out, x_cp_o, x_cp_in, x_cp_out]
  have hM0 : mir σ0 1 w := mir_eq hM (fun c q1 q2 => e0 c 1 (by simp))
  have hS0 : mis σ0 1 w := mis_eq hS (fun c q1 q2 => e0 c 1 (by simp))
  obtain ⟨Q, hQd⟩ : ∃ Q : Option x_V → x_S → Prop, Q = (fun r σ' => ∃ v, r = some (xJ v) ∧ x_f100 σ σ' ∧ (-9223372036854775808 ≤ v ∧ v ≤ 9223372036854775807) ∧ x_Sp 999 233 [xR 50 0] σ' (fun r2 σ2 => r2 = some (xJ v) ∧ iN L S0 σ2)) := ⟨_, rfl⟩
  have rest : ∀ i : Int, x_Wp 999 140 (x_blk 140 2) [xR 0 0, xR 6 1, xI (ck w N), xI i] [] σ0 Q := by
    intro i
    rw [bk_140_2]
    simp (disch := first | omega | (simp only [x_wtI, x_wtJ, x_wtR, x_wtN]; omega) | assumption | (simp (disch := omega) only [x_st_o, x_rd_ne]; first | assumption | omega) | (apply mir_eq; assumption; (intro c h1 h2; simp (disch := omega) only [x_st_o])) | (apply mis_eq; assumption; (intro c h1 h2; simp (disch := omega) only [x_st_o])) | rfl) only [bk_140_0, bk_140_1, wp_ald0, wr_0_2, wr_20_0, wp_ast1, wr_0_7, wp_ic, wk_14, wp_geti kd_20, wp_ist2, wp_ist3, wp_fall, wp_ild3, wp_icge, wp_ald1, wr_6_14, wp_ild2, wl_14, wp_cald, wp_ifle, wk_66, wp_inc3, wp_goto, wk_139, wk_109, wk_104, wk_141, wp_lret, x_clr_I, x_clr_J, x_clr_R, x_clr_U, ct_some, ct_none, lc_lt, lc_ge, lc_gt, lc_le, lc_eq, lc_r, xI_inj, xJ_inj, Option.some.injEq, eq_self, bi_r, bi_0, bi_1, bi_n, Classical.not_not, and_true, true_and, ite_true, ite_false, ↓reduceIte, ↓x_andl, z_le, z_nle, z_lt, z_nlt, z_eq, z_neq, if_pos, if_neg, x_andl, false_and, and_false, or_true, true_or, or_false, false_or, not_true, not_false_iff, x_rd_eq, x_rd_ne, x_st_o, Int.cast_ofNat_Int, Int.ofNat_zero, Int.ofNat_one, not_true_eq_false, not_false_eq_true, if_true, if_false, ite_self, and_self, Int.ofNat_eq_natCast, Int.tdiv_eq_ediv_of_nonneg, Int.tmod_eq_emod_of_nonneg, x_bm32, hS0.1.1]
    refine x_use (d := 993) (h_refillL hM0 hw hn hN hN4 f0.1 f0.2.1 f0.2.2) ?_
    rintro r σ1 ⟨rfl, e1, k1, rows⟩
    have e01 := eqo_trans e0 e1
    have hM1 : mir σ1 1 w := mir_eq hM (fun c q1 q2 => e01 c 1 (by simp))
    have hS1 : mis σ1 1 w := mis_eq hS (fun c q1 q2 => e01 c 1 (by simp))
    have hh1 := iN_tr hh e01
    have g51 : σ1 51 0 = w := (e01 51 0 (by simp)).trans h51
    have e8 : ck w 0 = w 8 := rfl
    have bR := likR_b (T := σ1 25 3) hN (k := 0) (by omega) (fun z => rows 1 (by omega) (by omega))
    rw [e8] at bR
    have hb : rbd (likR w (σ1 25 3) (w 8)) := by
      intro s s0 s1
      rcases bR s s0 s1 with z | z
      · exact Or.inl z
      · exact Or.inr (by omega)
    have pickC : x_Sp 5 109 [xR 0 0, xR 24 3] σ1 (fun r σ' => x_eqo [(24, 3), (27, 3)] σ1 σ' ∧ (∀ k, ¬ (7 ≤ k ∧ k ≤ 9) → σ' 24 3 k = σ1 24 3 k) ∧ ∃ pick low, r = some (xI pick) ∧ ((pick = -1 ∧ ∀ b t u, ¬ zR 9223372036854775807 w (likR w (σ1 25 3) (w 8)) (w 8) (w 9) (w 10) b t u) ∨ ∃ b0 t0, pick = b0 * 21 + t0 ∧ fL (zR 9223372036854775807 w (likR w (σ1 25 3) (w 8)) (w 8) (w 9) (w 10)) b0 t0 low)) := by
      refine x_gen (fun Q2 hQ2 => ?_)
      simp (disch := first | omega | (simp only [x_wtI, x_wtJ, x_wtR, x_wtN]; omega) | assumption | (simp (disch := omega) only [x_st_o, x_rd_ne]; first | assumption | omega) | (apply mir_eq; assumption; (intro c h1 h2; simp (disch := omega) only [x_st_o])) | (apply mis_eq; assumption; (intro c h1 h2; simp (disch := omega) only [x_st_o])) | rfl) only [sp_109, bk_109_0, wp_ald1, wp_ald0, wr_0_2, wp_geti kd_20, wk_12, wp_iret mz_109, x_clr_I, x_clr_J, x_clr_R, x_clr_U, ct_some, ct_none, lc_lt, lc_ge, lc_gt, lc_le, lc_eq, lc_r, xI_inj, xJ_inj, Option.some.injEq, eq_self, bi_r, bi_0, bi_1, bi_n, Classical.not_not, and_true, true_and, ite_true, ite_false, ↓reduceIte, ↓x_andl, z_le, z_nle, z_lt, z_nlt, z_eq, z_neq, if_pos, if_neg, x_andl, false_and, and_false, or_true, true_or, or_false, false_or, not_true, not_false_iff, x_rd_eq, x_rd_ne, x_st_o, Int.cast_ofNat_Int, Int.ofNat_zero, Int.ofNat_one, not_true_eq_false, not_false_eq_true, if_true, if_false, ite_self, and_self, Int.ofNat_eq_natCast, Int.tdiv_eq_ediv_of_nonneg, Int.tmod_eq_emod_of_nonneg, x_bm32, hS1.1.1, hS1.1.2.1, hS1.1.2.2.1]
      refine x_use (d := 0) (h_choose (j := 3) (c := 4) (Wd := 4) (sc := 1) (kp := kpE w 5 (w 8)) (P := fun R => R = likR w (σ1 25 3) (w 8)) hM1 (by omega) hw n8.1 n8.2 (by rw [k1 3 (by omega)]; exact f0.1) (by omega) (by rw [k1 1 (by omega)]; exact f0.2.1) (by omega) n9 n10 (by omega) (kpE_b hw) (fun R h => by rw [h]; exact hb) (h_lookL hM1 hw n8.1 n8.2 (by rw [k1 3 (by omega)]; exact f0.1) (by rw [k1 2 (by omega)]; exact f0.2.2) rfl hb)) ?_
      rintro r σ' ⟨e, k, R, hR, pick, low, hr, h⟩
      subst hr
      subst hR
      simp (disch := first | omega | (simp only [x_wtI, x_wtJ, x_wtR, x_wtN]; omega) | assumption | (simp (disch := omega) only [x_st_o, x_rd_ne]; first | assumption | omega) | (apply mir_eq; assumption; (intro c h1 h2; simp (disch := omega) only [x_st_o])) | (apply mis_eq; assumption; (intro c h1 h2; simp (disch := omega) only [x_st_o])) | rfl) only [bk_109_0, wp_ald1, wp_ald0, wr_0_2, wp_geti kd_20, wk_12, wp_iret mz_109, x_clr_I, x_clr_J, x_clr_R, x_clr_U, ct_some, ct_none, lc_lt, lc_ge, lc_gt, lc_le, lc_eq, lc_r, xI_inj, xJ_inj, Option.some.injEq, eq_self, bi_r, bi_0, bi_1, bi_n, Classical.not_not, and_true, true_and, ite_true, ite_false, ↓reduceIte, ↓x_andl, z_le, z_nle, z_lt, z_nlt, z_eq, z_neq, if_pos, if_neg, x_andl, false_and, and_false, or_true, true_or, or_false, false_or, not_true, not_false_iff, x_rd_eq, x_rd_ne, x_st_o, Int.cast_ofNat_Int, Int.ofNat_zero, Int.ofNat_one, not_true_eq_false, not_false_eq_true, if_true, if_false, ite_self, and_self, Int.ofNat_eq_natCast, Int.tdiv_eq_ediv_of_nonneg, Int.tmod_eq_emod_of_nonneg, x_bm32]
      refine hQ2 _ _ ⟨e, k, pick, low, rfl, ?_⟩
      rcases h with ⟨z1, _, z3⟩ | ⟨b0, t0, z1, z2⟩
      · exact Or.inl ⟨z1, fun b t u z => z3 b t u (zcl_zR.mpr z)⟩
      · exact Or.inr ⟨b0, t0, z1, fL_cg z2 (fun b t u => zcl_zR.symm)⟩
    simp (disch := first | omega | (simp only [x_wtI, x_wtJ, x_wtR, x_wtN]; omega) | assumption | (simp (disch := omega) only [x_st_o, x_rd_ne]; first | assumption | omega) | (apply mir_eq; assumption; (intro c h1 h2; simp (disch := omega) only [x_st_o])) | (apply mis_eq; assumption; (intro c h1 h2; simp (disch := omega) only [x_st_o])) | rfl) only [bk_140_0, bk_140_1, wp_ald0, wr_0_2, wr_20_0, wp_ast1, wr_0_7, wp_ic, wk_14, wp_geti kd_20, wp_ist2, wp_ist3, wp_fall, wp_ild3, wp_icge, wp_ald1, wr_6_14, wp_ild2, wl_14, wp_cald, wp_ifle, wk_66, wp_inc3, wp_goto, wk_139, wk_109, wk_104, wk_141, wp_lret, x_clr_I, x_clr_J, x_clr_R, x_clr_U, ct_some, ct_none, lc_lt, lc_ge, lc_gt, lc_le, lc_eq, lc_r, xI_inj, xJ_inj, Option.some.injEq, eq_self, bi_r, bi_0, bi_1, bi_n, Classical.not_not, and_true, true_and, ite_true, ite_false, ↓reduceIte, ↓x_andl, z_le, z_nle, z_lt, z_nlt, z_eq, z_neq, if_pos, if_neg, x_andl, false_and, and_false, or_true, true_or, or_false, false_or, not_true, not_false_iff, x_rd_eq, x_rd_ne, x_st_o, Int.cast_ofNat_Int, Int.ofNat_zero, Int.ofNat_one, not_true_eq_false, not_false_eq_true, if_true, if_false, ite_self, and_self, Int.ofNat_eq_natCast, Int.tdiv_eq_ediv_of_nonneg, Int.tmod_eq_emod_of_nonneg, x_bm32]
    refine x_use (d := 993) pickC ?_
    rintro r σ2 ⟨e2, k2, pick, low, rfl, hp⟩
    have hh2 := iN_look hh1 (by omega) e2 k2
    have g512 : σ2 51 0 = w := (e2 51 0 (by simp)).trans g51
    simp (disch := first | omega | (simp only [x_wtI, x_wtJ, x_wtR, x_wtN]; omega) | assumption | (simp (disch := omega) only [x_st_o, x_rd_ne]; first | assumption | omega) | (apply mir_eq; assumption; (intro c h1 h2; simp (disch := omega) only [x_st_o])) | (apply mis_eq; assumption; (intro c h1 h2; simp (disch := omega) only [x_st_o])) | rfl) only [bk_140_0, bk_140_1, wp_ald0, wr_0_2, wr_20_0, wp_ast1, wr_0_7, wp_ic, wk_14, wp_geti kd_20, wp_ist2, wp_ist3, wp_fall, wp_ild3, wp_icge, wp_ald1, wr_6_14, wp_ild2, wl_14, wp_cald, wp_ifle, wk_66, wp_inc3, wp_goto, wk_139, wk_109, wk_104, wk_141, wp_lret, x_clr_I, x_clr_J, x_clr_R, x_clr_U, ct_some, ct_none, lc_lt, lc_ge, lc_gt, lc_le, lc_eq, lc_r, xI_inj, xJ_inj, Option.some.injEq, eq_self, bi_r, bi_0, bi_1, bi_n, Classical.not_not, and_true, true_and, ite_true, ite_false, ↓reduceIte, ↓x_andl, z_le, z_nle, z_lt, z_nlt, z_eq, z_neq, if_pos, if_neg, x_andl, false_and, and_false, or_true, true_or, or_false, false_or, not_true, not_false_iff, x_rd_eq, x_rd_ne, x_st_o, Int.cast_ofNat_Int, Int.ofNat_zero, Int.ofNat_one, not_true_eq_false, not_false_eq_true, if_true, if_false, ite_self, and_self, Int.ofNat_eq_natCast, Int.tdiv_eq_ediv_of_nonneg, Int.tmod_eq_emod_of_nonneg, x_bm32]
    refine x_use (d := 991) (h_leastNow (j := 0) hh2 (by omega) rfl) ?_
    rintro r σ3 ⟨rfl, tk, hh3, f3, ct⟩
    rw [g512] at ct ⊢
    have g513 : σ3 51 0 = w := (tk.1 51 0 (by decide)).trans g512
    have f100 : ∀ j i, σ3 100 j i = σ 100 j i := fun j i => by rw [tk_100 tk j i, e2 100 j (by simp), e01 100 j (by simp)]
    rcases hp with ⟨rfl, hno⟩ | ⟨b0, t0, rfl, hfl⟩
    · simp (disch := first | omega | (simp only [x_wtI, x_wtJ, x_wtR, x_wtN]; omega) | assumption | (simp (disch := omega) only [x_st_o, x_rd_ne]; first | assumption | omega) | (apply mir_eq; assumption; (intro c h1 h2; simp (disch := omega) only [x_st_o])) | (apply mis_eq; assumption; (intro c h1 h2; simp (disch := omega) only [x_st_o])) | rfl) only [bk_140_0, bk_140_1, wp_ald0, wr_0_2, wr_20_0, wp_ast1, wr_0_7, wp_ic, wk_14, wp_geti kd_20, wp_ist2, wp_ist3, wp_fall, wp_ild3, wp_icge, wp_ald1, wr_6_14, wp_ild2, wl_14, wp_cald, wp_ifle, wk_66, wp_inc3, wp_goto, wk_139, wk_109, wk_104, wk_141, wp_lret, bk_141_0, bk_141_1, bk_141_2, bk_141_3, bk_141_4, wp_ild1, wp_iceq, wp_lld2, wp_lc, wp_lcmp, wp_ifne, wp_idiv, wp_ist4, wp_irem, wp_ist5, wr_0_4, wk_3, wp_ild5, wk_69, wp_ild4, wp_ior, wk_13, wp_lst6, wp_lld6, wp_lsub, x_clr_I, x_clr_J, x_clr_R, x_clr_U, ct_some, ct_none, lc_lt, lc_ge, lc_gt, lc_le, lc_eq, lc_r, xI_inj, xJ_inj, Option.some.injEq, eq_self, bi_r, bi_0, bi_1, bi_n, Classical.not_not, and_true, true_and, ite_true, ite_false, ↓reduceIte, ↓x_andl, z_le, z_nle, z_lt, z_nlt, z_eq, z_neq, if_pos, if_neg, x_andl, false_and, and_false, or_true, true_or, or_false, false_or, not_true, not_false_iff, x_rd_eq, x_rd_ne, x_st_o, Int.cast_ofNat_Int, Int.ofNat_zero, Int.ofNat_one, not_true_eq_false, not_false_eq_true, if_true, if_false, ite_self, and_self, Int.ofNat_eq_natCast, Int.tdiv_eq_ediv_of_nonneg, Int.tmod_eq_emod_of_nonneg, x_bm32, sp_141]
      rw [hQd]
      exact ⟨(-9223372036854775808), rfl, fun j i => f100 j i, by omega, h_midM hh3 g513 hN hN4 rows (Or.inl ⟨rfl, hno⟩)⟩
    · obtain ⟨v, vb, hx, hm⟩ := h_excess (b0 := b0) (t0 := t0) hh3 g513 ct hfl.1.1.1
      simp (disch := first | omega | (simp only [x_wtI, x_wtJ, x_wtR, x_wtN]; omega) | assumption | (simp (disch := omega) only [x_st_o, x_rd_ne]; first | assumption | omega) | (apply mir_eq; assumption; (intro c h1 h2; simp (disch := omega) only [x_st_o])) | (apply mis_eq; assumption; (intro c h1 h2; simp (disch := omega) only [x_st_o])) | rfl) only [bk_140_0, bk_140_1, wp_ald0, wr_0_2, wr_20_0, wp_ast1, wr_0_7, wp_ic, wk_14, wp_geti kd_20, wp_ist2, wp_ist3, wp_fall, wp_ild3, wp_icge, wp_ald1, wr_6_14, wp_ild2, wl_14, wp_cald, wp_ifle, wk_66, wp_inc3, wp_goto, wk_139, wk_109, wk_104, wk_141, wp_lret, x_clr_I, x_clr_J, x_clr_R, x_clr_U, ct_some, ct_none, lc_lt, lc_ge, lc_gt, lc_le, lc_eq, lc_r, xI_inj, xJ_inj, Option.some.injEq, eq_self, bi_r, bi_0, bi_1, bi_n, Classical.not_not, and_true, true_and, ite_true, ite_false, ↓reduceIte, ↓x_andl, z_le, z_nle, z_lt, z_nlt, z_eq, z_neq, if_pos, if_neg, x_andl, false_and, and_false, or_true, true_or, or_false, false_or, not_true, not_false_iff, x_rd_eq, x_rd_ne, x_st_o, Int.cast_ofNat_Int, Int.ofNat_zero, Int.ofNat_one, not_true_eq_false, not_false_eq_true, if_true, if_false, ite_self, and_self, Int.ofNat_eq_natCast, Int.tdiv_eq_ediv_of_nonneg, Int.tmod_eq_emod_of_nonneg, x_bm32]
      refine x_use (d := 994) hx ?_
      rintro r σ4 ⟨rfl, e4, hh4⟩
      simp (disch := first | omega | (simp only [x_wtI, x_wtJ, x_wtR, x_wtN]; omega) | assumption | (simp (disch := omega) only [x_st_o, x_rd_ne]; first | assumption | omega) | (apply mir_eq; assumption; (intro c h1 h2; simp (disch := omega) only [x_st_o])) | (apply mis_eq; assumption; (intro c h1 h2; simp (disch := omega) only [x_st_o])) | rfl) only [bk_140_0, bk_140_1, wp_ald0, wr_0_2, wr_20_0, wp_ast1, wr_0_7, wp_ic, wk_14, wp_geti kd_20, wp_ist2, wp_ist3, wp_fall, wp_ild3, wp_icge, wp_ald1, wr_6_14, wp_ild2, wl_14, wp_cald, wp_ifle, wk_66, wp_inc3, wp_goto, wk_139, wk_109, wk_104, wk_141, wp_lret, x_clr_I, x_clr_J, x_clr_R, x_clr_U, ct_some, ct_none, lc_lt, lc_ge, lc_gt, lc_le, lc_eq, lc_r, xI_inj, xJ_inj, Option.some.injEq, eq_self, bi_r, bi_0, bi_1, bi_n, Classical.not_not, and_true, true_and, ite_true, ite_false, ↓reduceIte, ↓x_andl, z_le, z_nle, z_lt, z_nlt, z_eq, z_neq, if_pos, if_neg, x_andl, false_and, and_false, or_true, true_or, or_false, false_or, not_true, not_false_iff, x_rd_eq, x_rd_ne, x_st_o, Int.cast_ofNat_Int, Int.ofNat_zero, Int.ofNat_one, not_true_eq_false, not_false_eq_true, if_true, if_false, ite_self, and_self, Int.ofNat_eq_natCast, Int.tdiv_eq_ediv_of_nonneg, Int.tmod_eq_emod_of_nonneg, x_bm32]
      rw [hQd]
      exact ⟨v, rfl, fun j i => by rw [e4 100 j (by simp), f100], vb, h_midM hh4 ((e4 51 0 (by simp)).trans g513) hN hN4 rows (Or.inr ⟨b0, t0, low, hfl, hm⟩)⟩
  have up : ∀ m k : Nat, k + m = N → x_Wp 999 140 (x_blk 140 1) [xR 0 0, xR 6 1, xI (ck w k), xI (k : Int)] [] σ0 Q := by
    intro m
    induction m with
    | zero =>
      intro k hk
      have ek : k = N := by omega
      subst ek
      have cf := (ck_f hw hn hN.1 k (Nat.le_refl _)).1
      have K := rest (k : Int)
      have k7 := mi_kids hM0 (f := ck w k) (by omega) cf.2
      rw [hN.2] at k7
      have kb : 0 ≤ (k : Int) ∧ (k : Int) ≤ 4 := by omega
      generalize hc : ck w k = c at cf k7 K
      generalize (k : Int) = kk at kb K
      rw [bk_140_1]
      by_cases z : kk < 4
      · simp (disch := first | omega | (simp only [x_wtI, x_wtJ, x_wtR, x_wtN]; omega) | assumption | (simp (disch := omega) only [x_st_o, x_rd_ne]; first | assumption | omega) | (apply mir_eq; assumption; (intro c h1 h2; simp (disch := omega) only [x_st_o])) | (apply mis_eq; assumption; (intro c h1 h2; simp (disch := omega) only [x_st_o])) | rfl) only [bk_140_0, wp_ald0, wr_0_2, wr_20_0, wp_ast1, wr_0_7, wp_ic, wk_14, wp_geti kd_20, wp_ist2, wp_ist3, wp_fall, wp_ild3, wp_icge, wp_ald1, wr_6_14, wp_ild2, wl_14, wp_cald, wp_ifle, wk_66, wp_inc3, wp_goto, wk_139, wk_109, wk_104, wk_141, wp_lret, x_clr_I, x_clr_J, x_clr_R, x_clr_U, ct_some, ct_none, lc_lt, lc_ge, lc_gt, lc_le, lc_eq, lc_r, xI_inj, xJ_inj, Option.some.injEq, eq_self, bi_r, bi_0, bi_1, bi_n, Classical.not_not, and_true, true_and, ite_true, ite_false, ↓reduceIte, ↓x_andl, z_le, z_nle, z_lt, z_nlt, z_eq, z_neq, if_pos, if_neg, x_andl, false_and, and_false, or_true, true_or, or_false, false_or, not_true, not_false_iff, x_rd_eq, x_rd_ne, x_st_o, Int.cast_ofNat_Int, Int.ofNat_zero, Int.ofNat_one, not_true_eq_false, not_false_eq_true, if_true, if_false, ite_self, and_self, Int.ofNat_eq_natCast, Int.tdiv_eq_ediv_of_nonneg, Int.tmod_eq_emod_of_nonneg, x_bm32, k7]
        exact K
      · simp (disch := first | omega | (simp only [x_wtI, x_wtJ, x_wtR, x_wtN]; omega) | assumption | (simp (disch := omega) only [x_st_o, x_rd_ne]; first | assumption | omega) | (apply mir_eq; assumption; (intro c h1 h2; simp (disch := omega) only [x_st_o])) | (apply mis_eq; assumption; (intro c h1 h2; simp (disch := omega) only [x_st_o])) | rfl) only [bk_140_0, wp_ald0, wr_0_2, wr_20_0, wp_ast1, wr_0_7, wp_ic, wk_14, wp_geti kd_20, wp_ist2, wp_ist3, wp_fall, wp_ild3, wp_icge, wp_ald1, wr_6_14, wp_ild2, wl_14, wp_cald, wp_ifle, wk_66, wp_inc3, wp_goto, wk_139, wk_109, wk_104, wk_141, wp_lret, x_clr_I, x_clr_J, x_clr_R, x_clr_U, ct_some, ct_none, lc_lt, lc_ge, lc_gt, lc_le, lc_eq, lc_r, xI_inj, xJ_inj, Option.some.injEq, eq_self, bi_r, bi_0, bi_1, bi_n, Classical.not_not, and_true, true_and, ite_true, ite_false, ↓reduceIte, ↓x_andl, z_le, z_nle, z_lt, z_nlt, z_eq, z_neq, if_pos, if_neg, x_andl, false_and, and_false, or_true, true_or, or_false, false_or, not_true, not_false_iff, x_rd_eq, x_rd_ne, x_st_o, Int.cast_ofNat_Int, Int.ofNat_zero, Int.ofNat_one, not_true_eq_false, not_false_eq_true, if_true, if_false, ite_self, and_self, Int.ofNat_eq_natCast, Int.tdiv_eq_ediv_of_nonneg, Int.tmod_eq_emod_of_nonneg, x_bm32]
        exact K
    | succ m ih =>
      intro k hk
      have cf := (ck_f hw hn hN.1 k (by omega)).1
      have kp := hN.1 k (by omega)
      have K := ih (k + 1) (by omega)
      rw [show ((k + 1 : Nat) : Int) = (k : Int) + 1 by omega] at K
      have ok := wf_f hw (f := ck w k) (by omega) cf.2
      unfold wf_one at ok
      have k7 := mi_kids hM0 (f := ck w k) (by omega) cf.2
      have lc := fun (d' : Nat) (Q' : Option x_V → x_S → Prop) => k_likC (d := d') (σ := σ0) (Q := Q') (f := ck w k) hM0 hw (by omega) cf.2 kp
      have el : p_lik w (ck w k) = ck w (k + 1) := rfl
      rw [el] at lc
      have kb : 0 ≤ (k : Int) ∧ (k : Int) < 4 := by omega
      generalize hc2 : ck w (k + 1) = c2 at lc K
      generalize hc : ck w k = c at cf kp k7 lc K ok
      generalize (k : Int) = kk at kb K
      rw [bk_140_1]
      simp (disch := first | omega | (simp only [x_wtI, x_wtJ, x_wtR, x_wtN]; omega) | assumption | (simp (disch := omega) only [x_st_o, x_rd_ne]; first | assumption | omega) | (apply mir_eq; assumption; (intro c h1 h2; simp (disch := omega) only [x_st_o])) | (apply mis_eq; assumption; (intro c h1 h2; simp (disch := omega) only [x_st_o])) | rfl) only [bk_140_0, bk_140_2, wp_ald0, wr_0_2, wr_20_0, wp_ast1, wr_0_7, wp_ic, wk_14, wp_geti kd_20, wp_ist2, wp_ist3, wp_fall, wp_ild3, wp_icge, wp_ald1, wr_6_14, wp_ild2, wl_14, wp_cald, wp_ifle, wk_66, wp_inc3, wp_goto, wk_139, wk_109, wk_104, wk_141, wp_lret, x_clr_I, x_clr_J, x_clr_R, x_clr_U, ct_some, ct_none, lc_lt, lc_ge, lc_gt, lc_le, lc_eq, lc_r, xI_inj, xJ_inj, Option.some.injEq, eq_self, bi_r, bi_0, bi_1, bi_n, Classical.not_not, and_true, true_and, ite_true, ite_false, ↓reduceIte, ↓x_andl, z_le, z_nle, z_lt, z_nlt, z_eq, z_neq, if_pos, if_neg, x_andl, false_and, and_false, or_true, true_or, or_false, false_or, not_true, not_false_iff, x_rd_eq, x_rd_ne, x_st_o, Int.cast_ofNat_Int, Int.ofNat_zero, Int.ofNat_one, not_true_eq_false, not_false_eq_true, if_true, if_false, ite_self, and_self, Int.ofNat_eq_natCast, Int.tdiv_eq_ediv_of_nonneg, Int.tmod_eq_emod_of_nonneg, x_bm32, k7, lc]
      exact K
  have K := up N 0 (by omega)
  have e8 : ck w 0 = w 8 := rfl
  rw [e8] at K
  rw [← hQd]
  exact K
end OMI

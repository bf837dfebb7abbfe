def fol (w : Int → Int) (σ : x_S) : Prop := (∀ f, 0 ≤ f → f < w 0 → wcell σ f) ∧ wk w (w 0) (cC σ) (cV σ) (σ 40 0) ∧ pk w (w 0) (cV σ) (σ 40 0) (σ 41 0) ∧ stm (w 0) (cC σ) (cV σ) (σ 33 0 10) ∧ (∀ f, 0 ≤ f → f < w 0 → σ 42 0 f = p_part w f) ∧ ∀ f, 0 ≤ f → f < w 0 → -1000000 ≤ σ 40 0 f ∧ σ 40 0 f ≤ 1000000
theorem pk_b {w V S P C : Int → Int} {N : Int} (hw : wf w) (hn : wn w) (hq : wq w) (hN : N ≤ w 0) (h : wk w N C V S) (hp : pk w N V S P) : ∀ n : Nat, ∀ f : Int, 0 ≤ f → f < n → f < N → ¬ V f = -1 → 0 ≤ P f ∧ P f ≤ 30000 * (w_of w f 6 + 1) := by
  intro n
  induction n with
  | zero => intro f a b; omega
  | succ n ih =>
    intro f f0 fn f1 hv
    have b := (wk_b hw hn hq hN h f f0 f1).2.2 hv
    have e := hp f f0 f1 hv
    have o := wf_f hw f0 (show f < w 0 by omega)
    unfold wf_one at o
    by_cases c : f = w 8
    · rw [if_pos c] at e
      omega
    · rw [if_neg c] at e
      have u := fr_par hw hn.1.1 b.1 c (by omega)
      have uu := wf_u hw (f := f) (by omega) (by omega)
      have hv2 : ¬ V (w_of w f 0) = -1 := by
        intro z
        have hh := (h f f0 f1).1
        rw [if_neg c, if_pos b.1, z] at hh
        exact b.2.1 hh
      have i := ih _ u.2.1 (by omega) (by omega) hv2
      omega
theorem cC_eq {σ σ' : x_S} {f : Int} (h : ∀ c, σ' c 0 f = σ c 0 f) : cC σ' f = cC σ f := by
  unfold cC
  rw [h 34, h 36, h 37]
theorem cV_eq {σ σ' : x_S} {f : Int} (h : ∀ c, σ' c 0 f = σ c 0 f) : cV σ' f = cV σ f := by
  unfold cV
  rw [h 35, h 38, h 39]
theorem wk_snoc {w C V S C' V' S' : Int → Int} {i : Int} (hw : wf w) (hn : 0 ≤ w 8) (i0 : 0 ≤ i) (i1 : i < w 0) (h : wk w i C V S) (e : ∀ f, 0 ≤ f → f < i → C' f = C f ∧ V' f = V f ∧ S' f = S f)
    (h1 : C' i = (if i = w 8 then 21 * w 10 + w 9 else if p_fr w (w 8) i then V (w_of w i 0) else -1)) (h2 : V' i = (if C' i = -1 then -1 else p_beh w i (C' i) (w (536 + 2 * i)) (w (536 + 2 * i + 1)))) (h3 : ¬ V' i = -1 → S' i = (if i = w 8 then 0 else S (w_of w i 0)) + p_cost w 5 i (w (536 + 2 * i)) (w (536 + 2 * i + 1)) (V' i % 21)) : wk w (i + 1) C' V' S' := by
  have par : ∀ f, 0 ≤ f → f ≤ i → ¬ f = w 8 → p_fr w (w 8) f → V' (w_of w f 0) = V (w_of w f 0) ∧ S' (w_of w f 0) = S (w_of w f 0) := by
    intro f f0 f1 c g
    have u := fr_par hw hn g c (by omega)
    exact (e _ u.2.1 (by omega)).2
  intro f f0 f1
  by_cases c : f = i
  · subst c
    refine ⟨?_, h2, ?_⟩
    · rw [h1]
      by_cases c8 : f = w 8
      · rw [if_pos c8, if_pos c8]
      · rw [if_neg c8, if_neg c8]
        by_cases g : p_fr w (w 8) f
        · rw [if_pos g, if_pos g, (par f f0 (by omega) c8 g).1]
        · rw [if_neg g, if_neg g]
    · intro hv
      rw [h3 hv]
      by_cases c8 : f = w 8
      · rw [if_pos c8, if_pos c8]
      · rw [if_neg c8, if_neg c8]
        have g : p_fr w (w 8) f := by
          by_cases g : p_fr w (w 8) f
          · exact g
          · rw [h2, h1, if_neg c8, if_neg g, if_pos rfl] at hv
            exact absurd rfl hv
        rw [(par f f0 (by omega) c8 g).2]
  · obtain ⟨a1, a2, a3⟩ := h f f0 (by omega)
    obtain ⟨b1, b2, b3⟩ := e f f0 (by omega)
    rw [b1, b2, b3]
    refine ⟨?_, a2, ?_⟩
    · rw [a1]
      by_cases c8 : f = w 8
      · rw [if_pos c8, if_pos c8]
      · rw [if_neg c8, if_neg c8]
        by_cases g : p_fr w (w 8) f
        · rw [if_pos g, if_pos g, (par f f0 (by omega) c8 g).1]
        · rw [if_neg g, if_neg g]
    · intro hv
      rw [a3 hv]
      by_cases c8 : f = w 8
      · rw [if_pos c8, if_pos c8]
      · rw [if_neg c8, if_neg c8]
        have g : p_fr w (w 8) f := by
          by_cases g : p_fr w (w 8) f
          · exact g
          · rw [a2, a1, if_neg c8, if_neg g, if_pos rfl] at hv
            exact absurd rfl hv
        rw [(par f f0 (by omega) c8 g).2]
theorem pk_snoc {w C V S P V' S' P' : Int → Int} {i : Int} (hw : wf w) (hn : wn w) (hq : wq w) (i0 : 0 ≤ i) (i1 : i < w 0) (hk : wk w (i + 1) C V' S') (h : pk w i V S P) (e : ∀ f, 0 ≤ f → f < i → V' f = V f ∧ S' f = S f ∧ P' f = P f) (h1 : ¬ V' i = -1 → P' i = max (if i = w 8 then 0 else P (w_of w i 0)) (S' i)) : pk w (i + 1) V' S' P' := by
  intro f f0 f1 hv
  have b := (wk_b hw hn hq (by omega) hk f f0 f1).2.2 hv
  have par : ¬ f = w 8 → P' (w_of w f 0) = P (w_of w f 0) := by
    intro c
    have u := fr_par hw hn.1.1 b.1 c (by omega)
    exact (e _ u.2.1 (by omega)).2.2
  by_cases c : f = i
  · subst c
    rw [h1 hv]
    by_cases c8 : f = w 8
    · rw [if_pos c8, if_pos c8]
    · rw [if_neg c8, if_neg c8, par c8]
  · obtain ⟨b1, b2, b3⟩ := e f f0 (by omega)
    rw [b3, b2, h f f0 (by omega) (by rw [← b1]; exact hv)]
    by_cases c8 : f = w 8
    · rw [if_pos c8, if_pos c8]
    · rw [if_neg c8, if_neg c8, par c8]
theorem stm_cg {C V C' V' : Int → Int} {n s : Int} (e : ∀ f, 0 ≤ f → f < n → C' f = C f ∧ V' f = V f) (h : stm n C V s) : stm n C' V' s := by
  rcases h with ⟨h1, h2⟩ | ⟨h1, h2, h3⟩
  · refine Or.inl ⟨h1, fun g g0 g1 => ?_⟩
    rw [(e g g0 g1).1, (e g g0 g1).2]
    exact h2 g g0 g1
  · refine Or.inr ⟨h1, ?_, fun g g0 g1 => ?_⟩
    · rw [(e s h1.1 h1.2).1, (e s h1.1 h1.2).2]
      exact h2
    · rw [(e g g0 (by omega)).1, (e g g0 (by omega)).2]
      exact h3 g g0 g1
theorem stm_keep {C V : Int → Int} {i s : Int} (i0 : 0 ≤ i) (h : stm i C V s) (c : ¬ (¬ C i = -1 ∧ V i = -1) ∨ ¬ s = -1) : stm (i + 1) C V s := by
  rcases h with ⟨h1, h2⟩ | ⟨h1, h2, h3⟩
  · refine Or.inl ⟨h1, fun g g0 g1 => ?_⟩
    by_cases cg : g = i
    · subst cg
      exact c.elim id (fun z => absurd h1 z)
    · exact h2 g g0 (by omega)
  · exact Or.inr ⟨⟨h1.1, by omega⟩, h2, h3⟩
theorem stm_new {C V : Int → Int} {i : Int} (i0 : 0 ≤ i) (h : stm i C V (-1)) (c : ¬ C i = -1 ∧ V i = -1) : stm (i + 1) C V i := by
  rcases h with ⟨_, h2⟩ | ⟨h1, _, _⟩
  · exact Or.inr ⟨⟨i0, by omega⟩, c, h2⟩
  · omega
theorem h_follow {σ : x_S} {w : Int → Int} (hM : mir σ 1 w) (hS : mis σ 1 w) (hw : wf w) (h100 : wf_100 w) (hn : wn w) (hq : wq w) : x_Sp 4 77 [xR 33 0] σ (fun r σ' => r = none ∧ x_eqo [(33, 0), (34, 0), (35, 0), (36, 0), (37, 0), (38, 0), (39, 0), (40, 0), (41, 0), (42, 0)] σ σ' ∧ fol w σ') := by
  have a := wf_h hw
  unfold wf_hdr at a
  refine x_gen (fun Q hQ => ?_)
  simp (disch := first | omega | (simp only [x_wtI, x_wtJ, x_wtR, x_wtN]; omega) | assumption | (simp (disch := omega) only [x_st_o, x_rd_ne]; first | assumption | omega) | (apply mir_eq; assumption; (intro c h1 h2; simp (disch := omega) only [x_st_o])) | (apply mis_eq; assumption; (intro c h1 h2; simp (disch := omega) only [x_st_o])) | rfl) only [sp_77, bk_77_0, bk_77_2, bk_77_3, wp_ald0, wp_ic, wp_puti kd_33, wk_78, wp_ist1, wp_fall, wp_ild1, wr_33_0, wr_20_0, wp_geti kd_6, wp_icge, wk_79, wk_81, wr_33_1, wl_34, wl_35, wp_sbal, wp_ifeq, wr_33_2, wp_ifne, wp_geti kd_33, wp_icne, wp_inc1, wp_goto, wp_ret, x_clr_I, x_clr_J, x_clr_R, x_clr_U, ct_some, ct_none, lc_lt, lc_ge, lc_gt, lc_le, lc_eq, lc_r, xI_inj, xJ_inj, Option.some.injEq, eq_self, bi_r, bi_0, bi_1, bi_n, Classical.not_not, and_true, true_and, ite_true, ite_false, ↓reduceIte, ↓x_andl, z_le, z_nle, z_lt, z_nlt, z_eq, z_neq, if_pos, if_neg, x_andl, false_and, and_false, or_true, true_or, or_false, false_or, not_true, not_false_iff, x_rd_eq, x_rd_ne, x_st_o, Int.cast_ofNat_Int, Int.ofNat_zero, Int.ofNat_one, not_true_eq_false, not_false_eq_true, if_true, if_false, ite_self, and_self, Int.ofNat_eq_natCast, Int.tdiv_eq_ediv_of_nonneg, Int.tmod_eq_emod_of_nonneg, x_bm32]
  have hM0 : mir (x_st σ 33 0 10 (-1)) 1 w := mir_eq hM (fun c q1 q2 => by simp (disch := omega) only [x_st_o, x_rd_ne, x_rd_eq, s_fl_o, s_fl_in, s_fl_out, x_cp_o, x_cp_in, x_cp_out])
  have hS0 : mis (x_st σ 33 0 10 (-1)) 1 w := mis_eq hS (fun c q1 q2 => by simp (disch := omega) only [x_st_o, x_rd_ne, x_rd_eq, s_fl_o, s_fl_in, s_fl_out, x_cp_o, x_cp_in, x_cp_out])
  refine x_use (d := 1) (h_spread hM0 hS0 hw h100 hn) ?_
  rintro r s0 ⟨rfl, e0, p0⟩
  have st0 : s0 33 0 10 = -1 := by rw [e0 33 0 (by decide), x_rd_eq]
  have es0 : x_eqo [(33, 0), (42, 0)] σ s0 := eqo_trans (eqo_st (by decide) eqo_refl) (eqo_mono (by simp) e0)
  simp (disch := first | omega | (simp only [x_wtI, x_wtJ, x_wtR, x_wtN]; omega) | assumption | (simp (disch := omega) only [x_st_o, x_rd_ne]; first | assumption | omega) | (apply mir_eq; assumption; (intro c h1 h2; simp (disch := omega) only [x_st_o])) | (apply mis_eq; assumption; (intro c h1 h2; simp (disch := omega) only [x_st_o])) | rfl) only [bk_77_0, bk_77_2, bk_77_3, wp_ald0, wp_ic, wp_puti kd_33, wk_78, wp_ist1, wp_fall, wp_ild1, wr_33_0, wr_20_0, wp_geti kd_6, wp_icge, wk_79, wk_81, wr_33_1, wl_34, wl_35, wp_sbal, wp_ifeq, wr_33_2, wp_ifne, wp_geti kd_33, wp_icne, wp_inc1, wp_goto, wp_ret, x_clr_I, x_clr_J, x_clr_R, x_clr_U, ct_some, ct_none, lc_lt, lc_ge, lc_gt, lc_le, lc_eq, lc_r, xI_inj, xJ_inj, Option.some.injEq, eq_self, bi_r, bi_0, bi_1, bi_n, Classical.not_not, and_true, true_and, ite_true, ite_false, ↓reduceIte, ↓x_andl, z_le, z_nle, z_lt, z_nlt, z_eq, z_neq, if_pos, if_neg, x_andl, false_and, and_false, or_true, true_or, or_false, false_or, not_true, not_false_iff, x_rd_eq, x_rd_ne, x_st_o, Int.cast_ofNat_Int, Int.ofNat_zero, Int.ofNat_one, not_true_eq_false, not_false_eq_true, if_true, if_false, ite_self, and_self, Int.ofNat_eq_natCast, Int.tdiv_eq_ediv_of_nonneg, Int.tmod_eq_emod_of_nonneg, x_bm32]
  refine x_lpJ (α := x_S) (fun i σi => x_eqo [(33, 0), (34, 0), (35, 0), (36, 0), (37, 0), (38, 0), (39, 0), (40, 0), (41, 0)] s0 σi ∧ (∀ f, 0 ≤ f → f < i → wcell σi f) ∧ wk w i (cC σi) (cV σi) (σi 40 0) ∧ pk w i (cV σi) (σi 40 0) (σi 41 0) ∧ stm i (cC σi) (cV σi) (σi 33 0 10) ∧ ∀ f, 0 ≤ f → f < i → -1000000 ≤ σi 40 0 f ∧ σi 40 0 f ≤ 1000000) (fun i σi => x_Wp 4 77 (x_blk 77 1) [xR 33 0, xI i] [] σi Q) (lo := 0) (hi := w 0) (by omega) (a0 := s0) ⟨eqo_refl, fun f p q => by omega, fun f p q => by omega, fun f p q => by omega, Or.inl ⟨st0, fun f p q => by omega⟩, fun f p q => by omega⟩ ?_ ?_
  · intro i σi i0 i1 ⟨j1, j2, j3, j4, j5, j6⟩
    have hMi : mir σi 1 w := mir_eq hM (fun c q1 q2 => (j1 c 1 (by simp)).trans (es0 c 1 (by simp)))
    have hSi : mis σi 1 w := mis_eq hS (fun c q1 q2 => (j1 c 1 (by simp)).trans (es0 c 1 (by simp)))
    have wb := wk_b hw hn hq (by omega) j3
    have pb := pk_b hw hn hq (by omega) j3 j4
    -- the fork that i is under
    have hp : w 8 < i → (σi 35 0 (w_of w i 0) = 0 ∨ σi 35 0 (w_of w i 0) = 1) ∧ (σi 35 0 (w_of w i 0) = 1 → (0 ≤ σi 38 0 (w_of w i 0) ∧ σi 38 0 (w_of w i 0) ≤ 20) ∧ (0 ≤ σi 39 0 (w_of w i 0) ∧ σi 39 0 (w_of w i 0) ≤ 1)) := by
      intro c
      have hn8 := hn.1
      have u := wf_u hw (f := i) (by omega) i1
      have q := j2 (w_of w i 0) u.1 u.2.1
      exact ⟨q.2.1, q.2.2.2⟩
    obtain ⟨r1, σa, ⟨rfl, a1, a2, a3, a4, a5, a6⟩, ea⟩ := x_ex (h_enter hMi hSi hw hn i0 i1 hp)
    have hMa : mir σa 1 w := mir_eq hMi (fun c q1 q2 => a1 c 1 (by simp))
    have hSa : mis σa 1 w := mis_eq hSi (fun c q1 q2 => a1 c 1 (by simp))
    have hn8 := hn.1
    -- what comes to i has bounds
    have par : ∀ z : Int, ¬ i = w 8 → cC σa i = z → ¬ z = -1 → w 8 < i ∧ ¬ cV σi (w_of w i 0) = -1 ∧ 0 ≤ w_of w i 0 ∧ w_of w i 0 < i := by
      intro z c e ne
      rw [a4, if_neg c] at e
      by_cases c2 : w 8 < i
      · rw [if_pos c2] at e
        have u := wf_u hw (f := i) (by omega) i1
        exact ⟨c2, by rw [e]; exact ne, u.1, u.2.1⟩
      · rw [if_neg c2] at e
        exact absurd e.symm ne
    have cne : σa 34 0 i = 1 → ¬ cC σa i = -1 := by
      intro z
      have q := a5 z
      have e : cC σa i = 21 * σa 37 0 i + σa 36 0 i := if_pos z
      omega
    have hr : σa 34 0 i = 1 → (0 ≤ σa 36 0 i ∧ σa 36 0 i ≤ 20) ∧ (0 ≤ σa 37 0 i ∧ σa 37 0 i ≤ 1) ∧ (-1000000 ≤ σa 40 0 i ∧ σa 40 0 i ≤ 1000000) ∧ (-1000000 ≤ σa 41 0 i ∧ σa 41 0 i ≤ 1000000) := by
      intro z
      obtain ⟨q1, q2, q3, q4⟩ := a5 z
      refine ⟨q1, q2, ?_⟩
      by_cases c : i = w 8
      · rw [if_pos c] at q3 q4
        omega
      · rw [if_neg c] at q3 q4
        obtain ⟨p1, p2, p3, p4⟩ := par _ c rfl (cne z)
        have b1 := (wb _ p3 p4).2.2 p2
        have b2 := pb (w_of w i 0 + 1).toNat _ p3 (by omega) p4 p2
        have o := wf_f hw p3 (by omega)
        unfold wf_one at o
        omega
    obtain ⟨r2, σb, ⟨rfl, b1, b2, b3, b4, b5, b6⟩, eb⟩ := x_ex (h_leave hMa hSa hw hq i0 i1 a3 hr)
    have old : ∀ c g, ¬ g = i → σb c 0 g = σi c 0 g := fun c g hg => (b2 c g hg).trans (a2 c g hg)
    have cCi : cC σb i = cC σa i := by
      unfold cC
      rw [b1 34 0 (by decide), b1 36 0 (by decide), b1 37 0 (by decide)]
    have eo : ∀ f, 0 ≤ f → f < i → cC σb f = cC σi f ∧ cV σb f = cV σi f ∧ σb 40 0 f = σi 40 0 f ∧ σb 41 0 f = σi 41 0 f := fun f f0 f1 => ⟨cC_eq (fun c => old c f (by omega)), cV_eq (fun c => old c f (by omega)), old 40 f (by omega), old 41 f (by omega)⟩
    have cVne : ¬ cV σb i = -1 → σb 35 0 i = 1 := by
      intro hv
      rcases b3 with z | z
      · exact absurd (if_neg (by omega)) hv
      · exact z
    have comes : ¬ cV σb i = -1 → σa 34 0 i = 1 := by
      intro hv
      rcases a3 with z | z
      · rw [b4, if_pos (show cC σa i = -1 from if_neg (by omega))] at hv
        exact absurd rfl hv
      · exact z
    have kw : wk w (i + 1) (cC σb) (cV σb) (σb 40 0) := by
      refine wk_snoc hw hn8.1 i0 i1 j3 (fun f f0 f1 => ⟨(eo f f0 f1).1, (eo f f0 f1).2.1, (eo f f0 f1).2.2.1⟩) ?_ ?_ ?_
      · rw [cCi, a4]
        by_cases c : i = w 8
        · rw [if_pos c, if_pos c]
        · rw [if_neg c, if_neg c]
          by_cases c2 : w 8 < i
          · rw [if_pos c2]
            by_cases g : p_fr w (w 8) i
            · rw [if_pos g]
            · rw [if_neg g]
              have u := wf_u hw (f := i) (by omega) i1
              by_cases v : cV σi (w_of w i 0) = -1
              · exact v
              · have fr := ((wb _ u.1 u.2.1).2.2 v).1
                exact absurd ((fr_up hw hn8.1 c2 i1).mpr fr) g
          · rw [if_neg c2, if_neg (fr_lt (by omega))]
      · rw [cCi]
        exact b4
      · intro hv
        obtain ⟨_, _, q3, _⟩ := b5 (cVne hv)
        rw [q3, (a5 (comes hv)).2.2.1]
    have kp : pk w (i + 1) (cV σb) (σb 40 0) (σb 41 0) := by
      refine pk_snoc hw hn hq i0 i1 kw j4 (fun f f0 f1 => ⟨(eo f f0 f1).2.1, (eo f f0 f1).2.2.1, (eo f f0 f1).2.2.2⟩) ?_
      intro hv
      obtain ⟨_, _, _, q4⟩ := b5 (cVne hv)
      rw [q4, (a5 (comes hv)).2.2.2]
    have cel : ∀ f, 0 ≤ f → f < i + 1 → wcell σb f := by
      intro f f0 f1
      by_cases c : f = i
      · subst c
        have x34 : σb 34 0 f = σa 34 0 f := by rw [b1 34 0 (by decide)]
        have x36 : σb 36 0 f = σa 36 0 f := by rw [b1 36 0 (by decide)]
        have x37 : σb 37 0 f = σa 37 0 f := by rw [b1 37 0 (by decide)]
        unfold wcell
        rw [x34, x36, x37]
        exact ⟨a3, b3, fun z => ⟨(a5 z).1, (a5 z).2.1⟩, fun z => ⟨(b5 z).1, (b5 z).2.1⟩⟩
      · have q := j2 f f0 (by omega)
        unfold wcell at q ⊢
        rw [old 34 f c, old 35 f c, old 36 f c, old 37 f c, old 38 f c, old 39 f c]
        exact q
    have tot : ∀ f, 0 ≤ f → f < i + 1 → -1000000 ≤ σb 40 0 f ∧ σb 40 0 f ≤ 1000000 := by
      intro f f0 f1
      by_cases c : f = i
      · subst c
        rcases b3 with z | z
        · rw [b6 z]
          rcases a3 with y | y
          · rw [a6 y]
            omega
          · exact (hr y).2.2.1
        · have nv : ¬ cV σb f = -1 := by
            have q := b5 z
            have e : cV σb f = 21 * σb 39 0 f + σb 38 0 f := if_pos z
            omega
          have b := ((wk_b hw hn hq (by omega) kw f f0 f1).2.2 nv).2.2
          have o := wf_f hw f0 i1
          unfold wf_one at o
          omega
      · rw [old 40 f c]
        exact j6 f f0 (by omega)
    have e33 : σb 33 0 = σi 33 0 := (b1 33 0 (by decide)).trans (a1 33 0 (by decide))
    have j5' : stm i (cC σb) (cV σb) (σb 33 0 10) := by
      rw [e33]
      exact stm_cg (fun f f0 f1 => ⟨(eo f f0 f1).1, (eo f f0 f1).2.1⟩) j5
    have ej : x_eqo [(33, 0), (34, 0), (35, 0), (36, 0), (37, 0), (38, 0), (39, 0), (40, 0), (41, 0)] s0 σb := eqo_trans j1 (eqo_trans (eqo_mono (by simp) a1) (eqo_mono (by simp) b1))
    have y34 : σb 34 0 i = 0 ∨ σb 34 0 i = 1 := by rw [b1 34 0 (by decide)]; exact a3
    have sr : -1 ≤ σb 33 0 10 ∧ σb 33 0 10 < 40 := by
      rcases j5' with ⟨z, _⟩ | ⟨z, _⟩ <;> omega
    by_cases cs : (σb 34 0 i = 1 ∧ σb 35 0 i = 0) ∧ σb 33 0 10 = -1
    · refine ⟨x_st σb 33 0 10 i, ⟨eqo_st (by decide) ej, ?_, ?_, ?_, ?_, by (rw [x_st_o (by omega)]; exact tot)⟩, ?_⟩
      · intro f f0 f1
        have q := cel f f0 f1
        unfold wcell at q ⊢
        simp (disch := omega) only [x_st_o, x_rd_ne, x_rd_eq, s_fl_o, s_fl_in, s_fl_out, x_cp_o, x_cp_in, x_cp_out]
        exact q
      · have : cC (x_st σb 33 0 10 i) = cC σb ∧ cV (x_st σb 33 0 10 i) = cV σb := by
          refine ⟨?_, ?_⟩
          · funext f
            unfold cC
            simp (disch := omega) only [x_st_o, x_rd_ne, x_rd_eq, s_fl_o, s_fl_in, s_fl_out, x_cp_o, x_cp_in, x_cp_out]
          · funext f
            unfold cV
            simp (disch := omega) only [x_st_o, x_rd_ne, x_rd_eq, s_fl_o, s_fl_in, s_fl_out, x_cp_o, x_cp_in, x_cp_out]
        rw [this.1, this.2]
        simp (disch := omega) only [x_st_o, x_rd_ne, x_rd_eq, s_fl_o, s_fl_in, s_fl_out, x_cp_o, x_cp_in, x_cp_out]
        exact kw
      · have : cV (x_st σb 33 0 10 i) = cV σb := by
          funext f; unfold cV; simp (disch := omega) only [x_st_o, x_rd_ne, x_rd_eq, s_fl_o, s_fl_in, s_fl_out, x_cp_o, x_cp_in, x_cp_out]
        rw [this]
        simp (disch := omega) only [x_st_o, x_rd_ne, x_rd_eq, s_fl_o, s_fl_in, s_fl_out, x_cp_o, x_cp_in, x_cp_out]
        exact kp
      · have : cC (x_st σb 33 0 10 i) = cC σb ∧ cV (x_st σb 33 0 10 i) = cV σb := by
          refine ⟨?_, ?_⟩
          · funext f
            unfold cC
            simp (disch := omega) only [x_st_o, x_rd_ne, x_rd_eq, s_fl_o, s_fl_in, s_fl_out, x_cp_o, x_cp_in, x_cp_out]
          · funext f
            unfold cV
            simp (disch := omega) only [x_st_o, x_rd_ne, x_rd_eq, s_fl_o, s_fl_in, s_fl_out, x_cp_o, x_cp_in, x_cp_out]
        rw [this.1, this.2, x_rd_eq]
        refine stm_new i0 (by rw [cs.2] at j5'; exact j5') ⟨?_, if_neg (by omega)⟩
        rw [cCi]
        exact cne (by rw [← b1 34 0 (by decide)]; exact cs.1.1)
      · intro H
        rw [bk_77_1]
        simp (disch := first | omega | (simp only [x_wtI, x_wtJ, x_wtR, x_wtN]; omega) | assumption | (simp (disch := omega) only [x_st_o, x_rd_ne]; first | assumption | omega) | (apply mir_eq; assumption; (intro c h1 h2; simp (disch := omega) only [x_st_o])) | (apply mis_eq; assumption; (intro c h1 h2; simp (disch := omega) only [x_st_o])) | rfl) only [bk_77_0, bk_77_2, bk_77_3, wp_ald0, wp_ic, wp_puti kd_33, wk_78, wp_ist1, wp_fall, wp_ild1, wr_33_0, wr_20_0, wp_geti kd_6, wp_icge, wk_79, wk_81, wr_33_1, wl_34, wl_35, wp_sbal, wp_ifeq, wr_33_2, wp_ifne, wp_geti kd_33, wp_icne, wp_inc1, wp_goto, wp_ret, x_clr_I, x_clr_J, x_clr_R, x_clr_U, ct_some, ct_none, lc_lt, lc_ge, lc_gt, lc_le, lc_eq, lc_r, xI_inj, xJ_inj, Option.some.injEq, eq_self, bi_r, bi_0, bi_1, bi_n, Classical.not_not, and_true, true_and, ite_true, ite_false, ↓reduceIte, ↓x_andl, z_le, z_nle, z_lt, z_nlt, z_eq, z_neq, if_pos, if_neg, x_andl, false_and, and_false, or_true, true_or, or_false, false_or, not_true, not_false_iff, x_rd_eq, x_rd_ne, x_st_o, Int.cast_ofNat_Int, Int.ofNat_zero, Int.ofNat_one, not_true_eq_false, not_false_eq_true, if_true, if_false, ite_self, and_self, Int.ofNat_eq_natCast, Int.tdiv_eq_ediv_of_nonneg, Int.tmod_eq_emod_of_nonneg, x_bm32, mi_size hMi, ea, eb, cs.1.1, cs.1.2, cs.2]
        exact H
    · refine ⟨σb, ⟨ej, cel, kw, kp, stm_keep i0 j5' ?_, tot⟩, ?_⟩
      · by_cases c1 : σb 33 0 10 = -1
        · refine Or.inl ?_
          rintro ⟨z1, z2⟩
          have z3 : σb 34 0 i = 1 := by
            rcases y34 with q | q
            · exact absurd (if_neg (by omega)) z1
            · exact q
          have z4 : σb 35 0 i = 0 := by
            rcases b3 with q | q
            · exact q
            · have := b5 q
              have e : cV σb i = 21 * σb 39 0 i + σb 38 0 i := if_pos q
              omega
          exact cs ⟨⟨z3, z4⟩, c1⟩
        · exact Or.inr c1
      · intro H
        rw [bk_77_1]
        rcases y34 with q | q
        · simp (disch := first | omega | (simp only [x_wtI, x_wtJ, x_wtR, x_wtN]; omega) | assumption | (simp (disch := omega) only [x_st_o, x_rd_ne]; first | assumption | omega) | (apply mir_eq; assumption; (intro c h1 h2; simp (disch := omega) only [x_st_o])) | (apply mis_eq; assumption; (intro c h1 h2; simp (disch := omega) only [x_st_o])) | rfl) only [bk_77_0, bk_77_2, bk_77_3, wp_ald0, wp_ic, wp_puti kd_33, wk_78, wp_ist1, wp_fall, wp_ild1, wr_33_0, wr_20_0, wp_geti kd_6, wp_icge, wk_79, wk_81, wr_33_1, wl_34, wl_35, wp_sbal, wp_ifeq, wr_33_2, wp_ifne, wp_geti kd_33, wp_icne, wp_inc1, wp_goto, wp_ret, x_clr_I, x_clr_J, x_clr_R, x_clr_U, ct_some, ct_none, lc_lt, lc_ge, lc_gt, lc_le, lc_eq, lc_r, xI_inj, xJ_inj, Option.some.injEq, eq_self, bi_r, bi_0, bi_1, bi_n, Classical.not_not, and_true, true_and, ite_true, ite_false, ↓reduceIte, ↓x_andl, z_le, z_nle, z_lt, z_nlt, z_eq, z_neq, if_pos, if_neg, x_andl, false_and, and_false, or_true, true_or, or_false, false_or, not_true, not_false_iff, x_rd_eq, x_rd_ne, x_st_o, Int.cast_ofNat_Int, Int.ofNat_zero, Int.ofNat_one, not_true_eq_false, not_false_eq_true, if_true, if_false, ite_self, and_self, Int.ofNat_eq_natCast, Int.tdiv_eq_ediv_of_nonneg, Int.tmod_eq_emod_of_nonneg, x_bm32, mi_size hMi, ea, eb, q]
          exact H
        · rcases b3 with q2 | q2
          · have q3 : ¬ σb 33 0 10 = -1 := fun z => cs ⟨⟨q, q2⟩, z⟩
            simp (disch := first | omega | (simp only [x_wtI, x_wtJ, x_wtR, x_wtN]; omega) | assumption | (simp (disch := omega) only [x_st_o, x_rd_ne]; first | assumption | omega) | (apply mir_eq; assumption; (intro c h1 h2; simp (disch := omega) only [x_st_o])) | (apply mis_eq; assumption; (intro c h1 h2; simp (disch := omega) only [x_st_o])) | rfl) only [bk_77_0, bk_77_2, bk_77_3, wp_ald0, wp_ic, wp_puti kd_33, wk_78, wp_ist1, wp_fall, wp_ild1, wr_33_0, wr_20_0, wp_geti kd_6, wp_icge, wk_79, wk_81, wr_33_1, wl_34, wl_35, wp_sbal, wp_ifeq, wr_33_2, wp_ifne, wp_geti kd_33, wp_icne, wp_inc1, wp_goto, wp_ret, x_clr_I, x_clr_J, x_clr_R, x_clr_U, ct_some, ct_none, lc_lt, lc_ge, lc_gt, lc_le, lc_eq, lc_r, xI_inj, xJ_inj, Option.some.injEq, eq_self, bi_r, bi_0, bi_1, bi_n, Classical.not_not, and_true, true_and, ite_true, ite_false, ↓reduceIte, ↓x_andl, z_le, z_nle, z_lt, z_nlt, z_eq, z_neq, if_pos, if_neg, x_andl, false_and, and_false, or_true, true_or, or_false, false_or, not_true, not_false_iff, x_rd_eq, x_rd_ne, x_st_o, Int.cast_ofNat_Int, Int.ofNat_zero, Int.ofNat_one, not_true_eq_false, not_false_eq_true, if_true, if_false, ite_self, and_self, Int.ofNat_eq_natCast, Int.tdiv_eq_ediv_of_nonneg, Int.tmod_eq_emod_of_nonneg, x_bm32, mi_size hMi, ea, eb, q, q2]
            exact H
          · simp (disch := first | omega | (simp only [x_wtI, x_wtJ, x_wtR, x_wtN]; omega) | assumption | (simp (disch := omega) only [x_st_o, x_rd_ne]; first | assumption | omega) | (apply mir_eq; assumption; (intro c h1 h2; simp (disch := omega) only [x_st_o])) | (apply mis_eq; assumption; (intro c h1 h2; simp (disch := omega) only [x_st_o])) | rfl) only [bk_77_0, bk_77_2, bk_77_3, wp_ald0, wp_ic, wp_puti kd_33, wk_78, wp_ist1, wp_fall, wp_ild1, wr_33_0, wr_20_0, wp_geti kd_6, wp_icge, wk_79, wk_81, wr_33_1, wl_34, wl_35, wp_sbal, wp_ifeq, wr_33_2, wp_ifne, wp_geti kd_33, wp_icne, wp_inc1, wp_goto, wp_ret, x_clr_I, x_clr_J, x_clr_R, x_clr_U, ct_some, ct_none, lc_lt, lc_ge, lc_gt, lc_le, lc_eq, lc_r, xI_inj, xJ_inj, Option.some.injEq, eq_self, bi_r, bi_0, bi_1, bi_n, Classical.not_not, and_true, true_and, ite_true, ite_false, ↓reduceIte, ↓x_andl, z_le, z_nle, z_lt, z_nlt, z_eq, z_neq, if_pos, if_neg, x_andl, false_and, and_false, or_true, true_or, or_false, false_or, not_true, not_false_iff, x_rd_eq, x_rd_ne, x_st_o, Int.cast_ofNat_Int, Int.ofNat_zero, Int.ofNat_one, not_true_eq_false, not_false_eq_true, if_true, if_false, ite_self, and_self, Int.ofNat_eq_natCast, Int.tdiv_eq_ediv_of_nonneg, Int.tmod_eq_emod_of_nonneg, x_bm32, mi_size hMi, ea, eb, q, q2]
            exact H
  · intro σi ⟨j1, j2, j3, j4, j5, j6⟩
    have hMi : mir σi 1 w := mir_eq hM (fun c q1 q2 => (j1 c 1 (by simp)).trans (es0 c 1 (by simp)))
    rw [bk_77_1]
    simp (disch := first | omega | (simp only [x_wtI, x_wtJ, x_wtR, x_wtN]; omega) | assumption | (simp (disch := omega) only [x_st_o, x_rd_ne]; first | assumption | omega) | (apply mir_eq; assumption; (intro c h1 h2; simp (disch := omega) only [x_st_o])) | (apply mis_eq; assumption; (intro c h1 h2; simp (disch := omega) only [x_st_o])) | rfl) only [bk_77_0, bk_77_2, bk_77_3, wp_ald0, wp_ic, wp_puti kd_33, wk_78, wp_ist1, wp_fall, wp_ild1, wr_33_0, wr_20_0, wp_geti kd_6, wp_icge, wk_79, wk_81, wr_33_1, wl_34, wl_35, wp_sbal, wp_ifeq, wr_33_2, wp_ifne, wp_geti kd_33, wp_icne, wp_inc1, wp_goto, wp_ret, x_clr_I, x_clr_J, x_clr_R, x_clr_U, ct_some, ct_none, lc_lt, lc_ge, lc_gt, lc_le, lc_eq, lc_r, xI_inj, xJ_inj, Option.some.injEq, eq_self, bi_r, bi_0, bi_1, bi_n, Classical.not_not, and_true, true_and, ite_true, ite_false, ↓reduceIte, ↓x_andl, z_le, z_nle, z_lt, z_nlt, z_eq, z_neq, if_pos, if_neg, x_andl, false_and, and_false, or_true, true_or, or_false, false_or, not_true, not_false_iff, x_rd_eq, x_rd_ne, x_st_o, Int.cast_ofNat_Int, Int.ofNat_zero, Int.ofNat_one, not_true_eq_false, not_false_eq_true, if_true, if_false, ite_self, and_self, Int.ofNat_eq_natCast, Int.tdiv_eq_ediv_of_nonneg, Int.tmod_eq_emod_of_nonneg, x_bm32, mi_size hMi]
    refine hQ _ _ ⟨rfl, eqo_trans (eqo_mono (by simp) es0) (eqo_mono (by simp) j1), j2, j3, j4, j5, ?_, j6⟩
    intro f f0 f1
    rw [j1 42 0 (by decide)]
    exact p0 f f0 f1

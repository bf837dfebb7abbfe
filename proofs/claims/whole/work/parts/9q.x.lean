def tkM (σ5 σ2 : x_S) (w : Int → Int) (f : Int) (σ : x_S) : Prop := x_eqo [(50, 0), (51, 0), (62, 0), (63, 0)] σ5 σ ∧ (∀ k, ¬ (k = 23 ∨ k = 24) → σ 50 0 k = σ5 50 0 k) ∧ (∀ i, i < 536 → σ 51 0 i = w i) ∧ (∀ g, 0 ≤ g → g < w 0 → (g < f → σ 51 0 (536 + 2 * g) = σ2 21 1 g ∧ σ 51 0 (536 + 2 * g + 1) = σ2 22 1 g) ∧ (f ≤ g → σ 51 0 (536 + 2 * g) = w (536 + 2 * g) ∧ σ 51 0 (536 + 2 * g + 1) = w (536 + 2 * g + 1))) ∧ ∀ g, w 8 ≤ g → g < f → p_fr w (w 8) g → σ 63 0 g = 21 * σ2 39 0 g + σ2 38 0 g
theorem tk_rc {σ1 σ2 : x_S} {c : Int} {w L2 T2 L' Ym : Int → Int} {j : Nat} (hw : wf w) (hn : wn w) (tk : tkI σ1 c w L2 T2 j (w 0) σ2) (hM : mwy w Ym L') : ∀ f, w 8 ≤ f → f < w 0 → p_fr w (w 8) f → ¬ Ym (42 * f + (21 * σ2 37 0 f + σ2 36 0 f)) = (-9223372036854775808) := by
  have n8 := hn.1
  have key : ∀ n : Nat, ∀ f : Int, f < n → w 8 ≤ f → f < w 0 → p_fr w (w 8) f → ¬ Ym (42 * f + (21 * σ2 37 0 f + σ2 36 0 f)) = (-9223372036854775808) := by
    intro n
    induction n with
    | zero => intro f p q; omega
    | succ n ih =>
      intro f fn f0 f1 fr
      have t := tk.2.2.1 f f0 f1 fr
      by_cases z : f = w 8
      · obtain ⟨a, b⟩ := t.2.2.2.1.1 z
        rw [a, b, z]
        exact rc_now hn hM
      · obtain ⟨a, b⟩ := t.2.2.2.1.2 z
        have u := fr_par hw n8.1 fr z f1
        have tu := tk.2.2.1 _ u.2.2.2 (by omega) u.1
        have q := tkC_q hw u.2.1 (by omega) tu
        obtain ⟨i, i0, i1, i2⟩ := wf_p hw (f := f) (by omega) f1
        have y := ym_kid hw hn hM u.2.2.2 (by omega) u.1 tu.2.1 tu.2.2.1 (ih _ (by omega) u.2.2.2 (by omega) u.1) q.2.2.2 i0 i1
        rw [i2] at y
        rw [a, b, tu.2.2.2.2.2.2.1]
        exact y
  exact fun f => key (f + 1).toNat f (by omega)
section OTM
variable {L : Int} {S0 : Int → Int}
set_option maxHeartbeats 8000000 in
theorem h_takeM {σ1 σ2 σ5 : x_S} {w L2 T2 : Int → Int} {j : Nat} {c : Int} {Q : Option x_V → x_S → Prop} (hw : wf w) (hn : wn w) (hq : wq w) (hc : 0 ≤ c ∧ c ≤ 2) (ct : cT c w T2 L2) (tk : tkI σ1 c w L2 T2 j (w 0) σ2) (h51 : σ5 51 0 = w) (hE : σ5 50 0 17 = 5) (hWd : σ5 50 0 18 = 4) (g5 : gT c 5 4 (-1) w (σ5 60 0) (σ5 59 0) (w 8)) (m5 : c = 2 → mwy w (σ5 61 0) (σ5 60 0))
    (hQ : ∀ σ, tkM σ5 σ2 w (w 0) σ → Q (some (xI (tkc w (σ2 21 1) (σ2 22 1) (w 0).toNat))) σ) : x_Wp 999 229 (x_blk 229 3) [xR 50 0, xI c, xI 0, xI (w 8)] [] σ5 Q := by
  have a := wf_h hw
  unfold wf_hdr at a
  obtain ⟨n8, n9, n10, _⟩ := id hn
  have nf : ∀ g, g < w 8 → ¬ p_fr w (w 8) g := fun g q => fr_lt q
  have c0 : tkc w (σ2 21 1) (σ2 22 1) (w 8).toNat = 0 := tkc_0 _ (fun g g0 g1 => tk.2.2.2 g g0 (by omega) (fun z => nf g (by omega) z.1))
  have start : tkM σ5 σ2 w (w 8) σ5 := by
    refine ⟨eqo_refl, fun _ _ => rfl, fun i _ => by rw [h51], fun g g0 g1 => ⟨fun z => ?_, fun _ => by rw [h51]; exact ⟨rfl, rfl⟩⟩, fun g p q _ => by omega⟩
    obtain ⟨p, q⟩ := tk.2.2.2 g g0 g1 (fun y => nf g z y.1)
    rw [h51, p, q]
    exact ⟨rfl, rfl⟩
  rw [← c0]
  refine x_lpK (α := x_S) (fun f σ => tkM σ5 σ2 w f σ) (fun f σ => x_Wp 999 229 (x_blk 229 3) [xR 50 0, xI c, xI (tkc w (σ2 21 1) (σ2 22 1) f.toNat), xI f] [] σ Q) (lo := w 8) (hi := w 0) (by omega) (a0 := σ5) start ?_ ?_
  · intro f σ f0 f1 hJ K
    obtain ⟨je, jk, jl, jp, jv⟩ := id hJ
    have o := wf_f hw (f := f) (by omega) f1
    unfold wf_one at o
    have t0 : tq w (σ 51 0) := wpl_tq jl
    have hw0 := tq_wf t0 hw
    have hn0 := wpl_n hw hn jl
    have e8 := jl 8 (by omega)
    have e00 := jl 0 (by omega)
    have e9 := jl 9 (by omega)
    have e10 := jl 10 (by omega)
    obtain ⟨W, hW⟩ : ∃ W, σ 51 0 = W := ⟨_, rfl⟩
    rw [hW] at t0 hw0 hn0 e8 e00 e9 e10
    have cb := tkc_b (w := w) (X := σ2 21 1) (B := σ2 22 1) f.toNat
    have frW : p_fr W (W 8) f ↔ p_fr w (w 8) f := by rw [e8]; exact tq_fr t0 hw n8.1 (by omega) f1
    have h1W : f < W 0 := by rw [e00]; exact f1
    have n8W := hn0.1
    by_cases fr : p_fr w (w 8) f
    · have t := tk.2.2.1 f f0 f1 fr
      have tq2 := tkC_q hw (by omega) f1 t
      have frW2 := frW.mpr fr
      rw [e8] at frW2
      obtain ⟨st, hst⟩ : ∃ st, st = σ2 36 0 f := ⟨_, rfl⟩
      obtain ⟨wd, hwd⟩ : ∃ wd, wd = σ2 37 0 f := ⟨_, rfl⟩
      obtain ⟨X, hX⟩ : ∃ X, X = σ2 21 1 f := ⟨_, rfl⟩
      obtain ⟨B, hB⟩ : ∃ B, B = σ2 22 1 f := ⟨_, rfl⟩
      obtain ⟨D, hD⟩ : ∃ D, D = σ2 38 0 f := ⟨_, rfl⟩
      have rc := fun c2 => tk_rc hw hn tk (m5 c2) f f0 f1 fr
      obtain ⟨_, ts, tw, tc, ⟨u, hu⟩, tx, t39, _⟩ := t
      rw [← hst] at ts tx hu tc
      rw [← hst, ← hwd] at rc
      rw [← hwd] at tw hu tc t39
      rw [← hB] at hu t39
      rw [← hD] at hu tx
      rw [← hX] at tx
      rw [← hX, ← hB, ← hD, ← hst, ← hwd] at tq2
      have po := p_or_01 (a := wd) (b := B)
      -- the state to which the model comes
      have cm : (f = w 8 → 21 * w 10 + w 9 = 21 * wd + st) ∧ (¬ f = w 8 → σ 63 0 (w_of w f 0) = 21 * wd + st ∧ 0 ≤ w_of w f 0) := by
        refine ⟨fun z => ?_, fun z => ?_⟩
        · have := tc.1 z
          omega
        · have u := fr_par hw n8.1 fr z f1
          rw [jv _ u.2.2.2 u.2.2.1 u.1]
          have := tc.2 z
          exact ⟨by omega, u.2.1⟩
      have gv := gT_val (f := f) (st := st) (wd := wd) hw hn hc g5 m5 f0 f1 fr ts tw rc
      have fl : fL (zst (-9223372036854775808) c 5 4 w (σ5 60 0) (σ5 59 0) f st wd) B D u := fL_cg hu (fun b t u => zst_now hw hn hc g5 m5 ct f0 f1 fr ts tw rc b t u)
      have ev : σ5 59 0 (42 * f + (21 * wd + st)) = u := ml_uniq gv.1 (fL_ml fl)
      have gb := gv.2 _ _ _ fl.1
      have flW : fL (zst (-9223372036854775808) c 5 4 W (σ5 60 0) (σ5 59 0) f st wd) B D u := fL_cg fl (fun b t u => tq_zst t0 hw (by omega) f1 _ _ _ _ _ _ _ _ _ _ _)
      generalize hσa : x_st σ 62 0 f (21 * wd + st) = σa
      have ea : x_eqo [(62, 0)] σ σa := by
        subst hσa
        exact eqo_st (by simp) eqo_refl
      have a62 : σa 62 0 f = 21 * wd + st := by
        subst hσa
        simp (disch := omega) only [x_st_o, x_rd_ne, x_rd_eq, s_fl_o, s_fl_in, s_fl_out, x_cp_o, x_cp_in, x_cp_out]
      have a51 : σa 51 0 = W := (ea 51 0 (by simp)).trans hW
      have a59 : σa 59 0 = σ5 59 0 := by rw [ea 59 0 (by simp), je 59 0 (by simp)]
      have a60 : σa 60 0 = σ5 60 0 := by rw [ea 60 0 (by simp), je 60 0 (by simp)]
      have hTk : ∀ q, 0 ≤ q → q < w_of W f 7 → t_bd (-9223372036854775808) W (σ5 59 0) (w_of W f (8 + q)) := by
        intro q q0 q1
        rw [tq_of t0 (by omega) (by omega) (by omega) (by omega)] at q1
        have kk := wf_k hw (f := f) (i := q) (by omega) f1 q0 q1
        have tb := (g5 _ (by omega) kk.2.1).1
        rw [tq_kid t0 hw (by omega) f1 q0 q1]
        intro s s0 s1
        rw [tq_of t0 (by omega) (by omega) (by omega) (by omega)]
        exact tb s s0 s1
      obtain ⟨r, σb, ⟨hr, kb, x5, b5⟩, evb⟩ := x_ex (h_findStep (σ := σa) (w := W) (T := σ5 59 0) (L := σ5 60 0) (c := c) (E := 5) (Wd := 4) (f := f) (st := st) (wd := wd) (v := u) a51 (by rw [ea 50 0 (by simp), jk 17 (by omega)]; exact hE) (by rw [ea 50 0 (by simp), jk 18 (by omega)]; exact hWd) a59 a60 hw0 (by omega) h1W (by omega) (by omega) (by omega) ts tw hTk (fun c2 pe => gb.1 c2 (by
        unfold p_end at pe ⊢
        rw [tq_of t0 (by omega) (by omega) (by omega) (by omega), tq_of t0 (by omega) (by omega) (by omega) (by omega)] at pe
        exact pe)) gb.2 flW)
      subst hr
      rw [tq_of t0 (by omega) (by omega) (by omega) (by omega), ← tx] at x5
      have b51 : σb 51 0 = W := by rw [kb.1 51 0 (by simp)]; exact a51
      have b62 : σb 62 0 f = 21 * wd + st := by rw [kb.1 62 0 (by simp)]; exact a62
      have bX : W (536 + 2 * f) = w (536 + 2 * f) := by rw [← hW]; exact ((jp f (by omega) f1).2 (Int.le_refl _)).1
      have bB : W (536 + 2 * f + 1) = w (536 + 2 * f + 1) := by rw [← hW]; exact ((jp f (by omega) f1).2 (Int.le_refl _)).2
      have qf := hq f (by omega) f1
      generalize hPx : w (536 + 2 * f) = px at bX qf
      generalize hPb : w (536 + 2 * f + 1) = pb at bB qf
      -- the step is written
      generalize hσd : x_st (x_st σb 51 0 (536 + 2 * f) X) 51 0 (536 + 2 * f + 1) B = σd
      have ed : x_eqo [(51, 0)] σb σd := by
        subst hσd
        exact eqo_st (by simp) (eqo_st (by simp) eqo_refl)
      have dl : ∀ i, ¬ (i = 536 + 2 * f ∨ i = 536 + 2 * f + 1) → σd 51 0 i = W i := by
        intro i hi
        subst hσd
        rw [x_rd_ne (by omega), x_rd_ne (by omega), b51]
      have dX : σd 51 0 (536 + 2 * f) = X ∧ σd 51 0 (536 + 2 * f + 1) = B := by
        subst hσd
        refine ⟨?_, ?_⟩
        · rw [x_rd_ne (by omega), x_rd_eq]
        · rw [x_rd_eq]
      have dlw : ∀ i, i < 536 → σd 51 0 i = w i := by
        intro i hi
        rw [dl i (by omega), ← hW]
        exact jl i hi
      obtain ⟨W2, hW2⟩ : ∃ W2, σd 51 0 = W2 := ⟨_, rfl⟩
      have t2 : tq w W2 := by rw [← hW2]; exact wpl_tq dlw
      have hwd2 := tq_wf t2 hw
      have f1d : f < W2 0 := by rw [← hW2, dlw 0 (by omega)]; exact f1
      have d62 : σd 62 0 f = 21 * wd + st := by rw [ed 62 0 (by simp)]; exact b62
      have d23 : σd 50 0 23 = X := by rw [ed 50 0 (by simp)]; exact x5
      have d24 : σd 50 0 24 = B := by rw [ed 50 0 (by simp)]; exact b5
      have law := (sl_iff (x := X) hw (by omega) f1 ts tw tq2.2.1).mp (by rw [tx, show st + (D + w_of w f 5 - st) - w_of w f 5 = D by omega]; exact tq2.2.2.2)
      have beh : p_beh W2 f (21 * wd + st) X B = 21 * p_or wd B + D := by
        rw [tq_beh t2 (by omega) (by omega)]
        unfold p_beh
        rw [show (21 * wd + st) % 21 = st by omega, show (21 * wd + st) / 21 = wd by omega, if_pos ⟨tq2.2.1, law.1⟩]
        omega
      have kbh := fun (d' : Nat) (Q' : Option x_V → x_S → Prop) => k_behind (σ := σd) (w := W2) (f := f) (s := 21 * wd + st) (x := X) (b := B) (d := d') (Q := Q') hW2 hwd2 (by omega) f1d (by omega) (by omega) tq2.2.1
      rw [beh] at kbh
      have goal : tkM σ5 σ2 w (f + 1) (x_st σd 63 0 f (21 * p_or wd B + D)) := by
        refine ⟨eqo_st (by simp) (eqo_trans je (eqo_trans (eqo_mono (by simp) ea) (eqo_trans (eqo_mono (by simp) kb.1) (eqo_mono (by simp) ed)))), fun k hk => ?_, fun i hi => ?_, fun g g0 g1 => ?_, fun g g0 g1 gf => ?_⟩
        · rw [x_st_o (by omega), ed 50 0 (by simp), kb.2 k hk, ea 50 0 (by simp)]
          exact jk k hk
        · rw [x_st_o (by omega)]
          exact dlw i hi
        · rw [x_st_o (by omega)]
          by_cases z : g = f
          · subst z
            refine ⟨fun _ => ?_, fun y => by omega⟩
            rw [← hX, ← hB]
            exact dX
          · rw [dl _ (by omega), dl _ (by omega), ← hW]
            exact ⟨fun y => (jp g g0 g1).1 (by omega), fun y => (jp g g0 g1).2 (by omega)⟩
        · by_cases z : g = f
          · subst z
            rw [x_rd_eq, ← hD, t39]
          · rw [x_rd_ne (by omega), ed 63 0 (by simp), kb.1 63 0 (by simp), ea 63 0 (by simp)]
            exact jv g g0 (by omega) gf
      have K2 := K _ goal
      rw [tkc_s (by omega), ← hX, ← hB, hPx, hPb] at K2
      generalize tkc w (σ2 21 1) (σ2 22 1) f.toNat = n at K2 cb
      have hx0 : 0 ≤ 42 * f + (21 * wd + st) ∧ 42 * f + (21 * wd + st) < 1680 := by omega
      have v59 : σa 59 0 (42 * f + (21 * wd + st)) = u := by rw [a59]; exact ev
      have fin : x_Wp 999 229 (x_blk 229 6) [xR 50 0, xI c, xI n, xI f] [xI (21 * wd + st), xI f, xR 62 0] σ Q := by
        rw [bk_229_6]
        simp (disch := first | omega | (simp only [x_wtI, x_wtJ, x_wtR, x_wtN]; omega) | assumption | (simp (disch := omega) only [x_st_o, x_rd_ne]; first | assumption | omega) | (apply mir_eq; assumption; (intro c h1 h2; simp (disch := omega) only [x_st_o])) | (apply mis_eq; assumption; (intro c h1 h2; simp (disch := omega) only [x_st_o])) | rfl) only [bk_229_0, bk_229_1, bk_229_2, bk_229_4, bk_229_5, bk_229_6, bk_229_7, bk_229_8, bk_229_9, bk_229_10, wp_ild1, wk_194, wp_ifne, wp_ic, wp_iret mz_229, wp_ald0, wk_195, wp_lc, wp_lcmp, wp_ist2, wr_50_1, wl_51, wl_62, wl_63, wp_cald, wp_ist3, wp_fall, wp_ild3, wp_icge, wk_199, wp_goto, wr_50_25, wp_icne, wk_197, wr_50_26, wk_192, ws_51, ws_62, ws_63, wr_50_20, wp_imul, wp_iadd, wl_59, wp_pald, wk_209, wp_ild2, wk_220, wp_geti kd_50, wk_221, wk_201, wp_inc3, x_clr_I, x_clr_J, x_clr_R, x_clr_U, ct_some, ct_none, lc_lt, lc_ge, lc_gt, lc_le, lc_eq, lc_r, xI_inj, xJ_inj, Option.some.injEq, eq_self, bi_r, bi_0, bi_1, bi_n, Classical.not_not, and_true, true_and, ite_true, ite_false, ↓reduceIte, ↓x_andl, z_le, z_nle, z_lt, z_nlt, z_eq, z_neq, if_pos, if_neg, x_andl, false_and, and_false, or_true, true_or, or_false, false_or, not_true, not_false_iff, x_rd_eq, x_rd_ne, x_st_o, Int.cast_ofNat_Int, Int.ofNat_zero, Int.ofNat_one, not_true_eq_false, not_false_eq_true, if_true, if_false, ite_self, and_self, Int.ofNat_eq_natCast, Int.tdiv_eq_ediv_of_nonneg, Int.tmod_eq_emod_of_nonneg, x_bm32, hσa, a62, v59]
        refine (evb 992 _).mpr ?_
        by_cases cx : px = X
        · by_cases cb0 : pb = B
          · rw [if_pos ⟨cx, cb0⟩] at K2
            simp (disch := first | omega | (simp only [x_wtI, x_wtJ, x_wtR, x_wtN]; omega) | assumption | (simp (disch := omega) only [x_st_o, x_rd_ne]; first | assumption | omega) | (apply mir_eq; assumption; (intro c h1 h2; simp (disch := omega) only [x_st_o])) | (apply mis_eq; assumption; (intro c h1 h2; simp (disch := omega) only [x_st_o])) | rfl) only [bk_229_0, bk_229_1, bk_229_2, bk_229_4, bk_229_5, bk_229_6, bk_229_7, bk_229_8, bk_229_9, bk_229_10, wp_ild1, wk_194, wp_ifne, wp_ic, wp_iret mz_229, wp_ald0, wk_195, wp_lc, wp_lcmp, wp_ist2, wr_50_1, wl_51, wl_62, wl_63, wp_cald, wp_ist3, wp_fall, wp_ild3, wp_icge, wk_199, wp_goto, wr_50_25, wp_icne, wk_197, wr_50_26, wk_192, ws_51, ws_62, ws_63, wr_50_20, wp_imul, wp_iadd, wl_59, wp_pald, wk_209, wp_ild2, wk_220, wp_geti kd_50, wk_221, wk_201, wp_inc3, x_clr_I, x_clr_J, x_clr_R, x_clr_U, ct_some, ct_none, lc_lt, lc_ge, lc_gt, lc_le, lc_eq, lc_r, xI_inj, xJ_inj, Option.some.injEq, eq_self, bi_r, bi_0, bi_1, bi_n, Classical.not_not, and_true, true_and, ite_true, ite_false, ↓reduceIte, ↓x_andl, z_le, z_nle, z_lt, z_nlt, z_eq, z_neq, if_pos, if_neg, x_andl, false_and, and_false, or_true, true_or, or_false, false_or, not_true, not_false_iff, x_rd_eq, x_rd_ne, x_st_o, Int.cast_ofNat_Int, Int.ofNat_zero, Int.ofNat_one, not_true_eq_false, not_false_eq_true, if_true, if_false, ite_self, and_self, Int.ofNat_eq_natCast, Int.tdiv_eq_ediv_of_nonneg, Int.tmod_eq_emod_of_nonneg, x_bm32, k_planX b51, k_planB b51, bX, bB, x5, b5, cx, cb0, hσd, d62, d23, d24, kbh]
            exact K2
          · rw [if_neg (fun z => cb0 z.2)] at K2
            simp (disch := first | omega | (simp only [x_wtI, x_wtJ, x_wtR, x_wtN]; omega) | assumption | (simp (disch := omega) only [x_st_o, x_rd_ne]; first | assumption | omega) | (apply mir_eq; assumption; (intro c h1 h2; simp (disch := omega) only [x_st_o])) | (apply mis_eq; assumption; (intro c h1 h2; simp (disch := omega) only [x_st_o])) | rfl) only [bk_229_0, bk_229_1, bk_229_2, bk_229_4, bk_229_5, bk_229_6, bk_229_7, bk_229_8, bk_229_9, bk_229_10, wp_ild1, wk_194, wp_ifne, wp_ic, wp_iret mz_229, wp_ald0, wk_195, wp_lc, wp_lcmp, wp_ist2, wr_50_1, wl_51, wl_62, wl_63, wp_cald, wp_ist3, wp_fall, wp_ild3, wp_icge, wk_199, wp_goto, wr_50_25, wp_icne, wk_197, wr_50_26, wk_192, ws_51, ws_62, ws_63, wr_50_20, wp_imul, wp_iadd, wl_59, wp_pald, wk_209, wp_ild2, wk_220, wp_geti kd_50, wk_221, wk_201, wp_inc3, x_clr_I, x_clr_J, x_clr_R, x_clr_U, ct_some, ct_none, lc_lt, lc_ge, lc_gt, lc_le, lc_eq, lc_r, xI_inj, xJ_inj, Option.some.injEq, eq_self, bi_r, bi_0, bi_1, bi_n, Classical.not_not, and_true, true_and, ite_true, ite_false, ↓reduceIte, ↓x_andl, z_le, z_nle, z_lt, z_nlt, z_eq, z_neq, if_pos, if_neg, x_andl, false_and, and_false, or_true, true_or, or_false, false_or, not_true, not_false_iff, x_rd_eq, x_rd_ne, x_st_o, Int.cast_ofNat_Int, Int.ofNat_zero, Int.ofNat_one, not_true_eq_false, not_false_eq_true, if_true, if_false, ite_self, and_self, Int.ofNat_eq_natCast, Int.tdiv_eq_ediv_of_nonneg, Int.tmod_eq_emod_of_nonneg, x_bm32, k_planX b51, k_planB b51, bX, bB, x5, b5, cx, hσd, d62, d23, d24, kbh]
            exact K2
        · rw [if_neg (fun z => cx z.1)] at K2
          simp (disch := first | omega | (simp only [x_wtI, x_wtJ, x_wtR, x_wtN]; omega) | assumption | (simp (disch := omega) only [x_st_o, x_rd_ne]; first | assumption | omega) | (apply mir_eq; assumption; (intro c h1 h2; simp (disch := omega) only [x_st_o])) | (apply mis_eq; assumption; (intro c h1 h2; simp (disch := omega) only [x_st_o])) | rfl) only [bk_229_0, bk_229_1, bk_229_2, bk_229_4, bk_229_5, bk_229_6, bk_229_7, bk_229_8, bk_229_9, bk_229_10, wp_ild1, wk_194, wp_ifne, wp_ic, wp_iret mz_229, wp_ald0, wk_195, wp_lc, wp_lcmp, wp_ist2, wr_50_1, wl_51, wl_62, wl_63, wp_cald, wp_ist3, wp_fall, wp_ild3, wp_icge, wk_199, wp_goto, wr_50_25, wp_icne, wk_197, wr_50_26, wk_192, ws_51, ws_62, ws_63, wr_50_20, wp_imul, wp_iadd, wl_59, wp_pald, wk_209, wp_ild2, wk_220, wp_geti kd_50, wk_221, wk_201, wp_inc3, x_clr_I, x_clr_J, x_clr_R, x_clr_U, ct_some, ct_none, lc_lt, lc_ge, lc_gt, lc_le, lc_eq, lc_r, xI_inj, xJ_inj, Option.some.injEq, eq_self, bi_r, bi_0, bi_1, bi_n, Classical.not_not, and_true, true_and, ite_true, ite_false, ↓reduceIte, ↓x_andl, z_le, z_nle, z_lt, z_nlt, z_eq, z_neq, if_pos, if_neg, x_andl, false_and, and_false, or_true, true_or, or_false, false_or, not_true, not_false_iff, x_rd_eq, x_rd_ne, x_st_o, Int.cast_ofNat_Int, Int.ofNat_zero, Int.ofNat_one, not_true_eq_false, not_false_eq_true, if_true, if_false, ite_self, and_self, Int.ofNat_eq_natCast, Int.tdiv_eq_ediv_of_nonneg, Int.tmod_eq_emod_of_nonneg, x_bm32, k_planX b51, k_planB b51, bX, bB, x5, b5, hσd, d62, d23, d24, kbh]
          exact K2
      rw [bk_229_3]
      by_cases z : f = w 8
      · have zz := cm.1 z
        have kst := fun (Q' : Option x_V → x_S → Prop) => k_stateNow (σ := σ) (w := W) (d := 997) (Q := Q') hW
        rw [e10, e9, zz] at kst
        simp (disch := first | omega | (simp only [x_wtI, x_wtJ, x_wtR, x_wtN]; omega) | assumption | (simp (disch := omega) only [x_st_o, x_rd_ne]; first | assumption | omega) | (apply mir_eq; assumption; (intro c h1 h2; simp (disch := omega) only [x_st_o])) | (apply mis_eq; assumption; (intro c h1 h2; simp (disch := omega) only [x_st_o])) | rfl) only [bk_229_0, bk_229_1, bk_229_2, bk_229_4, bk_229_5, bk_229_7, bk_229_8, bk_229_9, bk_229_10, wp_ild1, wk_194, wp_ifne, wp_ic, wp_iret mz_229, wp_ald0, wk_195, wp_lc, wp_lcmp, wp_ist2, wr_50_1, wl_51, wl_62, wl_63, wp_cald, wp_ist3, wp_fall, wp_ild3, wp_icge, wk_199, wp_goto, wr_50_25, wp_icne, wk_197, wr_50_26, wk_192, ws_51, ws_62, ws_63, wr_50_20, wp_imul, wp_iadd, wl_59, wp_pald, wk_209, wp_ild2, wk_220, wp_geti kd_50, wk_221, wk_201, wp_inc3, x_clr_I, x_clr_J, x_clr_R, x_clr_U, ct_some, ct_none, lc_lt, lc_ge, lc_gt, lc_le, lc_eq, lc_r, xI_inj, xJ_inj, Option.some.injEq, eq_self, bi_r, bi_0, bi_1, bi_n, Classical.not_not, and_true, true_and, ite_true, ite_false, ↓reduceIte, ↓x_andl, z_le, z_nle, z_lt, z_nlt, z_eq, z_neq, if_pos, if_neg, x_andl, false_and, and_false, or_true, true_or, or_false, false_or, not_true, not_false_iff, x_rd_eq, x_rd_ne, x_st_o, Int.cast_ofNat_Int, Int.ofNat_zero, Int.ofNat_one, not_true_eq_false, not_false_eq_true, if_true, if_false, ite_self, and_self, Int.ofNat_eq_natCast, Int.tdiv_eq_ediv_of_nonneg, Int.tmod_eq_emod_of_nonneg, x_bm32, hW, e00, e8, k_isFromNow hW hw0 n8W, bi_t frW2, kst]
        exact fin
      · have zz := cm.2 z
        simp (disch := first | omega | (simp only [x_wtI, x_wtJ, x_wtR, x_wtN]; omega) | assumption | (simp (disch := omega) only [x_st_o, x_rd_ne]; first | assumption | omega) | (apply mir_eq; assumption; (intro c h1 h2; simp (disch := omega) only [x_st_o])) | (apply mis_eq; assumption; (intro c h1 h2; simp (disch := omega) only [x_st_o])) | rfl) only [bk_229_0, bk_229_1, bk_229_2, bk_229_4, bk_229_5, bk_229_7, bk_229_8, bk_229_9, bk_229_10, wp_ild1, wk_194, wp_ifne, wp_ic, wp_iret mz_229, wp_ald0, wk_195, wp_lc, wp_lcmp, wp_ist2, wr_50_1, wl_51, wl_62, wl_63, wp_cald, wp_ist3, wp_fall, wp_ild3, wp_icge, wk_199, wp_goto, wr_50_25, wp_icne, wk_197, wr_50_26, wk_192, ws_51, ws_62, ws_63, wr_50_20, wp_imul, wp_iadd, wl_59, wp_pald, wk_209, wp_ild2, wk_220, wp_geti kd_50, wk_221, wk_201, wp_inc3, x_clr_I, x_clr_J, x_clr_R, x_clr_U, ct_some, ct_none, lc_lt, lc_ge, lc_gt, lc_le, lc_eq, lc_r, xI_inj, xJ_inj, Option.some.injEq, eq_self, bi_r, bi_0, bi_1, bi_n, Classical.not_not, and_true, true_and, ite_true, ite_false, ↓reduceIte, ↓x_andl, z_le, z_nle, z_lt, z_nlt, z_eq, z_neq, if_pos, if_neg, x_andl, false_and, and_false, or_true, true_or, or_false, false_or, not_true, not_false_iff, x_rd_eq, x_rd_ne, x_st_o, Int.cast_ofNat_Int, Int.ofNat_zero, Int.ofNat_one, not_true_eq_false, not_false_eq_true, if_true, if_false, ite_self, and_self, Int.ofNat_eq_natCast, Int.tdiv_eq_ediv_of_nonneg, Int.tmod_eq_emod_of_nonneg, x_bm32, hW, e00, e8, k_isFromNow hW hw0 n8W, bi_t frW2, k_of, tq_of t0, zz.1]
        exact fin
    · have pl := tk.2.2.2 f (by omega) f1 (fun z => fr z.1)
      have K2 := K σ ⟨je, jk, jl, fun g g0 g1 => by
        by_cases z : g = f
        · subst z
          refine ⟨fun _ => ?_, fun y => by omega⟩
          rw [pl.1, pl.2]
          exact (jp g g0 g1).2 (Int.le_refl _)
        · exact ⟨fun y => (jp g g0 g1).1 (by omega), fun y => (jp g g0 g1).2 (by omega)⟩, fun g g0 g1 gf => by
        by_cases z : g = f
        · exact absurd (by rw [← z]; exact gf) fr
        · exact jv g g0 (by omega) gf⟩
      rw [tkc_s (by omega), if_pos ⟨pl.1.symm, pl.2.symm⟩, Int.add_zero] at K2
      generalize tkc w (σ2 21 1) (σ2 22 1) f.toNat = n at K2 cb
      have frN : ¬ p_fr W (W 8) f := fun z => fr (frW.mp z)
      rw [bk_229_3]
      simp (disch := first | omega | (simp only [x_wtI, x_wtJ, x_wtR, x_wtN]; omega) | assumption | (simp (disch := omega) only [x_st_o, x_rd_ne]; first | assumption | omega) | (apply mir_eq; assumption; (intro c h1 h2; simp (disch := omega) only [x_st_o])) | (apply mis_eq; assumption; (intro c h1 h2; simp (disch := omega) only [x_st_o])) | rfl) only [bk_229_0, bk_229_1, bk_229_2, bk_229_4, bk_229_5, bk_229_6, bk_229_7, bk_229_8, bk_229_9, bk_229_10, wp_ild1, wk_194, wp_ifne, wp_ic, wp_iret mz_229, wp_ald0, wk_195, wp_lc, wp_lcmp, wp_ist2, wr_50_1, wl_51, wl_62, wl_63, wp_cald, wp_ist3, wp_fall, wp_ild3, wp_icge, wk_199, wp_goto, wr_50_25, wp_icne, wk_197, wr_50_26, wk_192, ws_51, ws_62, ws_63, wr_50_20, wp_imul, wp_iadd, wl_59, wp_pald, wk_209, wp_ild2, wk_220, wp_geti kd_50, wk_221, wk_201, wp_inc3, x_clr_I, x_clr_J, x_clr_R, x_clr_U, ct_some, ct_none, lc_lt, lc_ge, lc_gt, lc_le, lc_eq, lc_r, xI_inj, xJ_inj, Option.some.injEq, eq_self, bi_r, bi_0, bi_1, bi_n, Classical.not_not, and_true, true_and, ite_true, ite_false, ↓reduceIte, ↓x_andl, z_le, z_nle, z_lt, z_nlt, z_eq, z_neq, if_pos, if_neg, x_andl, false_and, and_false, or_true, true_or, or_false, false_or, not_true, not_false_iff, x_rd_eq, x_rd_ne, x_st_o, Int.cast_ofNat_Int, Int.ofNat_zero, Int.ofNat_one, not_true_eq_false, not_false_eq_true, if_true, if_false, ite_self, and_self, Int.ofNat_eq_natCast, Int.tdiv_eq_ediv_of_nonneg, Int.tmod_eq_emod_of_nonneg, x_bm32, hW, e00, k_isFromNow hW hw0 n8W, bi_f frN]
      exact K2
  · intro σ hJ
    have e00 := hJ.2.2.1 0 (by omega)
    rw [bk_229_3]
    simp (disch := first | omega | (simp only [x_wtI, x_wtJ, x_wtR, x_wtN]; omega) | assumption | (simp (disch := omega) only [x_st_o, x_rd_ne]; first | assumption | omega) | (apply mir_eq; assumption; (intro c h1 h2; simp (disch := omega) only [x_st_o])) | (apply mis_eq; assumption; (intro c h1 h2; simp (disch := omega) only [x_st_o])) | rfl) only [bk_229_0, bk_229_1, bk_229_2, bk_229_4, bk_229_5, bk_229_6, bk_229_7, bk_229_8, bk_229_9, bk_229_10, wp_ild1, wk_194, wp_ifne, wp_ic, wp_iret mz_229, wp_ald0, wk_195, wp_lc, wp_lcmp, wp_ist2, wr_50_1, wl_51, wl_62, wl_63, wp_cald, wp_ist3, wp_fall, wp_ild3, wp_icge, wk_199, wp_goto, wr_50_25, wp_icne, wk_197, wr_50_26, wk_192, ws_51, ws_62, ws_63, wr_50_20, wp_imul, wp_iadd, wl_59, wp_pald, wk_209, wp_ild2, wk_220, wp_geti kd_50, wk_221, wk_201, wp_inc3, x_clr_I, x_clr_J, x_clr_R, x_clr_U, ct_some, ct_none, lc_lt, lc_ge, lc_gt, lc_le, lc_eq, lc_r, xI_inj, xJ_inj, Option.some.injEq, eq_self, bi_r, bi_0, bi_1, bi_n, Classical.not_not, and_true, true_and, ite_true, ite_false, ↓reduceIte, ↓x_andl, z_le, z_nle, z_lt, z_nlt, z_eq, z_neq, if_pos, if_neg, x_andl, false_and, and_false, or_true, true_or, or_false, false_or, not_true, not_false_iff, x_rd_eq, x_rd_ne, x_st_o, Int.cast_ofNat_Int, Int.ofNat_zero, Int.ofNat_one, not_true_eq_false, not_false_eq_true, if_true, if_false, ite_self, and_self, Int.ofNat_eq_natCast, Int.tdiv_eq_ediv_of_nonneg, Int.tmod_eq_emod_of_nonneg, x_bm32, e00]
    exact hQ _ hJ
theorem iN_tk {σ1 σ2 σ5 σF : x_S} {w L2 T2 : Int → Int} {c : Int} {j : Nat} (hh : iN L S0 σ1) (h51 : σ1 51 0 = w) (hj : j < 3) (ti : tkI σ1 c w L2 T2 j (w 0) σ2) (e5 : x_eqo [(59, 0), (60, 0), (61, 0)] σ2 σ5) (tm : tkM σ5 σ2 w (w 0) σF) : iN L S0 σF := by
  obtain ⟨w', h51', hw, h100, hn, hq, hM, hS⟩ := iN_w hh
  have ew : w' = w := h51'.symm.trans h51
  subst ew
  have tsub : ∀ c' j', (c', j') ∈ tkS j → (c', j') ∈ x_scr ∨ (c' = 21 ∧ j' = 1) ∨ (c' = 22 ∧ j' = 1) := by
    have : j = 0 ∨ j = 1 ∨ j = 2 := by omega
    intro c' j' z
    unfold tkS at z
    simp only [List.mem_cons, Prod.mk.injEq, List.not_mem_nil, or_false] at z
    rcases this with rfl | rfl | rfl
    all_goals
      rcases z with ⟨rfl, rfl⟩ | ⟨rfl, rfl⟩ | ⟨rfl, rfl⟩ | ⟨rfl, rfl⟩ | ⟨rfl, rfl⟩ | ⟨rfl, rfl⟩ | ⟨rfl, rfl⟩ | ⟨rfl, rfl⟩ | ⟨rfl, rfl⟩ | ⟨rfl, rfl⟩ | ⟨rfl, rfl⟩ | ⟨rfl, rfl⟩
      all_goals first | exact Or.inr (Or.inl ⟨rfl, rfl⟩) | exact Or.inr (Or.inr ⟨rfl, rfl⟩) | exact Or.inl (by decide)
  have n1 : ∀ c' j', (c', j') ∉ x_scr → ¬ ((c' = 21 ∧ j' = 1) ∨ (c' = 22 ∧ j' = 1) ∨ (c' = 51 ∧ j' = 0)) → σF c' j' = σ1 c' j' := by
    intro c' j' hn hi
    rw [tm.1 c' j' (fun z => by
      simp only [List.mem_cons, Prod.mk.injEq, List.not_mem_nil, or_false] at z
      rcases z with ⟨rfl, rfl⟩ | ⟨rfl, rfl⟩ | ⟨rfl, rfl⟩ | ⟨rfl, rfl⟩
      · exact hn (by decide)
      · exact hi (Or.inr (Or.inr ⟨rfl, rfl⟩))
      · exact hn (by decide)
      · exact hn (by decide)), e5 c' j' (fun z => by
      simp only [List.mem_cons, Prod.mk.injEq, List.not_mem_nil, or_false] at z
      rcases z with ⟨rfl, rfl⟩ | ⟨rfl, rfl⟩ | ⟨rfl, rfl⟩
      · exact hn (by decide)
      · exact hn (by decide)
      · exact hn (by decide)), ti.1 c' j' (fun z => by
      rcases tsub c' j' z with y | y | y
      · exact hn y
      · exact hi (Or.inl y)
      · exact hi (Or.inr (Or.inl y)))]
  obtain ⟨σi, hσi⟩ : ∃ σi : x_S, σi = fun c' j' => if (c' = 21 ∧ j' = 1) ∨ (c' = 22 ∧ j' = 1) ∨ (c' = 51 ∧ j' = 0) then σ1 c' j' else σF c' j' := ⟨_, rfl⟩
  have ip : ∀ c' j', ((c' = 21 ∧ j' = 1) ∨ (c' = 22 ∧ j' = 1) ∨ (c' = 51 ∧ j' = 0)) → σi c' j' = σ1 c' j' := by
    intro c' j' z
    rw [hσi]
    exact if_pos z
  have ic : ∀ c' j', ¬ ((c' = 21 ∧ j' = 1) ∨ (c' = 22 ∧ j' = 1) ∨ (c' = 51 ∧ j' = 0)) → σi c' j' = σF c' j' := by
    intro c' j' z
    rw [hσi]
    exact if_neg z
  have i1 : iN L S0 σi := by
    refine iN_scr hh ?_ ?_ ?_
    · intro c' j' z
      by_cases y : (c' = 21 ∧ j' = 1) ∨ (c' = 22 ∧ j' = 1) ∨ (c' = 51 ∧ j' = 0)
      · exact ip c' j' y
      · rw [ic c' j' y]
        exact n1 c' j' z y
    · intro j' k hj' k1 k3
      rw [ic 24 j' (by omega), tm.1 24 j' (by simp), e5 24 j' (by simp)]
      by_cases y : j' = j
      · subst y
        exact ti.2.1 k (by omega)
      · rw [ti.1 24 j' (by unfold tkS; simp [y])]
    · intro k hk
      rw [ic 50 0 (by omega), tm.2.1 k (by omega), e5 50 0 (by simp), ti.1 50 0 (by unfold tkS; simp)]
  have i51 : σi 51 0 = w' := (ip 51 0 (by omega)).trans h51
  refine iN_plan i1 ?_ ?_ ?_
  · intro c' j' z
    refine (ic c' j' (fun y => z ?_)).symm
    rcases y with ⟨rfl, rfl⟩ | ⟨rfl, rfl⟩ | ⟨rfl, rfl⟩ <;> simp
  · intro i hi
    rw [i51]
    exact tm.2.2.1 i hi
  · intro f f0 f1
    rw [i51] at f1
    obtain ⟨p, q⟩ := (tm.2.2.2.1 f f0 f1).1 f1
    have r := tkI_q hw hn hq ti f f0 f1
    rw [p, q, tm.1 21 1 (by simp), e5 21 1 (by simp), tm.1 22 1 (by simp), e5 22 1 (by simp)]
    exact ⟨rfl, rfl, r.1, r.2⟩
theorem o_take : x_o25 (iN L S0) := by
  intro σ hh c hc
  refine ag_I ?_
  obtain ⟨w, h51, hw, h100, hn, hq, hM, hS⟩ := iN_w hh
  have a := wf_h hw
  unfold wf_hdr at a
  obtain ⟨n8, n9, n10, _⟩ := id hn
  by_cases cm : 0 ≤ c ∧ c ≤ 2
  · obtain ⟨j, hj⟩ : ∃ j : Nat, c = j := ⟨c.toNat, by omega⟩
    simp (disch := first | omega | (simp only [x_wtI, x_wtJ, x_wtR, x_wtN]; omega) | assumption | (simp (disch := omega) only [x_st_o, x_rd_ne]; first | assumption | omega) | (apply mir_eq; assumption; (intro c h1 h2; simp (disch := omega) only [x_st_o])) | (apply mis_eq; assumption; (intro c h1 h2; simp (disch := omega) only [x_st_o])) | rfl) only [sp_129, bk_129_0, bk_129_1, bk_129_2, bk_129_4, bk_129_5, bk_129_6, wp_ild1, wk_103, wp_ifne, wp_ic, wp_iret mz_129, wp_ald0, wk_104, wp_lc, wp_lcmp, wk_105, wp_ast2, wp_ist3, wr_0_2, wp_geti kd_20, wp_ist4, wp_fall, wp_ild4, wr_20_0, wp_geti kd_6, wp_icge, wk_65, wp_ifeq, wr_0_9, wk_79, wp_ald2, wr_33_3, wl_36, wl_37, wp_cald, wr_33_4, wk_12, wp_ist5, wp_ild5, wp_iceq, wk_130, wp_inc3, wk_81, wp_inc4, wp_goto, wp_ild3, x_clr_I, x_clr_J, x_clr_R, x_clr_U, ct_some, ct_none, lc_lt, lc_ge, lc_gt, lc_le, lc_eq, lc_r, xI_inj, xJ_inj, Option.some.injEq, eq_self, bi_r, bi_0, bi_1, bi_n, Classical.not_not, and_true, true_and, ite_true, ite_false, ↓reduceIte, ↓x_andl, z_le, z_nle, z_lt, z_nlt, z_eq, z_neq, if_pos, if_neg, x_andl, false_and, and_false, or_true, true_or, or_false, false_or, not_true, not_false_iff, x_rd_eq, x_rd_ne, x_st_o, Int.cast_ofNat_Int, Int.ofNat_zero, Int.ofNat_one, not_true_eq_false, not_false_eq_true, if_true, if_false, ite_self, and_self, Int.ofNat_eq_natCast, Int.tdiv_eq_ediv_of_nonneg, Int.tmod_eq_emod_of_nonneg, x_bm32, k_isMeasure, bi_t]
    refine x_use (d := 991) (h_leastNow hh (by omega) hj) ?_
    rintro r σ1 ⟨rfl, tk, hh1, f1, ct⟩
    have g51 : σ1 51 0 = w := (tk.1 51 0 (by decide)).trans h51
    rw [h51] at ct ⊢
    have gp := gb_pos (k := w_of w (w 8) 6)
    have tb := (ct.1 (w 8) (Int.le_refl _) n8.2 fr_self).2 (21 * w 10 + w 9) (by omega) (by omega)
    have na : ∀ (T L' Ym : Int → Int), gT c 5 4 (-1) w L' T (w 8) → (c = 2 → mwy w Ym L') → tg (T (42 * w 8 + (21 * w 10 + w 9))) (σ1 25 j (42 * w 8 + (21 * w 10 + w 9))) := fun T L' Ym gt gm => now_ag hw hn cm gt gm ct
    by_cases cd : σ1 25 j (42 * w 8 + (21 * w 10 + w 9)) = 9223372036854775807
    · rw [cd]
      simp (disch := first | omega | (simp only [x_wtI, x_wtJ, x_wtR, x_wtN]; omega) | assumption | (simp (disch := omega) only [x_st_o, x_rd_ne]; first | assumption | omega) | (apply mir_eq; assumption; (intro c h1 h2; simp (disch := omega) only [x_st_o])) | (apply mis_eq; assumption; (intro c h1 h2; simp (disch := omega) only [x_st_o])) | rfl) only [bk_129_0, bk_129_1, bk_129_2, bk_129_4, bk_129_5, bk_129_6, wp_ild1, wk_103, wp_ifne, wp_ic, wp_iret mz_129, wp_ald0, wk_104, wp_lc, wp_lcmp, wk_105, wp_ast2, wp_ist3, wr_0_2, wp_geti kd_20, wp_ist4, wp_fall, wp_ild4, wr_20_0, wp_geti kd_6, wp_icge, wk_65, wp_ifeq, wr_0_9, wk_79, wp_ald2, wr_33_3, wl_36, wl_37, wp_cald, wr_33_4, wk_12, wp_ist5, wp_ild5, wp_iceq, wk_130, wp_inc3, wk_81, wp_inc4, wp_goto, wp_ild3, x_clr_I, x_clr_J, x_clr_R, x_clr_U, ct_some, ct_none, lc_lt, lc_ge, lc_gt, lc_le, lc_eq, lc_r, xI_inj, xJ_inj, Option.some.injEq, eq_self, bi_r, bi_0, bi_1, bi_n, Classical.not_not, and_true, true_and, ite_true, ite_false, ↓reduceIte, ↓x_andl, z_le, z_nle, z_lt, z_nlt, z_eq, z_neq, if_pos, if_neg, x_andl, false_and, and_false, or_true, true_or, or_false, false_or, not_true, not_false_iff, x_rd_eq, x_rd_ne, x_st_o, Int.cast_ofNat_Int, Int.ofNat_zero, Int.ofNat_one, not_true_eq_false, not_false_eq_true, if_true, if_false, ite_self, and_self, Int.ofNat_eq_natCast, Int.tdiv_eq_ediv_of_nonneg, Int.tmod_eq_emod_of_nonneg, x_bm32]
      refine ⟨-1, rfl, tk_100 tk, ?_⟩
      simp (disch := first | omega | (simp only [x_wtI, x_wtJ, x_wtR, x_wtN]; omega) | assumption | (simp (disch := omega) only [x_st_o, x_rd_ne]; first | assumption | omega) | (apply mir_eq; assumption; (intro c h1 h2; simp (disch := omega) only [x_st_o])) | (apply mis_eq; assumption; (intro c h1 h2; simp (disch := omega) only [x_st_o])) | rfl) only [sp_229, bk_229_0, bk_229_1, bk_229_2, bk_229_4, bk_229_5, bk_229_6, bk_229_7, bk_229_8, bk_229_9, bk_229_10, wp_ild1, wk_194, wp_ifne, wp_ic, wp_iret mz_229, wp_ald0, wk_195, wp_lc, wp_lcmp, wp_ist2, wr_50_1, wl_51, wl_62, wl_63, wp_cald, wp_ist3, wp_fall, wp_ild3, wp_icge, wk_199, wp_goto, wr_50_25, wp_icne, wk_197, wr_50_26, wk_192, ws_51, ws_62, ws_63, wr_50_20, wp_imul, wp_iadd, wl_59, wp_pald, wk_209, wp_ild2, wk_220, wp_geti kd_50, wk_221, wk_201, wp_inc3, x_clr_I, x_clr_J, x_clr_R, x_clr_U, ct_some, ct_none, lc_lt, lc_ge, lc_gt, lc_le, lc_eq, lc_r, xI_inj, xJ_inj, Option.some.injEq, eq_self, bi_r, bi_0, bi_1, bi_n, Classical.not_not, and_true, true_and, ite_true, ite_false, ↓reduceIte, ↓x_andl, z_le, z_nle, z_lt, z_nlt, z_eq, z_neq, if_pos, if_neg, x_andl, false_and, and_false, or_true, true_or, or_false, false_or, not_true, not_false_iff, x_rd_eq, x_rd_ne, x_st_o, Int.cast_ofNat_Int, Int.ofNat_zero, Int.ofNat_one, not_true_eq_false, not_false_eq_true, if_true, if_false, ite_self, and_self, Int.ofNat_eq_natCast, Int.tdiv_eq_ediv_of_nonneg, Int.tmod_eq_emod_of_nonneg, x_bm32, k_isCount, bi_t]
      refine x_use (d := 991) (h_solveI hh1 (by omega)) ?_
      rintro r σ5 ⟨rfl, e5, hh5, g5, m5⟩
      rw [g51] at g5 m5 ⊢
      have e : σ5 59 0 (42 * w 8 + (21 * w 10 + w 9)) = (-9223372036854775808) := by
        rcases na _ _ _ g5 m5 with ⟨z, _⟩ | ⟨_, _, z⟩
        · exact z
        · exact absurd cd z
      rw [e]
      simp (disch := first | omega | (simp only [x_wtI, x_wtJ, x_wtR, x_wtN]; omega) | assumption | (simp (disch := omega) only [x_st_o, x_rd_ne]; first | assumption | omega) | (apply mir_eq; assumption; (intro c h1 h2; simp (disch := omega) only [x_st_o])) | (apply mis_eq; assumption; (intro c h1 h2; simp (disch := omega) only [x_st_o])) | rfl) only [bk_229_0, bk_229_1, bk_229_2, bk_229_4, bk_229_5, bk_229_6, bk_229_7, bk_229_8, bk_229_9, bk_229_10, wp_ild1, wk_194, wp_ifne, wp_ic, wp_iret mz_229, wp_ald0, wk_195, wp_lc, wp_lcmp, wp_ist2, wr_50_1, wl_51, wl_62, wl_63, wp_cald, wp_ist3, wp_fall, wp_ild3, wp_icge, wk_199, wp_goto, wr_50_25, wp_icne, wk_197, wr_50_26, wk_192, ws_51, ws_62, ws_63, wr_50_20, wp_imul, wp_iadd, wl_59, wp_pald, wk_209, wp_ild2, wk_220, wp_geti kd_50, wk_221, wk_201, wp_inc3, x_clr_I, x_clr_J, x_clr_R, x_clr_U, ct_some, ct_none, lc_lt, lc_ge, lc_gt, lc_le, lc_eq, lc_r, xI_inj, xJ_inj, Option.some.injEq, eq_self, bi_r, bi_0, bi_1, bi_n, Classical.not_not, and_true, true_and, ite_true, ite_false, ↓reduceIte, ↓x_andl, z_le, z_nle, z_lt, z_nlt, z_eq, z_neq, if_pos, if_neg, x_andl, false_and, and_false, or_true, true_or, or_false, false_or, not_true, not_false_iff, x_rd_eq, x_rd_ne, x_st_o, Int.cast_ofNat_Int, Int.ofNat_zero, Int.ofNat_one, not_true_eq_false, not_false_eq_true, if_true, if_false, ite_self, and_self, Int.ofNat_eq_natCast, Int.tdiv_eq_ediv_of_nonneg, Int.tmod_eq_emod_of_nonneg, x_bm32]
      exact hh5
    · have tb2 := tb.resolve_left cd
      generalize hat : σ1 25 j (42 * w 8 + (21 * w 10 + w 9)) = at0 at tb2
      simp (disch := first | omega | (simp only [x_wtI, x_wtJ, x_wtR, x_wtN]; omega) | assumption | (simp (disch := omega) only [x_st_o, x_rd_ne]; first | assumption | omega) | (apply mir_eq; assumption; (intro c h1 h2; simp (disch := omega) only [x_st_o])) | (apply mis_eq; assumption; (intro c h1 h2; simp (disch := omega) only [x_st_o])) | rfl) only [bk_129_0, bk_129_1, bk_129_2, bk_129_4, bk_129_5, bk_129_6, wp_ild1, wk_103, wp_ifne, wp_ic, wp_iret mz_129, wp_ald0, wk_104, wp_lc, wp_lcmp, wk_105, wp_ast2, wp_ist3, wr_0_2, wp_geti kd_20, wp_ist4, wp_fall, wp_ild4, wr_20_0, wp_geti kd_6, wp_icge, wk_65, wp_ifeq, wr_0_9, wk_79, wp_ald2, wr_33_3, wl_36, wl_37, wp_cald, wr_33_4, wk_12, wp_ist5, wp_ild5, wp_iceq, wk_130, wp_inc3, wk_81, wp_inc4, wp_goto, wp_ild3, x_clr_I, x_clr_J, x_clr_R, x_clr_U, ct_some, ct_none, lc_lt, lc_ge, lc_gt, lc_le, lc_eq, lc_r, xI_inj, xJ_inj, Option.some.injEq, eq_self, bi_r, bi_0, bi_1, bi_n, Classical.not_not, and_true, true_and, ite_true, ite_false, ↓reduceIte, ↓x_andl, z_le, z_nle, z_lt, z_nlt, z_eq, z_neq, if_pos, if_neg, x_andl, false_and, and_false, or_true, true_or, or_false, false_or, not_true, not_false_iff, x_rd_eq, x_rd_ne, x_st_o, Int.cast_ofNat_Int, Int.ofNat_zero, Int.ofNat_one, not_true_eq_false, not_false_eq_true, if_true, if_false, ite_self, and_self, Int.ofNat_eq_natCast, Int.tdiv_eq_ediv_of_nonneg, Int.tmod_eq_emod_of_nonneg, x_bm32]
      refine x_use (d := 992) (h_tab hh1 (by omega) hj) ?_
      rintro r σ2 ⟨rfl, tk2, hh2, f2, ct2⟩
      rw [g51] at ct2
      have g512 : σ2 51 0 = w := (tk2.1 51 0 (by decide)).trans g51
      obtain ⟨w2, h512, _, _, _, _, hM2, hS2⟩ := iN_w hh2
      have ew : w2 = w := h512.symm.trans g512
      subst ew
      have al2 : ¬ σ2 25 j (42 * w2 8 + (21 * w2 10 + w2 9)) = 9223372036854775807 := by
        intro z
        obtain ⟨r', σ9, ⟨_, _, _, g9, m9⟩, _⟩ := x_ex (h_solveI (c := c) hh1 (by omega))
        rw [g51] at g9 m9
        rcases now_ag hw hn cm g9 m9 ct2 with ⟨y, _⟩ | ⟨_, _, y⟩
        · rcases na _ _ _ g9 m9 with ⟨_, x⟩ | ⟨_, x, _⟩
          · exact cd x
          · exact x y
        · exact y z
      have f100 : ∀ j' i, σ2 100 j' i = σ 100 j' i := fun j' i => by rw [tk_100 tk2 j' i, tk_100 tk j' i]
      simp (disch := first | omega | (simp only [x_wtI, x_wtJ, x_wtR, x_wtN]; omega) | assumption | (simp (disch := omega) only [x_st_o, x_rd_ne]; first | assumption | omega) | (apply mir_eq; assumption; (intro c h1 h2; simp (disch := omega) only [x_st_o])) | (apply mis_eq; assumption; (intro c h1 h2; simp (disch := omega) only [x_st_o])) | rfl) only [bk_129_0, bk_129_1, bk_129_2, bk_129_4, bk_129_5, bk_129_6, wp_ild1, wk_103, wp_ifne, wp_ic, wp_iret mz_129, wp_ald0, wk_104, wp_lc, wp_lcmp, wk_105, wp_ast2, wp_ist3, wr_0_2, wp_geti kd_20, wp_ist4, wp_fall, wp_ild4, wr_20_0, wp_geti kd_6, wp_icge, wk_65, wp_ifeq, wr_0_9, wk_79, wp_ald2, wr_33_3, wl_36, wl_37, wp_cald, wr_33_4, wk_12, wp_ist5, wp_ild5, wp_iceq, wk_130, wp_inc3, wk_81, wp_inc4, wp_goto, wp_ild3, x_clr_I, x_clr_J, x_clr_R, x_clr_U, ct_some, ct_none, lc_lt, lc_ge, lc_gt, lc_le, lc_eq, lc_r, xI_inj, xJ_inj, Option.some.injEq, eq_self, bi_r, bi_0, bi_1, bi_n, Classical.not_not, and_true, true_and, ite_true, ite_false, ↓reduceIte, ↓x_andl, z_le, z_nle, z_lt, z_nlt, z_eq, z_neq, if_pos, if_neg, x_andl, false_and, and_false, or_true, true_or, or_false, false_or, not_true, not_false_iff, x_rd_eq, x_rd_ne, x_st_o, Int.cast_ofNat_Int, Int.ofNat_zero, Int.ofNat_one, not_true_eq_false, not_false_eq_true, if_true, if_false, ite_self, and_self, Int.ofNat_eq_natCast, Int.tdiv_eq_ediv_of_nonneg, Int.tmod_eq_emod_of_nonneg, x_bm32, hS2.1.1]
      refine h_takeL hh2 g512 (by omega) hj ct2 al2 ?_
      intro σ3 ti
      refine ⟨_, rfl, fun j' i => by rw [ti.1 100 j' (by unfold tkS; simp), f100], ?_⟩
      have g513 : σ3 51 0 = w2 := (ti.1 51 0 (by unfold tkS; simp)).trans g512
      have e50 : σ3 50 0 = σ2 50 0 := ti.1 50 0 (by unfold tkS; simp)
      have m := hh2.2.2.2.1
      generalize hcn : tkc w2 (σ3 21 1) (σ3 22 1) (w2 0).toNat = cn
      simp (disch := first | omega | (simp only [x_wtI, x_wtJ, x_wtR, x_wtN]; omega) | assumption | (simp (disch := omega) only [x_st_o, x_rd_ne]; first | assumption | omega) | (apply mir_eq; assumption; (intro c h1 h2; simp (disch := omega) only [x_st_o])) | (apply mis_eq; assumption; (intro c h1 h2; simp (disch := omega) only [x_st_o])) | rfl) only [sp_229, bk_229_0, bk_229_1, bk_229_2, bk_229_4, bk_229_5, bk_229_6, bk_229_7, bk_229_8, bk_229_9, bk_229_10, wp_ild1, wk_194, wp_ifne, wp_ic, wp_iret mz_229, wp_ald0, wk_195, wp_lc, wp_lcmp, wp_ist2, wr_50_1, wl_51, wl_62, wl_63, wp_cald, wp_ist3, wp_fall, wp_ild3, wp_icge, wk_199, wp_goto, wr_50_25, wp_icne, wk_197, wr_50_26, wk_192, ws_51, ws_62, ws_63, wr_50_20, wp_imul, wp_iadd, wl_59, wp_pald, wk_209, wp_ild2, wk_220, wp_geti kd_50, wk_221, wk_201, wp_inc3, x_clr_I, x_clr_J, x_clr_R, x_clr_U, ct_some, ct_none, lc_lt, lc_ge, lc_gt, lc_le, lc_eq, lc_r, xI_inj, xJ_inj, Option.some.injEq, eq_self, bi_r, bi_0, bi_1, bi_n, Classical.not_not, and_true, true_and, ite_true, ite_false, ↓reduceIte, ↓x_andl, z_le, z_nle, z_lt, z_nlt, z_eq, z_neq, if_pos, if_neg, x_andl, false_and, and_false, or_true, true_or, or_false, false_or, not_true, not_false_iff, x_rd_eq, x_rd_ne, x_st_o, Int.cast_ofNat_Int, Int.ofNat_zero, Int.ofNat_one, not_true_eq_false, not_false_eq_true, if_true, if_false, ite_self, and_self, Int.ofNat_eq_natCast, Int.tdiv_eq_ediv_of_nonneg, Int.tmod_eq_emod_of_nonneg, x_bm32, k_isCount, bi_t]
      refine x_use (d := 991) (h_solveF (σ := σ3) (w := w2) (E := 5) (Wd := 4) (ea := -1) (c := c) g513 (by rw [e50]; exact m.1) (by rw [e50]; exact m.2.1) (by rw [e50]; exact m.2.2.1) hw hn (by omega) (by omega) (by omega) (by omega) (fun _ => rfl)) ?_
      rintro r σ5 ⟨rfl, e5, g5, m5⟩
      have g515 : σ5 51 0 = w2 := (e5 51 0 (by simp)).trans g513
      have e505 : σ5 50 0 = σ2 50 0 := (e5 50 0 (by simp)).trans e50
      have tbm := (g5 (w2 8) (Int.le_refl _) n8.2).1 (21 * w2 10 + w2 9) (by omega) (by omega)
      have nv : ¬ σ5 59 0 (42 * w2 8 + (21 * w2 10 + w2 9)) = (-9223372036854775808) := by
        rcases na _ _ _ g5 m5 with ⟨_, x⟩ | ⟨_, x, _⟩
        · exact absurd x cd
        · exact x
      have tbm2 := tbm.resolve_left nv
      generalize σ5 59 0 (42 * w2 8 + (21 * w2 10 + w2 9)) = tn at tbm2
      simp (disch := first | omega | (simp only [x_wtI, x_wtJ, x_wtR, x_wtN]; omega) | assumption | (simp (disch := omega) only [x_st_o, x_rd_ne]; first | assumption | omega) | (apply mir_eq; assumption; (intro c h1 h2; simp (disch := omega) only [x_st_o])) | (apply mis_eq; assumption; (intro c h1 h2; simp (disch := omega) only [x_st_o])) | rfl) only [bk_229_0, bk_229_1, bk_229_2, bk_229_4, bk_229_5, bk_229_6, bk_229_7, bk_229_8, bk_229_9, bk_229_10, wp_ild1, wk_194, wp_ifne, wp_ic, wp_iret mz_229, wp_ald0, wk_195, wp_lc, wp_lcmp, wp_ist2, wr_50_1, wl_51, wl_62, wl_63, wp_cald, wp_ist3, wp_fall, wp_ild3, wp_icge, wk_199, wp_goto, wr_50_25, wp_icne, wk_197, wr_50_26, wk_192, ws_51, ws_62, ws_63, wr_50_20, wp_imul, wp_iadd, wl_59, wp_pald, wk_209, wp_ild2, wk_220, wp_geti kd_50, wk_221, wk_201, wp_inc3, x_clr_I, x_clr_J, x_clr_R, x_clr_U, ct_some, ct_none, lc_lt, lc_ge, lc_gt, lc_le, lc_eq, lc_r, xI_inj, xJ_inj, Option.some.injEq, eq_self, bi_r, bi_0, bi_1, bi_n, Classical.not_not, and_true, true_and, ite_true, ite_false, ↓reduceIte, ↓x_andl, z_le, z_nle, z_lt, z_nlt, z_eq, z_neq, if_pos, if_neg, x_andl, false_and, and_false, or_true, true_or, or_false, false_or, not_true, not_false_iff, x_rd_eq, x_rd_ne, x_st_o, Int.cast_ofNat_Int, Int.ofNat_zero, Int.ofNat_one, not_true_eq_false, not_false_eq_true, if_true, if_false, ite_self, and_self, Int.ofNat_eq_natCast, Int.tdiv_eq_ediv_of_nonneg, Int.tmod_eq_emod_of_nonneg, x_bm32, g515]
      refine h_takeM hw hn hq cm ct2 ti g515 (by rw [e505]; exact m.1) (by rw [e505]; exact m.2.1) g5 m5 ?_
      intro σ6 tm
      rw [hcn]
      exact ⟨rfl, iN_tk hh2 g512 (by omega) ti e5 tm⟩
  · simp (disch := first | omega | (simp only [x_wtI, x_wtJ, x_wtR, x_wtN]; omega) | assumption | (simp (disch := omega) only [x_st_o, x_rd_ne]; first | assumption | omega) | (apply mir_eq; assumption; (intro c h1 h2; simp (disch := omega) only [x_st_o])) | (apply mis_eq; assumption; (intro c h1 h2; simp (disch := omega) only [x_st_o])) | rfl) only [sp_129, bk_129_0, bk_129_1, bk_129_2, bk_129_4, bk_129_5, bk_129_6, wp_ild1, wk_103, wp_ifne, wp_ic, wp_iret mz_129, wp_ald0, wk_104, wp_lc, wp_lcmp, wk_105, wp_ast2, wp_ist3, wr_0_2, wp_geti kd_20, wp_ist4, wp_fall, wp_ild4, wr_20_0, wp_geti kd_6, wp_icge, wk_65, wp_ifeq, wr_0_9, wk_79, wp_ald2, wr_33_3, wl_36, wl_37, wp_cald, wr_33_4, wk_12, wp_ist5, wp_ild5, wp_iceq, wk_130, wp_inc3, wk_81, wp_inc4, wp_goto, wp_ild3, x_clr_I, x_clr_J, x_clr_R, x_clr_U, ct_some, ct_none, lc_lt, lc_ge, lc_gt, lc_le, lc_eq, lc_r, xI_inj, xJ_inj, Option.some.injEq, eq_self, bi_r, bi_0, bi_1, bi_n, Classical.not_not, and_true, true_and, ite_true, ite_false, ↓reduceIte, ↓x_andl, z_le, z_nle, z_lt, z_nlt, z_eq, z_neq, if_pos, if_neg, x_andl, false_and, and_false, or_true, true_or, or_false, false_or, not_true, not_false_iff, x_rd_eq, x_rd_ne, x_st_o, Int.cast_ofNat_Int, Int.ofNat_zero, Int.ofNat_one, not_true_eq_false, not_false_eq_true, if_true, if_false, ite_self, and_self, Int.ofNat_eq_natCast, Int.tdiv_eq_ediv_of_nonneg, Int.tmod_eq_emod_of_nonneg, x_bm32, k_isMeasure, bi_f]
    refine ⟨-2, rfl, fun _ _ => rfl, ?_⟩
    simp (disch := first | omega | (simp only [x_wtI, x_wtJ, x_wtR, x_wtN]; omega) | assumption | (simp (disch := omega) only [x_st_o, x_rd_ne]; first | assumption | omega) | (apply mir_eq; assumption; (intro c h1 h2; simp (disch := omega) only [x_st_o])) | (apply mis_eq; assumption; (intro c h1 h2; simp (disch := omega) only [x_st_o])) | rfl) only [sp_229, bk_229_0, bk_229_1, bk_229_2, bk_229_4, bk_229_5, bk_229_6, bk_229_7, bk_229_8, bk_229_9, bk_229_10, wp_ild1, wk_194, wp_ifne, wp_ic, wp_iret mz_229, wp_ald0, wk_195, wp_lc, wp_lcmp, wp_ist2, wr_50_1, wl_51, wl_62, wl_63, wp_cald, wp_ist3, wp_fall, wp_ild3, wp_icge, wk_199, wp_goto, wr_50_25, wp_icne, wk_197, wr_50_26, wk_192, ws_51, ws_62, ws_63, wr_50_20, wp_imul, wp_iadd, wl_59, wp_pald, wk_209, wp_ild2, wk_220, wp_geti kd_50, wk_221, wk_201, wp_inc3, x_clr_I, x_clr_J, x_clr_R, x_clr_U, ct_some, ct_none, lc_lt, lc_ge, lc_gt, lc_le, lc_eq, lc_r, xI_inj, xJ_inj, Option.some.injEq, eq_self, bi_r, bi_0, bi_1, bi_n, Classical.not_not, and_true, true_and, ite_true, ite_false, ↓reduceIte, ↓x_andl, z_le, z_nle, z_lt, z_nlt, z_eq, z_neq, if_pos, if_neg, x_andl, false_and, and_false, or_true, true_or, or_false, false_or, not_true, not_false_iff, x_rd_eq, x_rd_ne, x_st_o, Int.cast_ofNat_Int, Int.ofNat_zero, Int.ofNat_one, not_true_eq_false, not_false_eq_true, if_true, if_false, ite_self, and_self, Int.ofNat_eq_natCast, Int.tdiv_eq_ediv_of_nonneg, Int.tmod_eq_emod_of_nonneg, x_bm32, k_isCount, bi_f]
    exact hh
end OTM

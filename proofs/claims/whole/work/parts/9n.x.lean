def tcn (V : Int → Int) (l : Int) : Nat → Int
  | 0 => 0
  | n + 1 => tcn V l n + (if V n = l then 1 else 0)
section TCN
variable {V : Int → Int} {l : Int}
theorem tcn_s {i : Int} (h : 0 ≤ i) : tcn V l (i + 1).toNat = tcn V l i.toNat + (if V i = l then 1 else 0) := by
  obtain ⟨n, rfl⟩ : ∃ n : Nat, i = n := ⟨i.toNat, by omega⟩
  rw [show ((n : Int) + 1).toNat = n + 1 by omega, show ((n : Int)).toNat = n by omega]
  rfl
theorem tcn_b : ∀ n : Nat, 0 ≤ tcn V l n ∧ tcn V l n ≤ n
  | 0 => by show (0 : Int) ≤ 0 ∧ (0 : Int) ≤ ((0 : Nat) : Int); omega
  | n + 1 => by
    have i := tcn_b n
    show 0 ≤ tcn V l n + (if V n = l then 1 else 0) ∧ tcn V l n + (if V n = l then 1 else 0) ≤ ((n + 1 : Nat) : Int)
    split <;> omega
theorem tcn_fl {a b : Int} (h0 : 0 ≤ a) (h : a ≤ b) (hv : ∀ p, a ≤ p → p < b → ¬ V p = l) : tcn V l b.toNat = tcn V l a.toNat := by
  have key : ∀ n : Nat, a + n ≤ b → tcn V l (a + n).toNat = tcn V l a.toNat := by
    intro n
    induction n with
    | zero => intro _; rw [show a + ((0 : Nat) : Int) = a by omega]
    | succ n ih =>
      intro hn
      rw [show a + ((n + 1 : Nat) : Int) = (a + n) + 1 by omega, tcn_s (by omega), if_neg (hv (a + n) (by omega) (by omega)), ih (by omega)]
      omega
  have := key (b - a).toNat (by omega)
  rw [show a + ((b - a).toNat : Int) = b by omega] at this
  exact this
theorem tcn_eq {p q : Int} (hl : ¬ l = 9223372036854775807) (p0 : 0 ≤ p) (h : p ≤ q) (e : ocn V p.toNat = ocn V q.toNat) : tcn V l q.toNat = tcn V l p.toNat := by
  refine tcn_fl p0 h (fun r r0 r1 z => ?_)
  have nd : ¬ V r = 9223372036854775807 := by rw [z]; exact hl
  have a := ocn_lt (V := V) (p := r) (q := q) (by omega) r1 nd
  have b := ocn_le (V := V) (a := p) (b := r) p0 r0
  omega
end TCN
section OT2
variable {L : Int} {S0 : Int → Int}
theorem o_ties : x_o12 (iN L S0) := by
  intro σ hh c hc
  refine ag_I ?_
  obtain ⟨w, h51, hw, h100, hn, hq, hM, hS⟩ := iN_w hh
  obtain ⟨n8, n9, n10, _⟩ := id hn
  have a := wf_h hw
  unfold wf_hdr at a
  have o := wf_f hw (f := w 8) (by omega) (by omega)
  unfold wf_one at o
  by_cases cm : 0 ≤ c ∧ c ≤ 2
  · obtain ⟨j, hj⟩ : ∃ j : Nat, c = j := ⟨c.toNat, by omega⟩
    simp (disch := first | omega | (simp only [x_wtI, x_wtJ, x_wtR, x_wtN]; omega) | assumption | (simp (disch := omega) only [x_st_o, x_rd_ne]; first | assumption | omega) | (apply mir_eq; assumption; (intro c h1 h2; simp (disch := omega) only [x_st_o])) | (apply mis_eq; assumption; (intro c h1 h2; simp (disch := omega) only [x_st_o])) | rfl) only [sp_116, bk_116_0, bk_116_1, bk_116_3, bk_116_4, wp_ild1, wk_103, wp_ifne, wp_ic, wp_iret mz_116, wp_ald0, wk_113, wp_ist2, wk_104, wp_lst3, wp_ist5, wp_ist6, wp_fall, wp_ild6, wp_ild2, wp_icge, wr_0_12, wl_2, wp_pald, wp_lld3, wp_lcmp, wp_inc5, wp_inc6, wp_goto, wp_ild5, x_clr_I, x_clr_J, x_clr_R, x_clr_U, ct_some, ct_none, lc_lt, lc_ge, lc_gt, lc_le, lc_eq, lc_r, xI_inj, xJ_inj, Option.some.injEq, eq_self, bi_r, bi_0, bi_1, bi_n, Classical.not_not, and_true, true_and, ite_true, ite_false, ↓reduceIte, ↓x_andl, z_le, z_nle, z_lt, z_nlt, z_eq, z_neq, if_pos, if_neg, x_andl, false_and, and_false, or_true, true_or, or_false, false_or, not_true, not_false_iff, x_rd_eq, x_rd_ne, x_st_o, Int.cast_ofNat_Int, Int.ofNat_zero, Int.ofNat_one, not_true_eq_false, not_false_eq_true, if_true, if_false, ite_self, and_self, Int.ofNat_eq_natCast, Int.tdiv_eq_ediv_of_nonneg, Int.tmod_eq_emod_of_nonneg, x_bm32, k_isMeasure, bi_t]
    refine x_use (d := 991) (h_list hh (by omega) hj) ?_
    rintro r σ1 ⟨tk, hh1, ct, V, vz, rfl, of⟩
    rw [h51] at ct vz
    have g51 : σ1 51 0 = w := (tk.1 51 0 (by decide)).trans h51
    have cb := ocn_b (V := V) 42
    have zn : ∀ (T L' Ym : Int → Int), gT c 5 4 (-1) w L' T (w 8) → (c = 2 → mwy w Ym L') → ∀ b t u, zst (-9223372036854775808) c 5 4 w L' T (w 8) (w 9) (w 10) b t u ↔ zst 9223372036854775807 c 5 4 w (σ1 26 j) (σ1 25 j) (w 8) (w 9) (w 10) b t u := fun T L' Ym gt gm b t u => zst_now hw hn cm gt gm ct (Int.le_refl _) n8.2 fr_self n9 n10 (fun c2 => rc_now hn (gm c2)) b t u
    generalize hN : ocn V 42 = N at cb
    simp (disch := first | omega | (simp only [x_wtI, x_wtJ, x_wtR, x_wtN]; omega) | assumption | (simp (disch := omega) only [x_st_o, x_rd_ne]; first | assumption | omega) | (apply mir_eq; assumption; (intro c h1 h2; simp (disch := omega) only [x_st_o])) | (apply mis_eq; assumption; (intro c h1 h2; simp (disch := omega) only [x_st_o])) | rfl) only [bk_116_0, bk_116_1, bk_116_3, bk_116_4, wp_ild1, wk_103, wp_ifne, wp_ic, wp_iret mz_116, wp_ald0, wk_113, wp_ist2, wk_104, wp_lst3, wp_ist5, wp_ist6, wp_fall, wp_ild6, wp_ild2, wp_icge, wr_0_12, wl_2, wp_pald, wp_lld3, wp_lcmp, wp_inc5, wp_inc6, wp_goto, wp_ild5, x_clr_I, x_clr_J, x_clr_R, x_clr_U, ct_some, ct_none, lc_lt, lc_ge, lc_gt, lc_le, lc_eq, lc_r, xI_inj, xJ_inj, Option.some.injEq, eq_self, bi_r, bi_0, bi_1, bi_n, Classical.not_not, and_true, true_and, ite_true, ite_false, ↓reduceIte, ↓x_andl, z_le, z_nle, z_lt, z_nlt, z_eq, z_neq, if_pos, if_neg, x_andl, false_and, and_false, or_true, true_or, or_false, false_or, not_true, not_false_iff, x_rd_eq, x_rd_ne, x_st_o, Int.cast_ofNat_Int, Int.ofNat_zero, Int.ofNat_one, not_true_eq_false, not_false_eq_true, if_true, if_false, ite_self, and_self, Int.ofNat_eq_natCast, Int.tdiv_eq_ediv_of_nonneg, Int.tmod_eq_emod_of_nonneg, x_bm32]
    refine x_use (d := 991) (h_leastNow hh1 (by omega) hj) ?_
    rintro r σ2 ⟨rfl, tk2, hh2, f2, ct2⟩
    rw [g51] at ct2 ⊢
    have g51' : σ2 51 0 = w := (tk2.1 51 0 (by decide)).trans g51
    have tb := t_rng (ct2.1 (w 8) (Int.le_refl _) n8.2 fr_self).2 (s := 21 * w 10 + w 9) (by omega) (by omega)
    generalize hl : σ2 25 j (42 * w 8 + (21 * w 10 + w 9)) = l at tb
    have e2w : σ2 2 0 = σ1 2 0 := tk2.1 2 0 (by decide)
    -- what is least
    have lst : ∀ (T L' Ym : Int → Int), gT c 5 4 (-1) w L' T (w 8) → (c = 2 → mwy w Ym L') → tg (T (42 * w 8 + (21 * w 10 + w 9))) l := by
      intro T L' Ym gt gm
      have ag := now_ag hw hn cm gt gm ct2
      rw [hl] at ag
      exact ag
    have allD : l = 9223372036854775807 → ∀ p, 0 ≤ p → p < 42 → V p = 9223372036854775807 := by
      intro z p p0 p1
      obtain ⟨r, σ3, ⟨_, e3, hh3, g3, m3⟩, _⟩ := x_ex (h_solveI (c := c) hh2 (by omega))
      rw [g51'] at g3 m3
      have ag := lst _ _ _ g3 m3
      have vN : σ3 59 0 (42 * w 8 + (21 * w 10 + w 9)) = (-9223372036854775808) := by
        rcases ag with y | y
        · exact y.1
        · exact absurd z y.2.2
      have := (vZ_d vz (b := p / 21) (t := p % 21) (by omega) (by omega) (by omega) (by omega)).mpr (fun u y => by
        have zz := (zn _ _ _ g3 m3 _ _ _).mpr y
        rcases (gT_val (f := w 8) (st := w 9) (wd := w 10) hw hn cm g3 m3 (Int.le_refl _) n8.2 fr_self n9 n10 (fun c2 => rc_now hn (m3 c2))) with ⟨y1 | y1, y2⟩
        · exact y1.2 _ ⟨_, _, zz⟩
        · obtain ⟨⟨b, t, y⟩, _⟩ := y1
          have := (y2 b t _ y).2
          omega)
      rw [show 21 * (p / 21) + p % 21 = p by omega] at this
      exact this
    -- the class counts
    have go : ∀ v, ((l = 9223372036854775807 ∧ v = 0) ∨ (¬ l = 9223372036854775807 ∧ v = tcn V l 42)) → x_Sp 999 214 [xR 50 0, xI c] σ2 (fun r2 σ2 => r2 = some (xI v) ∧ iN L S0 σ2) := by
      intro v hv
      have Fx : ∃ F : Int → Int, (∀ p, 0 ≤ F p ∧ F p ≤ 100) ∧ F 0 = 0 ∧ F 42 = v ∧ (∀ p, 0 ≤ p → p < 42 → (¬ l = 9223372036854775807 ∧ V p = l → F (p + 1) = F p + 1) ∧ (¬ (¬ l = 9223372036854775807 ∧ V p = l) → F (p + 1) = F p)) := by
        rcases hv with ⟨z, zv⟩ | ⟨z, zv⟩
        · exact ⟨fun _ => 0, fun _ => by (show (0:Int) ≤ 0 ∧ (0:Int) ≤ 100; omega), rfl, zv.symm, fun p _ _ => ⟨fun y => absurd z y.1, fun _ => rfl⟩⟩
        · refine ⟨fun p => if 0 ≤ p ∧ p ≤ 42 then tcn V l p.toNat else 0, fun p => ?_, rfl, zv.symm, fun p p0 p1 => ?_⟩
          · have := tcn_b (V := V) (l := l) p.toNat
            show 0 ≤ (if 0 ≤ p ∧ p ≤ 42 then tcn V l p.toNat else 0) ∧ (if 0 ≤ p ∧ p ≤ 42 then tcn V l p.toNat else 0) ≤ 100
            split <;> omega
          · show (_ → (if 0 ≤ p + 1 ∧ p + 1 ≤ 42 then tcn V l (p + 1).toNat else 0) = (if 0 ≤ p ∧ p ≤ 42 then tcn V l p.toNat else 0) + 1) ∧ (_ → (if 0 ≤ p + 1 ∧ p + 1 ≤ 42 then tcn V l (p + 1).toNat else 0) = (if 0 ≤ p ∧ p ≤ 42 then tcn V l p.toNat else 0))
            rw [if_pos (by omega), if_pos (by omega), tcn_s p0]
            refine ⟨fun y => by rw [if_pos y.2], fun y => by rw [if_neg (fun q => y ⟨z, q⟩)]; omega⟩
      obtain ⟨F, Fb, F0, F42, Fs⟩ := Fx
      simp (disch := first | omega | (simp only [x_wtI, x_wtJ, x_wtR, x_wtN]; omega) | assumption | (simp (disch := omega) only [x_st_o, x_rd_ne]; first | assumption | omega) | (apply mir_eq; assumption; (intro c h1 h2; simp (disch := omega) only [x_st_o])) | (apply mis_eq; assumption; (intro c h1 h2; simp (disch := omega) only [x_st_o])) | rfl) only [sp_214, bk_214_0, bk_214_1, bk_214_3, bk_214_4, bk_214_5, bk_214_6, bk_214_7, wp_ild1, wk_194, wp_ifne, wp_ic, wp_iret mz_214, wp_ald0, wk_195, wp_lst2, wp_ist4, wp_ist5, wp_fall, wp_ild5, wp_icge, wp_ist6, wp_ild6, wr_50_1, wl_51, wp_cald, wk_192, wp_icgt, wp_ild4, wp_lld2, wp_lc, wp_lcmp, wp_ifeq, wk_197, wk_207, wp_goto, wp_iadd, wp_inc6, wp_inc5, x_clr_I, x_clr_J, x_clr_R, x_clr_U, ct_some, ct_none, lc_lt, lc_ge, lc_gt, lc_le, lc_eq, lc_r, xI_inj, xJ_inj, Option.some.injEq, eq_self, bi_r, bi_0, bi_1, bi_n, Classical.not_not, and_true, true_and, ite_true, ite_false, ↓reduceIte, ↓x_andl, z_le, z_nle, z_lt, z_nlt, z_eq, z_neq, if_pos, if_neg, x_andl, false_and, and_false, or_true, true_or, or_false, false_or, not_true, not_false_iff, x_rd_eq, x_rd_ne, x_st_o, Int.cast_ofNat_Int, Int.ofNat_zero, Int.ofNat_one, not_true_eq_false, not_false_eq_true, if_true, if_false, ite_self, and_self, Int.ofNat_eq_natCast, Int.tdiv_eq_ediv_of_nonneg, Int.tmod_eq_emod_of_nonneg, x_bm32, k_isCount, bi_t]
      refine x_use (d := 991) (h_solveI (c := c) hh2 (by omega)) ?_
      rintro r σ3 ⟨rfl, e3, hh3, g3, m3⟩
      rw [g51'] at g3 m3 ⊢
      have g513 : σ3 51 0 = w := (e3 51 0 (by simp)).trans g51'
      have ag := lst _ _ _ g3 m3
      have m := hh3.2.2.2.1
      have lb : l = 9223372036854775807 ∨ (-600000000000000000 ≤ l ∧ l ≤ 600000000000000000) := by
        have gp := gb_pos (k := w_of w (w 8) 6)
        have := (ct2.1 (w 8) (Int.le_refl _) n8.2 fr_self).2 (21 * w 10 + w 9) (by omega) (by omega)
        rw [hl] at this
        omega
      generalize hv0 : σ3 59 0 (42 * w 8 + (21 * w 10 + w 9)) = v0 at ag
      have hTk : ∀ q, 0 ≤ q → q < w_of w (w 8) 7 → t_bd (-9223372036854775808) w (σ3 59 0) (w_of w (w 8) (8 + q)) := by
        intro q q0 q1
        have kk := wf_k hw (f := w 8) (i := q) n8.1 n8.2 q0 q1
        exact (g3 _ (by omega) (by omega)).1
      have hLb : ∀ b t, s_law w 4 (w 8) (w 9) (w 10) b t → c = 2 → p_end w 5 (w 8) → -170000 ≤ σ3 60 0 (w 8) ∧ σ3 60 0 (w 8) ≤ 170000 := by
        intro b t l' c2 pe
        have := (ym_end hw hn (m3 c2) (Int.le_refl _) n8.2 fr_self n9 n10 (rc_now hn (m3 c2)) l' (pe.elim id (fun z => by omega))).2.1
        omega
      have vd := fun b t (p : 0 ≤ b) (q : b ≤ 1) (p2 : 0 ≤ t) (q2 : t ≤ 20) => vz b t p q p2 q2
      simp (disch := first | omega | (simp only [x_wtI, x_wtJ, x_wtR, x_wtN]; omega) | assumption | (simp (disch := omega) only [x_st_o, x_rd_ne]; first | assumption | omega) | (apply mir_eq; assumption; (intro c h1 h2; simp (disch := omega) only [x_st_o])) | (apply mis_eq; assumption; (intro c h1 h2; simp (disch := omega) only [x_st_o])) | rfl) only [bk_214_0, bk_214_1, bk_214_3, bk_214_4, bk_214_5, bk_214_6, bk_214_7, wp_ild1, wk_194, wp_ifne, wp_ic, wp_iret mz_214, wp_ald0, wk_195, wp_lst2, wp_ist4, wp_ist5, wp_fall, wp_ild5, wp_icge, wp_ist6, wp_ild6, wr_50_1, wl_51, wp_cald, wk_192, wp_icgt, wp_ild4, wp_lld2, wp_lc, wp_lcmp, wp_ifeq, wk_197, wk_207, wp_goto, wp_iadd, wp_inc6, wp_inc5, x_clr_I, x_clr_J, x_clr_R, x_clr_U, ct_some, ct_none, lc_lt, lc_ge, lc_gt, lc_le, lc_eq, lc_r, xI_inj, xJ_inj, Option.some.injEq, eq_self, bi_r, bi_0, bi_1, bi_n, Classical.not_not, and_true, true_and, ite_true, ite_false, ↓reduceIte, ↓x_andl, z_le, z_nle, z_lt, z_nlt, z_eq, z_neq, if_pos, if_neg, x_andl, false_and, and_false, or_true, true_or, or_false, false_or, not_true, not_false_iff, x_rd_eq, x_rd_ne, x_st_o, Int.cast_ofNat_Int, Int.ofNat_zero, Int.ofNat_one, not_true_eq_false, not_false_eq_true, if_true, if_false, ite_self, and_self, Int.ofNat_eq_natCast, Int.tdiv_eq_ediv_of_nonneg, Int.tmod_eq_emod_of_nonneg, x_bm32]
      have f00 : x_Wp 999 214 (x_blk 214 2) [xR 50 0, xI c, xJ v0, xU, xI (F (21 * 0)), xI 0, xU] [] σ3 (fun r2 σ2 => r2 = some (xI v) ∧ iN L S0 σ2) := by
        refine x_lpK (α := x_V) (fun b q => True) (fun b q => x_Wp 999 214 (x_blk 214 2) [xR 50 0, xI c, xJ v0, xU, xI (F (21 * b)), xI b, q] [] σ3 (fun r2 σ2 => r2 = some (xI v) ∧ iN L S0 σ2)) (lo := 0) (hi := 2) (by omega) (a0 := xU) trivial ?_ ?_
        · intro b u b0 b1 _ K
          rw [bk_214_2]
          simp (disch := first | omega | (simp only [x_wtI, x_wtJ, x_wtR, x_wtN]; omega) | assumption | (simp (disch := omega) only [x_st_o, x_rd_ne]; first | assumption | omega) | (apply mir_eq; assumption; (intro c h1 h2; simp (disch := omega) only [x_st_o])) | (apply mis_eq; assumption; (intro c h1 h2; simp (disch := omega) only [x_st_o])) | rfl) only [bk_214_0, bk_214_1, bk_214_4, bk_214_5, bk_214_6, bk_214_7, wp_ild1, wk_194, wp_ifne, wp_ic, wp_iret mz_214, wp_ald0, wk_195, wp_lst2, wp_ist4, wp_ist5, wp_fall, wp_ild5, wp_icge, wp_ist6, wp_ild6, wr_50_1, wl_51, wp_cald, wk_192, wp_icgt, wp_ild4, wp_lld2, wp_lc, wp_lcmp, wp_ifeq, wk_197, wk_207, wp_goto, wp_iadd, wp_inc6, wp_inc5, x_clr_I, x_clr_J, x_clr_R, x_clr_U, ct_some, ct_none, lc_lt, lc_ge, lc_gt, lc_le, lc_eq, lc_r, xI_inj, xJ_inj, Option.some.injEq, eq_self, bi_r, bi_0, bi_1, bi_n, Classical.not_not, and_true, true_and, ite_true, ite_false, ↓reduceIte, ↓x_andl, z_le, z_nle, z_lt, z_nlt, z_eq, z_neq, if_pos, if_neg, x_andl, false_and, and_false, or_true, true_or, or_false, false_or, not_true, not_false_iff, x_rd_eq, x_rd_ne, x_st_o, Int.cast_ofNat_Int, Int.ofNat_zero, Int.ofNat_one, not_true_eq_false, not_false_eq_true, if_true, if_false, ite_self, and_self, Int.ofNat_eq_natCast, Int.tdiv_eq_ediv_of_nonneg, Int.tmod_eq_emod_of_nonneg, x_bm32]
          have es : 21 * b = 21 * b + min 21 (max 0 (w 9 + -20 - w_of w (w 8) 5)) := by omega
          rw [es]
          refine x_lpK (α := Unit) (fun x _ => True) (fun x _ => x_Wp 999 214 (x_blk 214 3) [xR 50 0, xI c, xJ v0, xU, xI (F (21 * b + min 21 (max 0 (w 9 + x - w_of w (w 8) 5)))), xI b, xI x] [] σ3 (fun r2 σ2 => r2 = some (xI v) ∧ iN L S0 σ2)) (lo := -20) (hi := w_of w (w 8) 3 + 1) (by omega) (a0 := ()) trivial ?_ ?_
          · intro x _ x0 x1 _ K2
            have K3 := K2 () trivial
            have fb := Fb (21 * b + min 21 (max 0 (w 9 + x - w_of w (w 8) 5)))
            have flat : (0 ≤ w 9 + x - w_of w (w 8) 5 ∧ w 9 + x - w_of w (w 8) 5 ≤ 20 → ¬ (¬ l = 9223372036854775807 ∧ V (21 * b + (w 9 + x - w_of w (w 8) 5)) = l)) → F (21 * b + min 21 (max 0 (w 9 + (x + 1) - w_of w (w 8) 5))) = F (21 * b + min 21 (max 0 (w 9 + x - w_of w (w 8) 5))) := by
              intro hno
              by_cases ct' : 0 ≤ w 9 + x - w_of w (w 8) 5 ∧ w 9 + x - w_of w (w 8) 5 ≤ 20
              · have := (Fs (21 * b + (w 9 + x - w_of w (w 8) 5)) (by omega) (by omega)).2 (hno ct')
                rw [show 21 * b + min 21 (max 0 (w 9 + (x + 1) - w_of w (w 8) 5)) = 21 * b + (w 9 + x - w_of w (w 8) 5) + 1 by omega, show 21 * b + min 21 (max 0 (w 9 + x - w_of w (w 8) 5)) = 21 * b + (w 9 + x - w_of w (w 8) 5) by omega]
                exact this
              · rw [show 21 * b + min 21 (max 0 (w 9 + (x + 1) - w_of w (w 8) 5)) = 21 * b + min 21 (max 0 (w 9 + x - w_of w (w 8) 5)) by omega]
            by_cases cz : v0 = (-9223372036854775808)
            · have ld : l = 9223372036854775807 := by
                rcases ag with y | y
                · exact y.2
                · exact absurd cz y.2.1
              rw [flat (fun _ z => z.1 ld)] at K3
              generalize F (21 * b + min 21 (max 0 (w 9 + x - w_of w (w 8) 5))) = n at K3 fb
              rw [bk_214_3]
              simp (disch := first | omega | (simp only [x_wtI, x_wtJ, x_wtR, x_wtN]; omega) | assumption | (simp (disch := omega) only [x_st_o, x_rd_ne]; first | assumption | omega) | (apply mir_eq; assumption; (intro c h1 h2; simp (disch := omega) only [x_st_o])) | (apply mis_eq; assumption; (intro c h1 h2; simp (disch := omega) only [x_st_o])) | rfl) only [bk_214_0, bk_214_1, bk_214_4, bk_214_5, bk_214_6, bk_214_7, wp_ild1, wk_194, wp_ifne, wp_ic, wp_iret mz_214, wp_ald0, wk_195, wp_lst2, wp_ist4, wp_ist5, wp_fall, wp_ild5, wp_icge, wp_ist6, wp_ild6, wr_50_1, wl_51, wp_cald, wk_192, wp_icgt, wp_ild4, wp_lld2, wp_lc, wp_lcmp, wp_ifeq, wk_197, wk_207, wp_goto, wp_iadd, wp_inc6, wp_inc5, x_clr_I, x_clr_J, x_clr_R, x_clr_U, ct_some, ct_none, lc_lt, lc_ge, lc_gt, lc_le, lc_eq, lc_r, xI_inj, xJ_inj, Option.some.injEq, eq_self, bi_r, bi_0, bi_1, bi_n, Classical.not_not, and_true, true_and, ite_true, ite_false, ↓reduceIte, ↓x_andl, z_le, z_nle, z_lt, z_nlt, z_eq, z_neq, if_pos, if_neg, x_andl, false_and, and_false, or_true, true_or, or_false, false_or, not_true, not_false_iff, x_rd_eq, x_rd_ne, x_st_o, Int.cast_ofNat_Int, Int.ofNat_zero, Int.ofNat_one, not_true_eq_false, not_false_eq_true, if_true, if_false, ite_self, and_self, Int.ofNat_eq_natCast, Int.tdiv_eq_ediv_of_nonneg, Int.tmod_eq_emod_of_nonneg, x_bm32, g513, k_of, cz]
              rw [cz] at K3
              rw [Int.add_zero]
              exact K3
            · have ev : v0 = l ∧ ¬ l = 9223372036854775807 := by
                rcases ag with y | y
                · exact absurd y.1 cz
                · exact ⟨y.1, y.2.2⟩
              have lb2 := lb.resolve_left ev.2
              obtain ⟨r, σ', ⟨hσ', v1, hr, hv1⟩, ex⟩ := x_ex (h_worthN (σ := σ3) (w := w) (E := 5) (Wd := 4) (f := w 8) (st := w 9) (wd := w 10) (x := x) (b := b) (c := c) g513 m.1 m.2.1 rfl rfl hw n8.1 n8.2 (by omega) (by omega) (by omega) n9 n10 (by omega) (by omega) hTk hLb)
              have hσ2 := hσ'
              subst hσ2
              subst hr
              have gp := gb_pos (k := w_of w (w 8) 6)
              have v1b : v1 = (-9223372036854775808) ∨ (-600000000000000000 ≤ v1 ∧ v1 ≤ 600000000000000000) := by
                rcases wor_z hv1 with ⟨z, _⟩ | ⟨_, z⟩
                · exact Or.inl z
                · exact Or.inr (by omega)
              by_cases c1 : v1 = v0
              · have zz : zst (-9223372036854775808) c 5 4 w (σ' 60 0) (σ' 59 0) (w 8) (w 9) (w 10) b (w 9 + x - w_of w (w 8) 5) v1 := by
                  rcases wor_z hv1 with ⟨z, _⟩ | ⟨z, _⟩
                  · omega
                  · exact z
                have sb := sl_b hw n8.1 n8.2 n9 zz.1.1
                have vv : V (21 * b + (w 9 + x - w_of w (w 8) 5)) = l := by
                  rcases vd b (w 9 + x - w_of w (w 8) 5) (by omega) (by omega) (by omega) (by omega) with y | y
                  · exact absurd ((zn _ _ _ g3 m3 _ _ _).mp zz) (y.2 _)
                  · rw [← y.2.2.2 _ ((zn _ _ _ g3 m3 _ _ _).mp zz), c1, ev.1]
                have fs := (Fs (21 * b + (w 9 + x - w_of w (w 8) 5)) (by omega) (by omega)).1 ⟨ev.2, vv⟩
                rw [show 21 * b + min 21 (max 0 (w 9 + (x + 1) - w_of w (w 8) 5)) = 21 * b + (w 9 + x - w_of w (w 8) 5) + 1 by omega, fs] at K3
                rw [show 21 * b + min 21 (max 0 (w 9 + x - w_of w (w 8) 5)) = 21 * b + (w 9 + x - w_of w (w 8) 5) by omega] at fb ⊢
                generalize F (21 * b + (w 9 + x - w_of w (w 8) 5)) = n at K3 fb
                rw [bk_214_3]
                simp (disch := first | omega | (simp only [x_wtI, x_wtJ, x_wtR, x_wtN]; omega) | assumption | (simp (disch := omega) only [x_st_o, x_rd_ne]; first | assumption | omega) | (apply mir_eq; assumption; (intro c h1 h2; simp (disch := omega) only [x_st_o])) | (apply mis_eq; assumption; (intro c h1 h2; simp (disch := omega) only [x_st_o])) | rfl) only [bk_214_0, bk_214_1, bk_214_4, bk_214_5, bk_214_6, bk_214_7, wp_ild1, wk_194, wp_ifne, wp_ic, wp_iret mz_214, wp_ald0, wk_195, wp_lst2, wp_ist4, wp_ist5, wp_fall, wp_ild5, wp_icge, wp_ist6, wp_ild6, wr_50_1, wl_51, wp_cald, wk_192, wp_icgt, wp_ild4, wp_lld2, wp_lc, wp_lcmp, wp_ifeq, wk_197, wk_207, wp_goto, wp_iadd, wp_inc6, wp_inc5, x_clr_I, x_clr_J, x_clr_R, x_clr_U, ct_some, ct_none, lc_lt, lc_ge, lc_gt, lc_le, lc_eq, lc_r, xI_inj, xJ_inj, Option.some.injEq, eq_self, bi_r, bi_0, bi_1, bi_n, Classical.not_not, and_true, true_and, ite_true, ite_false, ↓reduceIte, ↓x_andl, z_le, z_nle, z_lt, z_nlt, z_eq, z_neq, if_pos, if_neg, x_andl, false_and, and_false, or_true, true_or, or_false, false_or, not_true, not_false_iff, x_rd_eq, x_rd_ne, x_st_o, Int.cast_ofNat_Int, Int.ofNat_zero, Int.ofNat_one, not_true_eq_false, not_false_eq_true, if_true, if_false, ite_self, and_self, Int.ofNat_eq_natCast, Int.tdiv_eq_ediv_of_nonneg, Int.tmod_eq_emod_of_nonneg, x_bm32, g513, k_of, k_stateNow, ex, c1]
                exact K3
              · rw [flat (fun ct' z => by
                  rcases vd b (w 9 + x - w_of w (w 8) 5) (by omega) (by omega) (by omega) (by omega) with y | y
                  · exact z.1 (by rw [← z.2]; exact y.1)
                  · have zz := (zn _ _ _ g3 m3 _ _ _).mpr y.2.2.1
                    rcases wor_z hv1 with ⟨_, q⟩ | ⟨q, _⟩
                    · exact q _ zz
                    · exact c1 (by rw [zst_f zz q, z.2, ev.1]))] at K3
                generalize F (21 * b + min 21 (max 0 (w 9 + x - w_of w (w 8) 5))) = n at K3 fb
                rw [bk_214_3]
                simp (disch := first | omega | (simp only [x_wtI, x_wtJ, x_wtR, x_wtN]; omega) | assumption | (simp (disch := omega) only [x_st_o, x_rd_ne]; first | assumption | omega) | (apply mir_eq; assumption; (intro c h1 h2; simp (disch := omega) only [x_st_o])) | (apply mis_eq; assumption; (intro c h1 h2; simp (disch := omega) only [x_st_o])) | rfl) only [bk_214_0, bk_214_1, bk_214_4, bk_214_5, bk_214_6, bk_214_7, wp_ild1, wk_194, wp_ifne, wp_ic, wp_iret mz_214, wp_ald0, wk_195, wp_lst2, wp_ist4, wp_ist5, wp_fall, wp_ild5, wp_icge, wp_ist6, wp_ild6, wr_50_1, wl_51, wp_cald, wk_192, wp_icgt, wp_ild4, wp_lld2, wp_lc, wp_lcmp, wp_ifeq, wk_197, wk_207, wp_goto, wp_iadd, wp_inc6, wp_inc5, x_clr_I, x_clr_J, x_clr_R, x_clr_U, ct_some, ct_none, lc_lt, lc_ge, lc_gt, lc_le, lc_eq, lc_r, xI_inj, xJ_inj, Option.some.injEq, eq_self, bi_r, bi_0, bi_1, bi_n, Classical.not_not, and_true, true_and, ite_true, ite_false, ↓reduceIte, ↓x_andl, z_le, z_nle, z_lt, z_nlt, z_eq, z_neq, if_pos, if_neg, x_andl, false_and, and_false, or_true, true_or, or_false, false_or, not_true, not_false_iff, x_rd_eq, x_rd_ne, x_st_o, Int.cast_ofNat_Int, Int.ofNat_zero, Int.ofNat_one, not_true_eq_false, not_false_eq_true, if_true, if_false, ite_self, and_self, Int.ofNat_eq_natCast, Int.tdiv_eq_ediv_of_nonneg, Int.tmod_eq_emod_of_nonneg, x_bm32, g513, k_of, k_stateNow, ex]
                rw [Int.add_zero]
                exact K3
          · intro _ _
            have K3 := K (xI (w_of w (w 8) 3 + 1)) trivial
            have key : ∀ n : Nat, 21 * b + min 21 (max 0 (w 9 + (w_of w (w 8) 3 + 1) - w_of w (w 8) 5)) + n ≤ 21 * (b + 1) → F (21 * b + min 21 (max 0 (w 9 + (w_of w (w 8) 3 + 1) - w_of w (w 8) 5)) + n) = F (21 * b + min 21 (max 0 (w 9 + (w_of w (w 8) 3 + 1) - w_of w (w 8) 5))) := by
              intro n
              induction n with
              | zero => intro _; rw [show 21 * b + min 21 (max 0 (w 9 + (w_of w (w 8) 3 + 1) - w_of w (w 8) 5)) + ((0 : Nat) : Int) = 21 * b + min 21 (max 0 (w 9 + (w_of w (w 8) 3 + 1) - w_of w (w 8) 5)) by omega]
              | succ n ih =>
                intro hn'
                have q := (Fs (21 * b + min 21 (max 0 (w 9 + (w_of w (w 8) 3 + 1) - w_of w (w 8) 5)) + n) (by omega) (by omega)).2 (fun z => by
                  have y := vd b (min 21 (max 0 (w 9 + (w_of w (w 8) 3 + 1) - w_of w (w 8) 5)) + n) (by omega) (by omega) (by omega) (by omega)
                  rw [show 21 * b + (min 21 (max 0 (w 9 + (w_of w (w 8) 3 + 1) - w_of w (w 8) 5)) + n) = 21 * b + min 21 (max 0 (w 9 + (w_of w (w 8) 3 + 1) - w_of w (w 8) 5)) + n by omega] at y
                  rcases y with y | y
                  · exact z.1 (by rw [← z.2]; exact y.1)
                  · have := y.2.2.1.1.1.2.2.2
                    omega)
                rw [show 21 * b + min 21 (max 0 (w 9 + (w_of w (w 8) 3 + 1) - w_of w (w 8) 5)) + ((n + 1 : Nat) : Int) = 21 * b + min 21 (max 0 (w 9 + (w_of w (w 8) 3 + 1) - w_of w (w 8) 5)) + n + 1 by omega, q]
                exact ih (by omega)
            have k2 := key (21 * (b + 1) - (21 * b + min 21 (max 0 (w 9 + (w_of w (w 8) 3 + 1) - w_of w (w 8) 5)))).toNat (by omega)
            rw [show 21 * b + min 21 (max 0 (w 9 + (w_of w (w 8) 3 + 1) - w_of w (w 8) 5)) + ((21 * (b + 1) - (21 * b + min 21 (max 0 (w 9 + (w_of w (w 8) 3 + 1) - w_of w (w 8) 5)))).toNat : Int) = 21 * (b + 1) by omega] at k2
            rw [k2] at K3
            rw [bk_214_3]
            simp (disch := first | omega | (simp only [x_wtI, x_wtJ, x_wtR, x_wtN]; omega) | assumption | (simp (disch := omega) only [x_st_o, x_rd_ne]; first | assumption | omega) | (apply mir_eq; assumption; (intro c h1 h2; simp (disch := omega) only [x_st_o])) | (apply mis_eq; assumption; (intro c h1 h2; simp (disch := omega) only [x_st_o])) | rfl) only [bk_214_0, bk_214_1, bk_214_4, bk_214_5, bk_214_6, bk_214_7, wp_ild1, wk_194, wp_ifne, wp_ic, wp_iret mz_214, wp_ald0, wk_195, wp_lst2, wp_ist4, wp_ist5, wp_fall, wp_ild5, wp_icge, wp_ist6, wp_ild6, wr_50_1, wl_51, wp_cald, wk_192, wp_icgt, wp_ild4, wp_lld2, wp_lc, wp_lcmp, wp_ifeq, wk_197, wk_207, wp_goto, wp_iadd, wp_inc6, wp_inc5, x_clr_I, x_clr_J, x_clr_R, x_clr_U, ct_some, ct_none, lc_lt, lc_ge, lc_gt, lc_le, lc_eq, lc_r, xI_inj, xJ_inj, Option.some.injEq, eq_self, bi_r, bi_0, bi_1, bi_n, Classical.not_not, and_true, true_and, ite_true, ite_false, ↓reduceIte, ↓x_andl, z_le, z_nle, z_lt, z_nlt, z_eq, z_neq, if_pos, if_neg, x_andl, false_and, and_false, or_true, true_or, or_false, false_or, not_true, not_false_iff, x_rd_eq, x_rd_ne, x_st_o, Int.cast_ofNat_Int, Int.ofNat_zero, Int.ofNat_one, not_true_eq_false, not_false_eq_true, if_true, if_false, ite_self, and_self, Int.ofNat_eq_natCast, Int.tdiv_eq_ediv_of_nonneg, Int.tmod_eq_emod_of_nonneg, x_bm32, g513, k_of]
            exact K3
        · intro u _
          rw [show (21 : Int) * 2 = 42 by omega, F42, bk_214_2]
          simp (disch := first | omega | (simp only [x_wtI, x_wtJ, x_wtR, x_wtN]; omega) | assumption | (simp (disch := omega) only [x_st_o, x_rd_ne]; first | assumption | omega) | (apply mir_eq; assumption; (intro c h1 h2; simp (disch := omega) only [x_st_o])) | (apply mis_eq; assumption; (intro c h1 h2; simp (disch := omega) only [x_st_o])) | rfl) only [bk_214_0, bk_214_1, bk_214_4, bk_214_5, bk_214_6, bk_214_7, wp_ild1, wk_194, wp_ifne, wp_ic, wp_iret mz_214, wp_ald0, wk_195, wp_lst2, wp_ist4, wp_ist5, wp_fall, wp_ild5, wp_icge, wp_ist6, wp_ild6, wr_50_1, wl_51, wp_cald, wk_192, wp_icgt, wp_ild4, wp_lld2, wp_lc, wp_lcmp, wp_ifeq, wk_197, wk_207, wp_goto, wp_iadd, wp_inc6, wp_inc5, x_clr_I, x_clr_J, x_clr_R, x_clr_U, ct_some, ct_none, lc_lt, lc_ge, lc_gt, lc_le, lc_eq, lc_r, xI_inj, xJ_inj, Option.some.injEq, eq_self, bi_r, bi_0, bi_1, bi_n, Classical.not_not, and_true, true_and, ite_true, ite_false, ↓reduceIte, ↓x_andl, z_le, z_nle, z_lt, z_nlt, z_eq, z_neq, if_pos, if_neg, x_andl, false_and, and_false, or_true, true_or, or_false, false_or, not_true, not_false_iff, x_rd_eq, x_rd_ne, x_st_o, Int.cast_ofNat_Int, Int.ofNat_zero, Int.ofNat_one, not_true_eq_false, not_false_eq_true, if_true, if_false, ite_self, and_self, Int.ofNat_eq_natCast, Int.tdiv_eq_ediv_of_nonneg, Int.tmod_eq_emod_of_nonneg, x_bm32]
          exact hh3
      rw [show (21 : Int) * 0 = 0 by omega, F0] at f00
      exact f00
    simp (disch := first | omega | (simp only [x_wtI, x_wtJ, x_wtR, x_wtN]; omega) | assumption | (simp (disch := omega) only [x_st_o, x_rd_ne]; first | assumption | omega) | (apply mir_eq; assumption; (intro c h1 h2; simp (disch := omega) only [x_st_o])) | (apply mis_eq; assumption; (intro c h1 h2; simp (disch := omega) only [x_st_o])) | rfl) only [bk_116_0, bk_116_1, bk_116_3, bk_116_4, wp_ild1, wk_103, wp_ifne, wp_ic, wp_iret mz_116, wp_ald0, wk_113, wp_ist2, wk_104, wp_lst3, wp_ist5, wp_ist6, wp_fall, wp_ild6, wp_ild2, wp_icge, wr_0_12, wl_2, wp_pald, wp_lld3, wp_lcmp, wp_inc5, wp_inc6, wp_goto, wp_ild5, x_clr_I, x_clr_J, x_clr_R, x_clr_U, ct_some, ct_none, lc_lt, lc_ge, lc_gt, lc_le, lc_eq, lc_r, xI_inj, xJ_inj, Option.some.injEq, eq_self, bi_r, bi_0, bi_1, bi_n, Classical.not_not, and_true, true_and, ite_true, ite_false, ↓reduceIte, ↓x_andl, z_le, z_nle, z_lt, z_nlt, z_eq, z_neq, if_pos, if_neg, x_andl, false_and, and_false, or_true, true_or, or_false, false_or, not_true, not_false_iff, x_rd_eq, x_rd_ne, x_st_o, Int.cast_ofNat_Int, Int.ofNat_zero, Int.ofNat_one, not_true_eq_false, not_false_eq_true, if_true, if_false, ite_self, and_self, Int.ofNat_eq_natCast, Int.tdiv_eq_ediv_of_nonneg, Int.tmod_eq_emod_of_nonneg, x_bm32]
    by_cases ld : l = 9223372036854775807
    · have n0 : N = 0 := by
        have z := ocn_fl (V := V) (a := 0) (b := 42) (by omega) (by omega) (fun p p0 p1 => allD ld p p0 p1)
        have z2 : ocn V (0 : Int).toNat = 0 := rfl
        have z3 : ocn V (42 : Int).toNat = ocn V 42 := rfl
        omega
      subst n0
      rw [bk_116_2]
      simp (disch := first | omega | (simp only [x_wtI, x_wtJ, x_wtR, x_wtN]; omega) | assumption | (simp (disch := omega) only [x_st_o, x_rd_ne]; first | assumption | omega) | (apply mir_eq; assumption; (intro c h1 h2; simp (disch := omega) only [x_st_o])) | (apply mis_eq; assumption; (intro c h1 h2; simp (disch := omega) only [x_st_o])) | rfl) only [bk_116_0, bk_116_1, bk_116_3, bk_116_4, wp_ild1, wk_103, wp_ifne, wp_ic, wp_iret mz_116, wp_ald0, wk_113, wp_ist2, wk_104, wp_lst3, wp_ist5, wp_ist6, wp_fall, wp_ild6, wp_ild2, wp_icge, wr_0_12, wl_2, wp_pald, wp_lld3, wp_lcmp, wp_inc5, wp_inc6, wp_goto, wp_ild5, x_clr_I, x_clr_J, x_clr_R, x_clr_U, ct_some, ct_none, lc_lt, lc_ge, lc_gt, lc_le, lc_eq, lc_r, xI_inj, xJ_inj, Option.some.injEq, eq_self, bi_r, bi_0, bi_1, bi_n, Classical.not_not, and_true, true_and, ite_true, ite_false, ↓reduceIte, ↓x_andl, z_le, z_nle, z_lt, z_nlt, z_eq, z_neq, if_pos, if_neg, x_andl, false_and, and_false, or_true, true_or, or_false, false_or, not_true, not_false_iff, x_rd_eq, x_rd_ne, x_st_o, Int.cast_ofNat_Int, Int.ofNat_zero, Int.ofNat_one, not_true_eq_false, not_false_eq_true, if_true, if_false, ite_self, and_self, Int.ofNat_eq_natCast, Int.tdiv_eq_ediv_of_nonneg, Int.tmod_eq_emod_of_nonneg, x_bm32]
      exact ⟨0, rfl, fun j' i' => by rw [tk_100 tk2 j' i', tk2_100 tk j' i'], go 0 (Or.inl ⟨ld, rfl⟩)⟩
    · refine x_lpK (α := Int) (fun i v => (0 ≤ v ∧ v ≤ i) ∧ ∀ p : Int, 0 ≤ p → p ≤ 42 → ocn V p.toNat = i → v = tcn V l p.toNat) (fun i v => x_Wp 999 116 (x_blk 116 2) [xR 0 0, xI c, xI N, xJ l, xU, xI v, xI i] [] σ2 _) (lo := 0) (hi := N) (by omega) (a0 := 0) ⟨by omega, fun p p0 p1 e => ?_⟩ ?_ ?_
      · have := tcn_eq (V := V) (p := 0) (q := p) ld (by omega) p0 (by rw [e]; rfl)
        rw [this]
        rfl
      · intro i v i0 i1 ⟨j0, j1⟩ K
        obtain ⟨p, pb, pv, pi⟩ := ocn_ex (V := V) i0 42 (by omega)
        have po := (of p pb.1 pb.2 pv).2
        rw [pi, ← e2w] at po
        have vp := j1 p pb.1 (by omega) pi
        have s1 := ocn_s (V := V) pb.1
        rw [if_neg pv, pi] at s1
        have s2 := tcn_s (V := V) (l := l) pb.1
        have nx : ∀ q : Int, 0 ≤ q → q ≤ 42 → ocn V q.toNat = i + 1 → tcn V l q.toNat = tcn V l (p + 1).toNat := by
          intro q q0 q1 e
          refine tcn_eq ld (by omega) ?_ (by rw [s1, e])
          by_cases c : q ≤ p
          · have := ocn_le (V := V) q0 c
            omega
          · omega
        have vb := (vz (p / 21) (p % 21) (by omega) (by omega) (by omega) (by omega)).resolve_left (fun z => pv (by
          have := z.1
          rw [show 21 * (p / 21) + p % 21 = p by omega] at this
          exact this))
        rw [show 21 * (p / 21) + p % 21 = p by omega] at vb
        have vb2 := vb.2.1
        by_cases cl : V p = l
        · rw [if_pos cl] at s2
          have K3 := K (v + 1) ⟨by omega, fun q q0 q1 e => by rw [nx q q0 q1 e]; omega⟩
          rw [cl] at po
          rw [bk_116_2]
          simp (disch := first | omega | (simp only [x_wtI, x_wtJ, x_wtR, x_wtN]; omega) | assumption | (simp (disch := omega) only [x_st_o, x_rd_ne]; first | assumption | omega) | (apply mir_eq; assumption; (intro c h1 h2; simp (disch := omega) only [x_st_o])) | (apply mis_eq; assumption; (intro c h1 h2; simp (disch := omega) only [x_st_o])) | rfl) only [bk_116_0, bk_116_1, bk_116_3, bk_116_4, wp_ild1, wk_103, wp_ifne, wp_ic, wp_iret mz_116, wp_ald0, wk_113, wp_ist2, wk_104, wp_lst3, wp_ist5, wp_ist6, wp_fall, wp_ild6, wp_ild2, wp_icge, wr_0_12, wl_2, wp_pald, wp_lld3, wp_lcmp, wp_inc5, wp_inc6, wp_goto, wp_ild5, x_clr_I, x_clr_J, x_clr_R, x_clr_U, ct_some, ct_none, lc_lt, lc_ge, lc_gt, lc_le, lc_eq, lc_r, xI_inj, xJ_inj, Option.some.injEq, eq_self, bi_r, bi_0, bi_1, bi_n, Classical.not_not, and_true, true_and, ite_true, ite_false, ↓reduceIte, ↓x_andl, z_le, z_nle, z_lt, z_nlt, z_eq, z_neq, if_pos, if_neg, x_andl, false_and, and_false, or_true, true_or, or_false, false_or, not_true, not_false_iff, x_rd_eq, x_rd_ne, x_st_o, Int.cast_ofNat_Int, Int.ofNat_zero, Int.ofNat_one, not_true_eq_false, not_false_eq_true, if_true, if_false, ite_self, and_self, Int.ofNat_eq_natCast, Int.tdiv_eq_ediv_of_nonneg, Int.tmod_eq_emod_of_nonneg, x_bm32, po]
          exact K3
        · rw [if_neg cl] at s2
          have K3 := K v ⟨by omega, fun q q0 q1 e => by rw [nx q q0 q1 e]; omega⟩
          generalize V p = vp' at po cl vb2
          rw [bk_116_2]
          simp (disch := first | omega | (simp only [x_wtI, x_wtJ, x_wtR, x_wtN]; omega) | assumption | (simp (disch := omega) only [x_st_o, x_rd_ne]; first | assumption | omega) | (apply mir_eq; assumption; (intro c h1 h2; simp (disch := omega) only [x_st_o])) | (apply mis_eq; assumption; (intro c h1 h2; simp (disch := omega) only [x_st_o])) | rfl) only [bk_116_0, bk_116_1, bk_116_3, bk_116_4, wp_ild1, wk_103, wp_ifne, wp_ic, wp_iret mz_116, wp_ald0, wk_113, wp_ist2, wk_104, wp_lst3, wp_ist5, wp_ist6, wp_fall, wp_ild6, wp_ild2, wp_icge, wr_0_12, wl_2, wp_pald, wp_lld3, wp_lcmp, wp_inc5, wp_inc6, wp_goto, wp_ild5, x_clr_I, x_clr_J, x_clr_R, x_clr_U, ct_some, ct_none, lc_lt, lc_ge, lc_gt, lc_le, lc_eq, lc_r, xI_inj, xJ_inj, Option.some.injEq, eq_self, bi_r, bi_0, bi_1, bi_n, Classical.not_not, and_true, true_and, ite_true, ite_false, ↓reduceIte, ↓x_andl, z_le, z_nle, z_lt, z_nlt, z_eq, z_neq, if_pos, if_neg, x_andl, false_and, and_false, or_true, true_or, or_false, false_or, not_true, not_false_iff, x_rd_eq, x_rd_ne, x_st_o, Int.cast_ofNat_Int, Int.ofNat_zero, Int.ofNat_one, not_true_eq_false, not_false_eq_true, if_true, if_false, ite_self, and_self, Int.ofNat_eq_natCast, Int.tdiv_eq_ediv_of_nonneg, Int.tmod_eq_emod_of_nonneg, x_bm32, po]
          exact K3
      · intro v ⟨j0, j1⟩
        have ve := j1 42 (by omega) (by omega) hN
        rw [bk_116_2]
        simp (disch := first | omega | (simp only [x_wtI, x_wtJ, x_wtR, x_wtN]; omega) | assumption | (simp (disch := omega) only [x_st_o, x_rd_ne]; first | assumption | omega) | (apply mir_eq; assumption; (intro c h1 h2; simp (disch := omega) only [x_st_o])) | (apply mis_eq; assumption; (intro c h1 h2; simp (disch := omega) only [x_st_o])) | rfl) only [bk_116_0, bk_116_1, bk_116_3, bk_116_4, wp_ild1, wk_103, wp_ifne, wp_ic, wp_iret mz_116, wp_ald0, wk_113, wp_ist2, wk_104, wp_lst3, wp_ist5, wp_ist6, wp_fall, wp_ild6, wp_ild2, wp_icge, wr_0_12, wl_2, wp_pald, wp_lld3, wp_lcmp, wp_inc5, wp_inc6, wp_goto, wp_ild5, x_clr_I, x_clr_J, x_clr_R, x_clr_U, ct_some, ct_none, lc_lt, lc_ge, lc_gt, lc_le, lc_eq, lc_r, xI_inj, xJ_inj, Option.some.injEq, eq_self, bi_r, bi_0, bi_1, bi_n, Classical.not_not, and_true, true_and, ite_true, ite_false, ↓reduceIte, ↓x_andl, z_le, z_nle, z_lt, z_nlt, z_eq, z_neq, if_pos, if_neg, x_andl, false_and, and_false, or_true, true_or, or_false, false_or, not_true, not_false_iff, x_rd_eq, x_rd_ne, x_st_o, Int.cast_ofNat_Int, Int.ofNat_zero, Int.ofNat_one, not_true_eq_false, not_false_eq_true, if_true, if_false, ite_self, and_self, Int.ofNat_eq_natCast, Int.tdiv_eq_ediv_of_nonneg, Int.tmod_eq_emod_of_nonneg, x_bm32]
        exact ⟨v, rfl, fun j' i' => by rw [tk_100 tk2 j' i', tk2_100 tk j' i'], go v (Or.inr ⟨ld, ve⟩)⟩
  · simp (disch := first | omega | (simp only [x_wtI, x_wtJ, x_wtR, x_wtN]; omega) | assumption | (simp (disch := omega) only [x_st_o, x_rd_ne]; first | assumption | omega) | (apply mir_eq; assumption; (intro c h1 h2; simp (disch := omega) only [x_st_o])) | (apply mis_eq; assumption; (intro c h1 h2; simp (disch := omega) only [x_st_o])) | rfl) only [sp_116, bk_116_0, bk_116_1, bk_116_3, bk_116_4, wp_ild1, wk_103, wp_ifne, wp_ic, wp_iret mz_116, wp_ald0, wk_113, wp_ist2, wk_104, wp_lst3, wp_ist5, wp_ist6, wp_fall, wp_ild6, wp_ild2, wp_icge, wr_0_12, wl_2, wp_pald, wp_lld3, wp_lcmp, wp_inc5, wp_inc6, wp_goto, wp_ild5, x_clr_I, x_clr_J, x_clr_R, x_clr_U, ct_some, ct_none, lc_lt, lc_ge, lc_gt, lc_le, lc_eq, lc_r, xI_inj, xJ_inj, Option.some.injEq, eq_self, bi_r, bi_0, bi_1, bi_n, Classical.not_not, and_true, true_and, ite_true, ite_false, ↓reduceIte, ↓x_andl, z_le, z_nle, z_lt, z_nlt, z_eq, z_neq, if_pos, if_neg, x_andl, false_and, and_false, or_true, true_or, or_false, false_or, not_true, not_false_iff, x_rd_eq, x_rd_ne, x_st_o, Int.cast_ofNat_Int, Int.ofNat_zero, Int.ofNat_one, not_true_eq_false, not_false_eq_true, if_true, if_false, ite_self, and_self, Int.ofNat_eq_natCast, Int.tdiv_eq_ediv_of_nonneg, Int.tmod_eq_emod_of_nonneg, x_bm32, k_isMeasure, bi_f]
    refine ⟨-2, rfl, fun _ _ => rfl, ?_⟩
    simp (disch := first | omega | (simp only [x_wtI, x_wtJ, x_wtR, x_wtN]; omega) | assumption | (simp (disch := omega) only [x_st_o, x_rd_ne]; first | assumption | omega) | (apply mir_eq; assumption; (intro c h1 h2; simp (disch := omega) only [x_st_o])) | (apply mis_eq; assumption; (intro c h1 h2; simp (disch := omega) only [x_st_o])) | rfl) only [sp_214, bk_214_0, bk_214_1, bk_214_2, bk_214_3, bk_214_4, bk_214_5, bk_214_6, bk_214_7, wp_ild1, wk_194, wp_ifne, wp_ic, wp_iret mz_214, wp_ald0, wk_195, wp_lst2, wp_ist4, wp_ist5, wp_fall, wp_ild5, wp_icge, wp_ist6, wp_ild6, wr_50_1, wl_51, wp_cald, wk_192, wp_icgt, wp_ild4, wp_lld2, wp_lc, wp_lcmp, wp_ifeq, wk_197, wk_207, wp_goto, wp_iadd, wp_inc6, wp_inc5, x_clr_I, x_clr_J, x_clr_R, x_clr_U, ct_some, ct_none, lc_lt, lc_ge, lc_gt, lc_le, lc_eq, lc_r, xI_inj, xJ_inj, Option.some.injEq, eq_self, bi_r, bi_0, bi_1, bi_n, Classical.not_not, and_true, true_and, ite_true, ite_false, ↓reduceIte, ↓x_andl, z_le, z_nle, z_lt, z_nlt, z_eq, z_neq, if_pos, if_neg, x_andl, false_and, and_false, or_true, true_or, or_false, false_or, not_true, not_false_iff, x_rd_eq, x_rd_ne, x_st_o, Int.cast_ofNat_Int, Int.ofNat_zero, Int.ofNat_one, not_true_eq_false, not_false_eq_true, if_true, if_false, ite_self, and_self, Int.ofNat_eq_natCast, Int.tdiv_eq_ediv_of_nonneg, Int.tmod_eq_emod_of_nonneg, x_bm32, k_isCount, bi_f]
    exact hh
end OT2

/-! the list of steps -/
def ocn (V : Int → Int) : Nat → Int
  | 0 => 0
  | n + 1 => ocn V n + (if V n = 9223372036854775807 then 0 else 1)
section CNT
variable {V : Int → Int}
theorem ocn_s {i : Int} (h : 0 ≤ i) : ocn V (i + 1).toNat = ocn V i.toNat + (if V i = 9223372036854775807 then 0 else 1) := by
  obtain ⟨n, rfl⟩ : ∃ n : Nat, i = n := ⟨i.toNat, by omega⟩
  rw [show ((n : Int) + 1).toNat = n + 1 by omega, show ((n : Int)).toNat = n by omega]
  rfl
theorem ocn_b : ∀ n : Nat, 0 ≤ ocn V n ∧ ocn V n ≤ n
  | 0 => by show (0 : Int) ≤ 0 ∧ (0 : Int) ≤ ((0 : Nat) : Int); omega
  | n + 1 => by
    have i := ocn_b n
    show 0 ≤ ocn V n + (if V n = 9223372036854775807 then 0 else 1) ∧ ocn V n + (if V n = 9223372036854775807 then 0 else 1) ≤ ((n + 1 : Nat) : Int)
    split <;> omega
theorem ocn_le {a b : Int} (h0 : 0 ≤ a) (h : a ≤ b) : ocn V a.toNat ≤ ocn V b.toNat := by
  have key : ∀ n : Nat, ocn V a.toNat ≤ ocn V (a + n).toNat := by
    intro n
    induction n with
    | zero => rw [show a + ((0 : Nat) : Int) = a by omega]; exact Int.le_refl _
    | succ n ih =>
      rw [show a + ((n + 1 : Nat) : Int) = (a + n) + 1 by omega, ocn_s (by omega)]
      split <;> omega
  have := key (b - a).toNat
  rw [show a + ((b - a).toNat : Int) = b by omega] at this
  exact this
theorem ocn_fl {a b : Int} (h0 : 0 ≤ a) (h : a ≤ b) (hv : ∀ p, a ≤ p → p < b → V p = 9223372036854775807) : ocn V b.toNat = ocn V a.toNat := by
  have key : ∀ n : Nat, a + n ≤ b → ocn V (a + n).toNat = ocn V a.toNat := by
    intro n
    induction n with
    | zero => intro _; rw [show a + ((0 : Nat) : Int) = a by omega]
    | succ n ih =>
      intro hn
      rw [show a + ((n + 1 : Nat) : Int) = (a + n) + 1 by omega, ocn_s (by omega), hv (a + n) (by omega) (by omega), if_pos rfl, ih (by omega)]
      omega
  have := key (b - a).toNat (by omega)
  rw [show a + ((b - a).toNat : Int) = b by omega] at this
  exact this
theorem ocn_lt {p q : Int} (h0 : 0 ≤ p) (h : p < q) (hv : ¬ V p = 9223372036854775807) : ocn V p.toNat < ocn V q.toNat := by
  have a := ocn_le (V := V) (a := p + 1) (b := q) (by omega) (by omega)
  rw [ocn_s h0, if_neg hv] at a
  omega
end CNT
def vZ (Z : Int → Int → Int → Prop) (V : Int → Int) : Prop := ∀ b t, 0 ≤ b → b ≤ 1 → 0 ≤ t → t ≤ 20 → (V (21 * b + t) = 9223372036854775807 ∧ ∀ u, ¬ Z b t u) ∨ (¬ V (21 * b + t) = 9223372036854775807 ∧ (-700000000000000000 ≤ V (21 * b + t) ∧ V (21 * b + t) ≤ 700000000000000000) ∧ Z b t (V (21 * b + t)) ∧ ∀ u, Z b t u → u = V (21 * b + t))
theorem h_list {L : Int} {S0 : Int → Int} {σ : x_S} {j : Nat} {c : Int} (hh : iN L S0 σ) (hj : j < 3) (hc : c = j) : x_Sp 7 113 [xR 0 0, xI c] σ (fun r σ' => tabK2 σ σ' ∧ iN L S0 σ' ∧ cT c (σ 51 0) (σ' 25 j) (σ' 26 j) ∧ ∃ V, vZ (zst 9223372036854775807 c 5 4 (σ 51 0) (σ' 26 j) (σ' 25 j) (σ 51 0 8) (σ 51 0 9) (σ 51 0 10)) V ∧ r = some (xI (ocn V 42)) ∧ ∀ p, 0 ≤ p → p < 42 → ¬ V p = 9223372036854775807 → σ' 1 0 (ocn V p.toNat) = p ∧ σ' 2 0 (ocn V p.toNat) = V p) := by
  obtain ⟨w, h51, hw, h100, hn, hq, hM, hS⟩ := iN_w hh
  have a := wf_h hw
  unfold wf_hdr at a
  obtain ⟨n8, n9, n10, _⟩ := id hn
  have o := wf_f hw (f := w 8) (by omega) (by omega)
  unfold wf_one at o
  rw [h51]
  refine x_gen (fun Q hQ => ?_)
  simp (disch := first | omega | (simp only [x_wtI, x_wtJ, x_wtR, x_wtN]; omega) | assumption | (simp (disch := omega) only [x_st_o, x_rd_ne]; first | assumption | omega) | (apply mir_eq; assumption; (intro c h1 h2; simp (disch := omega) only [x_st_o])) | (apply mis_eq; assumption; (intro c h1 h2; simp (disch := omega) only [x_st_o])) | rfl) only [sp_113, bk_113_0, bk_113_2, bk_113_3, bk_113_4, bk_113_5, wp_ald0, wr_0_2, wr_20_0, wp_ast2, wp_ild1, wk_105, wp_ast3, wp_ald3, wp_geti kd_20, wk_3, wp_ic, wp_ist4, wp_ist5, wp_fall, wp_ild5, wp_isub, wp_icgt, wp_ior, wp_ist6, wp_ald2, wp_ild6, wk_68, wp_ist7, wp_ist8, wp_ild8, wp_ild7, wk_69, wp_ist9, wp_ild9, wk_13, wp_lst10, wp_lld10, wp_lc, wp_lcmp, wp_ifeq, wr_0_11, wp_ild4, wp_imul, wp_iadd, ws_1, wr_0_12, ws_2, wp_inc4, wp_inc8, wp_goto, wp_inc5, wp_iret mz_113, x_clr_I, x_clr_J, x_clr_R, x_clr_U, ct_some, ct_none, lc_lt, lc_ge, lc_gt, lc_le, lc_eq, lc_r, xI_inj, xJ_inj, Option.some.injEq, eq_self, bi_r, bi_0, bi_1, bi_n, Classical.not_not, and_true, true_and, ite_true, ite_false, ↓reduceIte, ↓x_andl, z_le, z_nle, z_lt, z_nlt, z_eq, z_neq, if_pos, if_neg, x_andl, false_and, and_false, or_true, true_or, or_false, false_or, not_true, not_false_iff, x_rd_eq, x_rd_ne, x_st_o, Int.cast_ofNat_Int, Int.ofNat_zero, Int.ofNat_one, not_true_eq_false, not_false_eq_true, if_true, if_false, ite_self, and_self, Int.ofNat_eq_natCast, Int.tdiv_eq_ediv_of_nonneg, Int.tmod_eq_emod_of_nonneg, x_bm32]
  refine x_use (d := 0) (h_tab hh hj hc) ?_
  rintro r σ1 ⟨rfl, tk, hh1, f1, ct⟩
  rw [h51] at ct
  have g51 : σ1 51 0 = w := (tk.1 51 0 (by decide)).trans h51
  obtain ⟨w1, h511, _, _, _, _, hM1, hS1⟩ := iN_w hh1
  have ew : w1 = w := h511.symm.trans g51
  subst ew
  have fj := iF_j hh1.2.2.1 hj
  simp (disch := first | omega | (simp only [x_wtI, x_wtJ, x_wtR, x_wtN]; omega) | assumption | (simp (disch := omega) only [x_st_o, x_rd_ne]; first | assumption | omega) | (apply mir_eq; assumption; (intro c h1 h2; simp (disch := omega) only [x_st_o])) | (apply mis_eq; assumption; (intro c h1 h2; simp (disch := omega) only [x_st_o])) | rfl) only [bk_113_0, bk_113_2, bk_113_3, bk_113_4, bk_113_5, wp_ald0, wr_0_2, wr_20_0, wp_ast2, wp_ild1, wk_105, wp_ast3, wp_ald3, wp_geti kd_20, wk_3, wp_ic, wp_ist4, wp_ist5, wp_fall, wp_ild5, wp_isub, wp_icgt, wp_ior, wp_ist6, wp_ald2, wp_ild6, wk_68, wp_ist7, wp_ist8, wp_ild8, wp_ild7, wk_69, wp_ist9, wp_ild9, wk_13, wp_lst10, wp_lld10, wp_lc, wp_lcmp, wp_ifeq, wr_0_11, wp_ild4, wp_imul, wp_iadd, ws_1, wr_0_12, ws_2, wp_inc4, wp_inc8, wp_goto, wp_inc5, wp_iret mz_113, x_clr_I, x_clr_J, x_clr_R, x_clr_U, ct_some, ct_none, lc_lt, lc_ge, lc_gt, lc_le, lc_eq, lc_r, xI_inj, xJ_inj, Option.some.injEq, eq_self, bi_r, bi_0, bi_1, bi_n, Classical.not_not, and_true, true_and, ite_true, ite_false, ↓reduceIte, ↓x_andl, z_le, z_nle, z_lt, z_nlt, z_eq, z_neq, if_pos, if_neg, x_andl, false_and, and_false, or_true, true_or, or_false, false_or, not_true, not_false_iff, x_rd_eq, x_rd_ne, x_st_o, Int.cast_ofNat_Int, Int.ofNat_zero, Int.ofNat_one, not_true_eq_false, not_false_eq_true, if_true, if_false, ite_self, and_self, Int.ofNat_eq_natCast, Int.tdiv_eq_ediv_of_nonneg, Int.tmod_eq_emod_of_nonneg, x_bm32, hS1.1.1]
  refine x_use (d := 3) (h_look (c := c) (E := 5) hM1 (by omega) hw n8.1 n8.2 (by rw [hc]; exact fj.2.2) (by omega) fj.2.1 (by omega) rfl rfl (fun _ => cT_k hw hn ct (by omega) n8.2 fr_self) (cT_L hw hn ct (by omega) n8.2 fr_self)) ?_
  rintro r σ2 ⟨rfl, e2, k2, R, hR, lb⟩
  have hh2 := iN_look hh1 (by omega) e2 k2
  have hM2 : mir σ2 1 w1 := mir_eq hM1 (fun c q1 q2 => e2 c 1 (by simp; omega))
  have hS2 : mis σ2 1 w1 := mis_eq hS1 (fun c q1 q2 => e2 c 1 (by simp; omega))
  have gm : σ2 24 j 3 = c := by rw [k2 3 (by omega), hc]; exact fj.2.2
  have hRb := rok_b hR
  have hs := vsc_b (c := c) (w := w1) (f := w1 8)
  have hk := kpE_b hw (E := 5) (f := w1 8)
  -- the values by place
  have exV : ∀ p, ∃ v, 0 ≤ p → p < 42 → (¬ s_law w1 4 (w1 8) (w1 9) (w1 10) (p / 21) (p % 21) ∧ v = 9223372036854775807) ∨ (s_law w1 4 (w1 8) (w1 9) (w1 10) (p / 21) (p % 21) ∧ v = wgh w1 c (v_sc c w1 (w1 8)) (kpE w1 5 (w1 8)) R (w1 8) (p % 21 + w_of w1 (w1 8) 5 - w1 9) (p / 21) (p % 21) (p_or (w1 10) (p / 21))) := by
    intro p
    by_cases l : s_law w1 4 (w1 8) (w1 9) (w1 10) (p / 21) (p % 21)
    · exact ⟨_, fun _ _ => Or.inr ⟨l, rfl⟩⟩
    · exact ⟨9223372036854775807, fun _ _ => Or.inl ⟨l, rfl⟩⟩
  obtain ⟨V, hV⟩ := Classical.axiomOfChoice exV
  have Vb : ∀ b t, 0 ≤ b → b ≤ 1 → 0 ≤ t → t ≤ 20 → (¬ s_law w1 4 (w1 8) (w1 9) (w1 10) b t ∧ V (21 * b + t) = 9223372036854775807) ∨ (s_law w1 4 (w1 8) (w1 9) (w1 10) b t ∧ V (21 * b + t) = wgh w1 c (v_sc c w1 (w1 8)) (kpE w1 5 (w1 8)) R (w1 8) (t + w_of w1 (w1 8) 5 - w1 9) b t (p_or (w1 10) b)) := by
    intro b t p q p2 q2
    have z := hV (21 * b + t) (by omega) (by omega)
    rw [show (21 * b + t) / 21 = b by omega, show (21 * b + t) % 21 = t by omega] at z
    exact z
  have vz : vZ (zst 9223372036854775807 c 5 4 w1 (σ1 26 j) (σ1 25 j) (w1 8) (w1 9) (w1 10)) V := by
    intro b t p q p2 q2
    rcases Vb b t p q p2 q2 with ⟨l, e⟩ | ⟨l, e⟩
    · exact Or.inl ⟨e, fun u z => l z.1.1⟩
    · have sb := sl_b hw n8.1 n8.2 n9 l
      have po := p_or_01 (a := w1 10) (b := b)
      have wb := wgh_b (c := c) (x := t + w_of w1 (w1 8) 5 - w1 9) (b := b) (t := t) (l := p_or (w1 10) b) hw n8.1 n8.2 hRb hs hk (by omega) (by omega) (by omega) (by omega)
      rw [← e] at wb
      have zz : ∀ u, zst 9223372036854775807 c 5 4 w1 (σ1 26 j) (σ1 25 j) (w1 8) (w1 9) (w1 10) b t u ↔ (s_law w1 4 (w1 8) (w1 9) (w1 10) b t ∧ ¬ R (21 * p_or (w1 10) b + t) = 9223372036854775807 ∧ u = V (21 * b + t)) := by
        intro u
        rw [← zcl_zst hw n8.1 n8.2 n9 hR, zcl_w, e]
      rcases wb with ⟨z1, z2⟩ | ⟨z1, z2⟩
      · exact Or.inl ⟨z2, fun u z => ((zz u).mp z).2.1 z1⟩
      · exact Or.inr ⟨by omega, z2, (zz _).mpr ⟨l, z1, rfl⟩, fun u z => ((zz u).mp z).2.2⟩
  simp (disch := first | omega | (simp only [x_wtI, x_wtJ, x_wtR, x_wtN]; omega) | assumption | (simp (disch := omega) only [x_st_o, x_rd_ne]; first | assumption | omega) | (apply mir_eq; assumption; (intro c h1 h2; simp (disch := omega) only [x_st_o])) | (apply mis_eq; assumption; (intro c h1 h2; simp (disch := omega) only [x_st_o])) | rfl) only [bk_113_0, bk_113_2, bk_113_3, bk_113_4, bk_113_5, wp_ald0, wr_0_2, wr_20_0, wp_ast2, wp_ild1, wk_105, wp_ast3, wp_ald3, wp_geti kd_20, wk_3, wp_ic, wp_ist4, wp_ist5, wp_fall, wp_ild5, wp_isub, wp_icgt, wp_ior, wp_ist6, wp_ald2, wp_ild6, wk_68, wp_ist7, wp_ist8, wp_ild8, wp_ild7, wk_69, wp_ist9, wp_ild9, wk_13, wp_lst10, wp_lld10, wp_lc, wp_lcmp, wp_ifeq, wr_0_11, wp_ild4, wp_imul, wp_iadd, ws_1, wr_0_12, ws_2, wp_inc4, wp_inc8, wp_goto, wp_inc5, wp_iret mz_113, x_clr_I, x_clr_J, x_clr_R, x_clr_U, ct_some, ct_none, lc_lt, lc_ge, lc_gt, lc_le, lc_eq, lc_r, xI_inj, xJ_inj, Option.some.injEq, eq_self, bi_r, bi_0, bi_1, bi_n, Classical.not_not, and_true, true_and, ite_true, ite_false, ↓reduceIte, ↓x_andl, z_le, z_nle, z_lt, z_nlt, z_eq, z_neq, if_pos, if_neg, x_andl, false_and, and_false, or_true, true_or, or_false, false_or, not_true, not_false_iff, x_rd_eq, x_rd_ne, x_st_o, Int.cast_ofNat_Int, Int.ofNat_zero, Int.ofNat_one, not_true_eq_false, not_false_eq_true, if_true, if_false, ite_self, and_self, Int.ofNat_eq_natCast, Int.tdiv_eq_ediv_of_nonneg, Int.tmod_eq_emod_of_nonneg, x_bm32]
  refine x_lpK (α := x_S × x_V × x_V × x_V × x_V × x_V) (fun b q => x_eqo [(1, 0), (2, 0)] σ2 q.1 ∧ ∀ p, 0 ≤ p → p < 21 * b → ¬ V p = 9223372036854775807 → q.1 1 0 (ocn V p.toNat) = p ∧ q.1 2 0 (ocn V p.toNat) = V p) (fun b q => x_Wp 7 113 (x_blk 113 1) [xR 0 0, xI c, xR 6 1, xR 24 j, xI (ocn V (21 * b).toNat), xI b, q.2.1, q.2.2.1, q.2.2.2.1, q.2.2.2.2.1, q.2.2.2.2.2, xU] [] q.1 Q) (lo := 0) (hi := 2 - w1 10) (by omega) (a0 := (σ2, xU, xU, xU, xU, xU)) ⟨eqo_refl, fun p p0 p1 => by omega⟩ ?_ ?_
  · intro b ⟨σb, u6, u7, u8, u9, u10⟩ b0 b1 ⟨j1, j2⟩ K
    simp only at j1 j2 ⊢
    have hMb : mir σb 1 w1 := mir_eq hM2 (fun c q1 q2 => j1 c 1 (by simp))
    have hSb : mis σb 1 w1 := mis_eq hS2 (fun c q1 q2 => j1 c 1 (by simp))
    have po := p_or_01 (a := w1 10) (b := b)
    have rb := room_b hw (l := p_or (w1 10) b)
    have hx := x_or_p (a := w1 10) (b := b) n10 (by omega)
    obtain ⟨full, hfull⟩ : ∃ full, full = min (p_room w1 (p_or (w1 10) b)) (w1 9 + w_of w1 (w1 8) 3 - w_of w1 (w1 8) 5) := ⟨_, rfl⟩
    rw [bk_113_1]
    simp (disch := first | omega | (simp only [x_wtI, x_wtJ, x_wtR, x_wtN]; omega) | assumption | (simp (disch := omega) only [x_st_o, x_rd_ne]; first | assumption | omega) | (apply mir_eq; assumption; (intro c h1 h2; simp (disch := omega) only [x_st_o])) | (apply mis_eq; assumption; (intro c h1 h2; simp (disch := omega) only [x_st_o])) | rfl) only [bk_113_0, bk_113_3, bk_113_4, bk_113_5, wp_ald0, wr_0_2, wr_20_0, wp_ast2, wp_ild1, wk_105, wp_ast3, wp_ald3, wp_geti kd_20, wk_3, wp_ic, wp_ist4, wp_ist5, wp_fall, wp_ild5, wp_isub, wp_icgt, wp_ior, wp_ist6, wp_ald2, wp_ild6, wk_68, wp_ist7, wp_ist8, wp_ild8, wp_ild7, wk_69, wp_ist9, wp_ild9, wk_13, wp_lst10, wp_lld10, wp_lc, wp_lcmp, wp_ifeq, wr_0_11, wp_ild4, wp_imul, wp_iadd, ws_1, wr_0_12, ws_2, wp_inc4, wp_inc8, wp_goto, wp_inc5, wp_iret mz_113, x_clr_I, x_clr_J, x_clr_R, x_clr_U, ct_some, ct_none, lc_lt, lc_ge, lc_gt, lc_le, lc_eq, lc_r, xI_inj, xJ_inj, Option.some.injEq, eq_self, bi_r, bi_0, bi_1, bi_n, Classical.not_not, and_true, true_and, ite_true, ite_false, ↓reduceIte, ↓x_andl, z_le, z_nle, z_lt, z_nlt, z_eq, z_neq, if_pos, if_neg, x_andl, false_and, and_false, or_true, true_or, or_false, false_or, not_true, not_false_iff, x_rd_eq, x_rd_ne, x_st_o, Int.cast_ofNat_Int, Int.ofNat_zero, Int.ofNat_one, not_true_eq_false, not_false_eq_true, if_true, if_false, ite_self, and_self, Int.ofNat_eq_natCast, Int.tdiv_eq_ediv_of_nonneg, Int.tmod_eq_emod_of_nonneg, x_bm32, hSb.1.1, hSb.1.2.1, hSb.1.2.2.1, hx, k_fullest hMb hw]
    rw [← hfull]
    have e0 : (21 * b).toNat = (21 * b + 0).toNat := by omega
    rw [e0]
    refine x_lpK (α := x_S × x_V × x_V) (fun t q => x_eqo [(1, 0), (2, 0)] σ2 q.1 ∧ ∀ p, 0 ≤ p → p < 21 * b + t → ¬ V p = 9223372036854775807 → q.1 1 0 (ocn V p.toNat) = p ∧ q.1 2 0 (ocn V p.toNat) = V p) (fun t q => x_Wp 7 113 (x_blk 113 2) [xR 0 0, xI c, xR 6 1, xR 24 j, xI (ocn V (21 * b + t).toNat), xI b, xI (p_or (w1 10) b), xI full, xI t, q.2.1, q.2.2, xU] [] q.1 Q) (lo := 0) (hi := max 0 (full + 1)) (by omega) (a0 := (σb, u9, u10)) ⟨j1, fun p p0 p1 => j2 p p0 (by omega)⟩ ?_ ?_
    · intro t ⟨σt, v9, v10⟩ t0 t1 ⟨m1, m2⟩ K2
      simp only at m1 m2 ⊢
      have hMt : mir σt 1 w1 := mir_eq hM2 (fun c q1 q2 => m1 c 1 (by simp))
      have hSt : mis σt 1 w1 := mis_eq hS2 (fun c q1 q2 => m1 c 1 (by simp))
      have law : s_law w1 4 (w1 8) (w1 9) (w1 10) b t := ⟨by
        by_cases q : b = 0
        · exact Or.inl q
        · exact Or.inr ⟨by omega, by omega, by omega⟩, t0, by omega, by omega⟩
      have sb := sl_b hw n8.1 n8.2 n9 law
      have ev : V (21 * b + t) = wgh w1 c (v_sc c w1 (w1 8)) (kpE w1 5 (w1 8)) R (w1 8) (t + w_of w1 (w1 8) 5 - w1 9) b t (p_or (w1 10) b) := by
        rcases Vb b t (by omega) (by omega) (by omega) (by omega) with z | z
        · exact absurd law z.1
        · exact z.2
      have lbt : lbk w1 (v_sc c w1 (w1 8)) (kpE w1 5 (w1 8)) R σt j (w1 8) := by
        unfold lbk
        rw [m1 24 j (by simp), m1 27 j (by simp)]
        exact lb
      have kw := fun (Q' : Option x_V → x_S → Prop) => k_weigh (σ := σt) (d := 6) (Q := Q') (c := c) (x := t + w_of w1 (w1 8) 5 - w1 9) (b := b) (t := t) (l := p_or (w1 10) b) (j := j) (by omega) hw n8.1 n8.2 (by rw [m1 24 j (by simp)]; exact gm) (by omega) lbt hRb hs hk (by omega) (by omega) (by omega) (by omega)
      rw [← ev] at kw
      have cs := ocn_s (V := V) (i := 21 * b + t) (by omega)
      have cb := ocn_b (V := V) (21 * b + t).toNat
      have vzt := vz b t (by omega) (by omega) (by omega) (by omega)
      rw [show 21 * b + t + 1 = 21 * b + (t + 1) by omega] at cs
      by_cases cd : V (21 * b + t) = 9223372036854775807
      · rw [if_pos cd, Int.add_zero] at cs
        have K3 := K2 (σt, xI (t + w_of w1 (w1 8) 5 - w1 9), xJ 9223372036854775807) ⟨m1, fun p p0 p1 pv => by
          by_cases cp : p = 21 * b + t
          · rw [cp] at pv
            exact absurd cd pv
          · exact m2 p p0 (by omega) pv⟩
        simp only at K3
        rw [cs] at K3
        rw [cd] at kw
        rw [bk_113_2]
        simp (disch := first | omega | (simp only [x_wtI, x_wtJ, x_wtR, x_wtN]; omega) | assumption | (simp (disch := omega) only [x_st_o, x_rd_ne]; first | assumption | omega) | (apply mir_eq; assumption; (intro c h1 h2; simp (disch := omega) only [x_st_o])) | (apply mis_eq; assumption; (intro c h1 h2; simp (disch := omega) only [x_st_o])) | rfl) only [bk_113_0, bk_113_3, bk_113_4, bk_113_5, wp_ald0, wr_0_2, wr_20_0, wp_ast2, wp_ild1, wk_105, wp_ast3, wp_ald3, wp_geti kd_20, wk_3, wp_ic, wp_ist4, wp_ist5, wp_fall, wp_ild5, wp_isub, wp_icgt, wp_ior, wp_ist6, wp_ald2, wp_ild6, wk_68, wp_ist7, wp_ist8, wp_ild8, wp_ild7, wk_69, wp_ist9, wp_ild9, wk_13, wp_lst10, wp_lld10, wp_lc, wp_lcmp, wp_ifeq, wr_0_11, wp_ild4, wp_imul, wp_iadd, ws_1, wr_0_12, ws_2, wp_inc4, wp_inc8, wp_goto, wp_inc5, wp_iret mz_113, x_clr_I, x_clr_J, x_clr_R, x_clr_U, ct_some, ct_none, lc_lt, lc_ge, lc_gt, lc_le, lc_eq, lc_r, xI_inj, xJ_inj, Option.some.injEq, eq_self, bi_r, bi_0, bi_1, bi_n, Classical.not_not, and_true, true_and, ite_true, ite_false, ↓reduceIte, ↓x_andl, z_le, z_nle, z_lt, z_nlt, z_eq, z_neq, if_pos, if_neg, x_andl, false_and, and_false, or_true, true_or, or_false, false_or, not_true, not_false_iff, x_rd_eq, x_rd_ne, x_st_o, Int.cast_ofNat_Int, Int.ofNat_zero, Int.ofNat_one, not_true_eq_false, not_false_eq_true, if_true, if_false, ite_self, and_self, Int.ofNat_eq_natCast, Int.tdiv_eq_ediv_of_nonneg, Int.tmod_eq_emod_of_nonneg, x_bm32, hSt.1.1, hSt.1.2.1, k_boughtFor hMt hw, kw]
        exact K3
      · rw [if_neg cd] at cs
        have vb := (vzt.resolve_left (fun z => cd z.1)).2.1
        have K3 := K2 (x_st (x_st σt 1 0 (ocn V (21 * b + t).toNat) (b * 21 + t)) 2 0 (ocn V (21 * b + t).toNat) (V (21 * b + t)), xI (t + w_of w1 (w1 8) 5 - w1 9), xJ (V (21 * b + t))) ⟨eqo_st (by simp) (eqo_st (by simp) m1), fun p p0 p1 pv => by
          show x_st (x_st σt 1 0 (ocn V (21 * b + t).toNat) (b * 21 + t)) 2 0 (ocn V (21 * b + t).toNat) (V (21 * b + t)) 1 0 (ocn V p.toNat) = p ∧ x_st (x_st σt 1 0 (ocn V (21 * b + t).toNat) (b * 21 + t)) 2 0 (ocn V (21 * b + t).toNat) (V (21 * b + t)) 2 0 (ocn V p.toNat) = V p
          by_cases cp : p = 21 * b + t
          · subst cp
            rw [x_st_o (by omega), x_rd_eq, x_rd_eq]
            exact ⟨by omega, rfl⟩
          · have lt := ocn_lt (V := V) (q := 21 * b + t) p0 (by omega) pv
            rw [x_st_o (by omega), x_rd_ne (by omega), x_rd_ne (by omega), x_st_o (by omega)]
            exact m2 p p0 (by omega) pv⟩
        simp only at K3
        rw [cs] at K3
        generalize ocn V (21 * b + t).toNat = n at K3 cb
        generalize V (21 * b + t) = v at K3 kw cd vb
        rw [bk_113_2]
        simp (disch := first | omega | (simp only [x_wtI, x_wtJ, x_wtR, x_wtN]; omega) | assumption | (simp (disch := omega) only [x_st_o, x_rd_ne]; first | assumption | omega) | (apply mir_eq; assumption; (intro c h1 h2; simp (disch := omega) only [x_st_o])) | (apply mis_eq; assumption; (intro c h1 h2; simp (disch := omega) only [x_st_o])) | rfl) only [bk_113_0, bk_113_3, bk_113_4, bk_113_5, wp_ald0, wr_0_2, wr_20_0, wp_ast2, wp_ild1, wk_105, wp_ast3, wp_ald3, wp_geti kd_20, wk_3, wp_ic, wp_ist4, wp_ist5, wp_fall, wp_ild5, wp_isub, wp_icgt, wp_ior, wp_ist6, wp_ald2, wp_ild6, wk_68, wp_ist7, wp_ist8, wp_ild8, wp_ild7, wk_69, wp_ist9, wp_ild9, wk_13, wp_lst10, wp_lld10, wp_lc, wp_lcmp, wp_ifeq, wr_0_11, wp_ild4, wp_imul, wp_iadd, ws_1, wr_0_12, ws_2, wp_inc4, wp_inc8, wp_goto, wp_inc5, wp_iret mz_113, x_clr_I, x_clr_J, x_clr_R, x_clr_U, ct_some, ct_none, lc_lt, lc_ge, lc_gt, lc_le, lc_eq, lc_r, xI_inj, xJ_inj, Option.some.injEq, eq_self, bi_r, bi_0, bi_1, bi_n, Classical.not_not, and_true, true_and, ite_true, ite_false, ↓reduceIte, ↓x_andl, z_le, z_nle, z_lt, z_nlt, z_eq, z_neq, if_pos, if_neg, x_andl, false_and, and_false, or_true, true_or, or_false, false_or, not_true, not_false_iff, x_rd_eq, x_rd_ne, x_st_o, Int.cast_ofNat_Int, Int.ofNat_zero, Int.ofNat_one, not_true_eq_false, not_false_eq_true, if_true, if_false, ite_self, and_self, Int.ofNat_eq_natCast, Int.tdiv_eq_ediv_of_nonneg, Int.tmod_eq_emod_of_nonneg, x_bm32, hSt.1.1, hSt.1.2.1, k_boughtFor hMt hw, kw]
        exact K3
    · intro ⟨σt, v9, v10⟩ ⟨m1, m2⟩
      simp only at m1 m2 ⊢
      have flat : ∀ p, 21 * b + max 0 (full + 1) ≤ p → p < 21 * (b + 1) → V p = 9223372036854775807 := by
        intro p p0 p1
        rcases Vb b (p - 21 * b) (by omega) (by omega) (by omega) (by omega) with ⟨_, z⟩ | ⟨⟨_, _, z1, z2⟩, _⟩
        · rw [show 21 * b + (p - 21 * b) = p by omega] at z
          exact z
        · omega
      have cf := ocn_fl (V := V) (a := 21 * b + max 0 (full + 1)) (b := 21 * (b + 1)) (by omega) (by omega) flat
      have K3 := K (σt, xI (p_or (w1 10) b), xI full, xI (max 0 (full + 1)), v9, v10) ⟨m1, fun p p0 p1 pv => by
        by_cases cp : p < 21 * b + max 0 (full + 1)
        · exact m2 p p0 cp pv
        · exact absurd (flat p (by omega) p1) pv⟩
      simp only at K3
      rw [cf] at K3
      rw [bk_113_2]
      simp (disch := first | omega | (simp only [x_wtI, x_wtJ, x_wtR, x_wtN]; omega) | assumption | (simp (disch := omega) only [x_st_o, x_rd_ne]; first | assumption | omega) | (apply mir_eq; assumption; (intro c h1 h2; simp (disch := omega) only [x_st_o])) | (apply mis_eq; assumption; (intro c h1 h2; simp (disch := omega) only [x_st_o])) | rfl) only [bk_113_0, bk_113_3, bk_113_4, bk_113_5, wp_ald0, wr_0_2, wr_20_0, wp_ast2, wp_ild1, wk_105, wp_ast3, wp_ald3, wp_geti kd_20, wk_3, wp_ic, wp_ist4, wp_ist5, wp_fall, wp_ild5, wp_isub, wp_icgt, wp_ior, wp_ist6, wp_ald2, wp_ild6, wk_68, wp_ist7, wp_ist8, wp_ild8, wp_ild7, wk_69, wp_ist9, wp_ild9, wk_13, wp_lst10, wp_lld10, wp_lc, wp_lcmp, wp_ifeq, wr_0_11, wp_ild4, wp_imul, wp_iadd, ws_1, wr_0_12, ws_2, wp_inc4, wp_inc8, wp_goto, wp_inc5, wp_iret mz_113, x_clr_I, x_clr_J, x_clr_R, x_clr_U, ct_some, ct_none, lc_lt, lc_ge, lc_gt, lc_le, lc_eq, lc_r, xI_inj, xJ_inj, Option.some.injEq, eq_self, bi_r, bi_0, bi_1, bi_n, Classical.not_not, and_true, true_and, ite_true, ite_false, ↓reduceIte, ↓x_andl, z_le, z_nle, z_lt, z_nlt, z_eq, z_neq, if_pos, if_neg, x_andl, false_and, and_false, or_true, true_or, or_false, false_or, not_true, not_false_iff, x_rd_eq, x_rd_ne, x_st_o, Int.cast_ofNat_Int, Int.ofNat_zero, Int.ofNat_one, not_true_eq_false, not_false_eq_true, if_true, if_false, ite_self, and_self, Int.ofNat_eq_natCast, Int.tdiv_eq_ediv_of_nonneg, Int.tmod_eq_emod_of_nonneg, x_bm32]
      exact K3
  · intro ⟨σb, u6, u7, u8, u9, u10⟩ ⟨j1, j2⟩
    simp only at j1 j2 ⊢
    have hSb : mis σb 1 w1 := mis_eq hS2 (fun c q1 q2 => j1 c 1 (by simp))
    have flat : ∀ p, 21 * (2 - w1 10) ≤ p → p < 42 → V p = 9223372036854775807 := by
      intro p p0 p1
      rcases Vb (p / 21) (p % 21) (by omega) (by omega) (by omega) (by omega) with ⟨_, z⟩ | ⟨⟨z, _⟩, _⟩
      · rw [show 21 * (p / 21) + p % 21 = p by omega] at z
        exact z
      · omega
    have cf := ocn_fl (V := V) (a := 21 * (2 - w1 10)) (b := 42) (by omega) (by omega) flat
    have cf2 : ocn V (21 * (2 - w1 10)).toNat = ocn V 42 := cf.symm
    rw [cf2, bk_113_1]
    simp (disch := first | omega | (simp only [x_wtI, x_wtJ, x_wtR, x_wtN]; omega) | assumption | (simp (disch := omega) only [x_st_o, x_rd_ne]; first | assumption | omega) | (apply mir_eq; assumption; (intro c h1 h2; simp (disch := omega) only [x_st_o])) | (apply mis_eq; assumption; (intro c h1 h2; simp (disch := omega) only [x_st_o])) | rfl) only [bk_113_0, bk_113_3, bk_113_4, bk_113_5, wp_ald0, wr_0_2, wr_20_0, wp_ast2, wp_ild1, wk_105, wp_ast3, wp_ald3, wp_geti kd_20, wk_3, wp_ic, wp_ist4, wp_ist5, wp_fall, wp_ild5, wp_isub, wp_icgt, wp_ior, wp_ist6, wp_ald2, wp_ild6, wk_68, wp_ist7, wp_ist8, wp_ild8, wp_ild7, wk_69, wp_ist9, wp_ild9, wk_13, wp_lst10, wp_lld10, wp_lc, wp_lcmp, wp_ifeq, wr_0_11, wp_ild4, wp_imul, wp_iadd, ws_1, wr_0_12, ws_2, wp_inc4, wp_inc8, wp_goto, wp_inc5, wp_iret mz_113, x_clr_I, x_clr_J, x_clr_R, x_clr_U, ct_some, ct_none, lc_lt, lc_ge, lc_gt, lc_le, lc_eq, lc_r, xI_inj, xJ_inj, Option.some.injEq, eq_self, bi_r, bi_0, bi_1, bi_n, Classical.not_not, and_true, true_and, ite_true, ite_false, ↓reduceIte, ↓x_andl, z_le, z_nle, z_lt, z_nlt, z_eq, z_neq, if_pos, if_neg, x_andl, false_and, and_false, or_true, true_or, or_false, false_or, not_true, not_false_iff, x_rd_eq, x_rd_ne, x_st_o, Int.cast_ofNat_Int, Int.ofNat_zero, Int.ofNat_one, not_true_eq_false, not_false_eq_true, if_true, if_false, ite_self, and_self, Int.ofNat_eq_natCast, Int.tdiv_eq_ediv_of_nonneg, Int.tmod_eq_emod_of_nonneg, x_bm32, hSb.1.2.2.1]
    have eS : x_eqo ((1, 0) :: (2, 0) :: tabS) σ1 σb := by
      have m : ∀ p ∈ [(24, j), (27, j)], p ∈ (1, 0) :: (2, 0) :: tabS := by
        have : j = 0 ∨ j = 1 ∨ j = 2 := by omega
        rcases this with rfl | rfl | rfl <;> decide
      exact eqo_trans (eqo_mono m e2) (eqo_mono (by decide) j1)
    have tk2 : tabK2 σ1 σb := ⟨eS, fun k hk => by rw [j1 0 0 (by simp), e2 0 0 (by simp)], fun j' k hj' hk => by
      rw [j1 24 j' (by simp)]
      by_cases c : j' = j
      · rw [c]
        exact k2 k hk
      · rw [e2 24 j' (by simp [c])]⟩
    have e25 : σb 25 j = σ1 25 j := by rw [j1 25 j (by simp), e2 25 j (by simp)]
    have e26 : σb 26 j = σ1 26 j := by rw [j1 26 j (by simp), e2 26 j (by simp)]
    refine hQ _ _ ⟨⟨eqo_trans (eqo_mono (by decide) tk.1) tk2.1, fun k hk => by rw [tk2.2.1 k hk, tk.2.1 k hk], fun j k hj hk => by rw [tk2.2.2 j k hj hk, tk.2.2 j k hj hk]⟩, iN_e hh2 j1 (by decide), by rw [e25, e26]; exact ct, V, by rw [e25, e26]; exact vz, rfl, fun p p0 p1 pv => ?_⟩
    by_cases cp : p < 21 * (2 - w1 10)
    · exact j2 p p0 cp pv
    · exact absurd (flat p (by omega) p1) pv
theorem tk2_100 {σ σ' : x_S} (tk : tabK2 σ σ') : x_f100 σ σ' := fun j i => by rw [tk.1 100 j (by unfold tabS; simp)]

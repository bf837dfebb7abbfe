/-! one fork of the class's ways -/
theorem ml_minadd {mk v u : Int} {S : Int → Prop} (h : x_ml mk S v) (b : ∀ z, S z → z < mk) (hu : u < mk) : x_ml mk (fun z => S z ∨ z = u) (min v u) := by
  have m := ml_add (u := u) h (fun z q => by have := b z q; omega)
  have e : (if v = mk ∨ u < v then u else v) = min v u := by
    split <;> omega
  rw [e] at m
  exact m
theorem ml_minG {mk v1 v2 : Int} {S1 S2 : Int → Prop} (h1 : x_ml mk S1 v1) (h2 : x_ml mk S2 v2) (b1 : ∀ z, S1 z → z < mk) (b2 : ∀ z, S2 z → z < mk) : x_ml mk (fun z => S1 z ∨ S2 z) (min v1 v2) := by
  rcases h1 with ⟨a, n1⟩ | ⟨a, n1⟩
  · rcases h2 with ⟨c, n2⟩ | ⟨c, n2⟩
    · exact Or.inl ⟨by omega, fun u z => z.elim (n1 u) (n2 u)⟩
    · have := b2 _ c
      rw [show min v1 v2 = v2 by omega]
      exact Or.inr ⟨Or.inr c, fun u z => z.elim (fun y => absurd y (n1 u)) (n2 u)⟩
  · have l1 := b1 _ a
    rcases h2 with ⟨c, n2⟩ | ⟨c, n2⟩
    · rw [show min v1 v2 = v1 by omega]
      exact Or.inr ⟨Or.inl a, fun u z => z.elim (n1 u) (fun y => absurd y (n2 u))⟩
    · refine Or.inr ⟨?_, fun u z => z.elim (fun y => by have := n1 u y; omega) (fun y => by have := n2 u y; omega)⟩
      by_cases q : v1 ≤ v2
      · rw [show min v1 v2 = v1 by omega]
        exact Or.inl a
      · rw [show min v1 v2 = v2 by omega]
        exact Or.inr c
theorem ml_dom {mk v : Int} {S S' : Int → Prop} (h : x_ml mk S' v) (sub : ∀ u, S' u → S u) (dom : ∀ u, S u → ∃ u', S' u' ∧ u' ≤ u) : x_ml mk S v := by
  rcases h with ⟨e, n⟩ | ⟨a, n⟩
  · refine Or.inl ⟨e, fun u z => ?_⟩
    obtain ⟨u', p, _⟩ := dom u z
    exact n u' p
  · refine Or.inr ⟨sub v a, fun u z => ?_⟩
    obtain ⟨u', p, q⟩ := dom u z
    have := n u' p
    omega
def pdv (w Y : Int → Int) (f st l : Int) : Int := if l = 0 then Y (42 * f + st) else min (if Y (42 * f + st) = 2147483647 then 2147483647 else Y (42 * f + st) + w 4) (Y (42 * f + (21 + st)))
def sqv (w Y : Int → Int) (f i s u : Int) : Prop := ∃ st, (0 ≤ st ∧ st < i) ∧ ¬ pdv w Y f st (s / 21) = 2147483647 ∧ s % 21 ≤ min (p_room w (s / 21)) (st + w_of w f 3 - w_of w f 5) ∧ u = pdv w Y f st (s / 21) + p_cost w 5 f (s % 21 + w_of w f 5 - st) 0 (s % 21)
def ybd (w Y : Int → Int) (f : Int) : Prop := ∀ s, 0 ≤ s → s < 42 → Y (42 * f + s) = 2147483647 ∨ (-(30000 * w_of w f 6) ≤ Y (42 * f + s) ∧ Y (42 * f + s) ≤ 30000 * w_of w f 6)
section SQV
variable {w Y : Int → Int} {f : Int}
theorem pdv_b (hw : wf w) (h0 : 0 ≤ f) (h1 : f < w 0) (hY : ybd w Y f) {st l : Int} (hs : 0 ≤ st ∧ st ≤ 20) : pdv w Y f st l = 2147483647 ∨ (-121000 ≤ pdv w Y f st l ∧ pdv w Y f st l ≤ 121000) := by
  have a := wf_h hw
  unfold wf_hdr at a
  have o := wf_f hw h0 h1
  unfold wf_one at o
  have y0 := hY st (by omega) (by omega)
  have y1 := hY (21 + st) (by omega) (by omega)
  unfold pdv
  split
  · omega
  · split <;> omega
theorem sqv_b (hw : wf w) (h0 : 0 ≤ f) (h1 : f < w 0) (hY : ybd w Y f) {i s u : Int} (hi : i ≤ 21) (s0 : 0 ≤ s) (s1 : s < 42) (h : sqv w Y f i s u) : -160000 ≤ u ∧ u ≤ 160000 := by
  have o := wf_f hw h0 h1
  unfold wf_one at o
  obtain ⟨st, p, q, r, e⟩ := h
  have z := pdv_b hw h0 h1 hY (st := st) (l := s / 21) (by omega)
  have cb := cost_b hw (E := 5) (x := s % 21 + w_of w f 5 - st) (b := 0) (t := s % 21) h0 h1 (by omega) (by omega) (by omega)
  omega
theorem sqv_s (hw : wf w) (h0 : 0 ≤ f) (h1 : f < w 0) (hY : ybd w Y f) {i s v v' : Int} (i0 : 0 ≤ i) (i1 : i < 21) (s0 : 0 ≤ s) (s1 : s < 42) (h : x_ml 2147483647 (sqv w Y f i s) v)
    (hy : (¬ pdv w Y f i (s / 21) = 2147483647 ∧ s % 21 ≤ min (p_room w (s / 21)) (i + w_of w f 3 - w_of w f 5)) → v' = min v (pdv w Y f i (s / 21) + p_cost w 5 f (s % 21 + w_of w f 5 - i) 0 (s % 21)))
    (hn : ¬ (¬ pdv w Y f i (s / 21) = 2147483647 ∧ s % 21 ≤ min (p_room w (s / 21)) (i + w_of w f 3 - w_of w f 5)) → v' = v) : x_ml 2147483647 (sqv w Y f (i + 1) s) v' := by
  by_cases c : ¬ pdv w Y f i (s / 21) = 2147483647 ∧ s % 21 ≤ min (p_room w (s / 21)) (i + w_of w f 3 - w_of w f 5)
  · rw [hy c]
    have hb : -160000 ≤ pdv w Y f i (s / 21) + p_cost w 5 f (s % 21 + w_of w f 5 - i) 0 (s % 21) ∧ pdv w Y f i (s / 21) + p_cost w 5 f (s % 21 + w_of w f 5 - i) 0 (s % 21) ≤ 160000 := sqv_b hw h0 h1 hY (i := i + 1) (by omega) s0 s1 ⟨i, ⟨i0, by omega⟩, c.1, c.2, rfl⟩
    refine ml_cg (ml_minadd h (fun z q => by have := sqv_b hw h0 h1 hY (by omega) s0 s1 q; omega) (u := pdv w Y f i (s / 21) + p_cost w 5 f (s % 21 + w_of w f 5 - i) 0 (s % 21)) (by omega)) (fun u => ?_)
    constructor
    · rintro (⟨st, p, q, r, e⟩ | e)
      · exact ⟨st, ⟨p.1, by omega⟩, q, r, e⟩
      · exact ⟨i, ⟨i0, by omega⟩, c.1, c.2, e⟩
    · rintro ⟨st, p, q, r, e⟩
      by_cases cs : st = i
      · subst cs
        exact Or.inr e
      · exact Or.inl ⟨st, ⟨p.1, by omega⟩, q, r, e⟩
  · rw [hn c]
    refine ml_cg h (fun u => ?_)
    constructor
    · rintro ⟨st, p, q, r, e⟩
      exact ⟨st, ⟨p.1, by omega⟩, q, r, e⟩
    · rintro ⟨st, p, q, r, e⟩
      by_cases cs : st = i
      · subst cs
        exact absurd ⟨q, r⟩ c
      · exact ⟨st, ⟨p.1, by omega⟩, q, r, e⟩
theorem cost_w {E x t : Int} : p_cost w E f x 1 t = p_cost w E f x 0 t + w 4 := by
  unfold p_cost
  omega
theorem sqv_y (hw : wf w) (h0 : 0 ≤ f) (h1 : f < w 0) (hY : ybd w Y f) {s v : Int} (s0 : 0 ≤ s) (s1 : s < 42) (h : x_ml 2147483647 (sqv w Y f 21 s) v) : x_ml 2147483647 (y_set 2147483647 w Y f s) v := by
  have a := wf_h hw
  unfold wf_hdr at a
  have o := wf_f hw h0 h1
  unfold wf_one at o
  refine ml_dom h ?_ ?_
  · rintro u ⟨st, p, q, r, e⟩
    have y0 := hY st (by omega) (by omega)
    have y1 := hY (21 + st) (by omega) (by omega)
    by_cases c : s < 21
    · have es : s / 21 = 0 := by omega
      rw [es] at q r e
      have ep : pdv w Y f st 0 = Y (42 * f + st) := if_pos rfl
      rw [ep] at q e
      refine ⟨st, 0, 0, s % 21, ⟨by omega, by omega⟩, ⟨by omega, by omega⟩, ?_, ⟨Or.inl rfl, by omega, by rw [por00]; omega, by omega⟩, by rw [por00]; omega, ?_⟩
      · rw [show 42 * f + (21 * (0 : Int) + st) = 42 * f + st by omega]
        exact q
      · rw [show 42 * f + (21 * (0 : Int) + st) = 42 * f + st by omega]
        exact e
    · have es : s / 21 = 1 := by omega
      rw [es] at q r e
      have ep : pdv w Y f st 1 = min (if Y (42 * f + st) = 2147483647 then 2147483647 else Y (42 * f + st) + w 4) (Y (42 * f + (21 + st))) := if_neg (by omega)
      rw [ep] at q e
      by_cases cy : Y (42 * f + st) = 2147483647
      · rw [if_pos cy] at q e
        refine ⟨st, 1, 0, s % 21, ⟨by omega, by omega⟩, ⟨by omega, by omega⟩, ?_, ⟨Or.inl rfl, by omega, by rw [por10]; omega, by omega⟩, by rw [por10]; omega, ?_⟩
        · rw [show 42 * f + (21 * (1 : Int) + st) = 42 * f + (21 + st) by omega]
          omega
        · rw [show 42 * f + (21 * (1 : Int) + st) = 42 * f + (21 + st) by omega]
          omega
      · rw [if_neg cy] at q e
        by_cases cm : Y (42 * f + st) + w 4 ≤ Y (42 * f + (21 + st))
        · refine ⟨st, 0, 1, s % 21, ⟨by omega, by omega⟩, ⟨by omega, by omega⟩, ?_, ⟨Or.inr ⟨rfl, rfl, by omega⟩, by omega, by rw [por01]; omega, by omega⟩, by rw [por01]; omega, ?_⟩
          · rw [show 42 * f + (21 * (0 : Int) + st) = 42 * f + st by omega]
            exact cy
          · rw [show 42 * f + (21 * (0 : Int) + st) = 42 * f + st by omega, cost_w]
            omega
        · refine ⟨st, 1, 0, s % 21, ⟨by omega, by omega⟩, ⟨by omega, by omega⟩, ?_, ⟨Or.inl rfl, by omega, by rw [por10]; omega, by omega⟩, by rw [por10]; omega, ?_⟩
          · rw [show 42 * f + (21 * (1 : Int) + st) = 42 * f + (21 + st) by omega]
            omega
          · rw [show 42 * f + (21 * (1 : Int) + st) = 42 * f + (21 + st) by omega]
            omega
  · rintro u ⟨st, wd, b, z, ps, pw, q, l, es, e⟩
    have y0 := hY st (by omega) (by omega)
    have y1 := hY (21 + st) (by omega) (by omega)
    have sb := sl_b hw h0 h1 ps l
    obtain ⟨l1, l2, l3, l4⟩ := l
    have wd2 : wd = 0 ∨ wd = 1 := by omega
    rcases wd2 with rfl | rfl
    · rw [show 42 * f + (21 * (0 : Int) + st) = 42 * f + st by omega] at q e
      rcases l1 with rfl | ⟨rfl, _, _⟩
      · rw [por00] at l3 es
        have e1 : s / 21 = 0 := by omega
        have e2 : s % 21 = z := by omega
        refine ⟨u, ⟨st, by omega, ?_, ?_, ?_⟩, Int.le_refl _⟩
        · rw [e1]
          exact q
        · rw [e1, e2]
          omega
        · rw [e1, e2, e]
          rfl
      · rw [por01] at l3 es
        have e1 : s / 21 = 1 := by omega
        have e2 : s % 21 = z := by omega
        have ep : pdv w Y f st 1 = min (Y (42 * f + st) + w 4) (Y (42 * f + (21 + st))) := by
          unfold pdv
          rw [if_neg (by omega), if_neg q]
        refine ⟨_, ⟨st, by omega, ?_, ?_, rfl⟩, ?_⟩
        · rw [e1, ep]
          omega
        · rw [e1, e2]
          omega
        · rw [e1, e2, ep, e, cost_w]
          omega
    · rw [show 42 * f + (21 * (1 : Int) + st) = 42 * f + (21 + st) by omega] at q e
      rcases l1 with rfl | ⟨_, y, _⟩
      · rw [por10] at l3 es
        have e1 : s / 21 = 1 := by omega
        have e2 : s % 21 = z := by omega
        have ep : pdv w Y f st 1 ≤ Y (42 * f + (21 + st)) := by
          unfold pdv
          rw [if_neg (by omega)]
          omega
        refine ⟨_, ⟨st, by omega, ?_, ?_, rfl⟩, ?_⟩
        · rw [e1]
          omega
        · rw [e1, e2]
          omega
        · rw [e1, e2, e]
          omega
      · omega
theorem yset_b (hw : wf w) (h0 : 0 ≤ f) (h1 : f < w 0) (hY : ybd w Y f) {s u : Int} (h : y_set 2147483647 w Y f s u) : -(30000 * (w_of w f 6 + 1)) ≤ u ∧ u ≤ 30000 * (w_of w f 6 + 1) := by
  have o := wf_f hw h0 h1
  unfold wf_one at o
  obtain ⟨st, wd, b, z, ps, pw, q, l, es, e⟩ := h
  have sb := sl_b hw h0 h1 ps l
  have y := (hY (21 * wd + st) (by omega) (by omega)).resolve_left q
  have cb := cost_b hw (E := 5) (x := z + w_of w f 5 - st) (b := b) (t := z) h0 h1 (by omega) (by omega) (by omega)
  omega
end SQV
theorem h_ltl {σ : x_S} {S : Int → Int → Prop} (h : ∀ s, 0 ≤ s → s < 42 → x_ml 2147483647 (S s) (σ 32 0 s)) (hb : ∀ s u, 0 ≤ s → s < 42 → S s u → -160000 ≤ u ∧ u ≤ 160000) : x_Sp 1 91 [xR 29 0] σ (fun r σ' => σ' = σ ∧ ∃ z, x_ml 2147483647 (fun u => ∃ t, (0 ≤ t ∧ t < 42) ∧ S t u) z ∧ (z = 2147483647 ∨ (-160000 ≤ z ∧ z ≤ 160000)) ∧ r = some (xI (if z = 2147483647 then 0 else z))) := by
  refine x_gen (fun Q hQ => ?_)
  simp (disch := first | omega | (simp only [x_wtI, x_wtJ, x_wtR, x_wtN]; omega) | assumption | (simp (disch := omega) only [x_st_o, x_rd_ne]; first | assumption | omega) | (apply mir_eq; assumption; (intro c h1 h2; simp (disch := omega) only [x_st_o])) | (apply mis_eq; assumption; (intro c h1 h2; simp (disch := omega) only [x_st_o])) | rfl) only [sp_91, bk_91_0, bk_91_2, bk_91_3, bk_91_4, wp_ic, wp_ist1, wp_ist2, wp_fall, wp_ild2, wp_icge, wp_ild1, wp_ald0, wr_29_3, wl_32, wp_cald, wk_273, c_mini, wp_inc2, wp_goto, wp_icne, wp_iret mz_91, x_clr_I, x_clr_J, x_clr_R, x_clr_U, ct_some, ct_none, lc_lt, lc_ge, lc_gt, lc_le, lc_eq, lc_r, xI_inj, xJ_inj, Option.some.injEq, eq_self, bi_r, bi_0, bi_1, bi_n, Classical.not_not, and_true, true_and, ite_true, ite_false, ↓reduceIte, ↓x_andl, z_le, z_nle, z_lt, z_nlt, z_eq, z_neq, if_pos, if_neg, x_andl, false_and, and_false, or_true, true_or, or_false, false_or, not_true, not_false_iff, x_rd_eq, x_rd_ne, x_st_o, Int.cast_ofNat_Int, Int.ofNat_zero, Int.ofNat_one, not_true_eq_false, not_false_eq_true, if_true, if_false, ite_self, and_self, Int.ofNat_eq_natCast, Int.tdiv_eq_ediv_of_nonneg, Int.tmod_eq_emod_of_nonneg, x_bm32]
  have bd : ∀ (S' : Int → Prop) v, x_ml 2147483647 S' v → (∀ u, S' u → -160000 ≤ u ∧ u ≤ 160000) → v = 2147483647 ∨ (-160000 ≤ v ∧ v ≤ 160000) := by
    intro S' v m b
    rcases m with ⟨z, _⟩ | ⟨z, _⟩
    · exact Or.inl z
    · exact Or.inr (b v z)
  refine x_lpJ (α := Int) (fun i v => x_ml 2147483647 (fun u => ∃ t, (0 ≤ t ∧ t < i) ∧ S t u) v) (fun i v => x_Wp 1 91 (x_blk 91 1) [xR 29 0, xI v, xI i] [] σ Q) (lo := 0) (hi := 42) (by omega) (a0 := 2147483647) (ml_nil (fun u ⟨t, p, _⟩ => by omega)) ?_ ?_
  · intro i v i0 i1 m
    have vb := bd _ v m (fun u ⟨t, p, z⟩ => hb t u (by omega) (by omega) z)
    have ib := bd _ _ (h i i0 i1) (fun u z => hb i u i0 i1 z)
    refine ⟨min v (σ 32 0 i), ?_, fun H => ?_⟩
    · refine ml_cg (ml_minG m (h i i0 i1) (fun u ⟨t, p, z⟩ => by have := hb t u (by omega) (by omega) z; omega) (fun u z => by have := hb i u i0 i1 z; omega)) (fun u => ?_)
      constructor
      · rintro (⟨t, p, z⟩ | z)
        · exact ⟨t, ⟨p.1, by omega⟩, z⟩
        · exact ⟨i, ⟨i0, by omega⟩, z⟩
      · rintro ⟨t, p, z⟩
        by_cases c : t = i
        · subst c
          exact Or.inr z
        · exact Or.inl ⟨t, ⟨p.1, by omega⟩, z⟩
    · rw [bk_91_1]
      simp (disch := first | omega | (simp only [x_wtI, x_wtJ, x_wtR, x_wtN]; omega) | assumption | (simp (disch := omega) only [x_st_o, x_rd_ne]; first | assumption | omega) | (apply mir_eq; assumption; (intro c h1 h2; simp (disch := omega) only [x_st_o])) | (apply mis_eq; assumption; (intro c h1 h2; simp (disch := omega) only [x_st_o])) | rfl) only [bk_91_0, bk_91_2, bk_91_3, bk_91_4, wp_ic, wp_ist1, wp_ist2, wp_fall, wp_ild2, wp_icge, wp_ild1, wp_ald0, wr_29_3, wl_32, wp_cald, wk_273, c_mini, wp_inc2, wp_goto, wp_icne, wp_iret mz_91, x_clr_I, x_clr_J, x_clr_R, x_clr_U, ct_some, ct_none, lc_lt, lc_ge, lc_gt, lc_le, lc_eq, lc_r, xI_inj, xJ_inj, Option.some.injEq, eq_self, bi_r, bi_0, bi_1, bi_n, Classical.not_not, and_true, true_and, ite_true, ite_false, ↓reduceIte, ↓x_andl, z_le, z_nle, z_lt, z_nlt, z_eq, z_neq, if_pos, if_neg, x_andl, false_and, and_false, or_true, true_or, or_false, false_or, not_true, not_false_iff, x_rd_eq, x_rd_ne, x_st_o, Int.cast_ofNat_Int, Int.ofNat_zero, Int.ofNat_one, not_true_eq_false, not_false_eq_true, if_true, if_false, ite_self, and_self, Int.ofNat_eq_natCast, Int.tdiv_eq_ediv_of_nonneg, Int.tmod_eq_emod_of_nonneg, x_bm32]
      exact H
  · intro v m
    have vb := bd _ v m (fun u ⟨t, p, z⟩ => hb t u (by omega) (by omega) z)
    rw [bk_91_1]
    by_cases c : v = 2147483647
    · subst c
      simp (disch := first | omega | (simp only [x_wtI, x_wtJ, x_wtR, x_wtN]; omega) | assumption | (simp (disch := omega) only [x_st_o, x_rd_ne]; first | assumption | omega) | (apply mir_eq; assumption; (intro c h1 h2; simp (disch := omega) only [x_st_o])) | (apply mis_eq; assumption; (intro c h1 h2; simp (disch := omega) only [x_st_o])) | rfl) only [bk_91_0, bk_91_2, bk_91_3, bk_91_4, wp_ic, wp_ist1, wp_ist2, wp_fall, wp_ild2, wp_icge, wp_ild1, wp_ald0, wr_29_3, wl_32, wp_cald, wk_273, c_mini, wp_inc2, wp_goto, wp_icne, wp_iret mz_91, x_clr_I, x_clr_J, x_clr_R, x_clr_U, ct_some, ct_none, lc_lt, lc_ge, lc_gt, lc_le, lc_eq, lc_r, xI_inj, xJ_inj, Option.some.injEq, eq_self, bi_r, bi_0, bi_1, bi_n, Classical.not_not, and_true, true_and, ite_true, ite_false, ↓reduceIte, ↓x_andl, z_le, z_nle, z_lt, z_nlt, z_eq, z_neq, if_pos, if_neg, x_andl, false_and, and_false, or_true, true_or, or_false, false_or, not_true, not_false_iff, x_rd_eq, x_rd_ne, x_st_o, Int.cast_ofNat_Int, Int.ofNat_zero, Int.ofNat_one, not_true_eq_false, not_false_eq_true, if_true, if_false, ite_self, and_self, Int.ofNat_eq_natCast, Int.tdiv_eq_ediv_of_nonneg, Int.tmod_eq_emod_of_nonneg, x_bm32]
      exact hQ _ _ ⟨rfl, _, m, vb, by rw [if_pos rfl]⟩
    · simp (disch := first | omega | (simp only [x_wtI, x_wtJ, x_wtR, x_wtN]; omega) | assumption | (simp (disch := omega) only [x_st_o, x_rd_ne]; first | assumption | omega) | (apply mir_eq; assumption; (intro c h1 h2; simp (disch := omega) only [x_st_o])) | (apply mis_eq; assumption; (intro c h1 h2; simp (disch := omega) only [x_st_o])) | rfl) only [bk_91_0, bk_91_2, bk_91_3, bk_91_4, wp_ic, wp_ist1, wp_ist2, wp_fall, wp_ild2, wp_icge, wp_ild1, wp_ald0, wr_29_3, wl_32, wp_cald, wk_273, c_mini, wp_inc2, wp_goto, wp_icne, wp_iret mz_91, x_clr_I, x_clr_J, x_clr_R, x_clr_U, ct_some, ct_none, lc_lt, lc_ge, lc_gt, lc_le, lc_eq, lc_r, xI_inj, xJ_inj, Option.some.injEq, eq_self, bi_r, bi_0, bi_1, bi_n, Classical.not_not, and_true, true_and, ite_true, ite_false, ↓reduceIte, ↓x_andl, z_le, z_nle, z_lt, z_nlt, z_eq, z_neq, if_pos, if_neg, x_andl, false_and, and_false, or_true, true_or, or_false, false_or, not_true, not_false_iff, x_rd_eq, x_rd_ne, x_st_o, Int.cast_ofNat_Int, Int.ofNat_zero, Int.ofNat_one, not_true_eq_false, not_false_eq_true, if_true, if_false, ite_self, and_self, Int.ofNat_eq_natCast, Int.tdiv_eq_ediv_of_nonneg, Int.tmod_eq_emod_of_nonneg, x_bm32]
      exact hQ _ _ ⟨rfl, _, m, vb, by rw [if_neg c]⟩

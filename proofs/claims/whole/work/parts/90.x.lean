/-! all steps at a fork that was looked at -/
def zcl (w : Int → Int) (c Wd sc kp : Int) (R : Int → Int) (f st wd b t u : Int) : Prop := (s_law w Wd f st wd b t ∧ ¬ R (21 * p_or wd b + t) = 9223372036854775807) ∧ u = v_mx c (sc * (p_trade w f (t + w_of w f 5 - st) + b * w 4 + kp * t) + R (21 * p_or wd b + t))
theorem lbk_B {w R : Int → Int} {sc kp f : Int} {σ : x_S} {j : Nat} (h : lbk w sc kp R σ j f) (hR : rbd R) (hs : 1 ≤ sc ∧ sc ≤ 100000000) (hk : -99 ≤ kp ∧ kp ≤ 99) : bhb (σ 27 j) ∧ ∀ s, 0 ≤ s → s < 42 → (σ 27 j s = 9223372036854775807 ↔ R s = 9223372036854775807) := by
  have key : ∀ s, 0 ≤ s → s < 42 → ((R s = 9223372036854775807 ∧ σ 27 j s = 9223372036854775807) ∨ (¬ R s = 9223372036854775807 ∧ -700000000000000000 ≤ σ 27 j s ∧ σ 27 j s ≤ 700000000000000000)) := by
    intro s s0 s1
    have e := h.2 s s0 s1
    have kb := kp_b hk (t := s % 21) (by omega) hs
    rcases hR s s0 s1 with z | z
    · rw [if_pos z] at e
      exact Or.inl ⟨z, e⟩
    · rw [if_neg (by omega)] at e
      exact Or.inr ⟨by omega, by omega, by omega⟩
  refine ⟨fun s s0 s1 => ?_, fun s s0 s1 => ?_⟩
  · rcases key s s0 s1 with z | z
    · exact Or.inl z.2
    · exact Or.inr z.2
  · rcases key s s0 s1 with z | z
    · exact ⟨fun _ => z.1, fun _ => z.2⟩
    · exact ⟨fun y => by omega, fun y => absurd y z.1⟩
theorem alg1 (x p s : Int) : x * (p * s) = s * (x * p) := by
  rw [← Int.mul_assoc, Int.mul_comm]
theorem alg2 {w : Int → Int} {f x b kp t sc : Int} : sc * (p_trade w f x + b * w 4 + kp * t) = (if 0 < x then x * (w_of w f 2 * sc) else x * (w_of w f 4 * sc)) + b * (w 4 * sc) + kp * t * sc := by
  rw [Int.mul_add, Int.mul_add, alg1 b (w 4) sc, Int.mul_comm (kp * t) sc]
  unfold p_trade
  by_cases c : 0 < x
  · rw [if_pos c, if_pos c, alg1 x (w_of w f 2) sc]
  · rw [if_neg c, if_neg c, alg1 x (w_of w f 4) sc]
theorem swv_zcl {w R : Int → Int} {sc kp f : Int} {σ : x_S} {j : Nat} (hw : wf w) (h0 : 0 ≤ f) (h1 : f < w 0) (h : lbk w sc kp R σ j f) (hR : rbd R) (hs : 1 ≤ sc ∧ sc ≤ 100000000) (hk : -99 ≤ kp ∧ kp ≤ 99) {l st : Int} (hl : 0 ≤ l ∧ l ≤ 1) (hst : 0 ≤ st ∧ st ≤ 20) (u : Int) : swv w (σ 27 j) (w_of w f 2 * sc) (w_of w f 4 * sc) f l st u ↔ ∃ t, (0 ≤ t ∧ t ≤ p_room w l ∧ t ≤ st + w_of w f 3 - w_of w f 5) ∧ ¬ R (21 * l + t) = 9223372036854775807 ∧ u = sc * (p_trade w f (t + w_of w f 5 - st) + 0 * w 4 + kp * t) + R (21 * l + t) := by
  have bd := (lbk_B h hR hs hk).2
  have rb := room_b hw (l := l)
  have val : ∀ t, 0 ≤ t → t ≤ p_room w l → ¬ R (21 * l + t) = 9223372036854775807 → σ 27 j (21 * l + t) + (if 0 < t + w_of w f 5 - st then (t + w_of w f 5 - st) * (w_of w f 2 * sc) else (t + w_of w f 5 - st) * (w_of w f 4 * sc)) = sc * (p_trade w f (t + w_of w f 5 - st) + 0 * w 4 + kp * t) + R (21 * l + t) := by
    intro t t0 t1 t2
    rw [alg2, h.2 (21 * l + t) (by omega) (by omega), if_neg t2, show (21 * l + t) % 21 = t by omega, Int.zero_mul]
    omega
  unfold swv
  constructor
  · rintro ⟨t, p1, p2, p3, p4, p5⟩
    have q : ¬ R (21 * l + t) = 9223372036854775807 := fun z => p4 ((bd (21 * l + t) (by omega) (by omega)).mpr z)
    exact ⟨t, ⟨p1, p2, p3⟩, q, by rw [p5, val t p1 p2 q]⟩
  · rintro ⟨t, ⟨p1, p2, p3⟩, p4, p5⟩
    exact ⟨t, p1, p2, p3, fun z => p4 ((bd (21 * l + t) (by omega) (by omega)).mp z), by rw [p5, val t p1 p2 p4]⟩
theorem h_sweep {σ : x_S} {w R : Int → Int} {j : Nat} {c Wd sc kp f : Int} (hM : mir σ 1 w) (hj : j < 4) (hw : wf w) (h0 : 0 ≤ f) (h1 : f < w 0) (hm : σ 24 j 3 = c) (hc : 0 ≤ c ∧ c ≤ 4) (hWd : σ 24 j 1 = Wd) (hW2 : 0 ≤ Wd ∧ Wd ≤ 100) (h : lbk w sc kp R σ j f) (hR : rbd R) (hs : 1 ≤ sc ∧ sc ≤ 100000000) (hk : -99 ≤ kp ∧ kp ≤ 99) : x_Sp 3 7 [xR 24 j, xI f] σ (fun r σ' => r = none ∧ x_eqo [(28, j)] σ σ' ∧ ∀ st wd, 0 ≤ st → st ≤ 20 → 0 ≤ wd → wd ≤ 1 → x_ml 9223372036854775807 (fun u => ∃ b t, zcl w c Wd sc kp R f st wd b t u) (σ' 28 j (21 * wd + st)) ∧ (σ' 28 j (21 * wd + st) = 9223372036854775807 ∨ (-900000000000000000 ≤ σ' 28 j (21 * wd + st) ∧ σ' 28 j (21 * wd + st) ≤ 900000000000000000))) := by
  have a := wf_h hw
  unfold wf_hdr at a
  have o := wf_f hw h0 h1
  unfold wf_one at o
  have bb := (lbk_B h hR hs hk).1
  have y2 : 0 ≤ w_of w f 2 * sc ∧ w_of w f 2 * sc ≤ 100000000000 := by
    have m := mulb (a := w_of w f 2) (b := sc) (A := 999) (B := 100000000) (by omega) (by omega)
    have p : 0 ≤ w_of w f 2 * sc := Int.mul_nonneg (by omega) (by omega)
    omega
  have s2 : 0 ≤ w_of w f 4 * sc ∧ w_of w f 4 * sc ≤ 100000000000 := by
    have m := mulb (a := w_of w f 4) (b := sc) (A := 99) (B := 100000000) (by omega) (by omega)
    have p : 0 ≤ w_of w f 4 * sc := Int.mul_nonneg (by omega) (by omega)
    omega
  have w2 : 0 ≤ w 4 * sc ∧ w 4 * sc ≤ 100000000000 := by
    have m := mulb (a := w 4) (b := sc) (A := 999) (B := 100000000) (by omega) (by omega)
    have p : 0 ≤ w 4 * sc := Int.mul_nonneg (by omega) (by omega)
    omega
  refine x_gen (fun Q hQ => ?_)
  simp (disch := first | omega | (simp only [x_wtI, x_wtJ, x_wtR, x_wtN]; omega) | assumption | (simp (disch := omega) only [x_st_o, x_rd_ne]; first | assumption | omega) | (apply mir_eq; assumption; (intro c h1 h2; simp (disch := omega) only [x_st_o])) | (apply mis_eq; assumption; (intro c h1 h2; simp (disch := omega) only [x_st_o])) | rfl) only [sp_7, bk_7_0, bk_7_1, bk_7_2, bk_7_4, bk_7_5, bk_7_6, bk_7_7, wp_ald0, wp_ild1, wp_ic, wk_8, wr_24_0, wr_6_13, wl_13, wp_cald, wp_geti kd_24, wp_icgt, wp_goto, wp_fall, wp_ist2, wp_ist3, wp_ild3, wp_icge, wr_24_10, wp_iadd, wl_28, wp_pald, wp_lst4, wp_ild2, wp_ifeq, wp_lld4, wp_lc, wp_lcmp, wp_getj kd_24, wp_ladd, wp_ifge, ws_28, wp_inc3, wp_icne, wk_276, c_maxj, wp_ret, x_clr_I, x_clr_J, x_clr_R, x_clr_U, ct_some, ct_none, lc_lt, lc_ge, lc_gt, lc_le, lc_eq, lc_r, xI_inj, xJ_inj, Option.some.injEq, eq_self, bi_r, bi_0, bi_1, bi_n, Classical.not_not, and_true, true_and, ite_true, ite_false, ↓reduceIte, ↓x_andl, z_le, z_nle, z_lt, z_nlt, z_eq, z_neq, if_pos, if_neg, x_andl, false_and, and_false, or_true, true_or, or_false, false_or, not_true, not_false_iff, x_rd_eq, x_rd_ne, x_st_o, Int.cast_ofNat_Int, Int.ofNat_zero, Int.ofNat_one, not_true_eq_false, not_false_eq_true, if_true, if_false, ite_self, and_self, Int.ofNat_eq_natCast, Int.tdiv_eq_ediv_of_nonneg, Int.tmod_eq_emod_of_nonneg, x_bm32]
  refine x_use (d := 0) (h_sweepOver (l := 0) hM hj hw h0 h1 rfl h.1.1 h.1.2.1 bb y2 s2 (by omega)) ?_
  rintro r σ1 ⟨rfl, e1, k1, m1⟩
  have hM1 : mir σ1 1 w := mir_eq hM (fun c q1 q2 => e1 c 1 (by simp; omega))
  have p24 : σ1 24 j = σ 24 j := e1 24 j (by simp)
  have p27 : σ1 27 j = σ 27 j := e1 27 j (by simp)
  simp (disch := first | omega | (simp only [x_wtI, x_wtJ, x_wtR, x_wtN]; omega) | assumption | (simp (disch := omega) only [x_st_o, x_rd_ne]; first | assumption | omega) | (apply mir_eq; assumption; (intro c h1 h2; simp (disch := omega) only [x_st_o])) | (apply mis_eq; assumption; (intro c h1 h2; simp (disch := omega) only [x_st_o])) | rfl) only [bk_7_0, bk_7_1, bk_7_2, bk_7_4, bk_7_5, bk_7_6, bk_7_7, wp_ald0, wp_ild1, wp_ic, wk_8, wr_24_0, wr_6_13, wl_13, wp_cald, wp_geti kd_24, wp_icgt, wp_goto, wp_fall, wp_ist2, wp_ist3, wp_ild3, wp_icge, wr_24_10, wp_iadd, wl_28, wp_pald, wp_lst4, wp_ild2, wp_ifeq, wp_lld4, wp_lc, wp_lcmp, wp_getj kd_24, wp_ladd, wp_ifge, ws_28, wp_inc3, wp_icne, wk_276, c_maxj, wp_ret, x_clr_I, x_clr_J, x_clr_R, x_clr_U, ct_some, ct_none, lc_lt, lc_ge, lc_gt, lc_le, lc_eq, lc_r, xI_inj, xJ_inj, Option.some.injEq, eq_self, bi_r, bi_0, bi_1, bi_n, Classical.not_not, and_true, true_and, ite_true, ite_false, ↓reduceIte, ↓x_andl, z_le, z_nle, z_lt, z_nlt, z_eq, z_neq, if_pos, if_neg, x_andl, false_and, and_false, or_true, true_or, or_false, false_or, not_true, not_false_iff, x_rd_eq, x_rd_ne, x_st_o, Int.cast_ofNat_Int, Int.ofNat_zero, Int.ofNat_one, not_true_eq_false, not_false_eq_true, if_true, if_false, ite_self, and_self, Int.ofNat_eq_natCast, Int.tdiv_eq_ediv_of_nonneg, Int.tmod_eq_emod_of_nonneg, x_bm32]
  refine x_use (d := 0) (h_sweepOver (l := 1) hM1 hj hw h0 h1 p27 (by rw [p24]; exact h.1.1) (by rw [p24]; exact h.1.2.1) bb y2 s2 (by omega)) ?_
  rintro r σ2 ⟨rfl, e2, k2, m2⟩
  have hM2 : mir σ2 1 w := mir_eq hM1 (fun c q1 q2 => e2 c 1 (by simp; omega))
  have q24 : σ2 24 j = σ 24 j := (e2 24 j (by simp)).trans p24
  have eq2 : x_eqo [(28, j)] σ σ2 := eqo_trans e1 e2
  have n0 : ∀ st, 0 ≤ st → st ≤ 20 → x_ml 9223372036854775807 (swv w (σ 27 j) (w_of w f 2 * sc) (w_of w f 4 * sc) f 0 st) (σ2 28 j st) := by
    intro st p q
    rw [k2 st (by omega)]
    have := m1 st p q
    rw [show 21 * (0 : Int) + st = st by omega] at this
    exact this
  have n1 : ∀ st, 0 ≤ st → st ≤ 20 → x_ml 9223372036854775807 (swv w (σ 27 j) (w_of w f 2 * sc) (w_of w f 4 * sc) f 1 st) (σ2 28 j (21 + st)) := by
    intro st p q
    have := m2 st p q
    rw [show 21 * (1 : Int) + st = 21 + st by omega] at this
    exact this
  have sb : ∀ l st u, 0 ≤ l → l ≤ 1 → 0 ≤ st → st ≤ 20 → swv w (σ 27 j) (w_of w f 2 * sc) (w_of w f 4 * sc) f l st u → -800000000000000000 ≤ u ∧ u ≤ 800000000000000000 := fun l st u p q p2 q2 z => swv_b hw h0 h1 bb y2 s2 ⟨p, q⟩ ⟨p2, q2⟩ z
  have r0 : ∀ st, 0 ≤ st → st ≤ 20 → σ2 28 j st = 9223372036854775807 ∨ (-800000000000000000 ≤ σ2 28 j st ∧ σ2 28 j st ≤ 800000000000000000) := by
    intro st p q
    rcases n0 st p q with ⟨z, _⟩ | ⟨z, _⟩
    · exact Or.inl z
    · exact Or.inr (sb 0 st _ (by omega) (by omega) p q z)
  have r1 : ∀ st, 0 ≤ st → st ≤ 20 → σ2 28 j (21 + st) = 9223372036854775807 ∨ (-800000000000000000 ≤ σ2 28 j (21 + st) ∧ σ2 28 j (21 + st) ≤ 800000000000000000) := by
    intro st p q
    rcases n1 st p q with ⟨z, _⟩ | ⟨z, _⟩
    · exact Or.inl z
    · exact Or.inr (sb 1 st _ (by omega) (by omega) p q z)
  -- with widening
  let wl : Int → Int := fun st => if w_of w f 6 ≤ Wd ∧ ¬ σ2 28 j (21 + st) = 9223372036854775807 ∧ σ2 28 j (21 + st) + w 4 * sc < σ2 28 j st then σ2 28 j (21 + st) + w 4 * sc else σ2 28 j st
  have wlb : ∀ st, 0 ≤ st → st ≤ 20 → wl st = 9223372036854775807 ∨ (-900000000000000000 ≤ wl st ∧ wl st ≤ 900000000000000000) := by
    intro st p q
    have a0 := r0 st p q
    have a1 := r1 st p q
    by_cases z : w_of w f 6 ≤ Wd ∧ ¬ σ2 28 j (21 + st) = 9223372036854775807 ∧ σ2 28 j (21 + st) + w 4 * sc < σ2 28 j st
    · have e : wl st = σ2 28 j (21 + st) + w 4 * sc := if_pos z
      rw [e]
      omega
    · have e : wl st = σ2 28 j st := if_neg z
      rw [e]
      omega
  -- what the values are, before the coin's cut
  have val0 : ∀ st, 0 ≤ st → st ≤ 20 → x_ml 9223372036854775807 (fun u => ∃ b t, (s_law w Wd f st 0 b t ∧ ¬ R (21 * p_or 0 b + t) = 9223372036854775807) ∧ u = sc * (p_trade w f (t + w_of w f 5 - st) + b * w 4 + kp * t) + R (21 * p_or 0 b + t)) (wl st) := by
    intro st p q
    have z0 := swv_zcl hw h0 h1 h hR hs hk (l := 0) (st := st) (by omega) ⟨p, q⟩
    have z1 := swv_zcl hw h0 h1 h hR hs hk (l := 1) (st := st) (by omega) ⟨p, q⟩
    have sh := ml_shift (k := w 4 * sc) (n1 st p q) (fun u z => by have := sb 1 st u (by omega) (by omega) p q z; omega)
    have b1 : ∀ t, sc * (p_trade w f (t + w_of w f 5 - st) + 1 * w 4 + kp * t) = sc * (p_trade w f (t + w_of w f 5 - st) + 0 * w 4 + kp * t) + w 4 * sc := by
      intro t
      rw [alg2, alg2]
      omega
    by_cases cf : w_of w f 6 ≤ Wd
    · have mm := ml_min (n0 st p q) sh (fun u z => by have := sb 0 st u (by omega) (by omega) p q z; omega) (fun u ⟨u', z, e⟩ => by have := sb 1 st u' (by omega) (by omega) p q z; omega)
      have e : min (σ2 28 j st) (if σ2 28 j (21 + st) = 9223372036854775807 then 9223372036854775807 else σ2 28 j (21 + st) + w 4 * sc) = wl st := by
        have a0 := r0 st p q
        by_cases z : σ2 28 j (21 + st) = 9223372036854775807
        · have e2 : wl st = σ2 28 j st := if_neg (fun y => y.2.1 z)
          rw [if_pos z, e2]
          omega
        · rw [if_neg z]
          by_cases y : σ2 28 j (21 + st) + w 4 * sc < σ2 28 j st
          · have e2 : wl st = σ2 28 j (21 + st) + w 4 * sc := if_pos ⟨cf, z, y⟩
            rw [e2]
            omega
          · have e2 : wl st = σ2 28 j st := if_neg (fun x => y x.2.2)
            rw [e2]
            omega
      rw [e] at mm
      refine ml_cg mm (fun u => ?_)
      constructor
      · rintro (z | ⟨u', z, e⟩)
        · obtain ⟨t, q1, q2, q3⟩ := (z0 u).mp z
          exact ⟨0, t, ⟨⟨Or.inl rfl, q1.1, by rw [por00]; exact q1.2.1, q1.2.2⟩, by rw [por00]; exact q2⟩, by rw [por00]; exact q3⟩
        · obtain ⟨t, q1, q2, q3⟩ := (z1 u').mp z
          refine ⟨1, t, ⟨⟨Or.inr ⟨rfl, rfl, cf⟩, q1.1, by rw [por01]; exact q1.2.1, q1.2.2⟩, by rw [por01]; exact q2⟩, ?_⟩
          rw [por01, e, q3, b1]
          omega
      · rintro ⟨b, t, ⟨⟨l1, l2, l3, l4⟩, q2⟩, q3⟩
        rcases l1 with rfl | ⟨rfl, _, _⟩
        · rw [por00] at l3 q2 q3
          exact Or.inl ((z0 u).mpr ⟨t, ⟨l2, l3, l4⟩, q2, q3⟩)
        · rw [por01] at l3 q2 q3
          refine Or.inr ⟨_, (z1 _).mpr ⟨t, ⟨l2, l3, l4⟩, q2, rfl⟩, ?_⟩
          rw [q3, b1]
          omega
    · have e : wl st = σ2 28 j st := if_neg (fun y => cf y.1)
      rw [e]
      refine ml_cg (n0 st p q) (fun u => ?_)
      constructor
      · intro z
        obtain ⟨t, q1, q2, q3⟩ := (z0 u).mp z
        exact ⟨0, t, ⟨⟨Or.inl rfl, q1.1, by rw [por00]; exact q1.2.1, q1.2.2⟩, by rw [por00]; exact q2⟩, by rw [por00]; exact q3⟩
      · rintro ⟨b, t, ⟨⟨l1, l2, l3, l4⟩, q2⟩, q3⟩
        rcases l1 with rfl | ⟨_, _, y⟩
        · rw [por00] at l3 q2 q3
          exact (z0 u).mpr ⟨t, ⟨l2, l3, l4⟩, q2, q3⟩
        · exact absurd y cf
  have val1 : ∀ st, 0 ≤ st → st ≤ 20 → x_ml 9223372036854775807 (fun u => ∃ b t, (s_law w Wd f st 1 b t ∧ ¬ R (21 * p_or 1 b + t) = 9223372036854775807) ∧ u = sc * (p_trade w f (t + w_of w f 5 - st) + b * w 4 + kp * t) + R (21 * p_or 1 b + t)) (σ2 28 j (21 + st)) := by
    intro st p q
    have z1 := swv_zcl hw h0 h1 h hR hs hk (l := 1) (st := st) (by omega) ⟨p, q⟩
    refine ml_cg (n1 st p q) (fun u => ?_)
    constructor
    · intro z
      obtain ⟨t, q1, q2, q3⟩ := (z1 u).mp z
      exact ⟨0, t, ⟨⟨Or.inl rfl, q1.1, by rw [por10]; exact q1.2.1, q1.2.2⟩, by rw [por10]; exact q2⟩, by rw [por10]; exact q3⟩
    · rintro ⟨b, t, ⟨⟨l1, l2, l3, l4⟩, q2⟩, q3⟩
      rcases l1 with rfl | ⟨_, y, _⟩
      · rw [por10] at l3 q2 q3
        exact (z1 u).mpr ⟨t, ⟨l2, l3, l4⟩, q2, q3⟩
      · omega
  -- the coin's cut
  have fin : ∀ σ3 : x_S, x_eqo [(28, j)] σ σ3 → (∀ st, 0 ≤ st → st ≤ 20 → σ3 28 j st = v_mx c (wl st) ∧ σ3 28 j (21 + st) = v_mx c (σ2 28 j (21 + st))) → Q none σ3 := by
    intro σ3 e3 hv
    refine hQ _ _ ⟨rfl, e3, ?_⟩
    intro st wd t0 t1 d0 d1
    have gen : ∀ (S : Int → Int → Int → Prop) (v : Int), x_ml 9223372036854775807 (fun u => ∃ b t, S b t u) v → x_ml 9223372036854775807 (fun u => ∃ b t u', S b t u' ∧ u = v_mx c u') (v_mx c v) := by
      intro S v hS
      unfold v_mx
      by_cases c3 : c = 3
      · rw [if_pos c3]
        refine ml_cg (ml_max0 hS) (fun u => ?_)
        constructor
        · rintro ⟨u', ⟨b, t, z⟩, e⟩
          exact ⟨b, t, u', z, by rw [if_pos c3]; exact e⟩
        · rintro ⟨b, t, u', z, e⟩
          rw [if_pos c3] at e
          exact ⟨u', ⟨b, t, z⟩, e⟩
      · rw [if_neg c3]
        refine ml_cg hS (fun u => ?_)
        constructor
        · rintro ⟨b, t, z⟩
          exact ⟨b, t, u, z, by rw [if_neg c3]⟩
        · rintro ⟨b, t, u', z, e⟩
          rw [if_neg c3] at e
          subst e
          exact ⟨b, t, z⟩
    have bd : ∀ v, (v = 9223372036854775807 ∨ (-900000000000000000 ≤ v ∧ v ≤ 900000000000000000)) → (v_mx c v = 9223372036854775807 ∨ (-900000000000000000 ≤ v_mx c v ∧ v_mx c v ≤ 900000000000000000)) := by
      intro v hv
      unfold v_mx
      split <;> omega
    have d2 : wd = 0 ∨ wd = 1 := by omega
    rcases d2 with rfl | rfl
    · rw [show 21 * (0 : Int) + st = st by omega, (hv st t0 t1).1]
      refine ⟨ml_cg (gen _ _ (val0 st t0 t1)) (fun u => ?_), bd _ (wlb st t0 t1)⟩
      constructor
      · rintro ⟨b, t, u', ⟨z1, z2⟩, e⟩
        exact ⟨b, t, z1, by rw [e, z2]⟩
      · rintro ⟨b, t, z1, z2⟩
        exact ⟨b, t, _, ⟨z1, rfl⟩, z2⟩
    · rw [show 21 * (1 : Int) + st = 21 + st by omega, (hv st t0 t1).2]
      have rr := r1 st t0 t1
      refine ⟨ml_cg (gen _ _ (val1 st t0 t1)) (fun u => ?_), bd _ (by omega)⟩
      constructor
      · rintro ⟨b, t, u', ⟨z1, z2⟩, e⟩
        exact ⟨b, t, z1, by rw [e, z2]⟩
      · rintro ⟨b, t, z1, z2⟩
        exact ⟨b, t, _, ⟨z1, rfl⟩, z2⟩
  have go : ∀ m : Int, (m = x_bi (w_of w f 6 ≤ Wd)) → x_Wp 3 7 (x_blk 7 3) [xR 24 j, xI f, xI m, xI 0, xU, xU] [] σ2 Q := by
    intro m hmm
    refine x_lpJ (α := x_S × x_V) (fun i q => x_eqo [(28, j)] σ q.1 ∧ (∀ st, 0 ≤ st → st ≤ 20 → (st < i → q.1 28 j st = wl st) ∧ (¬ st < i → q.1 28 j st = σ2 28 j st) ∧ q.1 28 j (21 + st) = σ2 28 j (21 + st))) (fun i q => x_Wp 3 7 (x_blk 7 3) [xR 24 j, xI f, xI m, xI i, q.2, xU] [] q.1 Q) (lo := 0) (hi := 21) (by omega) (a0 := (σ2, xU)) ⟨eq2, fun st p q => ⟨fun z => by omega, fun _ => rfl, rfl⟩⟩ ?_ ?_
    · intro i ⟨σi, u⟩ i0 i1 ⟨j1, j2⟩
      simp only at j1 j2 ⊢
      have g24 : σi 24 j 9 = w 4 * sc := by rw [j1 24 j (by simp)]; exact h.1.2.2
      have v1 := (j2 i i0 (by omega)).2.2
      have v0 := (j2 i i0 (by omega)).2.1 (by omega)
      have a0 := r0 i i0 (by omega)
      have a1 := r1 i i0 (by omega)
      have new : ∀ v, v = wl i → (∀ st, 0 ≤ st → st ≤ 20 → (st < i + 1 → x_st σi 28 j i v 28 j st = wl st) ∧ (¬ st < i + 1 → x_st σi 28 j i v 28 j st = σ2 28 j st) ∧ x_st σi 28 j i v 28 j (21 + st) = σ2 28 j (21 + st)) := by
        intro v hv st p q
        have z := j2 st p q
        rw [x_rd_ne (i' := 21 + st) (by omega)]
        by_cases cs : st = i
        · subst cs
          rw [x_rd_eq]
          exact ⟨fun _ => hv, fun y => by omega, z.2.2⟩
        · rw [x_rd_ne (by omega)]
          exact ⟨fun y => z.1 (by omega), fun y => z.2.1 (by omega), z.2.2⟩
      have keep : wl i = σ2 28 j i → (∀ st, 0 ≤ st → st ≤ 20 → (st < i + 1 → σi 28 j st = wl st) ∧ (¬ st < i + 1 → σi 28 j st = σ2 28 j st) ∧ σi 28 j (21 + st) = σ2 28 j (21 + st)) := by
        intro hv st p q
        have z := j2 st p q
        by_cases cs : st = i
        · subst cs
          exact ⟨fun _ => by rw [v0, hv], fun y => by omega, z.2.2⟩
        · exact ⟨fun y => z.1 (by omega), fun y => z.2.1 (by omega), z.2.2⟩
      by_cases cf : w_of w f 6 ≤ Wd
      · rw [bi_t cf] at hmm
        subst hmm
        by_cases cd : σ2 28 j (21 + i) = 9223372036854775807
        · refine ⟨(σi, xJ 9223372036854775807), ⟨j1, keep (if_neg (fun y => y.2.1 cd))⟩, fun H => ?_⟩
          rw [cd] at v1
          rw [bk_7_3]
          simp (disch := first | omega | (simp only [x_wtI, x_wtJ, x_wtR, x_wtN]; omega) | assumption | (simp (disch := omega) only [x_st_o, x_rd_ne]; first | assumption | omega) | (apply mir_eq; assumption; (intro c h1 h2; simp (disch := omega) only [x_st_o])) | (apply mis_eq; assumption; (intro c h1 h2; simp (disch := omega) only [x_st_o])) | rfl) only [bk_7_0, bk_7_1, bk_7_2, bk_7_4, bk_7_5, bk_7_7, wp_ald0, wp_ild1, wp_ic, wk_8, wr_24_0, wr_6_13, wl_13, wp_cald, wp_geti kd_24, wp_icgt, wp_goto, wp_fall, wp_ist2, wp_ist3, wp_ild3, wp_icge, wr_24_10, wp_iadd, wl_28, wp_pald, wp_lst4, wp_ild2, wp_ifeq, wp_lld4, wp_lc, wp_lcmp, wp_getj kd_24, wp_ladd, wp_ifge, ws_28, wp_inc3, wp_icne, wk_276, c_maxj, wp_ret, x_clr_I, x_clr_J, x_clr_R, x_clr_U, ct_some, ct_none, lc_lt, lc_ge, lc_gt, lc_le, lc_eq, lc_r, xI_inj, xJ_inj, Option.some.injEq, eq_self, bi_r, bi_0, bi_1, bi_n, Classical.not_not, and_true, true_and, ite_true, ite_false, ↓reduceIte, ↓x_andl, z_le, z_nle, z_lt, z_nlt, z_eq, z_neq, if_pos, if_neg, x_andl, false_and, and_false, or_true, true_or, or_false, false_or, not_true, not_false_iff, x_rd_eq, x_rd_ne, x_st_o, Int.cast_ofNat_Int, Int.ofNat_zero, Int.ofNat_one, not_true_eq_false, not_false_eq_true, if_true, if_false, ite_self, and_self, Int.ofNat_eq_natCast, Int.tdiv_eq_ediv_of_nonneg, Int.tmod_eq_emod_of_nonneg, x_bm32, v1]
          exact H
        · by_cases cl : σ2 28 j (21 + i) + w 4 * sc < σ2 28 j i
          · refine ⟨(x_st σi 28 j i (σ2 28 j (21 + i) + w 4 * sc), xJ (σ2 28 j (21 + i))), ⟨eqo_st (by simp) j1, new _ (if_pos ⟨cf, cd, cl⟩).symm⟩, fun H => ?_⟩
            rw [bk_7_3]
            simp (disch := first | omega | (simp only [x_wtI, x_wtJ, x_wtR, x_wtN]; omega) | assumption | (simp (disch := omega) only [x_st_o, x_rd_ne]; first | assumption | omega) | (apply mir_eq; assumption; (intro c h1 h2; simp (disch := omega) only [x_st_o])) | (apply mis_eq; assumption; (intro c h1 h2; simp (disch := omega) only [x_st_o])) | rfl) only [bk_7_0, bk_7_1, bk_7_2, bk_7_4, bk_7_5, bk_7_7, wp_ald0, wp_ild1, wp_ic, wk_8, wr_24_0, wr_6_13, wl_13, wp_cald, wp_geti kd_24, wp_icgt, wp_goto, wp_fall, wp_ist2, wp_ist3, wp_ild3, wp_icge, wr_24_10, wp_iadd, wl_28, wp_pald, wp_lst4, wp_ild2, wp_ifeq, wp_lld4, wp_lc, wp_lcmp, wp_getj kd_24, wp_ladd, wp_ifge, ws_28, wp_inc3, wp_icne, wk_276, c_maxj, wp_ret, x_clr_I, x_clr_J, x_clr_R, x_clr_U, ct_some, ct_none, lc_lt, lc_ge, lc_gt, lc_le, lc_eq, lc_r, xI_inj, xJ_inj, Option.some.injEq, eq_self, bi_r, bi_0, bi_1, bi_n, Classical.not_not, and_true, true_and, ite_true, ite_false, ↓reduceIte, ↓x_andl, z_le, z_nle, z_lt, z_nlt, z_eq, z_neq, if_pos, if_neg, x_andl, false_and, and_false, or_true, true_or, or_false, false_or, not_true, not_false_iff, x_rd_eq, x_rd_ne, x_st_o, Int.cast_ofNat_Int, Int.ofNat_zero, Int.ofNat_one, not_true_eq_false, not_false_eq_true, if_true, if_false, ite_self, and_self, Int.ofNat_eq_natCast, Int.tdiv_eq_ediv_of_nonneg, Int.tmod_eq_emod_of_nonneg, x_bm32, v1, v0, g24]
            exact H
          · refine ⟨(σi, xJ (σ2 28 j (21 + i))), ⟨j1, keep (if_neg (fun y => cl y.2.2))⟩, fun H => ?_⟩
            rw [bk_7_3]
            simp (disch := first | omega | (simp only [x_wtI, x_wtJ, x_wtR, x_wtN]; omega) | assumption | (simp (disch := omega) only [x_st_o, x_rd_ne]; first | assumption | omega) | (apply mir_eq; assumption; (intro c h1 h2; simp (disch := omega) only [x_st_o])) | (apply mis_eq; assumption; (intro c h1 h2; simp (disch := omega) only [x_st_o])) | rfl) only [bk_7_0, bk_7_1, bk_7_2, bk_7_4, bk_7_5, bk_7_7, wp_ald0, wp_ild1, wp_ic, wk_8, wr_24_0, wr_6_13, wl_13, wp_cald, wp_geti kd_24, wp_icgt, wp_goto, wp_fall, wp_ist2, wp_ist3, wp_ild3, wp_icge, wr_24_10, wp_iadd, wl_28, wp_pald, wp_lst4, wp_ild2, wp_ifeq, wp_lld4, wp_lc, wp_lcmp, wp_getj kd_24, wp_ladd, wp_ifge, ws_28, wp_inc3, wp_icne, wk_276, c_maxj, wp_ret, x_clr_I, x_clr_J, x_clr_R, x_clr_U, ct_some, ct_none, lc_lt, lc_ge, lc_gt, lc_le, lc_eq, lc_r, xI_inj, xJ_inj, Option.some.injEq, eq_self, bi_r, bi_0, bi_1, bi_n, Classical.not_not, and_true, true_and, ite_true, ite_false, ↓reduceIte, ↓x_andl, z_le, z_nle, z_lt, z_nlt, z_eq, z_neq, if_pos, if_neg, x_andl, false_and, and_false, or_true, true_or, or_false, false_or, not_true, not_false_iff, x_rd_eq, x_rd_ne, x_st_o, Int.cast_ofNat_Int, Int.ofNat_zero, Int.ofNat_one, not_true_eq_false, not_false_eq_true, if_true, if_false, ite_self, and_self, Int.ofNat_eq_natCast, Int.tdiv_eq_ediv_of_nonneg, Int.tmod_eq_emod_of_nonneg, x_bm32, v1, v0, g24]
            exact H
      · rw [bi_f cf] at hmm
        subst hmm
        refine ⟨(σi, xJ (σ2 28 j (21 + i))), ⟨j1, keep (if_neg (fun y => cf y.1))⟩, fun H => ?_⟩
        rw [bk_7_3]
        simp (disch := first | omega | (simp only [x_wtI, x_wtJ, x_wtR, x_wtN]; omega) | assumption | (simp (disch := omega) only [x_st_o, x_rd_ne]; first | assumption | omega) | (apply mir_eq; assumption; (intro c h1 h2; simp (disch := omega) only [x_st_o])) | (apply mis_eq; assumption; (intro c h1 h2; simp (disch := omega) only [x_st_o])) | rfl) only [bk_7_0, bk_7_1, bk_7_2, bk_7_4, bk_7_5, bk_7_7, wp_ald0, wp_ild1, wp_ic, wk_8, wr_24_0, wr_6_13, wl_13, wp_cald, wp_geti kd_24, wp_icgt, wp_goto, wp_fall, wp_ist2, wp_ist3, wp_ild3, wp_icge, wr_24_10, wp_iadd, wl_28, wp_pald, wp_lst4, wp_ild2, wp_ifeq, wp_lld4, wp_lc, wp_lcmp, wp_getj kd_24, wp_ladd, wp_ifge, ws_28, wp_inc3, wp_icne, wk_276, c_maxj, wp_ret, x_clr_I, x_clr_J, x_clr_R, x_clr_U, ct_some, ct_none, lc_lt, lc_ge, lc_gt, lc_le, lc_eq, lc_r, xI_inj, xJ_inj, Option.some.injEq, eq_self, bi_r, bi_0, bi_1, bi_n, Classical.not_not, and_true, true_and, ite_true, ite_false, ↓reduceIte, ↓x_andl, z_le, z_nle, z_lt, z_nlt, z_eq, z_neq, if_pos, if_neg, x_andl, false_and, and_false, or_true, true_or, or_false, false_or, not_true, not_false_iff, x_rd_eq, x_rd_ne, x_st_o, Int.cast_ofNat_Int, Int.ofNat_zero, Int.ofNat_one, not_true_eq_false, not_false_eq_true, if_true, if_false, ite_self, and_self, Int.ofNat_eq_natCast, Int.tdiv_eq_ediv_of_nonneg, Int.tmod_eq_emod_of_nonneg, x_bm32, v1]
        exact H
    · intro ⟨σi, u⟩ ⟨j1, j2⟩
      simp only at j1 j2 ⊢
      have gm : σi 24 j 3 = c := by rw [j1 24 j (by simp)]; exact hm
      rw [bk_7_3]
      simp (disch := first | omega | (simp only [x_wtI, x_wtJ, x_wtR, x_wtN]; omega) | assumption | (simp (disch := omega) only [x_st_o, x_rd_ne]; first | assumption | omega) | (apply mir_eq; assumption; (intro c h1 h2; simp (disch := omega) only [x_st_o])) | (apply mis_eq; assumption; (intro c h1 h2; simp (disch := omega) only [x_st_o])) | rfl) only [bk_7_0, bk_7_1, bk_7_2, bk_7_4, bk_7_5, bk_7_7, wp_ald0, wp_ild1, wp_ic, wk_8, wr_24_0, wr_6_13, wl_13, wp_cald, wp_geti kd_24, wp_icgt, wp_goto, wp_fall, wp_ist2, wp_ist3, wp_ild3, wp_icge, wr_24_10, wp_iadd, wl_28, wp_pald, wp_lst4, wp_ild2, wp_ifeq, wp_lld4, wp_lc, wp_lcmp, wp_getj kd_24, wp_ladd, wp_ifge, ws_28, wp_inc3, wp_icne, wk_276, c_maxj, wp_ret, x_clr_I, x_clr_J, x_clr_R, x_clr_U, ct_some, ct_none, lc_lt, lc_ge, lc_gt, lc_le, lc_eq, lc_r, xI_inj, xJ_inj, Option.some.injEq, eq_self, bi_r, bi_0, bi_1, bi_n, Classical.not_not, and_true, true_and, ite_true, ite_false, ↓reduceIte, ↓x_andl, z_le, z_nle, z_lt, z_nlt, z_eq, z_neq, if_pos, if_neg, x_andl, false_and, and_false, or_true, true_or, or_false, false_or, not_true, not_false_iff, x_rd_eq, x_rd_ne, x_st_o, Int.cast_ofNat_Int, Int.ofNat_zero, Int.ofNat_one, not_true_eq_false, not_false_eq_true, if_true, if_false, ite_self, and_self, Int.ofNat_eq_natCast, Int.tdiv_eq_ediv_of_nonneg, Int.tmod_eq_emod_of_nonneg, x_bm32]
      by_cases c3 : c = 3
      · subst c3
        refine x_lpJ (α := x_S) (fun i σs => x_eqo [(28, j)] σ σs ∧ ∀ s, 0 ≤ s → s < 42 → (s < i → σs 28 j s = max 0 (σi 28 j s)) ∧ (¬ s < i → σs 28 j s = σi 28 j s)) (fun i σs => x_Wp 3 7 (x_blk 7 6) [xR 24 j, xI f, xI m, xI i, u, xU] [] σs Q) (lo := 0) (hi := 42) (by omega) (a0 := σi) ⟨j1, fun s p q => ⟨fun z => by omega, fun _ => rfl⟩⟩ ?_ ?_
        · intro i σs i0 i1 ⟨k1, k2⟩
          have gm2 : σs 24 j 3 = 3 := by rw [k1 24 j (by simp)]; exact hm
          have vi := (k2 i i0 i1).2 (by omega)
          have ri : -9223372036854775808 ≤ σi 28 j i ∧ σi 28 j i ≤ 9223372036854775807 := by
            by_cases c : i ≤ 20
            · rw [(j2 i i0 c).1 (by omega)]
              have := wlb i i0 c
              omega
            · have := (j2 (i - 21) (by omega) (by omega)).2.2
              rw [show 21 + (i - 21) = i by omega] at this
              rw [this]
              have := r1 (i - 21) (by omega) (by omega)
              rw [show 21 + (i - 21) = i by omega] at this
              omega
          refine ⟨x_st σs 28 j i (max 0 (σi 28 j i)), ⟨eqo_st (by simp) k1, ?_⟩, fun H => ?_⟩
          · intro s p q
            have z := k2 s p q
            by_cases cs : s = i
            · subst cs
              rw [x_rd_eq]
              exact ⟨fun _ => rfl, fun y => by omega⟩
            · rw [x_rd_ne (by omega)]
              exact ⟨fun y => z.1 (by omega), fun y => z.2 (by omega)⟩
          · rw [bk_7_6]
            simp (disch := first | omega | (simp only [x_wtI, x_wtJ, x_wtR, x_wtN]; omega) | assumption | (simp (disch := omega) only [x_st_o, x_rd_ne]; first | assumption | omega) | (apply mir_eq; assumption; (intro c h1 h2; simp (disch := omega) only [x_st_o])) | (apply mis_eq; assumption; (intro c h1 h2; simp (disch := omega) only [x_st_o])) | rfl) only [bk_7_0, bk_7_1, bk_7_2, bk_7_4, bk_7_5, bk_7_7, wp_ald0, wp_ild1, wp_ic, wk_8, wr_24_0, wr_6_13, wl_13, wp_cald, wp_geti kd_24, wp_icgt, wp_goto, wp_fall, wp_ist2, wp_ist3, wp_ild3, wp_icge, wr_24_10, wp_iadd, wl_28, wp_pald, wp_lst4, wp_ild2, wp_ifeq, wp_lld4, wp_lc, wp_lcmp, wp_getj kd_24, wp_ladd, wp_ifge, ws_28, wp_inc3, wp_icne, wk_276, c_maxj, wp_ret, x_clr_I, x_clr_J, x_clr_R, x_clr_U, ct_some, ct_none, lc_lt, lc_ge, lc_gt, lc_le, lc_eq, lc_r, xI_inj, xJ_inj, Option.some.injEq, eq_self, bi_r, bi_0, bi_1, bi_n, Classical.not_not, and_true, true_and, ite_true, ite_false, ↓reduceIte, ↓x_andl, z_le, z_nle, z_lt, z_nlt, z_eq, z_neq, if_pos, if_neg, x_andl, false_and, and_false, or_true, true_or, or_false, false_or, not_true, not_false_iff, x_rd_eq, x_rd_ne, x_st_o, Int.cast_ofNat_Int, Int.ofNat_zero, Int.ofNat_one, not_true_eq_false, not_false_eq_true, if_true, if_false, ite_self, and_self, Int.ofNat_eq_natCast, Int.tdiv_eq_ediv_of_nonneg, Int.tmod_eq_emod_of_nonneg, x_bm32, gm2, vi]
            exact H
        · intro σs ⟨k1, k2⟩
          rw [bk_7_6]
          simp (disch := first | omega | (simp only [x_wtI, x_wtJ, x_wtR, x_wtN]; omega) | assumption | (simp (disch := omega) only [x_st_o, x_rd_ne]; first | assumption | omega) | (apply mir_eq; assumption; (intro c h1 h2; simp (disch := omega) only [x_st_o])) | (apply mis_eq; assumption; (intro c h1 h2; simp (disch := omega) only [x_st_o])) | rfl) only [bk_7_0, bk_7_1, bk_7_2, bk_7_4, bk_7_5, bk_7_7, wp_ald0, wp_ild1, wp_ic, wk_8, wr_24_0, wr_6_13, wl_13, wp_cald, wp_geti kd_24, wp_icgt, wp_goto, wp_fall, wp_ist2, wp_ist3, wp_ild3, wp_icge, wr_24_10, wp_iadd, wl_28, wp_pald, wp_lst4, wp_ild2, wp_ifeq, wp_lld4, wp_lc, wp_lcmp, wp_getj kd_24, wp_ladd, wp_ifge, ws_28, wp_inc3, wp_icne, wk_276, c_maxj, wp_ret, x_clr_I, x_clr_J, x_clr_R, x_clr_U, ct_some, ct_none, lc_lt, lc_ge, lc_gt, lc_le, lc_eq, lc_r, xI_inj, xJ_inj, Option.some.injEq, eq_self, bi_r, bi_0, bi_1, bi_n, Classical.not_not, and_true, true_and, ite_true, ite_false, ↓reduceIte, ↓x_andl, z_le, z_nle, z_lt, z_nlt, z_eq, z_neq, if_pos, if_neg, x_andl, false_and, and_false, or_true, true_or, or_false, false_or, not_true, not_false_iff, x_rd_eq, x_rd_ne, x_st_o, Int.cast_ofNat_Int, Int.ofNat_zero, Int.ofNat_one, not_true_eq_false, not_false_eq_true, if_true, if_false, ite_self, and_self, Int.ofNat_eq_natCast, Int.tdiv_eq_ediv_of_nonneg, Int.tmod_eq_emod_of_nonneg, x_bm32]
          refine fin σs k1 (fun st p q => ?_)
          rw [(k2 st p (by omega)).1 (by omega), (k2 (21 + st) (by omega) (by omega)).1 (by omega), (j2 st p q).1 (by omega), (j2 st p q).2.2]
          exact ⟨rfl, rfl⟩
      · rw [bk_7_6]
        simp (disch := first | omega | (simp only [x_wtI, x_wtJ, x_wtR, x_wtN]; omega) | assumption | (simp (disch := omega) only [x_st_o, x_rd_ne]; first | assumption | omega) | (apply mir_eq; assumption; (intro c h1 h2; simp (disch := omega) only [x_st_o])) | (apply mis_eq; assumption; (intro c h1 h2; simp (disch := omega) only [x_st_o])) | rfl) only [bk_7_0, bk_7_1, bk_7_2, bk_7_4, bk_7_5, bk_7_7, wp_ald0, wp_ild1, wp_ic, wk_8, wr_24_0, wr_6_13, wl_13, wp_cald, wp_geti kd_24, wp_icgt, wp_goto, wp_fall, wp_ist2, wp_ist3, wp_ild3, wp_icge, wr_24_10, wp_iadd, wl_28, wp_pald, wp_lst4, wp_ild2, wp_ifeq, wp_lld4, wp_lc, wp_lcmp, wp_getj kd_24, wp_ladd, wp_ifge, ws_28, wp_inc3, wp_icne, wk_276, c_maxj, wp_ret, x_clr_I, x_clr_J, x_clr_R, x_clr_U, ct_some, ct_none, lc_lt, lc_ge, lc_gt, lc_le, lc_eq, lc_r, xI_inj, xJ_inj, Option.some.injEq, eq_self, bi_r, bi_0, bi_1, bi_n, Classical.not_not, and_true, true_and, ite_true, ite_false, ↓reduceIte, ↓x_andl, z_le, z_nle, z_lt, z_nlt, z_eq, z_neq, if_pos, if_neg, x_andl, false_and, and_false, or_true, true_or, or_false, false_or, not_true, not_false_iff, x_rd_eq, x_rd_ne, x_st_o, Int.cast_ofNat_Int, Int.ofNat_zero, Int.ofNat_one, not_true_eq_false, not_false_eq_true, if_true, if_false, ite_self, and_self, Int.ofNat_eq_natCast, Int.tdiv_eq_ediv_of_nonneg, Int.tmod_eq_emod_of_nonneg, x_bm32, gm]
        refine fin σi j1 (fun st p q => ?_)
        rw [(j2 st p q).1 (by omega), (j2 st p q).2.2]
        unfold v_mx
        rw [if_neg c3, if_neg c3]
        exact ⟨rfl, rfl⟩
  have gW : σ2 24 j 1 = Wd := by rw [q24]; exact hWd
  by_cases cf : w_of w f 6 ≤ Wd
  · simp (disch := first | omega | (simp only [x_wtI, x_wtJ, x_wtR, x_wtN]; omega) | assumption | (simp (disch := omega) only [x_st_o, x_rd_ne]; first | assumption | omega) | (apply mir_eq; assumption; (intro c h1 h2; simp (disch := omega) only [x_st_o])) | (apply mis_eq; assumption; (intro c h1 h2; simp (disch := omega) only [x_st_o])) | rfl) only [bk_7_0, bk_7_1, bk_7_2, bk_7_4, bk_7_5, bk_7_6, bk_7_7, wp_ald0, wp_ild1, wp_ic, wk_8, wr_24_0, wr_6_13, wl_13, wp_cald, wp_geti kd_24, wp_icgt, wp_goto, wp_fall, wp_ist2, wp_ist3, wp_ild3, wp_icge, wr_24_10, wp_iadd, wl_28, wp_pald, wp_lst4, wp_ild2, wp_ifeq, wp_lld4, wp_lc, wp_lcmp, wp_getj kd_24, wp_ladd, wp_ifge, ws_28, wp_inc3, wp_icne, wk_276, c_maxj, wp_ret, x_clr_I, x_clr_J, x_clr_R, x_clr_U, ct_some, ct_none, lc_lt, lc_ge, lc_gt, lc_le, lc_eq, lc_r, xI_inj, xJ_inj, Option.some.injEq, eq_self, bi_r, bi_0, bi_1, bi_n, Classical.not_not, and_true, true_and, ite_true, ite_false, ↓reduceIte, ↓x_andl, z_le, z_nle, z_lt, z_nlt, z_eq, z_neq, if_pos, if_neg, x_andl, false_and, and_false, or_true, true_or, or_false, false_or, not_true, not_false_iff, x_rd_eq, x_rd_ne, x_st_o, Int.cast_ofNat_Int, Int.ofNat_zero, Int.ofNat_one, not_true_eq_false, not_false_eq_true, if_true, if_false, ite_self, and_self, Int.ofNat_eq_natCast, Int.tdiv_eq_ediv_of_nonneg, Int.tmod_eq_emod_of_nonneg, x_bm32, mi_far hM2, gW]
    exact go 1 (bi_t cf).symm
  · simp (disch := first | omega | (simp only [x_wtI, x_wtJ, x_wtR, x_wtN]; omega) | assumption | (simp (disch := omega) only [x_st_o, x_rd_ne]; first | assumption | omega) | (apply mir_eq; assumption; (intro c h1 h2; simp (disch := omega) only [x_st_o])) | (apply mis_eq; assumption; (intro c h1 h2; simp (disch := omega) only [x_st_o])) | rfl) only [bk_7_0, bk_7_1, bk_7_2, bk_7_4, bk_7_5, bk_7_6, bk_7_7, wp_ald0, wp_ild1, wp_ic, wk_8, wr_24_0, wr_6_13, wl_13, wp_cald, wp_geti kd_24, wp_icgt, wp_goto, wp_fall, wp_ist2, wp_ist3, wp_ild3, wp_icge, wr_24_10, wp_iadd, wl_28, wp_pald, wp_lst4, wp_ild2, wp_ifeq, wp_lld4, wp_lc, wp_lcmp, wp_getj kd_24, wp_ladd, wp_ifge, ws_28, wp_inc3, wp_icne, wk_276, c_maxj, wp_ret, x_clr_I, x_clr_J, x_clr_R, x_clr_U, ct_some, ct_none, lc_lt, lc_ge, lc_gt, lc_le, lc_eq, lc_r, xI_inj, xJ_inj, Option.some.injEq, eq_self, bi_r, bi_0, bi_1, bi_n, Classical.not_not, and_true, true_and, ite_true, ite_false, ↓reduceIte, ↓x_andl, z_le, z_nle, z_lt, z_nlt, z_eq, z_neq, if_pos, if_neg, x_andl, false_and, and_false, or_true, true_or, or_false, false_or, not_true, not_false_iff, x_rd_eq, x_rd_ne, x_st_o, Int.cast_ofNat_Int, Int.ofNat_zero, Int.ofNat_one, not_true_eq_false, not_false_eq_true, if_true, if_false, ite_self, and_self, Int.ofNat_eq_natCast, Int.tdiv_eq_ediv_of_nonneg, Int.tmod_eq_emod_of_nonneg, x_bm32, mi_far hM2, gW]
    exact go 0 (bi_f cf).symm

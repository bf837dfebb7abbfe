/-! a fork at which one knows what comes -/
def zea (mk E : Int) (w T : Int → Int) (f i st wd b t u : Int) : Prop := (s_law w 4 f st wd b t ∧ ¬ T (42 * w_of w f (8 + i) + (21 * p_or wd b + t)) = mk) ∧ u = x_pay (w_of w f 6 + 1) * p_cost w E f (t + w_of w f 5 - st) b t + T (42 * w_of w f (8 + i) + (21 * p_or wd b + t))
def e_sum (w l : Int → Int) (f : Int) : Nat → Int
  | 0 => 0
  | n + 1 => e_sum w l f n + w_of w (w_of w f (8 + n)) 1 * l n
def e_at (mk E : Int) (w T : Int → Int) (f st wd v : Int) : Prop := ((∃ i, 0 ≤ i ∧ i < w_of w f 7 ∧ ∀ u, ¬ ∃ b t, zea mk E w T f i st wd b t u) ∧ v = mk) ∨ ∃ l : Int → Int, (∀ i, 0 ≤ i → i < w_of w f 7 → x_ml mk (fun u => ∃ b t, zea mk E w T f i st wd b t u) (l i) ∧ ¬ l i = mk) ∧ v = e_sum w l f (w_of w f 7).toNat
def q_at (mk c E Wd ea : Int) (w L T : Int → Int) (f st wd v : Int) : Prop := ((f = ea ∧ ¬ p_end w E f) ∧ e_at mk E w T f st wd v) ∨ (¬ (f = ea ∧ ¬ p_end w E f) ∧ x_ml mk (s_val mk c E Wd w L T f st wd) v)
theorem esum_s {w l : Int → Int} {f i : Int} (i0 : 0 ≤ i) : e_sum w l f (i + 1).toNat = e_sum w l f i.toNat + w_of w (w_of w f (8 + i)) 1 * l i := by
  rw [show (i + 1).toNat = i.toNat + 1 by omega]
  show e_sum w l f i.toNat + w_of w (w_of w f (8 + (i.toNat : Int))) 1 * l (i.toNat : Int) = _
  rw [Int.toNat_of_nonneg i0]
theorem esum_cg {w l l' : Int → Int} {f : Int} : ∀ n : Nat, (∀ i : Int, 0 ≤ i → i < n → l' i = l i) → e_sum w l' f n = e_sum w l f n := by
  intro n
  induction n with
  | zero => intro _; rfl
  | succ n ih =>
    intro h
    show e_sum w l' f n + w_of w (w_of w f (8 + n)) 1 * l' n = e_sum w l f n + w_of w (w_of w f (8 + n)) 1 * l n
    rw [ih (fun i p q => h i p (by omega)), h n (by omega) (by omega)]
section ZEA
variable {mk E : Int} {w T : Int → Int} {f i st wd b t u : Int}
theorem zea_b (h : zea mk E w T f i st wd b t u) : b = 0 ∨ b = 1 := by
  have := h.1.1.1
  omega
theorem zea_t (h : zea mk E w T f i st wd b t u) : 0 ≤ t ∧ t ≤ st + w_of w f 3 - w_of w f 5 := ⟨h.1.1.2.1, h.1.1.2.2.2⟩
theorem zea_f {u' : Int} (h : zea mk E w T f i st wd b t u) (h' : zea mk E w T f i st wd b t u') : u' = u := by rw [h.2, h'.2]
theorem zea_bd (hw : wf w) (h0 : 0 ≤ f) (h1 : f < w 0) (hs : 0 ≤ st ∧ st ≤ 20) (hd : 0 ≤ wd ∧ wd ≤ 1) (i0 : 0 ≤ i) (i1 : i < w_of w f 7) (hT : t_bd mk w T (w_of w f (8 + i))) (h : zea mk E w T f i st wd b t u) : -(30000 * x_pay (w_of w f 6 + 1) + g_b (w_of w f 6 + 1)) ≤ u ∧ u ≤ 30000 * x_pay (w_of w f 6 + 1) + g_b (w_of w f 6 + 1) := by
  obtain ⟨lb, lt, lx⟩ := sl_b hw h0 h1 hs h.1.1
  have o := wf_f hw h0 h1
  unfold wf_one at o
  have kk := wf_k hw h0 h1 i0 i1
  have cb := cost_b hw (E := E) (x := t + w_of w f 5 - st) (b := b) (t := t) h0 h1 (by omega) lb lt
  have po := p_or_01 (a := wd) (b := b)
  have pb := pay_b (m := w_of w f 6 + 1)
  have v := (hT (21 * p_or wd b + t) (by omega) (by omega)).resolve_left h.1.2
  rw [kk.2.2.2] at v
  have mc := mulb (a := p_cost w E f (t + w_of w f 5 - st) b t) (b := x_pay (w_of w f 6 + 1)) (A := 30000) (B := x_pay (w_of w f 6 + 1)) cb (by omega)
  rw [Int.mul_comm (p_cost w E f (t + w_of w f 5 - st) b t)] at mc
  rw [h.2]
  omega
theorem esum_b {l : Int → Int} {B : Int} (hw : wf w) (h0 : 0 ≤ f) (h1 : f < w 0) (hB : 0 ≤ B) (hl : ∀ i, 0 ≤ i → i < w_of w f 7 → -B ≤ l i ∧ l i ≤ B) : ∀ n : Nat, (n : Int) ≤ w_of w f 7 → -(n * (200 * B)) ≤ e_sum w l f n ∧ e_sum w l f n ≤ n * (200 * B) := by
  intro n
  induction n with
  | zero => intro _; show -(((0 : Nat) : Int) * (200 * B)) ≤ 0 ∧ (0 : Int) ≤ ((0 : Nat) : Int) * (200 * B); omega
  | succ n ih =>
    intro hn
    have i := ih (by omega)
    have kk := wf_k hw (i := (n : Int)) h0 h1 (by omega) (by omega)
    have ok := wf_f hw (f := w_of w f (8 + n)) (by omega) (by omega)
    unfold wf_one at ok
    have m := mulb (a := l n) (b := w_of w (w_of w f (8 + n)) 1) (A := B) (B := 200) (hl n (by omega) (by omega)) (by omega)
    rw [Int.mul_comm (l n)] at m
    have e : e_sum w l f (n + 1) = e_sum w l f n + w_of w (w_of w f (8 + n)) 1 * l n := rfl
    have e2 : ((n + 1 : Nat) : Int) * (200 * B) = n * (200 * B) + B * 200 := by
      rw [show ((n + 1 : Nat) : Int) = (n : Int) + 1 by omega, Int.add_mul]
      omega
    rw [e, e2]
    omega
end ZEA
set_option maxHeartbeats 16000000 in
theorem h_early {σ : x_S} {w T : Int → Int} {E f st wd : Int} (h51 : σ 51 0 = w) (hE : σ 50 0 17 = E) (hT0 : σ 59 0 = T) (hw : wf w) (h0 : 0 ≤ f) (h1 : f < w 0) (hE2 : 0 ≤ E ∧ E ≤ 100) (hs : 0 ≤ st ∧ st ≤ 20) (hd : 0 ≤ wd ∧ wd ≤ 1) (hk : 0 < w_of w f 7)
    (hT : ∀ i, 0 ≤ i → i < w_of w f 7 → t_bd (-9223372036854775808) w T (w_of w f (8 + i))) : x_Sp 5 205 [xR 50 0, xI f, xI (21 * wd + st)] σ (fun r σ' => σ' = σ ∧ ∃ v, r = some (xJ v) ∧ e_at (-9223372036854775808) E w T f st wd v ∧ (v = (-9223372036854775808) ∨ (-(g_b (w_of w f 6)) ≤ v ∧ v ≤ g_b (w_of w f 6)))) := by
  have a := wf_h hw
  unfold wf_hdr at a
  have o := wf_f hw h0 h1
  unfold wf_one at o
  have em : (21 * wd + st) % 21 = st := by omega
  have ed : (21 * wd + st) / 21 = wd := by omega
  have k0 := wf_k hw (i := 0) h0 h1 (by omega) hk
  have ok0 := wf_f hw (f := w_of w f (8 + 0)) (by omega) (by omega)
  unfold wf_one at ok0
  have gs := (gb_s (k := w_of w f 6) (by omega)).2.2
  have gp1 := gb_pos (k := w_of w f 6 + 1)
  have pb := pay_b (m := w_of w f 6 + 1)
  refine x_gen (fun Q hQ => ?_)
  simp (disch := first | omega | (simp only [x_wtI, x_wtJ, x_wtR, x_wtN]; omega) | assumption | (simp (disch := omega) only [x_st_o, x_rd_ne]; first | assumption | omega) | (apply mir_eq; assumption; (intro c h1 h2; simp (disch := omega) only [x_st_o])) | (apply mis_eq; assumption; (intro c h1 h2; simp (disch := omega) only [x_st_o])) | rfl) only [sp_205, bk_205_0, bk_205_2, bk_205_3, bk_205_4, bk_205_5, bk_205_6, bk_205_7, bk_205_8, bk_205_9, bk_205_10, bk_205_11, bk_205_12, bk_205_13, bk_205_14, wp_lc, wp_lst3, wp_ic, wp_ist5, wp_fall, wp_ild5, wp_ald0, wp_ild1, wk_192, wp_icge, wp_iadd, wp_ist6, wp_lst7, wp_ist9, wp_ild9, wp_ist10, wp_ild10, wp_icgt, wp_ild2, wk_201, wp_ist11, wp_ild11, wp_icne, wp_goto, wr_50_20, wp_ild6, wp_imul, wl_59, wp_pald, wp_lst12, wp_lld12, wp_lcmp, wp_ifne, wk_202, wp_i2l, wk_206, wp_lmul, wp_ladd, wp_lld7, wp_ifeq, wp_ifge, wp_inc10, wp_inc9, wp_lret, wp_lld3, wp_inc5, x_clr_I, x_clr_J, x_clr_R, x_clr_U, ct_some, ct_none, lc_lt, lc_ge, lc_gt, lc_le, lc_eq, lc_r, xI_inj, xJ_inj, Option.some.injEq, eq_self, bi_r, bi_0, bi_1, bi_n, Classical.not_not, and_true, true_and, ite_true, ite_false, ↓reduceIte, ↓x_andl, z_le, z_nle, z_lt, z_nlt, z_eq, z_neq, if_pos, if_neg, x_andl, false_and, and_false, or_true, true_or, or_false, false_or, not_true, not_false_iff, x_rd_eq, x_rd_ne, x_st_o, Int.cast_ofNat_Int, Int.ofNat_zero, Int.ofNat_one, not_true_eq_false, not_false_eq_true, if_true, if_false, ite_self, and_self, Int.ofNat_eq_natCast, Int.tdiv_eq_ediv_of_nonneg, Int.tmod_eq_emod_of_nonneg, x_bm32]
  refine x_lpX (α := (Int → Int) × Int × x_V × x_V × x_V × x_V × x_V × x_V) (fun i q => (∀ j, 0 ≤ j → j < i → x_ml (-9223372036854775808) (fun u => ∃ b t, zea (-9223372036854775808) E w T f j st wd b t u) (q.1 j) ∧ ¬ q.1 j = (-9223372036854775808)) ∧ q.2.1 = e_sum w q.1 f i.toNat) (fun i q => x_Wp 5 205 (x_blk 205 1) [xR 50 0, xI f, xI (21 * wd + st), xJ q.2.1, xU, xI i, q.2.2.1, q.2.2.2.1, xU, q.2.2.2.2.1, q.2.2.2.2.2.1, q.2.2.2.2.2.2.1, q.2.2.2.2.2.2.2, xU] [] σ Q) (lo := 0) (hi := w_of w f 7) (by omega) (a0 := (fun _ => 0, 0, xU, xU, xU, xU, xU, xU)) ⟨fun j p q => by omega, rfl⟩ ?_ ?_
  · intro i ⟨l, sm, u1, u2, u3, u4, u5, u6⟩ i0 i1 ⟨j1, j2⟩
    simp only at j1 j2 ⊢
    subst j2
    have kk := wf_k hw h0 h1 i0 i1
    have okk := wf_f hw (f := w_of w f (8 + i)) (by omega) (by omega)
    unfold wf_one at okk
    have hTi := hT i i0 i1
    have zb : ∀ b t u, zea (-9223372036854775808) E w T f i st wd b t u → -(30000 * x_pay (w_of w f 6 + 1) + g_b (w_of w f 6 + 1)) ≤ u ∧ u ≤ 30000 * x_pay (w_of w f 6 + 1) + g_b (w_of w f 6 + 1) := fun b t u z => zea_bd hw h0 h1 hs hd i0 i1 hTi z
    have mlb : ∀ b x v, x_ml (-9223372036854775808) (vis (zea (-9223372036854775808) E w T f i st wd) b x) v → v = (-9223372036854775808) ∨ (-(30000 * x_pay (w_of w f 6 + 1) + g_b (w_of w f 6 + 1)) ≤ v ∧ v ≤ 30000 * x_pay (w_of w f 6 + 1) + g_b (w_of w f 6 + 1)) := by
      intro b x v h
      rcases h with ⟨z, _⟩ | ⟨⟨b', t', _, z⟩, _⟩
      · exact Or.inl z
      · exact Or.inr (zb _ _ _ z)
    -- both rows
    have two : ∀ (u3 u4 u5 u6 : x_V), ∃ (ls : Int) (u3' u4' u5' u6' : x_V), x_ml (-9223372036854775808) (fun u => ∃ b t, zea (-9223372036854775808) E w T f i st wd b t u) ls ∧ (x_Wp 5 205 (x_blk 205 2) [xR 50 0, xI f, xI (21 * wd + st), xJ (e_sum w l f i.toNat), xU, xI i, xI (w_of w f (8 + i)), xJ ls, xU, xI 2, u4', u5', u6', xU] [] σ Q → x_Wp 5 205 (x_blk 205 2) [xR 50 0, xI f, xI (21 * wd + st), xJ (e_sum w l f i.toNat), xU, xI i, xI (w_of w f (8 + i)), xJ (-9223372036854775808), xU, xI 0, u4, u5, u6, xU] [] σ Q) ∧ (ls = (-9223372036854775808) ∨ (-(30000 * x_pay (w_of w f 6 + 1) + g_b (w_of w f 6 + 1)) ≤ ls ∧ ls ≤ 30000 * x_pay (w_of w f 6 + 1) + g_b (w_of w f 6 + 1))) := by
      intro u3 u4 u5 u6
      have key : ∀ n : Nat, ∀ b x : Int, 0 ≤ b → b < 2 → -20 ≤ x → x + n = w_of w f 3 + 1 → ∀ (ls : Int) (u5 u6 : x_V), x_ml (-9223372036854775808) (vis (zea (-9223372036854775808) E w T f i st wd) b (st + x - w_of w f 5)) ls → ∃ (ls' : Int) (u5' u6' : x_V), x_ml (-9223372036854775808) (vis (zea (-9223372036854775808) E w T f i st wd) b (st + (w_of w f 3 + 1) - w_of w f 5)) ls' ∧ (x_Wp 5 205 (x_blk 205 3) [xR 50 0, xI f, xI (21 * wd + st), xJ (e_sum w l f i.toNat), xU, xI i, xI (w_of w f (8 + i)), xJ ls', xU, xI b, xI (w_of w f 3 + 1), u5', u6', xU] [] σ Q → x_Wp 5 205 (x_blk 205 3) [xR 50 0, xI f, xI (21 * wd + st), xJ (e_sum w l f i.toNat), xU, xI i, xI (w_of w f (8 + i)), xJ ls, xU, xI b, xI x, u5, u6, xU] [] σ Q) := by
        intro n
        induction n with
        | zero =>
          intro b x b0 b1 x0 x1 ls u5 u6 h
          have e : x = w_of w f 3 + 1 := by omega
          subst e
          exact ⟨ls, u5, u6, h, id⟩
        | succ n ih =>
          intro b x b0 b1 x0 x1 ls u5 u6 h
          have lb := mlb _ _ _ h
          have hb : 0 ≤ b ∧ b ≤ 1 := by omega
          have sl := sl_iff (Wd := 4) (x := x) hw h0 h1 hs hd hb
          have st1 : st + (x + 1) - w_of w f 5 = st + x - w_of w f 5 + 1 := by omega
          have po := p_or_01 (a := wd) (b := b)
          have rb := room_b hw (l := p_or wd b)
          by_cases hl : p_law w f st wd x b
          · have eB : p_beh w f (21 * wd + st) x b = 21 * p_or wd b + (st + x - w_of w f 5) := by
              unfold p_beh
              rw [em, ed, if_pos ⟨hb, hl⟩]
            have l4 := hl.2.2.2.1
            have l5 := hl.2.2.2.2
            have ys : s_law w 4 f st wd b (st + x - w_of w f 5) := sl.mpr ⟨hl, fun _ => by omega⟩
            have ex : st + x - w_of w f 5 + w_of w f 5 - st = x := by omega
            have et : (21 * p_or wd b + (st + x - w_of w f 5)) % 21 = st + x - w_of w f 5 := by omega
            have cb := cost_b hw (E := E) (x := x) (b := b) (t := st + x - w_of w f 5) h0 h1 (by omega) hb (by omega)
            have tv := hTi (21 * p_or wd b + (st + x - w_of w f 5)) (by omega) (by omega)
            have gk := gb_pos (k := w_of w (w_of w f (8 + i)) 6)
            by_cases cd : T (42 * w_of w f (8 + i) + (21 * p_or wd b + (st + x - w_of w f 5))) = (-9223372036854775808)
            · obtain ⟨ls', u5', u6', q1, q2⟩ := ih b (x + 1) b0 b1 (by omega) (by omega) ls (xI (21 * p_or wd b + (st + x - w_of w f 5))) (xJ (-9223372036854775808)) (by rw [st1]; exact ml_no h (fun u z => z.1.2 cd))
              refine ⟨ls', u5', u6', q1, fun H => ?_⟩
              have H2 := q2 H
              rw [bk_205_3]
              simp (disch := first | omega | (simp only [x_wtI, x_wtJ, x_wtR, x_wtN]; omega) | assumption | (simp (disch := omega) only [x_st_o, x_rd_ne]; first | assumption | omega) | (apply mir_eq; assumption; (intro c h1 h2; simp (disch := omega) only [x_st_o])) | (apply mis_eq; assumption; (intro c h1 h2; simp (disch := omega) only [x_st_o])) | rfl) only [bk_205_0, bk_205_4, bk_205_5, bk_205_6, bk_205_7, bk_205_8, bk_205_9, bk_205_10, bk_205_11, bk_205_12, bk_205_13, bk_205_14, wp_lc, wp_lst3, wp_ic, wp_ist5, wp_fall, wp_ild5, wp_ald0, wp_ild1, wk_192, wp_icge, wp_iadd, wp_ist6, wp_lst7, wp_ist9, wp_ild9, wp_ist10, wp_ild10, wp_icgt, wp_ild2, wk_201, wp_ist11, wp_ild11, wp_icne, wp_goto, wr_50_20, wp_ild6, wp_imul, wl_59, wp_pald, wp_lst12, wp_lld12, wp_lcmp, wp_ifne, wk_202, wp_i2l, wk_206, wp_lmul, wp_ladd, wp_lld7, wp_ifeq, wp_ifge, wp_inc10, wp_inc9, wp_lret, wp_lld3, wp_inc5, x_clr_I, x_clr_J, x_clr_R, x_clr_U, ct_some, ct_none, lc_lt, lc_ge, lc_gt, lc_le, lc_eq, lc_r, xI_inj, xJ_inj, Option.some.injEq, eq_self, bi_r, bi_0, bi_1, bi_n, Classical.not_not, and_true, true_and, ite_true, ite_false, ↓reduceIte, ↓x_andl, z_le, z_nle, z_lt, z_nlt, z_eq, z_neq, if_pos, if_neg, x_andl, false_and, and_false, or_true, true_or, or_false, false_or, not_true, not_false_iff, x_rd_eq, x_rd_ne, x_st_o, Int.cast_ofNat_Int, Int.ofNat_zero, Int.ofNat_one, not_true_eq_false, not_false_eq_true, if_true, if_false, ite_self, and_self, Int.ofNat_eq_natCast, Int.tdiv_eq_ediv_of_nonneg, Int.tmod_eq_emod_of_nonneg, x_bm32, k_of, k_behind, eB, hT0, cd]
              exact H2
            · have z1 : zea (-9223372036854775808) E w T f i st wd b (st + x - w_of w f 5) (x_pay (w_of w f 6 + 1) * p_cost w E f x b (st + x - w_of w f 5) + T (42 * w_of w f (8 + i) + (21 * p_or wd b + (st + x - w_of w f 5)))) := by
                refine ⟨⟨ys, cd⟩, ?_⟩
                rw [ex]
              have zv := zb _ _ _ z1
              have my := ml_yes h (fun z y => by obtain ⟨b', t', _, y⟩ := y; have := zb _ _ _ y; omega) z1 (fun u' y => zea_f z1 y)
              have ca : T (42 * w_of w f (8 + i) + (21 * p_or wd b + (st + x - w_of w f 5))) + p_cost w E f x b (st + x - w_of w f 5) * x_pay (w_of w f 6 + 1) = x_pay (w_of w f 6 + 1) * p_cost w E f x b (st + x - w_of w f 5) + T (42 * w_of w f (8 + i) + (21 * p_or wd b + (st + x - w_of w f 5))) := by
                rw [Int.mul_comm (p_cost w E f x b (st + x - w_of w f 5))]
                omega
              generalize hU : x_pay (w_of w f 6 + 1) * p_cost w E f x b (st + x - w_of w f 5) + T (42 * w_of w f (8 + i) + (21 * p_or wd b + (st + x - w_of w f 5))) = U at *
              obtain ⟨ls', u5', u6', q1, q2⟩ := ih b (x + 1) b0 b1 (by omega) (by omega) _ (xI (21 * p_or wd b + (st + x - w_of w f 5))) (xJ U) (by rw [st1]; exact my)
              refine ⟨ls', u5', u6', q1, fun H => ?_⟩
              have H2 := q2 H
              rw [bk_205_3]
              by_cases c1 : ls = (-9223372036854775808)
              · rw [if_pos (Or.inl c1)] at H2
                simp (disch := first | omega | (simp only [x_wtI, x_wtJ, x_wtR, x_wtN]; omega) | assumption | (simp (disch := omega) only [x_st_o, x_rd_ne]; first | assumption | omega) | (apply mir_eq; assumption; (intro c h1 h2; simp (disch := omega) only [x_st_o])) | (apply mis_eq; assumption; (intro c h1 h2; simp (disch := omega) only [x_st_o])) | rfl) only [bk_205_0, bk_205_4, bk_205_5, bk_205_6, bk_205_7, bk_205_8, bk_205_9, bk_205_10, bk_205_11, bk_205_12, bk_205_13, bk_205_14, wp_lc, wp_lst3, wp_ic, wp_ist5, wp_fall, wp_ild5, wp_ald0, wp_ild1, wk_192, wp_icge, wp_iadd, wp_ist6, wp_lst7, wp_ist9, wp_ild9, wp_ist10, wp_ild10, wp_icgt, wp_ild2, wk_201, wp_ist11, wp_ild11, wp_icne, wp_goto, wr_50_20, wp_ild6, wp_imul, wl_59, wp_pald, wp_lst12, wp_lld12, wp_lcmp, wp_ifne, wk_202, wp_i2l, wk_206, wp_lmul, wp_ladd, wp_lld7, wp_ifeq, wp_ifge, wp_inc10, wp_inc9, wp_lret, wp_lld3, wp_inc5, x_clr_I, x_clr_J, x_clr_R, x_clr_U, ct_some, ct_none, lc_lt, lc_ge, lc_gt, lc_le, lc_eq, lc_r, xI_inj, xJ_inj, Option.some.injEq, eq_self, bi_r, bi_0, bi_1, bi_n, Classical.not_not, and_true, true_and, ite_true, ite_false, ↓reduceIte, ↓x_andl, z_le, z_nle, z_lt, z_nlt, z_eq, z_neq, if_pos, if_neg, x_andl, false_and, and_false, or_true, true_or, or_false, false_or, not_true, not_false_iff, x_rd_eq, x_rd_ne, x_st_o, Int.cast_ofNat_Int, Int.ofNat_zero, Int.ofNat_one, not_true_eq_false, not_false_eq_true, if_true, if_false, ite_self, and_self, Int.ofNat_eq_natCast, Int.tdiv_eq_ediv_of_nonneg, Int.tmod_eq_emod_of_nonneg, x_bm32, k_of, k_behind, eB, hT0, k_costOf, et, k_parts, ca, c1]
                exact H2
              · by_cases c2 : U < ls
                · rw [if_pos (Or.inr c2)] at H2
                  simp (disch := first | omega | (simp only [x_wtI, x_wtJ, x_wtR, x_wtN]; omega) | assumption | (simp (disch := omega) only [x_st_o, x_rd_ne]; first | assumption | omega) | (apply mir_eq; assumption; (intro c h1 h2; simp (disch := omega) only [x_st_o])) | (apply mis_eq; assumption; (intro c h1 h2; simp (disch := omega) only [x_st_o])) | rfl) only [bk_205_0, bk_205_4, bk_205_5, bk_205_6, bk_205_7, bk_205_8, bk_205_9, bk_205_10, bk_205_11, bk_205_12, bk_205_13, bk_205_14, wp_lc, wp_lst3, wp_ic, wp_ist5, wp_fall, wp_ild5, wp_ald0, wp_ild1, wk_192, wp_icge, wp_iadd, wp_ist6, wp_lst7, wp_ist9, wp_ild9, wp_ist10, wp_ild10, wp_icgt, wp_ild2, wk_201, wp_ist11, wp_ild11, wp_icne, wp_goto, wr_50_20, wp_ild6, wp_imul, wl_59, wp_pald, wp_lst12, wp_lld12, wp_lcmp, wp_ifne, wk_202, wp_i2l, wk_206, wp_lmul, wp_ladd, wp_lld7, wp_ifeq, wp_ifge, wp_inc10, wp_inc9, wp_lret, wp_lld3, wp_inc5, x_clr_I, x_clr_J, x_clr_R, x_clr_U, ct_some, ct_none, lc_lt, lc_ge, lc_gt, lc_le, lc_eq, lc_r, xI_inj, xJ_inj, Option.some.injEq, eq_self, bi_r, bi_0, bi_1, bi_n, Classical.not_not, and_true, true_and, ite_true, ite_false, ↓reduceIte, ↓x_andl, z_le, z_nle, z_lt, z_nlt, z_eq, z_neq, if_pos, if_neg, x_andl, false_and, and_false, or_true, true_or, or_false, false_or, not_true, not_false_iff, x_rd_eq, x_rd_ne, x_st_o, Int.cast_ofNat_Int, Int.ofNat_zero, Int.ofNat_one, not_true_eq_false, not_false_eq_true, if_true, if_false, ite_self, and_self, Int.ofNat_eq_natCast, Int.tdiv_eq_ediv_of_nonneg, Int.tmod_eq_emod_of_nonneg, x_bm32, k_of, k_behind, eB, hT0, k_costOf, et, k_parts, ca]
                  exact H2
                · rw [if_neg (fun y => y.elim c1 c2)] at H2
                  simp (disch := first | omega | (simp only [x_wtI, x_wtJ, x_wtR, x_wtN]; omega) | assumption | (simp (disch := omega) only [x_st_o, x_rd_ne]; first | assumption | omega) | (apply mir_eq; assumption; (intro c h1 h2; simp (disch := omega) only [x_st_o])) | (apply mis_eq; assumption; (intro c h1 h2; simp (disch := omega) only [x_st_o])) | rfl) only [bk_205_0, bk_205_4, bk_205_5, bk_205_6, bk_205_7, bk_205_8, bk_205_9, bk_205_10, bk_205_11, bk_205_12, bk_205_13, bk_205_14, wp_lc, wp_lst3, wp_ic, wp_ist5, wp_fall, wp_ild5, wp_ald0, wp_ild1, wk_192, wp_icge, wp_iadd, wp_ist6, wp_lst7, wp_ist9, wp_ild9, wp_ist10, wp_ild10, wp_icgt, wp_ild2, wk_201, wp_ist11, wp_ild11, wp_icne, wp_goto, wr_50_20, wp_ild6, wp_imul, wl_59, wp_pald, wp_lst12, wp_lld12, wp_lcmp, wp_ifne, wk_202, wp_i2l, wk_206, wp_lmul, wp_ladd, wp_lld7, wp_ifeq, wp_ifge, wp_inc10, wp_inc9, wp_lret, wp_lld3, wp_inc5, x_clr_I, x_clr_J, x_clr_R, x_clr_U, ct_some, ct_none, lc_lt, lc_ge, lc_gt, lc_le, lc_eq, lc_r, xI_inj, xJ_inj, Option.some.injEq, eq_self, bi_r, bi_0, bi_1, bi_n, Classical.not_not, and_true, true_and, ite_true, ite_false, ↓reduceIte, ↓x_andl, z_le, z_nle, z_lt, z_nlt, z_eq, z_neq, if_pos, if_neg, x_andl, false_and, and_false, or_true, true_or, or_false, false_or, not_true, not_false_iff, x_rd_eq, x_rd_ne, x_st_o, Int.cast_ofNat_Int, Int.ofNat_zero, Int.ofNat_one, not_true_eq_false, not_false_eq_true, if_true, if_false, ite_self, and_self, Int.ofNat_eq_natCast, Int.tdiv_eq_ediv_of_nonneg, Int.tmod_eq_emod_of_nonneg, x_bm32, k_of, k_behind, eB, hT0, k_costOf, et, k_parts, ca]
                  exact H2
          · have eB : p_beh w f (21 * wd + st) x b = -1 := by
              unfold p_beh
              rw [em, ed, if_neg (fun z => hl z.2)]
            obtain ⟨ls', u5', u6', q1, q2⟩ := ih b (x + 1) b0 b1 (by omega) (by omega) ls (xI (-1)) (xJ (-9223372036854775808)) (by rw [st1]; exact ml_no h (fun u z => hl (sl.mp z.1.1).1))
            refine ⟨ls', u5', u6', q1, fun H => ?_⟩
            have H2 := q2 H
            rw [bk_205_3]
            simp (disch := first | omega | (simp only [x_wtI, x_wtJ, x_wtR, x_wtN]; omega) | assumption | (simp (disch := omega) only [x_st_o, x_rd_ne]; first | assumption | omega) | (apply mir_eq; assumption; (intro c h1 h2; simp (disch := omega) only [x_st_o])) | (apply mis_eq; assumption; (intro c h1 h2; simp (disch := omega) only [x_st_o])) | rfl) only [bk_205_0, bk_205_4, bk_205_5, bk_205_6, bk_205_7, bk_205_8, bk_205_9, bk_205_10, bk_205_11, bk_205_12, bk_205_13, bk_205_14, wp_lc, wp_lst3, wp_ic, wp_ist5, wp_fall, wp_ild5, wp_ald0, wp_ild1, wk_192, wp_icge, wp_iadd, wp_ist6, wp_lst7, wp_ist9, wp_ild9, wp_ist10, wp_ild10, wp_icgt, wp_ild2, wk_201, wp_ist11, wp_ild11, wp_icne, wp_goto, wr_50_20, wp_ild6, wp_imul, wl_59, wp_pald, wp_lst12, wp_lld12, wp_lcmp, wp_ifne, wk_202, wp_i2l, wk_206, wp_lmul, wp_ladd, wp_lld7, wp_ifeq, wp_ifge, wp_inc10, wp_inc9, wp_lret, wp_lld3, wp_inc5, x_clr_I, x_clr_J, x_clr_R, x_clr_U, ct_some, ct_none, lc_lt, lc_ge, lc_gt, lc_le, lc_eq, lc_r, xI_inj, xJ_inj, Option.some.injEq, eq_self, bi_r, bi_0, bi_1, bi_n, Classical.not_not, and_true, true_and, ite_true, ite_false, ↓reduceIte, ↓x_andl, z_le, z_nle, z_lt, z_nlt, z_eq, z_neq, if_pos, if_neg, x_andl, false_and, and_false, or_true, true_or, or_false, false_or, not_true, not_false_iff, x_rd_eq, x_rd_ne, x_st_o, Int.cast_ofNat_Int, Int.ofNat_zero, Int.ofNat_one, not_true_eq_false, not_false_eq_true, if_true, if_false, ite_self, and_self, Int.ofNat_eq_natCast, Int.tdiv_eq_ediv_of_nonneg, Int.tmod_eq_emod_of_nonneg, x_bm32, k_of, k_behind, eB]
            exact H2
      have m0 : x_ml (-9223372036854775808) (vis (zea (-9223372036854775808) E w T f i st wd) 0 (st + -20 - w_of w f 5)) (-9223372036854775808) := ml_nil (fun u => vis_0 (fun b' t' u' p z => by have := zea_b z; omega) (fun t' u' p z => by have := zea_t z; omega) u)
      obtain ⟨l1, v5, v6, q1, q2⟩ := key (w_of w f 3 + 21).toNat 0 (-20) (by omega) (by omega) (by omega) (by omega) (-9223372036854775808) u5 u6 m0
      have m1 : x_ml (-9223372036854775808) (vis (zea (-9223372036854775808) E w T f i st wd) 1 (st + -20 - w_of w f 5)) l1 := ml_cg q1 (fun z => vis_row (fun t' u p y => by have := zea_t y; omega) (fun t' u p y => by have := zea_t y; omega) z)
      obtain ⟨l2, x5, x6, p1, p2⟩ := key (w_of w f 3 + 21).toNat 1 (-20) (by omega) (by omega) (by omega) (by omega) l1 v5 v6 m1
      have m2 : x_ml (-9223372036854775808) (vis (zea (-9223372036854775808) E w T f i st wd) 2 (st + -20 - w_of w f 5)) l2 := ml_cg p1 (fun z => vis_row (fun t' u p y => by have := zea_t y; omega) (fun t' u p y => by have := zea_t y; omega) z)
      refine ⟨l2, xI 2, xI (w_of w f 3 + 1), x5, x6, ml_cg m2 (fun z => vis_2 (fun b' t' u p y => by have := zea_b y; omega) z), ?_, mlb _ _ _ m2⟩
      intro H
      have H1 : x_Wp 5 205 (x_blk 205 3) [xR 50 0, xI f, xI (21 * wd + st), xJ (e_sum w l f i.toNat), xU, xI i, xI (w_of w f (8 + i)), xJ l2, xU, xI 1, xI (w_of w f 3 + 1), x5, x6, xU] [] σ Q := by
        rw [bk_205_3]
        simp (disch := first | omega | (simp only [x_wtI, x_wtJ, x_wtR, x_wtN]; omega) | assumption | (simp (disch := omega) only [x_st_o, x_rd_ne]; first | assumption | omega) | (apply mir_eq; assumption; (intro c h1 h2; simp (disch := omega) only [x_st_o])) | (apply mis_eq; assumption; (intro c h1 h2; simp (disch := omega) only [x_st_o])) | rfl) only [bk_205_0, bk_205_4, bk_205_5, bk_205_6, bk_205_7, bk_205_8, bk_205_9, bk_205_10, bk_205_11, bk_205_12, bk_205_13, bk_205_14, wp_lc, wp_lst3, wp_ic, wp_ist5, wp_fall, wp_ild5, wp_ald0, wp_ild1, wk_192, wp_icge, wp_iadd, wp_ist6, wp_lst7, wp_ist9, wp_ild9, wp_ist10, wp_ild10, wp_icgt, wp_ild2, wk_201, wp_ist11, wp_ild11, wp_icne, wp_goto, wr_50_20, wp_ild6, wp_imul, wl_59, wp_pald, wp_lst12, wp_lld12, wp_lcmp, wp_ifne, wk_202, wp_i2l, wk_206, wp_lmul, wp_ladd, wp_lld7, wp_ifeq, wp_ifge, wp_inc10, wp_inc9, wp_lret, wp_lld3, wp_inc5, x_clr_I, x_clr_J, x_clr_R, x_clr_U, ct_some, ct_none, lc_lt, lc_ge, lc_gt, lc_le, lc_eq, lc_r, xI_inj, xJ_inj, Option.some.injEq, eq_self, bi_r, bi_0, bi_1, bi_n, Classical.not_not, and_true, true_and, ite_true, ite_false, ↓reduceIte, ↓x_andl, z_le, z_nle, z_lt, z_nlt, z_eq, z_neq, if_pos, if_neg, x_andl, false_and, and_false, or_true, true_or, or_false, false_or, not_true, not_false_iff, x_rd_eq, x_rd_ne, x_st_o, Int.cast_ofNat_Int, Int.ofNat_zero, Int.ofNat_one, not_true_eq_false, not_false_eq_true, if_true, if_false, ite_self, and_self, Int.ofNat_eq_natCast, Int.tdiv_eq_ediv_of_nonneg, Int.tmod_eq_emod_of_nonneg, x_bm32, k_of, Int.reduceAdd]
        exact H
      have H2 := p2 H1
      have H3 : x_Wp 5 205 (x_blk 205 3) [xR 50 0, xI f, xI (21 * wd + st), xJ (e_sum w l f i.toNat), xU, xI i, xI (w_of w f (8 + i)), xJ l1, xU, xI 0, xI (w_of w f 3 + 1), v5, v6, xU] [] σ Q := by
        rw [bk_205_3]
        simp (disch := first | omega | (simp only [x_wtI, x_wtJ, x_wtR, x_wtN]; omega) | assumption | (simp (disch := omega) only [x_st_o, x_rd_ne]; first | assumption | omega) | (apply mir_eq; assumption; (intro c h1 h2; simp (disch := omega) only [x_st_o])) | (apply mis_eq; assumption; (intro c h1 h2; simp (disch := omega) only [x_st_o])) | rfl) only [bk_205_0, bk_205_4, bk_205_5, bk_205_6, bk_205_7, bk_205_8, bk_205_9, bk_205_10, bk_205_11, bk_205_12, bk_205_13, bk_205_14, wp_lc, wp_lst3, wp_ic, wp_ist5, wp_fall, wp_ild5, wp_ald0, wp_ild1, wk_192, wp_icge, wp_iadd, wp_ist6, wp_lst7, wp_ist9, wp_ild9, wp_ist10, wp_ild10, wp_icgt, wp_ild2, wk_201, wp_ist11, wp_ild11, wp_icne, wp_goto, wr_50_20, wp_ild6, wp_imul, wl_59, wp_pald, wp_lst12, wp_lld12, wp_lcmp, wp_ifne, wk_202, wp_i2l, wk_206, wp_lmul, wp_ladd, wp_lld7, wp_ifeq, wp_ifge, wp_inc10, wp_inc9, wp_lret, wp_lld3, wp_inc5, x_clr_I, x_clr_J, x_clr_R, x_clr_U, ct_some, ct_none, lc_lt, lc_ge, lc_gt, lc_le, lc_eq, lc_r, xI_inj, xJ_inj, Option.some.injEq, eq_self, bi_r, bi_0, bi_1, bi_n, Classical.not_not, and_true, true_and, ite_true, ite_false, ↓reduceIte, ↓x_andl, z_le, z_nle, z_lt, z_nlt, z_eq, z_neq, if_pos, if_neg, x_andl, false_and, and_false, or_true, true_or, or_false, false_or, not_true, not_false_iff, x_rd_eq, x_rd_ne, x_st_o, Int.cast_ofNat_Int, Int.ofNat_zero, Int.ofNat_one, not_true_eq_false, not_false_eq_true, if_true, if_false, ite_self, and_self, Int.ofNat_eq_natCast, Int.tdiv_eq_ediv_of_nonneg, Int.tmod_eq_emod_of_nonneg, x_bm32, k_of, Int.reduceAdd]
        rw [bk_205_2]
        simp (disch := first | omega | (simp only [x_wtI, x_wtJ, x_wtR, x_wtN]; omega) | assumption | (simp (disch := omega) only [x_st_o, x_rd_ne]; first | assumption | omega) | (apply mir_eq; assumption; (intro c h1 h2; simp (disch := omega) only [x_st_o])) | (apply mis_eq; assumption; (intro c h1 h2; simp (disch := omega) only [x_st_o])) | rfl) only [bk_205_0, bk_205_4, bk_205_5, bk_205_6, bk_205_7, bk_205_8, bk_205_9, bk_205_10, bk_205_11, bk_205_12, bk_205_13, bk_205_14, wp_lc, wp_lst3, wp_ic, wp_ist5, wp_fall, wp_ild5, wp_ald0, wp_ild1, wk_192, wp_icge, wp_iadd, wp_ist6, wp_lst7, wp_ist9, wp_ild9, wp_ist10, wp_ild10, wp_icgt, wp_ild2, wk_201, wp_ist11, wp_ild11, wp_icne, wp_goto, wr_50_20, wp_ild6, wp_imul, wl_59, wp_pald, wp_lst12, wp_lld12, wp_lcmp, wp_ifne, wk_202, wp_i2l, wk_206, wp_lmul, wp_ladd, wp_lld7, wp_ifeq, wp_ifge, wp_inc10, wp_inc9, wp_lret, wp_lld3, wp_inc5, x_clr_I, x_clr_J, x_clr_R, x_clr_U, ct_some, ct_none, lc_lt, lc_ge, lc_gt, lc_le, lc_eq, lc_r, xI_inj, xJ_inj, Option.some.injEq, eq_self, bi_r, bi_0, bi_1, bi_n, Classical.not_not, and_true, true_and, ite_true, ite_false, ↓reduceIte, ↓x_andl, z_le, z_nle, z_lt, z_nlt, z_eq, z_neq, if_pos, if_neg, x_andl, false_and, and_false, or_true, true_or, or_false, false_or, not_true, not_false_iff, x_rd_eq, x_rd_ne, x_st_o, Int.cast_ofNat_Int, Int.ofNat_zero, Int.ofNat_one, not_true_eq_false, not_false_eq_true, if_true, if_false, ite_self, and_self, Int.ofNat_eq_natCast, Int.tdiv_eq_ediv_of_nonneg, Int.tmod_eq_emod_of_nonneg, x_bm32]
        exact H2
      have H4 := q2 H3
      rw [bk_205_2]
      simp (disch := first | omega | (simp only [x_wtI, x_wtJ, x_wtR, x_wtN]; omega) | assumption | (simp (disch := omega) only [x_st_o, x_rd_ne]; first | assumption | omega) | (apply mir_eq; assumption; (intro c h1 h2; simp (disch := omega) only [x_st_o])) | (apply mis_eq; assumption; (intro c h1 h2; simp (disch := omega) only [x_st_o])) | rfl) only [bk_205_0, bk_205_4, bk_205_5, bk_205_6, bk_205_7, bk_205_8, bk_205_9, bk_205_10, bk_205_11, bk_205_12, bk_205_13, bk_205_14, wp_lc, wp_lst3, wp_ic, wp_ist5, wp_fall, wp_ild5, wp_ald0, wp_ild1, wk_192, wp_icge, wp_iadd, wp_ist6, wp_lst7, wp_ist9, wp_ild9, wp_ist10, wp_ild10, wp_icgt, wp_ild2, wk_201, wp_ist11, wp_ild11, wp_icne, wp_goto, wr_50_20, wp_ild6, wp_imul, wl_59, wp_pald, wp_lst12, wp_lld12, wp_lcmp, wp_ifne, wk_202, wp_i2l, wk_206, wp_lmul, wp_ladd, wp_lld7, wp_ifeq, wp_ifge, wp_inc10, wp_inc9, wp_lret, wp_lld3, wp_inc5, x_clr_I, x_clr_J, x_clr_R, x_clr_U, ct_some, ct_none, lc_lt, lc_ge, lc_gt, lc_le, lc_eq, lc_r, xI_inj, xJ_inj, Option.some.injEq, eq_self, bi_r, bi_0, bi_1, bi_n, Classical.not_not, and_true, true_and, ite_true, ite_false, ↓reduceIte, ↓x_andl, z_le, z_nle, z_lt, z_nlt, z_eq, z_neq, if_pos, if_neg, x_andl, false_and, and_false, or_true, true_or, or_false, false_or, not_true, not_false_iff, x_rd_eq, x_rd_ne, x_st_o, Int.cast_ofNat_Int, Int.ofNat_zero, Int.ofNat_one, not_true_eq_false, not_false_eq_true, if_true, if_false, ite_self, and_self, Int.ofNat_eq_natCast, Int.tdiv_eq_ediv_of_nonneg, Int.tmod_eq_emod_of_nonneg, x_bm32]
      exact H4
    obtain ⟨ls, u3', u4', u5', u6', q1, q2, q3⟩ := two u3 u4 u5 u6
    by_cases cl : ls = (-9223372036854775808)
    · refine Or.inl ?_
      have fin : x_Wp 5 205 (x_blk 205 2) [xR 50 0, xI f, xI (21 * wd + st), xJ (e_sum w l f i.toNat), xU, xI i, xI (w_of w f (8 + i)), xJ ls, xU, xI 2, u4', u5', u6', xU] [] σ Q := by
        rw [bk_205_2]
        simp (disch := first | omega | (simp only [x_wtI, x_wtJ, x_wtR, x_wtN]; omega) | assumption | (simp (disch := omega) only [x_st_o, x_rd_ne]; first | assumption | omega) | (apply mir_eq; assumption; (intro c h1 h2; simp (disch := omega) only [x_st_o])) | (apply mis_eq; assumption; (intro c h1 h2; simp (disch := omega) only [x_st_o])) | rfl) only [bk_205_0, bk_205_4, bk_205_5, bk_205_6, bk_205_7, bk_205_8, bk_205_9, bk_205_10, bk_205_11, bk_205_12, bk_205_13, bk_205_14, wp_lc, wp_lst3, wp_ic, wp_ist5, wp_fall, wp_ild5, wp_ald0, wp_ild1, wk_192, wp_icge, wp_iadd, wp_ist6, wp_lst7, wp_ist9, wp_ild9, wp_ist10, wp_ild10, wp_icgt, wp_ild2, wk_201, wp_ist11, wp_ild11, wp_icne, wp_goto, wr_50_20, wp_ild6, wp_imul, wl_59, wp_pald, wp_lst12, wp_lld12, wp_lcmp, wp_ifne, wk_202, wp_i2l, wk_206, wp_lmul, wp_ladd, wp_lld7, wp_ifeq, wp_ifge, wp_inc10, wp_inc9, wp_lret, wp_lld3, wp_inc5, x_clr_I, x_clr_J, x_clr_R, x_clr_U, ct_some, ct_none, lc_lt, lc_ge, lc_gt, lc_le, lc_eq, lc_r, xI_inj, xJ_inj, Option.some.injEq, eq_self, bi_r, bi_0, bi_1, bi_n, Classical.not_not, and_true, true_and, ite_true, ite_false, ↓reduceIte, ↓x_andl, z_le, z_nle, z_lt, z_nlt, z_eq, z_neq, if_pos, if_neg, x_andl, false_and, and_false, or_true, true_or, or_false, false_or, not_true, not_false_iff, x_rd_eq, x_rd_ne, x_st_o, Int.cast_ofNat_Int, Int.ofNat_zero, Int.ofNat_one, not_true_eq_false, not_false_eq_true, if_true, if_false, ite_self, and_self, Int.ofNat_eq_natCast, Int.tdiv_eq_ediv_of_nonneg, Int.tmod_eq_emod_of_nonneg, x_bm32, cl]
        refine hQ _ _ ⟨rfl, _, rfl, Or.inl ⟨⟨i, i0, i1, ?_⟩, rfl⟩, Or.inl rfl⟩
        rcases q1 with ⟨_, z⟩ | ⟨⟨b', t', z⟩, _⟩
        · exact z
        · have := zb _ _ _ z
          omega
      have H := q2 fin
      rw [bk_205_1]
      simp (disch := first | omega | (simp only [x_wtI, x_wtJ, x_wtR, x_wtN]; omega) | assumption | (simp (disch := omega) only [x_st_o, x_rd_ne]; first | assumption | omega) | (apply mir_eq; assumption; (intro c h1 h2; simp (disch := omega) only [x_st_o])) | (apply mis_eq; assumption; (intro c h1 h2; simp (disch := omega) only [x_st_o])) | rfl) only [bk_205_0, bk_205_4, bk_205_5, bk_205_6, bk_205_7, bk_205_8, bk_205_9, bk_205_10, bk_205_11, bk_205_12, bk_205_13, bk_205_14, wp_lc, wp_lst3, wp_ic, wp_ist5, wp_fall, wp_ild5, wp_ald0, wp_ild1, wk_192, wp_icge, wp_iadd, wp_ist6, wp_lst7, wp_ist9, wp_ild9, wp_ist10, wp_ild10, wp_icgt, wp_ild2, wk_201, wp_ist11, wp_ild11, wp_icne, wp_goto, wr_50_20, wp_ild6, wp_imul, wl_59, wp_pald, wp_lst12, wp_lld12, wp_lcmp, wp_ifne, wk_202, wp_i2l, wk_206, wp_lmul, wp_ladd, wp_lld7, wp_ifeq, wp_ifge, wp_inc10, wp_inc9, wp_lret, wp_lld3, wp_inc5, x_clr_I, x_clr_J, x_clr_R, x_clr_U, ct_some, ct_none, lc_lt, lc_ge, lc_gt, lc_le, lc_eq, lc_r, xI_inj, xJ_inj, Option.some.injEq, eq_self, bi_r, bi_0, bi_1, bi_n, Classical.not_not, and_true, true_and, ite_true, ite_false, ↓reduceIte, ↓x_andl, z_le, z_nle, z_lt, z_nlt, z_eq, z_neq, if_pos, if_neg, x_andl, false_and, and_false, or_true, true_or, or_false, false_or, not_true, not_false_iff, x_rd_eq, x_rd_ne, x_st_o, Int.cast_ofNat_Int, Int.ofNat_zero, Int.ofNat_one, not_true_eq_false, not_false_eq_true, if_true, if_false, ite_self, and_self, Int.ofNat_eq_natCast, Int.tdiv_eq_ediv_of_nonneg, Int.tmod_eq_emod_of_nonneg, x_bm32, k_of]
      exact H
    · refine Or.inr ⟨(fun j => if j = i then ls else l j, e_sum w l f i.toNat + w_of w (w_of w f (8 + i)) 1 * ls, xI (w_of w f (8 + i)), xJ ls, xI 2, u4', u5', u6'), ⟨?_, ?_⟩, ?_⟩
      · intro j j0 jj
        by_cases c : j = i
        · subst c
          show x_ml (-9223372036854775808) _ (if j = j then ls else l j) ∧ ¬ (if j = j then ls else l j) = (-9223372036854775808)
          rw [if_pos rfl]
          exact ⟨q1, cl⟩
        · show x_ml (-9223372036854775808) _ (if j = i then ls else l j) ∧ ¬ (if j = i then ls else l j) = (-9223372036854775808)
          rw [if_neg c]
          exact j1 j j0 (by omega)
      · show e_sum w l f i.toNat + w_of w (w_of w f (8 + i)) 1 * ls = e_sum w (fun j => if j = i then ls else l j) f (i + 1).toNat
        rw [esum_s i0, if_pos rfl, esum_cg (l := l) (l' := fun j => if j = i then ls else l j) i.toNat (fun j p q => if_neg (by omega))]
      · intro H
        simp only at H
        have fin : x_Wp 5 205 (x_blk 205 2) [xR 50 0, xI f, xI (21 * wd + st), xJ (e_sum w l f i.toNat), xU, xI i, xI (w_of w f (8 + i)), xJ ls, xU, xI 2, u4', u5', u6', xU] [] σ Q := by
          rw [bk_205_2]
          simp (disch := first | omega | (simp only [x_wtI, x_wtJ, x_wtR, x_wtN]; omega) | assumption | (simp (disch := omega) only [x_st_o, x_rd_ne]; first | assumption | omega) | (apply mir_eq; assumption; (intro c h1 h2; simp (disch := omega) only [x_st_o])) | (apply mis_eq; assumption; (intro c h1 h2; simp (disch := omega) only [x_st_o])) | rfl) only [bk_205_0, bk_205_4, bk_205_5, bk_205_6, bk_205_7, bk_205_8, bk_205_9, bk_205_10, bk_205_11, bk_205_12, bk_205_13, bk_205_14, wp_lc, wp_lst3, wp_ic, wp_ist5, wp_fall, wp_ild5, wp_ald0, wp_ild1, wk_192, wp_icge, wp_iadd, wp_ist6, wp_lst7, wp_ist9, wp_ild9, wp_ist10, wp_ild10, wp_icgt, wp_ild2, wk_201, wp_ist11, wp_ild11, wp_icne, wp_goto, wr_50_20, wp_ild6, wp_imul, wl_59, wp_pald, wp_lst12, wp_lld12, wp_lcmp, wp_ifne, wk_202, wp_i2l, wk_206, wp_lmul, wp_ladd, wp_lld7, wp_ifeq, wp_ifge, wp_inc10, wp_inc9, wp_lret, wp_lld3, wp_inc5, x_clr_I, x_clr_J, x_clr_R, x_clr_U, ct_some, ct_none, lc_lt, lc_ge, lc_gt, lc_le, lc_eq, lc_r, xI_inj, xJ_inj, Option.some.injEq, eq_self, bi_r, bi_0, bi_1, bi_n, Classical.not_not, and_true, true_and, ite_true, ite_false, ↓reduceIte, ↓x_andl, z_le, z_nle, z_lt, z_nlt, z_eq, z_neq, if_pos, if_neg, x_andl, false_and, and_false, or_true, true_or, or_false, false_or, not_true, not_false_iff, x_rd_eq, x_rd_ne, x_st_o, Int.cast_ofNat_Int, Int.ofNat_zero, Int.ofNat_one, not_true_eq_false, not_false_eq_true, if_true, if_false, ite_self, and_self, Int.ofNat_eq_natCast, Int.tdiv_eq_ediv_of_nonneg, Int.tmod_eq_emod_of_nonneg, x_bm32, k_of]
          exact H
        have H2 := q2 fin
        rw [bk_205_1]
        simp (disch := first | omega | (simp only [x_wtI, x_wtJ, x_wtR, x_wtN]; omega) | assumption | (simp (disch := omega) only [x_st_o, x_rd_ne]; first | assumption | omega) | (apply mir_eq; assumption; (intro c h1 h2; simp (disch := omega) only [x_st_o])) | (apply mis_eq; assumption; (intro c h1 h2; simp (disch := omega) only [x_st_o])) | rfl) only [bk_205_0, bk_205_4, bk_205_5, bk_205_6, bk_205_7, bk_205_8, bk_205_9, bk_205_10, bk_205_11, bk_205_12, bk_205_13, bk_205_14, wp_lc, wp_lst3, wp_ic, wp_ist5, wp_fall, wp_ild5, wp_ald0, wp_ild1, wk_192, wp_icge, wp_iadd, wp_ist6, wp_lst7, wp_ist9, wp_ild9, wp_ist10, wp_ild10, wp_icgt, wp_ild2, wk_201, wp_ist11, wp_ild11, wp_icne, wp_goto, wr_50_20, wp_ild6, wp_imul, wl_59, wp_pald, wp_lst12, wp_lld12, wp_lcmp, wp_ifne, wk_202, wp_i2l, wk_206, wp_lmul, wp_ladd, wp_lld7, wp_ifeq, wp_ifge, wp_inc10, wp_inc9, wp_lret, wp_lld3, wp_inc5, x_clr_I, x_clr_J, x_clr_R, x_clr_U, ct_some, ct_none, lc_lt, lc_ge, lc_gt, lc_le, lc_eq, lc_r, xI_inj, xJ_inj, Option.some.injEq, eq_self, bi_r, bi_0, bi_1, bi_n, Classical.not_not, and_true, true_and, ite_true, ite_false, ↓reduceIte, ↓x_andl, z_le, z_nle, z_lt, z_nlt, z_eq, z_neq, if_pos, if_neg, x_andl, false_and, and_false, or_true, true_or, or_false, false_or, not_true, not_false_iff, x_rd_eq, x_rd_ne, x_st_o, Int.cast_ofNat_Int, Int.ofNat_zero, Int.ofNat_one, not_true_eq_false, not_false_eq_true, if_true, if_false, ite_self, and_self, Int.ofNat_eq_natCast, Int.tdiv_eq_ediv_of_nonneg, Int.tmod_eq_emod_of_nonneg, x_bm32, k_of]
        exact H2
  · intro ⟨l, sm, u1, u2, u3, u4, u5, u6⟩ ⟨j1, j2⟩
    simp only at j1 j2 ⊢
    subst j2
    rw [bk_205_1]
    simp (disch := first | omega | (simp only [x_wtI, x_wtJ, x_wtR, x_wtN]; omega) | assumption | (simp (disch := omega) only [x_st_o, x_rd_ne]; first | assumption | omega) | (apply mir_eq; assumption; (intro c h1 h2; simp (disch := omega) only [x_st_o])) | (apply mis_eq; assumption; (intro c h1 h2; simp (disch := omega) only [x_st_o])) | rfl) only [bk_205_0, bk_205_4, bk_205_5, bk_205_6, bk_205_7, bk_205_8, bk_205_9, bk_205_10, bk_205_11, bk_205_12, bk_205_13, bk_205_14, wp_lc, wp_lst3, wp_ic, wp_ist5, wp_fall, wp_ild5, wp_ald0, wp_ild1, wk_192, wp_icge, wp_iadd, wp_ist6, wp_lst7, wp_ist9, wp_ild9, wp_ist10, wp_ild10, wp_icgt, wp_ild2, wk_201, wp_ist11, wp_ild11, wp_icne, wp_goto, wr_50_20, wp_ild6, wp_imul, wl_59, wp_pald, wp_lst12, wp_lld12, wp_lcmp, wp_ifne, wk_202, wp_i2l, wk_206, wp_lmul, wp_ladd, wp_lld7, wp_ifeq, wp_ifge, wp_inc10, wp_inc9, wp_lret, wp_lld3, wp_inc5, x_clr_I, x_clr_J, x_clr_R, x_clr_U, ct_some, ct_none, lc_lt, lc_ge, lc_gt, lc_le, lc_eq, lc_r, xI_inj, xJ_inj, Option.some.injEq, eq_self, bi_r, bi_0, bi_1, bi_n, Classical.not_not, and_true, true_and, ite_true, ite_false, ↓reduceIte, ↓x_andl, z_le, z_nle, z_lt, z_nlt, z_eq, z_neq, if_pos, if_neg, x_andl, false_and, and_false, or_true, true_or, or_false, false_or, not_true, not_false_iff, x_rd_eq, x_rd_ne, x_st_o, Int.cast_ofNat_Int, Int.ofNat_zero, Int.ofNat_one, not_true_eq_false, not_false_eq_true, if_true, if_false, ite_self, and_self, Int.ofNat_eq_natCast, Int.tdiv_eq_ediv_of_nonneg, Int.tmod_eq_emod_of_nonneg, x_bm32, k_of]
    refine hQ _ _ ⟨rfl, _, rfl, Or.inr ⟨l, j1, rfl⟩, Or.inr ?_⟩
    have lb : ∀ i, 0 ≤ i → i < w_of w f 7 → -(30000 * x_pay (w_of w f 6 + 1) + g_b (w_of w f 6 + 1)) ≤ l i ∧ l i ≤ 30000 * x_pay (w_of w f 6 + 1) + g_b (w_of w f 6 + 1) := by
      intro i i0 i1
      rcases (j1 i i0 i1).1 with ⟨z, _⟩ | ⟨⟨b', t', z⟩, _⟩
      · exact absurd z (j1 i i0 i1).2
      · exact zea_bd hw h0 h1 hs hd i0 i1 (hT i i0 i1) z
    have eb := esum_b hw h0 h1 (by omega) lb (w_of w f 7).toNat (by omega)
    have m5 := mulb (a := ((w_of w f 7).toNat : Int)) (b := 200 * (30000 * x_pay (w_of w f 6 + 1) + g_b (w_of w f 6 + 1))) (A := 5) (B := 200 * (30000 * x_pay (w_of w f 6 + 1) + g_b (w_of w f 6 + 1))) (by omega) (by omega)
    omega

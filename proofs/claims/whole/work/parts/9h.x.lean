theorem h_chooseT {σ : x_S} {w T L : Int → Int} {j : Nat} {c E Wd f st wd : Int} (hM : mir σ 1 w) (hj : j < 4) (hw : wf w) (h0 : 0 ≤ f) (h1 : f < w 0) (hm : σ 24 j 3 = c) (hc : 0 ≤ c ∧ c ≤ 2) (hWd : σ 24 j 1 = Wd) (hW2 : 4 ≤ Wd ∧ Wd ≤ 100) (hE : σ 24 j 2 = E) (hE2 : 0 ≤ E ∧ E ≤ 100) (hV : σ 25 j = T) (hL0 : σ 26 j = L) (hst : 0 ≤ st ∧ st ≤ 20) (hwd : 0 ≤ wd ∧ wd ≤ 1) (hT : ¬ p_end w E f → ∀ i, 0 ≤ i → i < w_of w f 7 → t_bd 9223372036854775807 w T (w_of w f (8 + i))) (hL : c = 2 → p_end w E f → -170000 ≤ L f ∧ L f ≤ 170000) :
    x_Sp 4 12 [xR 24 j, xI f, xI st, xI wd] σ (fun r σ' => x_eqo [(24, j), (27, j)] σ σ' ∧ (∀ k, ¬ (7 ≤ k ∧ k ≤ 9) → σ' 24 j k = σ 24 j k) ∧ ∃ pick low, r = some (xI pick) ∧ ((pick = -1 ∧ ∀ b t u, ¬ zst 9223372036854775807 c E Wd w L T f st wd b t u) ∨ ∃ b0 t0, pick = b0 * 21 + t0 ∧ fL (zst 9223372036854775807 c E Wd w L T f st wd) b0 t0 low)) := by
  refine x_use (d := 0) (h_choose (P := rok c E w L T f) hM hj hw h0 h1 hm (by omega) hWd hW2 hst hwd (vsc_b (c := c) (w := w) (f := f)) (kpE_b hw (E := E) (f := f)) (fun R h => rok_b h) (h_look hM hj hw h0 h1 hm (by omega) hE hE2 hV hL0 hT hL)) ?_
  rintro r σ' ⟨e, k, R, hR, pick, low, hr, h⟩
  refine ⟨e, k, pick, low, hr, ?_⟩
  rcases h with ⟨z1, _, z3⟩ | ⟨b0, t0, z1, z2⟩
  · exact Or.inl ⟨z1, fun b t u z => z3 b t u ((zcl_zst hw h0 h1 hst hR).mpr z)⟩
  · exact Or.inr ⟨b0, t0, z1, fL_cg z2 (fun b t u => (zcl_zst hw h0 h1 hst hR).symm)⟩
theorem fL_ml {Z : Int → Int → Int → Prop} {mk b0 t0 u0 : Int} (h : fL Z b0 t0 u0) : x_ml mk (fun u => ∃ b t, Z b t u) u0 := Or.inr ⟨⟨b0, t0, h.1⟩, fun u ⟨b, t, z⟩ => (h.2 b t u z).1⟩
theorem ym_kid {w Ym L : Int → Int} {f st wd b t i : Int} (hw : wf w) (hn : wn w) (hM : mwy w Ym L) (f0 : w 8 ≤ f) (f1 : f < w 0) (fr : p_fr w (w 8) f) (hs : 0 ≤ st ∧ st ≤ 20) (hd : 0 ≤ wd ∧ wd ≤ 1) (rc : ¬ Ym (42 * f + (21 * wd + st)) = (-9223372036854775808)) (l : s_law w 4 f st wd b t) (i0 : 0 ≤ i) (i1 : i < w_of w f 7) : ¬ Ym (42 * w_of w f (8 + i) + (21 * p_or wd b + t)) = (-9223372036854775808) := by
  have n8 := hn.1
  have kk := wf_k hw (f := f) (i := i) (by omega) f1 i0 i1
  have sb := sl_b hw (by omega) f1 hs l
  have po := p_or_01 (a := wd) (b := b)
  have o := wf_f hw (f := f) (by omega) f1
  unfold wf_one at o
  have m := hM.1.2 _ (by omega) kk.2.1 (fr_kid hw n8.1 fr (by omega) f1 i0 i1) (21 * p_or wd b + t) (by omega) (by omega)
  rw [kk.2.2.1] at m
  have y : y_set (-9223372036854775808) w Ym f (21 * p_or wd b + t) (Ym (42 * f + (21 * wd + st)) + p_cost w 5 f (t + w_of w f 5 - st) b t) := ⟨st, wd, b, t, hs, hd, rc, l, rfl, rfl⟩
  rcases m with ⟨_, z⟩ | ⟨z, _⟩
  · exact absurd y (z _)
  · have := ys_b hw (by omega) f1 ((mwy_b hw hn hM).1 f f0 f1 fr) z
    omega
theorem ym_end {w Ym L : Int → Int} {f st wd b t : Int} (hw : wf w) (hn : wn w) (hM : mwy w Ym L) (f0 : w 8 ≤ f) (f1 : f < w 0) (fr : p_fr w (w 8) f) (hs : 0 ≤ st ∧ st ≤ 20) (hd : 0 ≤ wd ∧ wd ≤ 1) (rc : ¬ Ym (42 * f + (21 * wd + st)) = (-9223372036854775808)) (l : s_law w 4 f st wd b t) (kz : w_of w f 7 = 0) : ¬ L f = (-9223372036854775808) ∧ (-150000 ≤ L f ∧ L f ≤ 150000) ∧ ∀ Y Lc, g_wayC w Y Lc → Lc f = L f := by
  have n8 := hn.1
  have sb := sl_b hw (by omega) f1 hs l
  have po := p_or_01 (a := wd) (b := b)
  have y : y_end (-9223372036854775808) w Ym f (Ym (42 * f + (21 * wd + st)) + p_cost w 5 f (t + w_of w f 5 - st) b t) := ⟨21 * p_or wd b + t, by omega, st, wd, b, t, hs, hd, rc, l, rfl, rfl⟩
  have nv : ¬ L f = (-9223372036854775808) := by
    rcases hM.2.1 f f0 f1 fr kz with ⟨_, z⟩ | ⟨⟨t', p', z⟩, _⟩
    · exact absurd y (z _)
    · have := ys_b hw (by omega) f1 ((mwy_b hw hn hM).1 f f0 f1 fr) z
      have o := wf_f hw (f := f) (by omega) f1
      unfold wf_one at o
      omega
  refine ⟨nv, ((mwy_b hw hn hM).2 f (by omega) f1).resolve_left nv, fun Y Lc h => ?_⟩
  rcases way_least hw hn hM h f0 f1 fr kz with ⟨⟨z, _⟩, _⟩ | ⟨z, _⟩
  · exact absurd z nv
  · exact z.symm
theorem zst_now {w T T2 L L2 Ym : Int → Int} {c f st wd : Int} (hw : wf w) (hn : wn w) (hc : 0 ≤ c ∧ c ≤ 2) (hG : gT c 5 4 (-1) w L T (w 8)) (hM : c = 2 → mwy w Ym L) (hC : cT c w T2 L2) (f0 : w 8 ≤ f) (f1 : f < w 0) (fr : p_fr w (w 8) f) (hs : 0 ≤ st ∧ st ≤ 20) (hd : 0 ≤ wd ∧ wd ≤ 1) (rc : c = 2 → ¬ Ym (42 * f + (21 * wd + st)) = (-9223372036854775808)) (b t u : Int) : zst (-9223372036854775808) c 5 4 w L T f st wd b t u ↔ zst 9223372036854775807 c 5 4 w L2 T2 f st wd b t u := by
  have n8 := hn.1
  have o := wf_f hw (f := f) (by omega) f1
  unfold wf_one at o
  refine zst_ag hw (by omega) f1 ?_ ?_ b t u
  · intro ne b t l i i0 i1
    have kk := wf_k hw (f := f) (i := i) (by omega) f1 i0 i1
    have sb := sl_b hw (by omega) f1 hs l
    have po := p_or_01 (a := wd) (b := b)
    exact tab_ag hw hn hc hG hM hC _ (by omega) kk.2.1 (fr_kid hw n8.1 fr (by omega) f1 i0 i1) t (p_or wd b) (by omega) (by omega) (by omega) (by omega) (fun c2 => ym_kid hw hn (hM c2) f0 f1 fr hs hd (rc c2) l i0 i1)
  · intro pe b t l c2
    obtain ⟨Y, hY⟩ := hC.2 c2
    exact (ym_end hw hn (hM c2) f0 f1 fr hs hd (rc c2) l (pe.elim id (fun z => by omega))).2.2 Y L2 hY
theorem gT_val {w T L Ym : Int → Int} {c f st wd : Int} (hw : wf w) (hn : wn w) (hc : 0 ≤ c ∧ c ≤ 2) (hG : gT c 5 4 (-1) w L T (w 8)) (hM : c = 2 → mwy w Ym L) (f0 : w 8 ≤ f) (f1 : f < w 0) (fr : p_fr w (w 8) f) (hs : 0 ≤ st ∧ st ≤ 20) (hd : 0 ≤ wd ∧ wd ≤ 1) (rc : c = 2 → ¬ Ym (42 * f + (21 * wd + st)) = (-9223372036854775808)) : x_ml (-9223372036854775808) (fun u => ∃ b t, zst (-9223372036854775808) c 5 4 w L T f st wd b t u) (T (42 * f + (21 * wd + st))) ∧ (∀ b t u, zst (-9223372036854775808) c 5 4 w L T f st wd b t u → (c = 2 → p_end w 5 f → -170000 ≤ L f ∧ L f ≤ 170000) ∧ -600000000000000000 ≤ u ∧ u ≤ 600000000000000000) := by
  have n8 := hn.1
  have o := wf_f hw (f := f) (by omega) f1
  unfold wf_one at o
  obtain ⟨gB, gY, gN⟩ := hG f f0 f1
  have hLb : ∀ b t, s_law w 4 f st wd b t → (c = 2 → p_end w 5 f → -170000 ≤ L f ∧ L f ≤ 170000) := by
    intro b t l c2 pe
    have := (ym_end hw hn (hM c2) f0 f1 fr hs hd (rc c2) l (pe.elim id (fun z => by omega))).2.1
    omega
  have hTk : ∀ i, 0 ≤ i → i < w_of w f 7 → t_bd (-9223372036854775808) w T (w_of w f (8 + i)) := by
    intro i i0 i1
    have kk := wf_k hw (f := f) (i := i) (by omega) f1 i0 i1
    exact (hG _ (by omega) (by omega)).1
  refine ⟨?_, fun b t u z => ⟨hLb b t z.1.1, ?_⟩⟩
  · by_cases hm : may c w L f
    · have z := ((gY ⟨fr, hm⟩ st wd hs.1 hs.2 hd.1 hd.2).resolve_left (fun z => by omega)).2
      exact ml_cg z (fun u => zst_val.symm)
    · rw [gN (fun z => hm z.2) (21 * wd + st) (by omega) (by omega)]
      refine ml_nil (fun u ⟨b, t, z⟩ => hm ?_)
      by_cases c2 : c = 2
      · by_cases kz : w_of w f 7 = 0
        · exact Or.inr (Or.inr (ym_end hw hn (hM c2) f0 f1 fr hs hd (rc c2) z.1.1 kz).1)
        · exact Or.inr (Or.inl (by omega))
      · exact Or.inl c2
  · have b := zst_bd hw (by omega) f1 hs hd hTk (hLb b t z.1.1) (by omega) z
    have gp := gb_pos (k := w_of w f 6)
    omega
section OS
variable {L : Int} {S0 : Int → Int}
theorem rc_now {w Ym L : Int → Int} (hn : wn w) (h : mwy w Ym L) : ¬ Ym (42 * w 8 + (21 * w 10 + w 9)) = (-9223372036854775808) := by
  obtain ⟨n8, n9, n10, _⟩ := id hn
  rw [h.1.1 _ (by omega) (by omega), if_pos rfl]
  omega
theorem cT_L {w T L : Int → Int} {c f : Int} (hw : wf w) (hn : wn w) (h : cT c w T L) (f0 : w 8 ≤ f) (f1 : f < w 0) (fr : p_fr w (w 8) f) : c = 2 → p_end w 5 f → -170000 ≤ L f ∧ L f ≤ 170000 := by
  intro c2 pe
  have n8 := hn.1
  have o := wf_f hw (f := f) (by omega) f1
  unfold wf_one at o
  obtain ⟨Y, hY⟩ := h.2 c2
  have := (wayC_b hw hn hY).2 f f0 f1 fr (pe.elim id (fun z => by omega))
  omega
theorem cT_k {w T L : Int → Int} {c f : Int} (hw : wf w) (hn : wn w) (h : cT c w T L) (f0 : w 8 ≤ f) (f1 : f < w 0) (fr : p_fr w (w 8) f) : ∀ i, 0 ≤ i → i < w_of w f 7 → t_bd 9223372036854775807 w T (w_of w f (8 + i)) := by
  intro i i0 i1
  have n8 := hn.1
  have kk := wf_k hw (f := f) (i := i) (by omega) f1 i0 i1
  exact (h.1 _ (by omega) kk.2.1 (fr_kid hw n8.1 fr (by omega) f1 i0 i1)).2
theorem iF_j {σ : x_S} {j : Nat} (h : iF σ) (hj : j < 3) : σ 24 j 1 = 4 ∧ σ 24 j 2 = 5 ∧ σ 24 j 3 = j := by
  obtain ⟨a, b, c⟩ := h
  have : j = 0 ∨ j = 1 ∨ j = 2 := by omega
  rcases this with rfl | rfl | rfl
  · exact a
  · exact b
  · exact c
theorem iN_look {σ σ' : x_S} {j : Nat} (h : iN L S0 σ) (hj : j < 4) (e : x_eqo [(24, j), (27, j)] σ σ') (k : ∀ k, ¬ (7 ≤ k ∧ k ≤ 9) → σ' 24 j k = σ 24 j k) : iN L S0 σ' := by
  have m : ∀ p ∈ [(24, j), (27, j)], p ∈ x_scr := by
    have : j = 0 ∨ j = 1 ∨ j = 2 ∨ j = 3 := by omega
    rcases this with rfl | rfl | rfl | rfl <;> decide
  refine iN_scr h (eqo_mono m e) ?_ ?_
  · intro j' k' _ a b
    by_cases c : j' = j
    · rw [c]
      exact k k' (by omega)
    · rw [e 24 j' (by simp [c])]
  · intro k' _
    rw [e 50 0 (by simp)]
theorem h_pick {σ : x_S} {j : Nat} {c : Int} (hh : iN L S0 σ) (hj : j < 3) (hc : c = j) (ct : cT c (σ 51 0) (σ 25 j) (σ 26 j)) : x_Sp 5 109 [xR 0 0, xR 24 j] σ (fun r σ' => x_eqo [(24, j), (27, j)] σ σ' ∧ iN L S0 σ' ∧ ∃ pick low, r = some (xI pick) ∧ ((pick = -1 ∧ ∀ b t u, ¬ zst 9223372036854775807 c 5 4 (σ 51 0) (σ 26 j) (σ 25 j) (σ 51 0 8) (σ 51 0 9) (σ 51 0 10) b t u) ∨ ∃ b0 t0, (0 ≤ b0 ∧ b0 ≤ 1) ∧ (0 ≤ t0 ∧ t0 ≤ 20) ∧ pick = b0 * 21 + t0 ∧ fL (zst 9223372036854775807 c 5 4 (σ 51 0) (σ 26 j) (σ 25 j) (σ 51 0 8) (σ 51 0 9) (σ 51 0 10)) b0 t0 low)) := by
  obtain ⟨w, h51, hw, h100, hn, hq, hM, hS⟩ := iN_w hh
  rw [h51] at ct ⊢
  obtain ⟨n8, n9, n10, _⟩ := id hn
  have fj := iF_j hh.2.2.1 hj
  refine x_gen (fun Q hQ => ?_)
  simp (disch := first | omega | (simp only [x_wtI, x_wtJ, x_wtR, x_wtN]; omega) | assumption | (simp (disch := omega) only [x_st_o, x_rd_ne]; first | assumption | omega) | (apply mir_eq; assumption; (intro c h1 h2; simp (disch := omega) only [x_st_o])) | (apply mis_eq; assumption; (intro c h1 h2; simp (disch := omega) only [x_st_o])) | rfl) only [sp_109, bk_109_0, wp_ald1, wp_ald0, wr_0_2, wp_geti kd_20, wk_12, wp_iret mz_109, x_clr_I, x_clr_J, x_clr_R, x_clr_U, ct_some, ct_none, lc_lt, lc_ge, lc_gt, lc_le, lc_eq, lc_r, xI_inj, xJ_inj, Option.some.injEq, eq_self, bi_r, bi_0, bi_1, bi_n, Classical.not_not, and_true, true_and, ite_true, ite_false, ↓reduceIte, ↓x_andl, z_le, z_nle, z_lt, z_nlt, z_eq, z_neq, if_pos, if_neg, x_andl, false_and, and_false, or_true, true_or, or_false, false_or, not_true, not_false_iff, x_rd_eq, x_rd_ne, x_st_o, Int.cast_ofNat_Int, Int.ofNat_zero, Int.ofNat_one, not_true_eq_false, not_false_eq_true, if_true, if_false, ite_self, and_self, Int.ofNat_eq_natCast, Int.tdiv_eq_ediv_of_nonneg, Int.tmod_eq_emod_of_nonneg, x_bm32, hS.1.1, hS.1.2.1, hS.1.2.2.1]
  refine x_use (d := 0) (h_chooseT (c := c) (E := 5) (Wd := 4) hM (by omega) hw n8.1 n8.2 (by rw [hc]; exact fj.2.2) (by omega) fj.1 (by omega) fj.2.1 (by omega) rfl rfl n9 n10 (fun _ => cT_k hw hn ct (by omega) n8.2 fr_self) (cT_L hw hn ct (by omega) n8.2 fr_self)) ?_
  rintro r σ' ⟨e, k, pick, low, hr, h⟩
  subst hr
  simp (disch := first | omega | (simp only [x_wtI, x_wtJ, x_wtR, x_wtN]; omega) | assumption | (simp (disch := omega) only [x_st_o, x_rd_ne]; first | assumption | omega) | (apply mir_eq; assumption; (intro c h1 h2; simp (disch := omega) only [x_st_o])) | (apply mis_eq; assumption; (intro c h1 h2; simp (disch := omega) only [x_st_o])) | rfl) only [bk_109_0, wp_ald1, wp_ald0, wr_0_2, wp_geti kd_20, wk_12, wp_iret mz_109, x_clr_I, x_clr_J, x_clr_R, x_clr_U, ct_some, ct_none, lc_lt, lc_ge, lc_gt, lc_le, lc_eq, lc_r, xI_inj, xJ_inj, Option.some.injEq, eq_self, bi_r, bi_0, bi_1, bi_n, Classical.not_not, and_true, true_and, ite_true, ite_false, ↓reduceIte, ↓x_andl, z_le, z_nle, z_lt, z_nlt, z_eq, z_neq, if_pos, if_neg, x_andl, false_and, and_false, or_true, true_or, or_false, false_or, not_true, not_false_iff, x_rd_eq, x_rd_ne, x_st_o, Int.cast_ofNat_Int, Int.ofNat_zero, Int.ofNat_one, not_true_eq_false, not_false_eq_true, if_true, if_false, ite_self, and_self, Int.ofNat_eq_natCast, Int.tdiv_eq_ediv_of_nonneg, Int.tmod_eq_emod_of_nonneg, x_bm32]
  refine hQ _ _ ⟨e, iN_look hh (by omega) e k, pick, low, rfl, ?_⟩
  rcases h with z | ⟨b0, t0, z1, z2⟩
  · exact Or.inl z
  · have sb := sl_b hw n8.1 n8.2 n9 z2.1.1.1
    exact Or.inr ⟨b0, t0, sb.1, sb.2.1, z1, z2⟩
theorem h_stepM {σ : x_S} {w T L' : Int → Int} {c f st wd b0 t0 v : Int} (hh : iN L S0 σ) (h51 : σ 51 0 = w) (hT0 : σ 59 0 = T) (hL0 : σ 60 0 = L') (hw : wf w) (h0 : 0 ≤ f) (h1 : f < w 0) (hc : 0 ≤ c ∧ c ≤ 3) (hs : 0 ≤ st ∧ st ≤ 20) (hd : 0 ≤ wd ∧ wd ≤ 1)
    (hT : ∀ i, 0 ≤ i → i < w_of w f 7 → t_bd (-9223372036854775808) w T (w_of w f (8 + i))) (hL : c = 2 → p_end w 5 f → -170000 ≤ L' f ∧ L' f ≤ 170000) (hv : -600000000000000000 ≤ v ∧ v ≤ 600000000000000000) (hf : fL (zst (-9223372036854775808) c 5 4 w L' T f st wd) b0 t0 v) : x_Sp 6 209 [xR 50 0, xI c, xI f, xI (21 * wd + st), xJ v] σ (fun r σ' => r = none ∧ fkeep σ σ' ∧ iN L S0 σ' ∧ σ' 50 0 23 = t0 + w_of w f 5 - st ∧ σ' 50 0 24 = b0) := by
  have m := hh.2.2.2.1
  refine x_use (d := 0) (h_findStep h51 m.1 m.2.1 hT0 hL0 hw h0 h1 (by omega) (by omega) hc hs hd hT hL hv hf) ?_
  rintro r σ' ⟨a, b, c, d⟩
  refine ⟨a, b, iN_scr hh (eqo_mono (by decide) b.1) ?_ ?_, c, d⟩
  · intro j k _ _ _
    rw [b.1 24 j (by simp)]
  · intro k hk
    exact b.2 k (by omega)
theorem o_step : x_o8 (iN L S0) := by
  intro σ hh c what hc hwh
  refine ag_I ?_
  obtain ⟨w, h51, hw, h100, hn, hq, hM, hS⟩ := iN_w hh
  have a := wf_h hw
  unfold wf_hdr at a
  obtain ⟨n8, n9, n10, _⟩ := id hn
  have o := wf_f hw (f := w 8) (by omega) (by omega)
  unfold wf_one at o
  by_cases cm : 0 ≤ c ∧ c ≤ 2
  · obtain ⟨j, hj⟩ : ∃ j : Nat, c = j := ⟨c.toNat, by omega⟩
    simp (disch := first | omega | (simp only [x_wtI, x_wtJ, x_wtR, x_wtN]; omega) | assumption | (simp (disch := omega) only [x_st_o, x_rd_ne]; first | assumption | omega) | (apply mir_eq; assumption; (intro c h1 h2; simp (disch := omega) only [x_st_o])) | (apply mis_eq; assumption; (intro c h1 h2; simp (disch := omega) only [x_st_o])) | rfl) only [sp_108, bk_108_0, bk_108_1, wp_ild1, wk_103, wp_ifne, wp_ic, wp_iret mz_108, wp_ald0, wk_105, wk_109, wp_ild2, wk_110, x_clr_I, x_clr_J, x_clr_R, x_clr_U, ct_some, ct_none, lc_lt, lc_ge, lc_gt, lc_le, lc_eq, lc_r, xI_inj, xJ_inj, Option.some.injEq, eq_self, bi_r, bi_0, bi_1, bi_n, Classical.not_not, and_true, true_and, ite_true, ite_false, ↓reduceIte, ↓x_andl, z_le, z_nle, z_lt, z_nlt, z_eq, z_neq, if_pos, if_neg, x_andl, false_and, and_false, or_true, true_or, or_false, false_or, not_true, not_false_iff, x_rd_eq, x_rd_ne, x_st_o, Int.cast_ofNat_Int, Int.ofNat_zero, Int.ofNat_one, not_true_eq_false, not_false_eq_true, if_true, if_false, ite_self, and_self, Int.ofNat_eq_natCast, Int.tdiv_eq_ediv_of_nonneg, Int.tmod_eq_emod_of_nonneg, x_bm32, k_isMeasure, bi_t]
    refine x_use (d := 992) (h_tab hh (by omega) hj) ?_
    rintro r σ1 ⟨rfl, tk, hh1, f1, ct⟩
    have g51 : σ1 51 0 = w := (tk.1 51 0 (by decide)).trans h51
    rw [h51] at ct
    simp (disch := first | omega | (simp only [x_wtI, x_wtJ, x_wtR, x_wtN]; omega) | assumption | (simp (disch := omega) only [x_st_o, x_rd_ne]; first | assumption | omega) | (apply mir_eq; assumption; (intro c h1 h2; simp (disch := omega) only [x_st_o])) | (apply mis_eq; assumption; (intro c h1 h2; simp (disch := omega) only [x_st_o])) | rfl) only [bk_108_0, bk_108_1, wp_ild1, wk_103, wp_ifne, wp_ic, wp_iret mz_108, wp_ald0, wk_105, wk_109, wp_ild2, wk_110, x_clr_I, x_clr_J, x_clr_R, x_clr_U, ct_some, ct_none, lc_lt, lc_ge, lc_gt, lc_le, lc_eq, lc_r, xI_inj, xJ_inj, Option.some.injEq, eq_self, bi_r, bi_0, bi_1, bi_n, Classical.not_not, and_true, true_and, ite_true, ite_false, ↓reduceIte, ↓x_andl, z_le, z_nle, z_lt, z_nlt, z_eq, z_neq, if_pos, if_neg, x_andl, false_and, and_false, or_true, true_or, or_false, false_or, not_true, not_false_iff, x_rd_eq, x_rd_ne, x_st_o, Int.cast_ofNat_Int, Int.ofNat_zero, Int.ofNat_one, not_true_eq_false, not_false_eq_true, if_true, if_false, ite_self, and_self, Int.ofNat_eq_natCast, Int.tdiv_eq_ediv_of_nonneg, Int.tmod_eq_emod_of_nonneg, x_bm32]
    refine x_use (d := 993) (h_pick hh1 (by omega) hj (by rw [g51]; exact ct)) ?_
    rintro r σ2 ⟨e2, hh2, pick, low, rfl, hp⟩
    rw [g51] at hp
    have g51' : σ2 51 0 = w := (e2 51 0 (by simp)).trans g51
    obtain ⟨w2, h512, _, _, _, _, hM2, hS2⟩ := iN_w hh2
    have ew : w2 = w := h512.symm.trans g51'
    subst ew
    have f100 : x_f100 σ σ2 := fun j' i => by rw [e2 100 j' (by simp), tk_100 tk j' i]
    -- the model
    have mod : ∀ v, (¬ (0 ≤ what ∧ what ≤ 1) → v = -2000000000) → ((0 ≤ what ∧ what ≤ 1) → ∀ (T L' Ym : Int → Int), gT c 5 4 (-1) w2 L' T (w2 8) → (c = 2 → mwy w2 Ym L') → (T (42 * w2 8 + (21 * w2 10 + w2 9)) = (-9223372036854775808) ∧ v = -2000000000) ∨ (∃ b0 t0 u, T (42 * w2 8 + (21 * w2 10 + w2 9)) = u ∧ fL (zst (-9223372036854775808) c 5 4 w2 L' T (w2 8) (w2 9) (w2 10)) b0 t0 u ∧ v = if what = 0 then t0 + w_of w2 (w2 8) 5 - w2 9 else b0)) → x_Sp 999 208 [xR 50 0, xI c, xI what] σ2 (fun r2 σ2 => r2 = some (xI v) ∧ iN L S0 σ2) := by
      intro v hnv hv
      by_cases cw : 0 ≤ what ∧ what ≤ 1
      · simp (disch := first | omega | (simp only [x_wtI, x_wtJ, x_wtR, x_wtN]; omega) | assumption | (simp (disch := omega) only [x_st_o, x_rd_ne]; first | assumption | omega) | (apply mir_eq; assumption; (intro c h1 h2; simp (disch := omega) only [x_st_o])) | (apply mis_eq; assumption; (intro c h1 h2; simp (disch := omega) only [x_st_o])) | rfl) only [sp_208, bk_208_0, bk_208_1, bk_208_2, bk_208_3, bk_208_4, bk_208_5, wp_ild1, wk_194, wp_ifeq, wp_ild2, wp_i2l, wp_lc, wk_169, wp_ifne, wp_fall, wp_ic, wp_iret mz_208, wp_ald0, wk_195, wp_lst3, wp_lld3, wp_lcmp, wr_50_1, wl_51, wp_cald, wk_197, wk_209, wp_geti kd_50, wp_goto, x_clr_I, x_clr_J, x_clr_R, x_clr_U, ct_some, ct_none, lc_lt, lc_ge, lc_gt, lc_le, lc_eq, lc_r, xI_inj, xJ_inj, Option.some.injEq, eq_self, bi_r, bi_0, bi_1, bi_n, Classical.not_not, and_true, true_and, ite_true, ite_false, ↓reduceIte, ↓x_andl, z_le, z_nle, z_lt, z_nlt, z_eq, z_neq, if_pos, if_neg, x_andl, false_and, and_false, or_true, true_or, or_false, false_or, not_true, not_false_iff, x_rd_eq, x_rd_ne, x_st_o, Int.cast_ofNat_Int, Int.ofNat_zero, Int.ofNat_one, not_true_eq_false, not_false_eq_true, if_true, if_false, ite_self, and_self, Int.ofNat_eq_natCast, Int.tdiv_eq_ediv_of_nonneg, Int.tmod_eq_emod_of_nonneg, x_bm32, k_isCount, bi_t, c_in]
        refine x_use (d := 991) (h_solveI hh2 (by omega)) ?_
        rintro r σ3 ⟨rfl, e3, hh3, g3, m3⟩
        rw [g51'] at g3 m3 ⊢
        have g51'' : σ3 51 0 = w2 := (e3 51 0 (by simp)).trans g51'
        rcases hv cw _ _ _ g3 m3 with ⟨z, zv⟩ | ⟨b0, t0, u, z1, z2, z3⟩
        · subst zv
          rw [z]
          simp (disch := first | omega | (simp only [x_wtI, x_wtJ, x_wtR, x_wtN]; omega) | assumption | (simp (disch := omega) only [x_st_o, x_rd_ne]; first | assumption | omega) | (apply mir_eq; assumption; (intro c h1 h2; simp (disch := omega) only [x_st_o])) | (apply mis_eq; assumption; (intro c h1 h2; simp (disch := omega) only [x_st_o])) | rfl) only [bk_208_0, bk_208_1, bk_208_2, bk_208_3, bk_208_4, bk_208_5, wp_ild1, wk_194, wp_ifeq, wp_ild2, wp_i2l, wp_lc, wk_169, wp_ifne, wp_fall, wp_ic, wp_iret mz_208, wp_ald0, wk_195, wp_lst3, wp_lld3, wp_lcmp, wr_50_1, wl_51, wp_cald, wk_197, wk_209, wp_geti kd_50, wp_goto, x_clr_I, x_clr_J, x_clr_R, x_clr_U, ct_some, ct_none, lc_lt, lc_ge, lc_gt, lc_le, lc_eq, lc_r, xI_inj, xJ_inj, Option.some.injEq, eq_self, bi_r, bi_0, bi_1, bi_n, Classical.not_not, and_true, true_and, ite_true, ite_false, ↓reduceIte, ↓x_andl, z_le, z_nle, z_lt, z_nlt, z_eq, z_neq, if_pos, if_neg, x_andl, false_and, and_false, or_true, true_or, or_false, false_or, not_true, not_false_iff, x_rd_eq, x_rd_ne, x_st_o, Int.cast_ofNat_Int, Int.ofNat_zero, Int.ofNat_one, not_true_eq_false, not_false_eq_true, if_true, if_false, ite_self, and_self, Int.ofNat_eq_natCast, Int.tdiv_eq_ediv_of_nonneg, Int.tmod_eq_emod_of_nonneg, x_bm32]
          exact hh3
        · have gv := gT_val (f := w2 8) (st := w2 9) (wd := w2 10) hw hn cm g3 m3 (by omega) n8.2 fr_self n9 n10 (fun c2 => rc_now hn (m3 c2))
          have gb := gv.2 _ _ _ z2.1
          rw [z1]
          simp (disch := first | omega | (simp only [x_wtI, x_wtJ, x_wtR, x_wtN]; omega) | assumption | (simp (disch := omega) only [x_st_o, x_rd_ne]; first | assumption | omega) | (apply mir_eq; assumption; (intro c h1 h2; simp (disch := omega) only [x_st_o])) | (apply mis_eq; assumption; (intro c h1 h2; simp (disch := omega) only [x_st_o])) | rfl) only [bk_208_0, bk_208_1, bk_208_2, bk_208_3, bk_208_4, bk_208_5, wp_ild1, wk_194, wp_ifeq, wp_ild2, wp_i2l, wp_lc, wk_169, wp_ifne, wp_fall, wp_ic, wp_iret mz_208, wp_ald0, wk_195, wp_lst3, wp_lld3, wp_lcmp, wr_50_1, wl_51, wp_cald, wk_197, wk_209, wp_geti kd_50, wp_goto, x_clr_I, x_clr_J, x_clr_R, x_clr_U, ct_some, ct_none, lc_lt, lc_ge, lc_gt, lc_le, lc_eq, lc_r, xI_inj, xJ_inj, Option.some.injEq, eq_self, bi_r, bi_0, bi_1, bi_n, Classical.not_not, and_true, true_and, ite_true, ite_false, ↓reduceIte, ↓x_andl, z_le, z_nle, z_lt, z_nlt, z_eq, z_neq, if_pos, if_neg, x_andl, false_and, and_false, or_true, true_or, or_false, false_or, not_true, not_false_iff, x_rd_eq, x_rd_ne, x_st_o, Int.cast_ofNat_Int, Int.ofNat_zero, Int.ofNat_one, not_true_eq_false, not_false_eq_true, if_true, if_false, ite_self, and_self, Int.ofNat_eq_natCast, Int.tdiv_eq_ediv_of_nonneg, Int.tmod_eq_emod_of_nonneg, x_bm32, g51'', k_stateNow]
          refine x_use (d := 992) (h_stepM (c := c) hh3 g51'' rfl rfl hw n8.1 n8.2 (by omega) n9 n10 (fun i i0 i1 => by
            have kk := wf_k hw (f := w2 8) (i := i) n8.1 n8.2 i0 i1
            exact (g3 _ (by omega) (by omega)).1) gb.1 gb.2 z2) ?_
          rintro r σ4 ⟨rfl, k4, hh4, x4, b4⟩
          by_cases w0 : what = 0
          · rw [if_pos w0] at z3
            subst z3
            simp (disch := first | omega | (simp only [x_wtI, x_wtJ, x_wtR, x_wtN]; omega) | assumption | (simp (disch := omega) only [x_st_o, x_rd_ne]; first | assumption | omega) | (apply mir_eq; assumption; (intro c h1 h2; simp (disch := omega) only [x_st_o])) | (apply mis_eq; assumption; (intro c h1 h2; simp (disch := omega) only [x_st_o])) | rfl) only [bk_208_0, bk_208_1, bk_208_2, bk_208_3, bk_208_4, bk_208_5, wp_ild1, wk_194, wp_ifeq, wp_ild2, wp_i2l, wp_lc, wk_169, wp_ifne, wp_fall, wp_ic, wp_iret mz_208, wp_ald0, wk_195, wp_lst3, wp_lld3, wp_lcmp, wr_50_1, wl_51, wp_cald, wk_197, wk_209, wp_geti kd_50, wp_goto, x_clr_I, x_clr_J, x_clr_R, x_clr_U, ct_some, ct_none, lc_lt, lc_ge, lc_gt, lc_le, lc_eq, lc_r, xI_inj, xJ_inj, Option.some.injEq, eq_self, bi_r, bi_0, bi_1, bi_n, Classical.not_not, and_true, true_and, ite_true, ite_false, ↓reduceIte, ↓x_andl, z_le, z_nle, z_lt, z_nlt, z_eq, z_neq, if_pos, if_neg, x_andl, false_and, and_false, or_true, true_or, or_false, false_or, not_true, not_false_iff, x_rd_eq, x_rd_ne, x_st_o, Int.cast_ofNat_Int, Int.ofNat_zero, Int.ofNat_one, not_true_eq_false, not_false_eq_true, if_true, if_false, ite_self, and_self, Int.ofNat_eq_natCast, Int.tdiv_eq_ediv_of_nonneg, Int.tmod_eq_emod_of_nonneg, x_bm32, x4]
            exact hh4
          · rw [if_neg w0] at z3
            subst z3
            simp (disch := first | omega | (simp only [x_wtI, x_wtJ, x_wtR, x_wtN]; omega) | assumption | (simp (disch := omega) only [x_st_o, x_rd_ne]; first | assumption | omega) | (apply mir_eq; assumption; (intro c h1 h2; simp (disch := omega) only [x_st_o])) | (apply mis_eq; assumption; (intro c h1 h2; simp (disch := omega) only [x_st_o])) | rfl) only [bk_208_0, bk_208_1, bk_208_2, bk_208_3, bk_208_4, bk_208_5, wp_ild1, wk_194, wp_ifeq, wp_ild2, wp_i2l, wp_lc, wk_169, wp_ifne, wp_fall, wp_ic, wp_iret mz_208, wp_ald0, wk_195, wp_lst3, wp_lld3, wp_lcmp, wr_50_1, wl_51, wp_cald, wk_197, wk_209, wp_geti kd_50, wp_goto, x_clr_I, x_clr_J, x_clr_R, x_clr_U, ct_some, ct_none, lc_lt, lc_ge, lc_gt, lc_le, lc_eq, lc_r, xI_inj, xJ_inj, Option.some.injEq, eq_self, bi_r, bi_0, bi_1, bi_n, Classical.not_not, and_true, true_and, ite_true, ite_false, ↓reduceIte, ↓x_andl, z_le, z_nle, z_lt, z_nlt, z_eq, z_neq, if_pos, if_neg, x_andl, false_and, and_false, or_true, true_or, or_false, false_or, not_true, not_false_iff, x_rd_eq, x_rd_ne, x_st_o, Int.cast_ofNat_Int, Int.ofNat_zero, Int.ofNat_one, not_true_eq_false, not_false_eq_true, if_true, if_false, ite_self, and_self, Int.ofNat_eq_natCast, Int.tdiv_eq_ediv_of_nonneg, Int.tmod_eq_emod_of_nonneg, x_bm32, b4]
            exact hh4
      · have zv := hnv cw
        subst zv
        simp (disch := first | omega | (simp only [x_wtI, x_wtJ, x_wtR, x_wtN]; omega) | assumption | (simp (disch := omega) only [x_st_o, x_rd_ne]; first | assumption | omega) | (apply mir_eq; assumption; (intro c h1 h2; simp (disch := omega) only [x_st_o])) | (apply mis_eq; assumption; (intro c h1 h2; simp (disch := omega) only [x_st_o])) | rfl) only [sp_208, bk_208_0, bk_208_1, bk_208_2, bk_208_3, bk_208_4, bk_208_5, wp_ild1, wk_194, wp_ifeq, wp_ild2, wp_i2l, wp_lc, wk_169, wp_ifne, wp_fall, wp_ic, wp_iret mz_208, wp_ald0, wk_195, wp_lst3, wp_lld3, wp_lcmp, wr_50_1, wl_51, wp_cald, wk_197, wk_209, wp_geti kd_50, wp_goto, x_clr_I, x_clr_J, x_clr_R, x_clr_U, ct_some, ct_none, lc_lt, lc_ge, lc_gt, lc_le, lc_eq, lc_r, xI_inj, xJ_inj, Option.some.injEq, eq_self, bi_r, bi_0, bi_1, bi_n, Classical.not_not, and_true, true_and, ite_true, ite_false, ↓reduceIte, ↓x_andl, z_le, z_nle, z_lt, z_nlt, z_eq, z_neq, if_pos, if_neg, x_andl, false_and, and_false, or_true, true_or, or_false, false_or, not_true, not_false_iff, x_rd_eq, x_rd_ne, x_st_o, Int.cast_ofNat_Int, Int.ofNat_zero, Int.ofNat_one, not_true_eq_false, not_false_eq_true, if_true, if_false, ite_self, and_self, Int.ofNat_eq_natCast, Int.tdiv_eq_ediv_of_nonneg, Int.tmod_eq_emod_of_nonneg, x_bm32, k_isCount, bi_t, bi_f, c_in]
        exact hh2
    have e25 : σ2 25 j = σ1 25 j := e2 25 j (by simp)
    rcases hp with ⟨rfl, hno⟩ | ⟨b0, t0, hb, ht, rfl, hfl⟩
    · simp (disch := first | omega | (simp only [x_wtI, x_wtJ, x_wtR, x_wtN]; omega) | assumption | (simp (disch := omega) only [x_st_o, x_rd_ne]; first | assumption | omega) | (apply mir_eq; assumption; (intro c h1 h2; simp (disch := omega) only [x_st_o])) | (apply mis_eq; assumption; (intro c h1 h2; simp (disch := omega) only [x_st_o])) | rfl) only [bk_108_0, bk_108_1, wp_ild1, wk_103, wp_ifne, wp_ic, wp_iret mz_108, wp_ald0, wk_105, wk_109, wp_ild2, wk_110, bk_110_0, bk_110_1, bk_110_2, bk_110_3, bk_110_4, wp_iceq, wk_111, wp_fall, wp_iret mz_110, wr_0_2, wr_20_0, wp_geti kd_20, wp_irem, wk_69, wp_goto, wp_idiv, x_clr_I, x_clr_J, x_clr_R, x_clr_U, ct_some, ct_none, lc_lt, lc_ge, lc_gt, lc_le, lc_eq, lc_r, xI_inj, xJ_inj, Option.some.injEq, eq_self, bi_r, bi_0, bi_1, bi_n, Classical.not_not, and_true, true_and, ite_true, ite_false, ↓reduceIte, ↓x_andl, z_le, z_nle, z_lt, z_nlt, z_eq, z_neq, if_pos, if_neg, x_andl, false_and, and_false, or_true, true_or, or_false, false_or, not_true, not_false_iff, x_rd_eq, x_rd_ne, x_st_o, Int.cast_ofNat_Int, Int.ofNat_zero, Int.ofNat_one, not_true_eq_false, not_false_eq_true, if_true, if_false, ite_self, and_self, Int.ofNat_eq_natCast, Int.tdiv_eq_ediv_of_nonneg, Int.tmod_eq_emod_of_nonneg, x_bm32, sp_110]
      refine ⟨-2000000000, rfl, mod _ (fun _ => rfl) (fun _ T L' Ym gt gm => Or.inl ⟨?_, rfl⟩)⟩
      rcases (gT_val (f := w2 8) (st := w2 9) (wd := w2 10) hw hn cm gt gm (by omega) n8.2 fr_self n9 n10 (fun c2 => rc_now hn (gm c2))).1 with ⟨z, _⟩ | ⟨⟨b, t, z⟩, _⟩
      · exact z
      · exact absurd ((zst_now hw hn cm gt gm ct (by omega) n8.2 fr_self n9 n10 (fun c2 => rc_now hn (gm c2)) b t _).mp z) (hno b t _)
    · have my : (0 ≤ what ∧ what ≤ 1) → ∀ (T L' Ym : Int → Int), gT c 5 4 (-1) w2 L' T (w2 8) → (c = 2 → mwy w2 Ym L') → ∃ u, T (42 * w2 8 + (21 * w2 10 + w2 9)) = u ∧ fL (zst (-9223372036854775808) c 5 4 w2 L' T (w2 8) (w2 9) (w2 10)) b0 t0 u := by
        intro _ T L' Ym gt gm
        have fl := fL_cg hfl (fun b t u => zst_now hw hn cm gt gm ct (by omega) n8.2 fr_self n9 n10 (fun c2 => rc_now hn (gm c2)) b t u)
        exact ⟨low, ml_uniq (gT_val (f := w2 8) (st := w2 9) (wd := w2 10) hw hn cm gt gm (by omega) n8.2 fr_self n9 n10 (fun c2 => rc_now hn (gm c2))).1 (fL_ml fl), fl⟩
      have pm : (b0 * 21 + t0) % 21 = t0 := by omega
      have pd : (b0 * 21 + t0) / 21 = b0 := by omega
      by_cases cw : 0 ≤ what ∧ what ≤ 1
      · by_cases w0 : what = 0
        · simp (disch := first | omega | (simp only [x_wtI, x_wtJ, x_wtR, x_wtN]; omega) | assumption | (simp (disch := omega) only [x_st_o, x_rd_ne]; first | assumption | omega) | (apply mir_eq; assumption; (intro c h1 h2; simp (disch := omega) only [x_st_o])) | (apply mis_eq; assumption; (intro c h1 h2; simp (disch := omega) only [x_st_o])) | rfl) only [bk_108_0, bk_108_1, wp_ild1, wk_103, wp_ifne, wp_ic, wp_iret mz_108, wp_ald0, wk_105, wk_109, wp_ild2, wk_110, bk_110_0, bk_110_1, bk_110_2, bk_110_3, bk_110_4, wp_iceq, wk_111, wp_fall, wp_iret mz_110, wr_0_2, wr_20_0, wp_geti kd_20, wp_irem, wk_69, wp_goto, wp_idiv, x_clr_I, x_clr_J, x_clr_R, x_clr_U, ct_some, ct_none, lc_lt, lc_ge, lc_gt, lc_le, lc_eq, lc_r, xI_inj, xJ_inj, Option.some.injEq, eq_self, bi_r, bi_0, bi_1, bi_n, Classical.not_not, and_true, true_and, ite_true, ite_false, ↓reduceIte, ↓x_andl, z_le, z_nle, z_lt, z_nlt, z_eq, z_neq, if_pos, if_neg, x_andl, false_and, and_false, or_true, true_or, or_false, false_or, not_true, not_false_iff, x_rd_eq, x_rd_ne, x_st_o, Int.cast_ofNat_Int, Int.ofNat_zero, Int.ofNat_one, not_true_eq_false, not_false_eq_true, if_true, if_false, ite_self, and_self, Int.ofNat_eq_natCast, Int.tdiv_eq_ediv_of_nonneg, Int.tmod_eq_emod_of_nonneg, x_bm32, sp_110, k_isFlag, bi_t, hS2.1.1, hS2.1.2.1, k_boughtFor hM2 hw, pm]
          refine ⟨t0 + w_of w2 (w2 8) 5 - w2 9, rfl, mod _ (fun z => absurd cw z) (fun _ T L' Ym gt gm => Or.inr ?_)⟩
          obtain ⟨u, z1, z2⟩ := my cw T L' Ym gt gm
          exact ⟨b0, t0, u, z1, z2, by rw [if_pos w0]⟩
        · simp (disch := first | omega | (simp only [x_wtI, x_wtJ, x_wtR, x_wtN]; omega) | assumption | (simp (disch := omega) only [x_st_o, x_rd_ne]; first | assumption | omega) | (apply mir_eq; assumption; (intro c h1 h2; simp (disch := omega) only [x_st_o])) | (apply mis_eq; assumption; (intro c h1 h2; simp (disch := omega) only [x_st_o])) | rfl) only [bk_108_0, bk_108_1, wp_ild1, wk_103, wp_ifne, wp_ic, wp_iret mz_108, wp_ald0, wk_105, wk_109, wp_ild2, wk_110, bk_110_0, bk_110_1, bk_110_2, bk_110_3, bk_110_4, wp_iceq, wk_111, wp_fall, wp_iret mz_110, wr_0_2, wr_20_0, wp_geti kd_20, wp_irem, wk_69, wp_goto, wp_idiv, x_clr_I, x_clr_J, x_clr_R, x_clr_U, ct_some, ct_none, lc_lt, lc_ge, lc_gt, lc_le, lc_eq, lc_r, xI_inj, xJ_inj, Option.some.injEq, eq_self, bi_r, bi_0, bi_1, bi_n, Classical.not_not, and_true, true_and, ite_true, ite_false, ↓reduceIte, ↓x_andl, z_le, z_nle, z_lt, z_nlt, z_eq, z_neq, if_pos, if_neg, x_andl, false_and, and_false, or_true, true_or, or_false, false_or, not_true, not_false_iff, x_rd_eq, x_rd_ne, x_st_o, Int.cast_ofNat_Int, Int.ofNat_zero, Int.ofNat_one, not_true_eq_false, not_false_eq_true, if_true, if_false, ite_self, and_self, Int.ofNat_eq_natCast, Int.tdiv_eq_ediv_of_nonneg, Int.tmod_eq_emod_of_nonneg, x_bm32, sp_110, k_isFlag, bi_t, pd]
          refine ⟨b0, rfl, mod _ (fun z => absurd cw z) (fun _ T L' Ym gt gm => Or.inr ?_)⟩
          obtain ⟨u, z1, z2⟩ := my cw T L' Ym gt gm
          exact ⟨b0, t0, u, z1, z2, by rw [if_neg w0]⟩
      · simp (disch := first | omega | (simp only [x_wtI, x_wtJ, x_wtR, x_wtN]; omega) | assumption | (simp (disch := omega) only [x_st_o, x_rd_ne]; first | assumption | omega) | (apply mir_eq; assumption; (intro c h1 h2; simp (disch := omega) only [x_st_o])) | (apply mis_eq; assumption; (intro c h1 h2; simp (disch := omega) only [x_st_o])) | rfl) only [bk_108_0, bk_108_1, wp_ild1, wk_103, wp_ifne, wp_ic, wp_iret mz_108, wp_ald0, wk_105, wk_109, wp_ild2, wk_110, bk_110_0, bk_110_1, bk_110_2, bk_110_3, bk_110_4, wp_iceq, wk_111, wp_fall, wp_iret mz_110, wr_0_2, wr_20_0, wp_geti kd_20, wp_irem, wk_69, wp_goto, wp_idiv, x_clr_I, x_clr_J, x_clr_R, x_clr_U, ct_some, ct_none, lc_lt, lc_ge, lc_gt, lc_le, lc_eq, lc_r, xI_inj, xJ_inj, Option.some.injEq, eq_self, bi_r, bi_0, bi_1, bi_n, Classical.not_not, and_true, true_and, ite_true, ite_false, ↓reduceIte, ↓x_andl, z_le, z_nle, z_lt, z_nlt, z_eq, z_neq, if_pos, if_neg, x_andl, false_and, and_false, or_true, true_or, or_false, false_or, not_true, not_false_iff, x_rd_eq, x_rd_ne, x_st_o, Int.cast_ofNat_Int, Int.ofNat_zero, Int.ofNat_one, not_true_eq_false, not_false_eq_true, if_true, if_false, ite_self, and_self, Int.ofNat_eq_natCast, Int.tdiv_eq_ediv_of_nonneg, Int.tmod_eq_emod_of_nonneg, x_bm32, sp_110, k_isFlag, bi_f]
        exact ⟨-2000000000, rfl, mod _ (fun _ => rfl) (fun z => absurd z cw)⟩
  · simp (disch := first | omega | (simp only [x_wtI, x_wtJ, x_wtR, x_wtN]; omega) | assumption | (simp (disch := omega) only [x_st_o, x_rd_ne]; first | assumption | omega) | (apply mir_eq; assumption; (intro c h1 h2; simp (disch := omega) only [x_st_o])) | (apply mis_eq; assumption; (intro c h1 h2; simp (disch := omega) only [x_st_o])) | rfl) only [sp_108, bk_108_0, bk_108_1, wp_ild1, wk_103, wp_ifne, wp_ic, wp_iret mz_108, wp_ald0, wk_105, wk_109, wp_ild2, wk_110, x_clr_I, x_clr_J, x_clr_R, x_clr_U, ct_some, ct_none, lc_lt, lc_ge, lc_gt, lc_le, lc_eq, lc_r, xI_inj, xJ_inj, Option.some.injEq, eq_self, bi_r, bi_0, bi_1, bi_n, Classical.not_not, and_true, true_and, ite_true, ite_false, ↓reduceIte, ↓x_andl, z_le, z_nle, z_lt, z_nlt, z_eq, z_neq, if_pos, if_neg, x_andl, false_and, and_false, or_true, true_or, or_false, false_or, not_true, not_false_iff, x_rd_eq, x_rd_ne, x_st_o, Int.cast_ofNat_Int, Int.ofNat_zero, Int.ofNat_one, not_true_eq_false, not_false_eq_true, if_true, if_false, ite_self, and_self, Int.ofNat_eq_natCast, Int.tdiv_eq_ediv_of_nonneg, Int.tmod_eq_emod_of_nonneg, x_bm32, k_isMeasure, bi_f]
    refine ⟨-2000000000, rfl, fun _ _ => rfl, ?_⟩
    simp (disch := first | omega | (simp only [x_wtI, x_wtJ, x_wtR, x_wtN]; omega) | assumption | (simp (disch := omega) only [x_st_o, x_rd_ne]; first | assumption | omega) | (apply mir_eq; assumption; (intro c h1 h2; simp (disch := omega) only [x_st_o])) | (apply mis_eq; assumption; (intro c h1 h2; simp (disch := omega) only [x_st_o])) | rfl) only [sp_208, bk_208_0, bk_208_1, bk_208_2, bk_208_3, bk_208_4, bk_208_5, wp_ild1, wk_194, wp_ifeq, wp_ild2, wp_i2l, wp_lc, wk_169, wp_ifne, wp_fall, wp_ic, wp_iret mz_208, wp_ald0, wk_195, wp_lst3, wp_lld3, wp_lcmp, wr_50_1, wl_51, wp_cald, wk_197, wk_209, wp_geti kd_50, wp_goto, x_clr_I, x_clr_J, x_clr_R, x_clr_U, ct_some, ct_none, lc_lt, lc_ge, lc_gt, lc_le, lc_eq, lc_r, xI_inj, xJ_inj, Option.some.injEq, eq_self, bi_r, bi_0, bi_1, bi_n, Classical.not_not, and_true, true_and, ite_true, ite_false, ↓reduceIte, ↓x_andl, z_le, z_nle, z_lt, z_nlt, z_eq, z_neq, if_pos, if_neg, x_andl, false_and, and_false, or_true, true_or, or_false, false_or, not_true, not_false_iff, x_rd_eq, x_rd_ne, x_st_o, Int.cast_ofNat_Int, Int.ofNat_zero, Int.ofNat_one, not_true_eq_false, not_false_eq_true, if_true, if_false, ite_self, and_self, Int.ofNat_eq_natCast, Int.tdiv_eq_ediv_of_nonneg, Int.tmod_eq_emod_of_nonneg, x_bm32, k_isCount, bi_f]
    exact hh
end OS

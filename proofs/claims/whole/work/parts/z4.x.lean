def lkq (lo : Int) (σ σ' : x_S) : Prop := (∀ i, lo ≤ i → σ' 45 0 i = σ 45 0 i ∧ σ' 46 0 i = σ 46 0 i ∧ σ' 47 0 i = σ 47 0 i) ∧ ∀ i, 5 * lo ≤ i → σ' 48 0 i = σ 48 0 i ∧ σ' 49 0 i = σ 49 0 i
theorem lkq_l {lo h q : Int} {σ σ' : x_S} (e : lkq lo σ σ') (hl : lo ≤ h) (q0 : 0 ≤ q) : lkl σ' h q = lkl σ h q ∧ lko σ' h q = lko σ h q := e.2 _ (by omega)
theorem lkF_cg {jn lo : Int} {w : Int → Int} {σ σ' : x_S} {h : Int} {i : Nat} (hw : wf w) (h0 : 0 ≤ h) (h1 : h < w 0) (hi : (i : Int) ≤ w_of w h 7) (hl : lo ≤ h) (e : lkq lo σ σ') (hF : lkF jn w σ h i) : lkF jn w σ' h i := by
  obtain ⟨a, b⟩ := hF
  have jn0 := jR_n a
  have el : ∀ q, 0 ≤ q → q < σ 47 0 h → h < lkl σ h q := by
    intro q q0 q1
    obtain ⟨p, p1, p2⟩ := jR_l a q q0 q1
    have kk := wf_k hw (f := h) (i := p) h0 h1 p1.1 (by omega)
    rw [p2]
    exact kk.1
  refine ⟨?_, ?_⟩
  · rw [(e.1 h hl).2.2]
    refine jR_cg (fun p p0 p1 => ⟨rfl, ?_, rfl⟩) (fun q q0 q1 => lkq_l e hl q0) a
    have kk := wf_k hw (f := h) (i := p) h0 h1 p0 (by omega)
    exact (e.1 _ (by show lo ≤ w_of w h (8 + p); omega)).1
  · rw [(e.1 h hl).2.1, (e.1 h hl).2.2, b]
    rw [bS_cg (bk := σ 46 0) (bk' := σ' 46 0) (l := lkl σ h) (l' := lkl σ' h) (σ 47 0 h).toNat (fun q q0 q1 => by
      rw [(lkq_l e hl q0).1]
      have := el q q0 (by omega)
      exact (e.1 _ (by omega)).2.1)]
theorem SA_q {jn lo : Int} {w : Int → Int} {σ σ' : x_S} {g h : Int} {i j : Nat} (hw : wf w) (g0 : 0 ≤ g) (g1 : g < w 0) (h0 : 0 ≤ h) (h1 : h < w 0) (gl : lo ≤ g) (hl : lo ≤ h) (e : lkq lo σ σ') (hi : (i : Int) ≤ w_of w g 7) (hj : (j : Int) ≤ w_of w h 7) (hG : lkF jn w σ g i) (hH : lkF jn w σ h j) : SA w σ' g h ↔ SA w σ g h := by
  have el : ∀ (h : Int) (i : Nat), 0 ≤ h → h < w 0 → (i : Int) ≤ w_of w h 7 → lkF jn w σ h i → ∀ q, 0 ≤ q → q < σ 47 0 h → h < lkl σ h q := by
    intro h i h0 h1 hi a q q0 q1
    obtain ⟨p, p1, p2⟩ := jR_l a.1 q q0 q1
    have kk := wf_k hw (f := h) (i := p) h0 h1 p1.1 (by omega)
    rw [p2]
    exact kk.1
  refine SA_cg (e.1 g gl).2.2 (e.1 h hl).2.2 (fun q q0 q1 => ?_) (fun q q0 q1 => ?_)
  · have x := el g i g0 g1 hi hG q q0 q1
    rw [(lkq_l e gl q0).1]
    exact ⟨(lkq_l e gl q0).2, (e.1 _ (by omega)).1⟩
  · have x := el h j h0 h1 hj hH q q0 q1
    rw [(lkq_l e hl q0).1]
    exact ⟨(lkq_l e hl q0).2, (e.1 _ (by omega)).1⟩
theorem lkA_q {jn lo : Int} {w : Int → Int} {σ σ' : x_S} (hw : wf w) (l0 : 0 ≤ lo) (e : lkq lo σ σ') (hA : lkA jn w σ lo) : lkA jn w σ' lo := by
  have on : ∀ h, 0 ≤ h → h < w 0 → (((w_of w h 7).toNat : Nat) : Int) ≤ w_of w h 7 := by
    intro h h0 h1
    have o := wf_f hw h0 h1
    unfold wf_one at o
    omega
  refine ⟨fun h hl h1 => ?_, fun g h gl g1 hl h1 => ?_⟩
  · obtain ⟨a, b, c⟩ := hA.1 h hl h1
    refine ⟨lkF_cg hw (by omega) h1 (on h (by omega) h1) hl e a, ?_, ?_⟩
    · rw [(e.1 h hl).1]
      exact b
    · rw [(e.1 h hl).1, (e.1 _ (by omega)).1]
      exact c
  · rw [(e.1 g gl).1, (e.1 h hl).1, hA.2 g h gl g1 hl h1]
    exact (SA_q hw (by omega) g1 (by omega) h1 gl hl e (on g (by omega) g1) (on h (by omega) h1) (hA.1 g gl g1).1 (hA.1 h hl h1).1).symm
set_option maxHeartbeats 4000000 in
theorem h_sort {σ : x_S} {w : Int → Int} {jn : Int} (hM : mir σ 1 w) (hw : wf w) (hj : jn = 0 ∨ jn = 1) : x_Sp 3 18 [xR 44 0, xI jn] σ (fun r σ' => r = none ∧ x_eqo [(45, 0), (46, 0), (47, 0), (48, 0), (49, 0)] σ σ' ∧ lkA jn w σ' 0) := by
  have a := wf_h hw
  unfold wf_hdr at a
  refine x_gen (fun Q hQ => ?_)
  simp (disch := first | omega | (simp only [x_wtI, x_wtJ, x_wtR, x_wtN]; omega) | assumption | (simp (disch := omega) only [x_st_o, x_rd_ne]; first | assumption | omega) | (apply mir_eq; assumption; (intro c h1 h2; simp (disch := omega) only [x_st_o])) | (apply mis_eq; assumption; (intro c h1 h2; simp (disch := omega) only [x_st_o])) | rfl) only [sp_18, bk_18_0, bk_18_2, bk_18_3, bk_18_4, wp_ald0, wr_44_0, wp_geti kd_6, wp_ic, wp_isub, wp_ist2, wp_fall, wp_ild2, wp_iflt, wr_44_3, ws_14, ws_15, ws_45, ws_46, ws_47, wr_44_2, wp_ist3, wp_ild3, wr_6_14, wl_14, wl_15, wl_45, wl_46, wl_47, wp_cald, wp_icge, wr_6_15, wp_imul, wp_iadd, wp_ild1, wk_19, wp_inc3, wp_goto, wr_44_1, wk_20, wp_inc2, wp_ret, x_clr_I, x_clr_J, x_clr_R, x_clr_U, ct_some, ct_none, lc_lt, lc_ge, lc_gt, lc_le, lc_eq, lc_r, xI_inj, xJ_inj, Option.some.injEq, eq_self, bi_r, bi_0, bi_1, bi_n, Classical.not_not, and_true, true_and, ite_true, ite_false, ↓reduceIte, ↓x_andl, z_le, z_nle, z_lt, z_nlt, z_eq, z_neq, if_pos, if_neg, x_andl, false_and, and_false, or_true, true_or, or_false, false_or, not_true, not_false_iff, x_rd_eq, x_rd_ne, x_st_o, Int.cast_ofNat_Int, Int.ofNat_zero, Int.ofNat_one, not_true_eq_false, not_false_eq_true, if_true, if_false, ite_self, and_self, Int.ofNat_eq_natCast, Int.tdiv_eq_ediv_of_nonneg, Int.tmod_eq_emod_of_nonneg, x_bm32, mi_size hM]
  refine x_lpDK (α := x_S × x_V) (fun f q => x_eqo [(45, 0), (46, 0), (47, 0), (48, 0), (49, 0)] σ q.1 ∧ lkA jn w q.1 (f + 1)) (fun f q => x_Wp 3 18 (x_blk 18 1) [xR 44 0, xI jn, xI f, q.2] [] q.1 Q) (lo := -1) (hi := w 0 - 1) (by omega) (a0 := (σ, xU)) ⟨eqo_refl, ⟨fun h p q => by omega, fun g h p q => by omega⟩⟩ ?_ ?_
  · intro f ⟨σf, u3⟩ f0 f1 ⟨j1, j2⟩ K
    simp only at j1 j2 ⊢
    have f1' : f < w 0 := by omega
    have fnn : 0 ≤ f := by omega
    have o := wf_f hw fnn f1'
    unfold wf_one at o
    generalize hσa : x_st (x_st σf 47 0 f 0) 46 0 f 1 = σa
    have ea : x_eqo [(46, 0), (47, 0)] σf σa := by
      subst hσa
      exact eqo_st (by simp) (eqo_st (by simp) eqo_refl)
    have a46 : ∀ g, σa 46 0 g = if g = f then 1 else σf 46 0 g := by
      intro g
      subst hσa
      by_cases z : g = f
      · rw [if_pos z, z, x_rd_eq]
      · rw [if_neg z, x_rd_ne (by omega), x_st_o (by omega)]
    have a47 : ∀ g, σa 47 0 g = if g = f then 0 else σf 47 0 g := by
      intro g
      subst hσa
      by_cases z : g = f
      · rw [if_pos z, z, x_st_o (by omega), x_rd_eq]
      · rw [if_neg z, x_st_o (by omega), x_rd_ne (by omega)]
    have qa : lkq (f + 1) σf σa := ⟨fun i hi => ⟨by rw [ea 45 0 (by simp)], by rw [a46, if_neg (by omega)], by rw [a47, if_neg (by omega)]⟩, fun i hi => ⟨by rw [ea 48 0 (by simp)], by rw [ea 49 0 (by simp)]⟩⟩
    have A1 := lkA_q hw (by omega) qa j2
    have F0 : lkF jn w σa f 0 := by
      refine ⟨?_, ?_⟩
      · show σa 47 0 f = 0
        rw [a47, if_pos rfl]
      · rw [a46, if_pos rfl, a47, if_pos rfl]
        rfl
    have kds : ∀ σ1 : x_S, lkA jn w σ1 (f + 1) → ∀ p : Int, 0 ≤ p → p < w_of w f 7 → 0 ≤ σ1 45 0 (w_of w f (8 + p)) ∧ σ1 45 0 (w_of w f (8 + p)) < 40 := by
      intro σ1 hA p p0 p1
      have kk := wf_k hw (f := f) (i := p) fnn f1' p0 p1
      have x := (hA.1 _ (by omega) kk.2.1).2.1
      omega
    have last : ∀ (σb : x_S) (u3 : Int), x_eqo [(45, 0), (46, 0), (47, 0), (48, 0), (49, 0)] σ σb → lkA jn w σb (f + 1) → lkF jn w σb f (w_of w f 7).toNat → x_Wp 3 18 (x_blk 18 3) [xR 44 0, xI jn, xI f, xI u3] [] σb Q := by
      intro σb u3 eb hA hF
      have hMb : mir σb 1 w := mir_eq hM (fun c q1 q2 => eb c 1 (by simp))
      have hn7 : (((w_of w f 7).toNat : Nat) : Int) ≤ w_of w f 7 := by omega
      obtain ⟨r, σ', ⟨hσ', v, hr, hv⟩, ev⟩ := x_ex (h_kindOf (σ := σb) hMb hw fnn f1' (lkF_R hw fnn f1' hn7 hF (kds σb hA)) (fun g g0 g1 => by
        have og := wf_f hw (f := g) (by omega) g1
        unfold wf_one at og
        have x := hA.1 g (by omega) g1
        have xb := x.2.1
        refine ⟨lkF_R hw (by omega) g1 (by omega) x.1 (fun p p0 p1 => ?_), by omega, by omega⟩
        have kk := wf_k hw (f := g) (i := p) (by omega) g1 p0 p1
        have y := (hA.1 _ (by omega) kk.2.1).2.1
        omega))
      subst hσ'
      subst hr
      -- the kind of f
      have vr : f ≤ v ∧ v < w 0 := by
        rcases hv with ⟨g, g0, g1, _, e⟩ | ⟨e, _⟩
        · have x := (hA.1 g (by omega) g1).2.1
          omega
        · omega
      have qv : lkq (f + 1) σ' (x_st σ' 45 0 f v) := ⟨fun i hi => ⟨by rw [x_rd_ne (by omega)], by rw [x_st_o (by omega)], by rw [x_st_o (by omega)]⟩, fun i hi => ⟨by rw [x_st_o (by omega)], by rw [x_st_o (by omega)]⟩⟩
      have A2 := lkA_q hw (by omega) qv hA
      have kd' : ∀ h, ¬ h = f → x_st σ' 45 0 f v 45 0 h = σ' 45 0 h := fun h hh => x_rd_ne (by omega)
      have l' : ∀ h q, lkl (x_st σ' 45 0 f v) h q = lkl σ' h q ∧ lko (x_st σ' 45 0 f v) h q = lko σ' h q := fun h q => ⟨by (unfold lkl; rw [x_st_o (by omega)]), by (unfold lko; rw [x_st_o (by omega)])⟩
      have elF : ∀ q, 0 ≤ q → q < σ' 47 0 f → f < lkl σ' f q := by
        intro q q0 q1
        obtain ⟨p, p1, p2⟩ := jR_l hF.1 q q0 q1
        have kk := wf_k hw (f := f) (i := p) fnn f1' p1.1 (by omega)
        rw [p2]
        exact kk.1
      have elH : ∀ h, f < h → h < w 0 → ∀ q, 0 ≤ q → q < σ' 47 0 h → f < lkl σ' h q := by
        intro h h0 h1 q q0 q1
        have oh := wf_f hw (f := h) (by omega) h1
        unfold wf_one at oh
        obtain ⟨p, p1, p2⟩ := jR_l (hA.1 h (by omega) h1).1.1 q q0 q1
        have kk := wf_k hw (f := h) (i := p) (by omega) h1 p1.1 (by omega)
        rw [p2]
        show f < w_of w h (8 + p)
        omega
      have FF : lkF jn w (x_st σ' 45 0 f v) f (w_of w f 7).toNat := by
        refine ⟨?_, ?_⟩
        · rw [x_st_o (c' := 47) (by omega)]
          refine jR_cg (fun p p0 p1 => ⟨rfl, ?_, rfl⟩) (fun q q0 q1 => l' f q) hF.1
          have kk := wf_k hw (f := f) (i := p) fnn f1' p0 (by omega)
          exact kd' _ (by show ¬ w_of w f (8 + p) = f; omega)
        · rw [x_st_o (c' := 47) (by omega), x_st_o (c' := 46) (by omega), hF.2]
          rw [bS_cg (bk := σ' 46 0) (l := lkl σ' f) (l' := lkl (x_st σ' 45 0 f v) f) (σ' 47 0 f).toNat (fun q q0 q1 => by rw [(l' f q).1])]
      have SAf : ∀ h, f < h → h < w 0 → (SA w (x_st σ' 45 0 f v) f h ↔ SA w σ' f h) := by
        intro h h0 h1
        refine SA_cg (by rw [x_st_o (by omega)]) (by rw [x_st_o (by omega)]) (fun q q0 q1 => ?_) (fun q q0 q1 => ?_)
        · have := elF q q0 q1
          rw [(l' f q).1]
          exact ⟨(l' f q).2, kd' _ (by omega)⟩
        · have := elH h h0 h1 q q0 q1
          rw [(l' h q).1]
          exact ⟨(l' h q).2, kd' _ (by omega)⟩
      have vf : x_st σ' 45 0 f v 45 0 f = v := x_rd_eq
      have pf : ∀ h, f < h → h < w 0 → (v = σ' 45 0 h ↔ SA w σ' f h) := by
        intro h h0 h1
        rcases hv with ⟨g, g0, g1, s, e⟩ | ⟨e, no⟩
        · rw [e, hA.2 g h (by omega) g1 (by omega) h1]
          exact ⟨fun z => SA_t s z, fun z => SA_t (SA_s s) z⟩
        · have x := (hA.1 h (by omega) h1).2.1
          exact ⟨fun z => by omega, fun z => absurd z (no h h0 h1)⟩
      have goal : lkA jn w (x_st σ' 45 0 f v) f := by
        refine ⟨fun h hl h1 => ?_, fun g h gl g1 hl h1 => ?_⟩
        · by_cases z : h = f
          · subst z
            refine ⟨FF, ?_, ?_⟩
            · rw [vf]
              exact vr
            · rw [vf]
              rcases hv with ⟨g, g0, g1, s, e⟩ | ⟨e, no⟩
              · have x := hA.1 g (by omega) g1
                have xb := x.2.1
                rw [kd' v (by omega), e]
                exact x.2.2
              · rw [e] at vf ⊢
                exact vf
          · exact A2.1 h (by omega) h1
        · by_cases zg : g = f
          · by_cases zh : h = f
            · rw [zg, zh]
              exact ⟨fun _ => SA_r, fun _ => rfl⟩
            · rw [zg, vf, kd' h zh, SAf h (by omega) h1]
              exact pf h (by omega) h1
          · by_cases zh : h = f
            · rw [zh, vf, kd' g zg]
              have x := pf g (by omega) g1
              rw [← SAf g (by omega) g1] at x
              exact ⟨fun z => SA_s (x.mp z.symm), fun z => (x.mpr (SA_s z)).symm⟩
            · exact A2.2 g h (by omega) g1 (by omega) h1
      have K2 := K (x_st σ' 45 0 f v, xI u3) ⟨eqo_st (by simp) eb, by
        rw [show f - 1 + 1 = f by omega]
        exact goal⟩
      simp only at K2
      rw [bk_18_3]
      simp (disch := first | omega | (simp only [x_wtI, x_wtJ, x_wtR, x_wtN]; omega) | assumption | (simp (disch := omega) only [x_st_o, x_rd_ne]; first | assumption | omega) | (apply mir_eq; assumption; (intro c h1 h2; simp (disch := omega) only [x_st_o])) | (apply mis_eq; assumption; (intro c h1 h2; simp (disch := omega) only [x_st_o])) | rfl) only [bk_18_0, bk_18_2, bk_18_4, wp_ald0, wr_44_0, wp_geti kd_6, wp_ic, wp_isub, wp_ist2, wp_fall, wp_ild2, wp_iflt, wr_44_3, ws_14, ws_15, ws_45, ws_46, ws_47, wr_44_2, wp_ist3, wp_ild3, wr_6_14, wl_14, wl_15, wl_45, wl_46, wl_47, wp_cald, wp_icge, wr_6_15, wp_imul, wp_iadd, wp_ild1, wk_19, wp_inc3, wp_goto, wr_44_1, wk_20, wp_inc2, wp_ret, x_clr_I, x_clr_J, x_clr_R, x_clr_U, ct_some, ct_none, lc_lt, lc_ge, lc_gt, lc_le, lc_eq, lc_r, xI_inj, xJ_inj, Option.some.injEq, eq_self, bi_r, bi_0, bi_1, bi_n, Classical.not_not, and_true, true_and, ite_true, ite_false, ↓reduceIte, ↓x_andl, z_le, z_nle, z_lt, z_nlt, z_eq, z_neq, if_pos, if_neg, x_andl, false_and, and_false, or_true, true_or, or_false, false_or, not_true, not_false_iff, x_rd_eq, x_rd_ne, x_st_o, Int.cast_ofNat_Int, Int.ofNat_zero, Int.ofNat_one, not_true_eq_false, not_false_eq_true, if_true, if_false, ite_self, and_self, Int.ofNat_eq_natCast, Int.tdiv_eq_ediv_of_nonneg, Int.tmod_eq_emod_of_nonneg, x_bm32, ev]
      exact K2
    have inner : x_Wp 3 18 (x_blk 18 2) [xR 44 0, xI jn, xI f, xI 0] [] σa Q := by
      refine x_lpK (α := x_S) (fun i σi => x_eqo [(46, 0), (47, 0), (48, 0), (49, 0)] σa σi ∧ lkA jn w σi (f + 1) ∧ lkF jn w σi f i.toNat) (fun i σi => x_Wp 3 18 (x_blk 18 2) [xR 44 0, xI jn, xI f, xI i] [] σi Q) (lo := 0) (hi := w_of w f 7) (by omega) (a0 := σa) ⟨eqo_refl, A1, F0⟩ ?_ ?_
      · intro i σi i0 i1 ⟨n1, n2, n3⟩ K2
        have hMi : mir σi 1 w := mir_eq hM (fun c q1 q2 => by rw [n1 c 1 (by simp), ea c 1 (by simp), j1 c 1 (by simp)])
        have ei : ((i.toNat : Nat) : Int) = i := Int.toNat_of_nonneg i0
        have L := h_lklist (σ := σi) (i := i.toNat) hMi hw fnn f1' hj (by omega) n3 (kds σi n2)
        rw [ei] at L
        have kid1 := mi_kid hMi fnn f1' i0 i1
        rw [bk_18_2]
        simp (disch := first | omega | (simp only [x_wtI, x_wtJ, x_wtR, x_wtN]; omega) | assumption | (simp (disch := omega) only [x_st_o, x_rd_ne]; first | assumption | omega) | (apply mir_eq; assumption; (intro c h1 h2; simp (disch := omega) only [x_st_o])) | (apply mis_eq; assumption; (intro c h1 h2; simp (disch := omega) only [x_st_o])) | rfl) only [bk_18_0, bk_18_1, bk_18_3, bk_18_4, wp_ald0, wr_44_0, wp_geti kd_6, wp_ic, wp_isub, wp_ist2, wp_fall, wp_ild2, wp_iflt, wr_44_3, ws_14, ws_15, ws_45, ws_46, ws_47, wr_44_2, wp_ist3, wp_ild3, wr_6_14, wl_14, wl_15, wl_45, wl_46, wl_47, wp_cald, wp_icge, wr_6_15, wp_imul, wp_iadd, wp_ild1, wk_19, wp_inc3, wp_goto, wr_44_1, wk_20, wp_inc2, wp_ret, x_clr_I, x_clr_J, x_clr_R, x_clr_U, ct_some, ct_none, lc_lt, lc_ge, lc_gt, lc_le, lc_eq, lc_r, xI_inj, xJ_inj, Option.some.injEq, eq_self, bi_r, bi_0, bi_1, bi_n, Classical.not_not, and_true, true_and, ite_true, ite_false, ↓reduceIte, ↓x_andl, z_le, z_nle, z_lt, z_nlt, z_eq, z_neq, if_pos, if_neg, x_andl, false_and, and_false, or_true, true_or, or_false, false_or, not_true, not_false_iff, x_rd_eq, x_rd_ne, x_st_o, Int.cast_ofNat_Int, Int.ofNat_zero, Int.ofNat_one, not_true_eq_false, not_false_eq_true, if_true, if_false, ite_self, and_self, Int.ofNat_eq_natCast, Int.tdiv_eq_ediv_of_nonneg, Int.tmod_eq_emod_of_nonneg, x_bm32, mi_kids hMi, kid1]
        refine x_use (d := 1) L ?_
        rintro r σ2 ⟨rfl, lk, F2⟩
        have q2 : lkq (f + 1) σi σ2 := ⟨fun q hq => ⟨by rw [lk.1 45 0 (by simp)], (lk.2.1 q (by omega)).1, (lk.2.1 q (by omega)).2⟩, fun q hq => lk.2.2 q (by omega)⟩
        have K3 := K2 σ2 ⟨eqo_trans n1 lk.1, lkA_q hw (by omega) q2 n2, by
          rw [show (i + 1).toNat = i.toNat + 1 by omega]
          exact F2⟩
        simp (disch := first | omega | (simp only [x_wtI, x_wtJ, x_wtR, x_wtN]; omega) | assumption | (simp (disch := omega) only [x_st_o, x_rd_ne]; first | assumption | omega) | (apply mir_eq; assumption; (intro c h1 h2; simp (disch := omega) only [x_st_o])) | (apply mis_eq; assumption; (intro c h1 h2; simp (disch := omega) only [x_st_o])) | rfl) only [bk_18_0, bk_18_1, bk_18_3, bk_18_4, wp_ald0, wr_44_0, wp_geti kd_6, wp_ic, wp_isub, wp_ist2, wp_fall, wp_ild2, wp_iflt, wr_44_3, ws_14, ws_15, ws_45, ws_46, ws_47, wr_44_2, wp_ist3, wp_ild3, wr_6_14, wl_14, wl_15, wl_45, wl_46, wl_47, wp_cald, wp_icge, wr_6_15, wp_imul, wp_iadd, wp_ild1, wk_19, wp_inc3, wp_goto, wr_44_1, wk_20, wp_inc2, wp_ret, x_clr_I, x_clr_J, x_clr_R, x_clr_U, ct_some, ct_none, lc_lt, lc_ge, lc_gt, lc_le, lc_eq, lc_r, xI_inj, xJ_inj, Option.some.injEq, eq_self, bi_r, bi_0, bi_1, bi_n, Classical.not_not, and_true, true_and, ite_true, ite_false, ↓reduceIte, ↓x_andl, z_le, z_nle, z_lt, z_nlt, z_eq, z_neq, if_pos, if_neg, x_andl, false_and, and_false, or_true, true_or, or_false, false_or, not_true, not_false_iff, x_rd_eq, x_rd_ne, x_st_o, Int.cast_ofNat_Int, Int.ofNat_zero, Int.ofNat_one, not_true_eq_false, not_false_eq_true, if_true, if_false, ite_self, and_self, Int.ofNat_eq_natCast, Int.tdiv_eq_ediv_of_nonneg, Int.tmod_eq_emod_of_nonneg, x_bm32]
        exact K3
      · intro σi ⟨n1, n2, n3⟩
        have hMi : mir σi 1 w := mir_eq hM (fun c q1 q2 => by rw [n1 c 1 (by simp), ea c 1 (by simp), j1 c 1 (by simp)])
        have K3 := last σi (w_of w f 7) (eqo_trans j1 (eqo_trans (eqo_mono (by simp) ea) (eqo_mono (by simp) n1))) n2 n3
        rw [bk_18_2]
        simp (disch := first | omega | (simp only [x_wtI, x_wtJ, x_wtR, x_wtN]; omega) | assumption | (simp (disch := omega) only [x_st_o, x_rd_ne]; first | assumption | omega) | (apply mir_eq; assumption; (intro c h1 h2; simp (disch := omega) only [x_st_o])) | (apply mis_eq; assumption; (intro c h1 h2; simp (disch := omega) only [x_st_o])) | rfl) only [bk_18_0, bk_18_1, bk_18_4, wp_ald0, wr_44_0, wp_geti kd_6, wp_ic, wp_isub, wp_ist2, wp_fall, wp_ild2, wp_iflt, wr_44_3, ws_14, ws_15, ws_45, ws_46, ws_47, wr_44_2, wp_ist3, wp_ild3, wr_6_14, wl_14, wl_15, wl_45, wl_46, wl_47, wp_cald, wp_icge, wr_6_15, wp_imul, wp_iadd, wp_ild1, wk_19, wp_inc3, wp_goto, wr_44_1, wk_20, wp_inc2, wp_ret, x_clr_I, x_clr_J, x_clr_R, x_clr_U, ct_some, ct_none, lc_lt, lc_ge, lc_gt, lc_le, lc_eq, lc_r, xI_inj, xJ_inj, Option.some.injEq, eq_self, bi_r, bi_0, bi_1, bi_n, Classical.not_not, and_true, true_and, ite_true, ite_false, ↓reduceIte, ↓x_andl, z_le, z_nle, z_lt, z_nlt, z_eq, z_neq, if_pos, if_neg, x_andl, false_and, and_false, or_true, true_or, or_false, false_or, not_true, not_false_iff, x_rd_eq, x_rd_ne, x_st_o, Int.cast_ofNat_Int, Int.ofNat_zero, Int.ofNat_one, not_true_eq_false, not_false_eq_true, if_true, if_false, ite_self, and_self, Int.ofNat_eq_natCast, Int.tdiv_eq_ediv_of_nonneg, Int.tmod_eq_emod_of_nonneg, x_bm32, mi_kids hMi]
        exact K3
    rw [bk_18_1]
    simp (disch := first | omega | (simp only [x_wtI, x_wtJ, x_wtR, x_wtN]; omega) | assumption | (simp (disch := omega) only [x_st_o, x_rd_ne]; first | assumption | omega) | (apply mir_eq; assumption; (intro c h1 h2; simp (disch := omega) only [x_st_o])) | (apply mis_eq; assumption; (intro c h1 h2; simp (disch := omega) only [x_st_o])) | rfl) only [bk_18_0, bk_18_3, bk_18_4, wp_ald0, wr_44_0, wp_geti kd_6, wp_ic, wp_isub, wp_ist2, wp_fall, wp_ild2, wp_iflt, wr_44_3, ws_14, ws_15, ws_45, ws_46, ws_47, wr_44_2, wp_ist3, wp_ild3, wr_6_14, wl_14, wl_15, wl_45, wl_46, wl_47, wp_cald, wp_icge, wr_6_15, wp_imul, wp_iadd, wp_ild1, wk_19, wp_inc3, wp_goto, wr_44_1, wk_20, wp_inc2, wp_ret, x_clr_I, x_clr_J, x_clr_R, x_clr_U, ct_some, ct_none, lc_lt, lc_ge, lc_gt, lc_le, lc_eq, lc_r, xI_inj, xJ_inj, Option.some.injEq, eq_self, bi_r, bi_0, bi_1, bi_n, Classical.not_not, and_true, true_and, ite_true, ite_false, ↓reduceIte, ↓x_andl, z_le, z_nle, z_lt, z_nlt, z_eq, z_neq, if_pos, if_neg, x_andl, false_and, and_false, or_true, true_or, or_false, false_or, not_true, not_false_iff, x_rd_eq, x_rd_ne, x_st_o, Int.cast_ofNat_Int, Int.ofNat_zero, Int.ofNat_one, not_true_eq_false, not_false_eq_true, if_true, if_false, ite_self, and_self, Int.ofNat_eq_natCast, Int.tdiv_eq_ediv_of_nonneg, Int.tmod_eq_emod_of_nonneg, x_bm32, hσa]
    exact inner
  · intro ⟨σf, u3⟩ ⟨j1, j2⟩
    simp only at j1 j2 ⊢
    rw [show (-1 : Int) + 1 = 0 by omega] at j2
    have F := hQ none σf ⟨rfl, j1, j2⟩
    rw [bk_18_1]
    simp (disch := first | omega | (simp only [x_wtI, x_wtJ, x_wtR, x_wtN]; omega) | assumption | (simp (disch := omega) only [x_st_o, x_rd_ne]; first | assumption | omega) | (apply mir_eq; assumption; (intro c h1 h2; simp (disch := omega) only [x_st_o])) | (apply mis_eq; assumption; (intro c h1 h2; simp (disch := omega) only [x_st_o])) | rfl) only [bk_18_0, bk_18_2, bk_18_3, bk_18_4, wp_ald0, wr_44_0, wp_geti kd_6, wp_ic, wp_isub, wp_ist2, wp_fall, wp_ild2, wp_iflt, wr_44_3, ws_14, ws_15, ws_45, ws_46, ws_47, wr_44_2, wp_ist3, wp_ild3, wr_6_14, wl_14, wl_15, wl_45, wl_46, wl_47, wp_cald, wp_icge, wr_6_15, wp_imul, wp_iadd, wp_ild1, wk_19, wp_inc3, wp_goto, wr_44_1, wk_20, wp_inc2, wp_ret, x_clr_I, x_clr_J, x_clr_R, x_clr_U, ct_some, ct_none, lc_lt, lc_ge, lc_gt, lc_le, lc_eq, lc_r, xI_inj, xJ_inj, Option.some.injEq, eq_self, bi_r, bi_0, bi_1, bi_n, Classical.not_not, and_true, true_and, ite_true, ite_false, ↓reduceIte, ↓x_andl, z_le, z_nle, z_lt, z_nlt, z_eq, z_neq, if_pos, if_neg, x_andl, false_and, and_false, or_true, true_or, or_false, false_or, not_true, not_false_iff, x_rd_eq, x_rd_ne, x_st_o, Int.cast_ofNat_Int, Int.ofNat_zero, Int.ofNat_one, not_true_eq_false, not_false_eq_true, if_true, if_false, ite_self, and_self, Int.ofNat_eq_natCast, Int.tdiv_eq_ediv_of_nonneg, Int.tmod_eq_emod_of_nonneg, x_bm32]
    exact F

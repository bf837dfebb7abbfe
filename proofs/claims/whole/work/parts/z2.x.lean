/-! forks that are alike: the class's lists and kinds -/
def jR (jn : Int) (kd ch kid : Int → Int) : Nat → Int → (Int → Int) → (Int → Int) → Prop
  | 0, n, _, _ => n = 0
  | i + 1, n, l, o => ∃ n0 l0 o0, jR jn kd ch kid i n0 l0 o0 ∧ ((∃ j, (0 ≤ j ∧ j < n0) ∧ (jn = 1 ∧ kd (l0 j) = kd (kid i)) ∧ (∀ q, 0 ≤ q → q < j → ¬ kd (l0 q) = kd (kid i)) ∧ n = n0 ∧ (∀ q, 0 ≤ q → q < n → l q = l0 q) ∧ (∀ q, 0 ≤ q → q < n → o q = if q = j then o0 q + ch (kid i) else o0 q)) ∨ ((∀ q, 0 ≤ q → q < n0 → ¬ (jn = 1 ∧ kd (l0 q) = kd (kid i))) ∧ n = n0 + 1 ∧ (∀ q, 0 ≤ q → q < n → l q = if q = n0 then kid i else l0 q) ∧ (∀ q, 0 ≤ q → q < n → o q = if q = n0 then ch (kid i) else o0 q)))
section JR
variable {jn : Int} {kd ch kid : Int → Int}
theorem jR_n : ∀ {i : Nat} {n : Int} {l o : Int → Int}, jR jn kd ch kid i n l o → 0 ≤ n ∧ n ≤ i := by
  intro i
  induction i with
  | zero =>
    intro n l o h
    have : n = 0 := h
    omega
  | succ i ih =>
    intro n l o h
    obtain ⟨n0, l0, o0, h0, h1⟩ := h
    have := ih h0
    rcases h1 with ⟨_, _, _, _, e, _⟩ | ⟨_, e, _⟩ <;> omega
theorem jR_l : ∀ {i : Nat} {n : Int} {l o : Int → Int}, jR jn kd ch kid i n l o → ∀ q, 0 ≤ q → q < n → ∃ p : Int, (0 ≤ p ∧ p < i) ∧ l q = kid p := by
  intro i
  induction i with
  | zero =>
    intro n l o h q q0 q1
    have : n = 0 := h
    omega
  | succ i ih =>
    intro n l o h q q0 q1
    obtain ⟨n0, l0, o0, h0, h1⟩ := h
    rcases h1 with ⟨j, _, _, _, e, el, _⟩ | ⟨_, e, el, _⟩
    · obtain ⟨p, p1, p2⟩ := ih h0 q q0 (by omega)
      exact ⟨p, by omega, by rw [el q q0 q1]; exact p2⟩
    · rw [el q q0 q1]
      by_cases z : q = n0
      · rw [if_pos z]
        exact ⟨i, by omega, rfl⟩
      · rw [if_neg z]
        obtain ⟨p, p1, p2⟩ := ih h0 q q0 (by omega)
        exact ⟨p, by omega, p2⟩
theorem jR_o {B : Int} (hB : 0 ≤ B) (hc : ∀ i : Nat, 0 ≤ ch (kid i) ∧ ch (kid i) ≤ B) : ∀ {i : Nat} {n : Int} {l o : Int → Int}, jR jn kd ch kid i n l o → ∀ q, 0 ≤ q → q < n → 0 ≤ o q ∧ o q ≤ B * i := by
  intro i
  induction i with
  | zero =>
    intro n l o h q q0 q1
    have : n = 0 := h
    omega
  | succ i ih =>
    intro n l o h q q0 q1
    have e : B * ((i + 1 : Nat) : Int) = B * i + B := by
      rw [show ((i + 1 : Nat) : Int) = (i : Int) + 1 by omega, Int.mul_add, Int.mul_one]
    rw [e]
    have c := hc i
    have nn : 0 ≤ B * (i : Int) := Int.mul_nonneg hB (by omega)
    obtain ⟨n0, l0, o0, h0, h1⟩ := h
    rcases h1 with ⟨j, _, _, _, en, _, eo⟩ | ⟨_, en, _, eo⟩
    · have x := ih h0 q q0 (by omega)
      rw [eo q q0 q1]
      split <;> omega
    · rw [eo q q0 q1]
      by_cases z : q = n0
      · rw [if_pos z]
        omega
      · rw [if_neg z]
        have x := ih h0 q q0 (by omega)
        omega
theorem jR_cg {kd' ch' kid' : Int → Int} : ∀ {i : Nat} {n : Int} {l o l' o' : Int → Int}, (∀ p : Int, 0 ≤ p → p < i → kid' p = kid p ∧ kd' (kid p) = kd (kid p) ∧ ch' (kid p) = ch (kid p)) → (∀ q, 0 ≤ q → q < n → l' q = l q ∧ o' q = o q) → jR jn kd ch kid i n l o → jR jn kd' ch' kid' i n l' o' := by
  intro i
  induction i with
  | zero => intro n l o l' o' _ _ h; exact h
  | succ i ih =>
    intro n l o l' o' hk hl h
    obtain ⟨n0, l0, o0, h0, h1⟩ := h
    have h0' := ih (l' := l0) (o' := o0) (fun p p0 p1 => hk p p0 (by omega)) (fun q _ _ => ⟨rfl, rfl⟩) h0
    obtain ⟨ki, di, ci⟩ := hk i (by omega) (by omega)
    have dl : ∀ q, 0 ≤ q → q < n0 → kd' (l0 q) = kd (l0 q) := by
      intro q q0 q1
      obtain ⟨p, p1, p2⟩ := jR_l h0 q q0 q1
      rw [p2]
      exact (hk p p1.1 (by omega)).2.1
    refine ⟨n0, l0, o0, h0', ?_⟩
    rcases h1 with ⟨j, j1, j2, j3, e, el, eo⟩ | ⟨j3, e, el, eo⟩
    · refine Or.inl ⟨j, j1, ⟨j2.1, ?_⟩, fun q q0 q1 => ?_, e, fun q q0 q1 => ?_, fun q q0 q1 => ?_⟩
      · rw [dl j j1.1 j1.2, ki, di]
        exact j2.2
      · rw [dl q q0 (by omega), ki, di]
        exact j3 q q0 q1
      · rw [(hl q q0 q1).1]
        exact el q q0 q1
      · rw [(hl q q0 q1).2, ki, ci]
        exact eo q q0 q1
    · refine Or.inr ⟨fun q q0 q1 => ?_, e, fun q q0 q1 => ?_, fun q q0 q1 => ?_⟩
      · rw [dl q q0 q1, ki, di]
        exact j3 q q0 q1
      · rw [(hl q q0 q1).1, ki]
        exact el q q0 q1
      · rw [(hl q q0 q1).2, ki, ci]
        exact eo q q0 q1
end JR
def bS (bk l : Int → Int) : Nat → Int
  | 0 => 0
  | n + 1 => bS bk l n + bk (l n)
theorem bS_cg {bk bk' l l' : Int → Int} : ∀ n : Nat, (∀ q : Int, 0 ≤ q → q < n → bk' (l' q) = bk (l q)) → bS bk' l' n = bS bk l n := by
  intro n
  induction n with
  | zero => intro _; rfl
  | succ n ih =>
    intro h
    show bS bk' l' n + bk' (l' n) = bS bk l n + bk (l n)
    rw [ih (fun q a b => h q a (by omega)), h n (by omega) (by omega)]
theorem bS_s {bk l : Int → Int} {n : Int} (h : 0 ≤ n) : bS bk l (n + 1).toNat = bS bk l n.toNat + bk (l n) := by
  rw [show (n + 1).toNat = n.toNat + 1 by omega]
  show bS bk l n.toNat + bk (l (n.toNat : Int)) = _
  rw [Int.toNat_of_nonneg h]
def lkk (w : Int → Int) (f : Int) : Int → Int := fun i => w_of w f (8 + i)
def lch (w : Int → Int) : Int → Int := fun k => w_of w k 1
def lkl (σ : x_S) (f : Int) : Int → Int := fun i => σ 48 0 (f * 5 + i)
def lko (σ : x_S) (f : Int) : Int → Int := fun i => σ 49 0 (f * 5 + i)
/-! a fork f has its list -/
def lkF (jn : Int) (w : Int → Int) (σ : x_S) (f : Int) (i : Nat) : Prop := jR jn (σ 45 0) (lch w) (lkk w f) i (σ 47 0 f) (lkl σ f) (lko σ f) ∧ σ 46 0 f = 1 + bS (σ 46 0) (lkl σ f) (σ 47 0 f).toNat
def lkeep (f : Int) (σ σ' : x_S) : Prop := x_eqo [(46, 0), (47, 0), (48, 0), (49, 0)] σ σ' ∧ (∀ g, ¬ g = f → σ' 46 0 g = σ 46 0 g ∧ σ' 47 0 g = σ 47 0 g) ∧ ∀ i, ¬ (5 * f ≤ i ∧ i < 5 * f + 5) → σ' 48 0 i = σ 48 0 i ∧ σ' 49 0 i = σ 49 0 i
set_option maxHeartbeats 4000000 in
theorem h_lklist {σ : x_S} {w : Int → Int} {f jn : Int} {i : Nat} (hM : mir σ 1 w) (hw : wf w) (h0 : 0 ≤ f) (h1 : f < w 0) (hj : jn = 0 ∨ jn = 1) (hi : (i : Int) < w_of w f 7) (hF : lkF jn w σ f i) (hk : ∀ p : Int, 0 ≤ p → p < w_of w f 7 → 0 ≤ σ 45 0 (w_of w f (8 + p)) ∧ σ 45 0 (w_of w f (8 + p)) < 40) : x_Sp 1 19 [xR 44 0, xI f, xI (w_of w f (8 + i)), xI jn] σ (fun r σ' => r = none ∧ lkeep f σ σ' ∧ lkF jn w σ' f (i + 1)) := by
  have a := wf_h hw
  unfold wf_hdr at a
  have o := wf_f hw h0 h1
  unfold wf_one at o
  obtain ⟨hJ, hB⟩ := id hF
  have jn0 := jR_n hJ
  have kk := wf_k hw (f := f) (i := (i : Int)) h0 h1 (by omega) hi
  have kd := hk i (by omega) hi
  have ch := mi_chance hM (f := w_of w f (8 + i)) (by omega) kk.2.1
  have lr : ∀ q, 0 ≤ q → q < σ 47 0 f → (f < lkl σ f q ∧ lkl σ f q < w 0) ∧ (0 ≤ σ 45 0 (lkl σ f q) ∧ σ 45 0 (lkl σ f q) < 40) := by
    intro q q0 q1
    obtain ⟨p, p1, p2⟩ := jR_l hJ q q0 q1
    rw [p2]
    have kp := wf_k hw (f := f) (i := p) h0 h1 p1.1 (by omega)
    exact ⟨⟨kp.1, kp.2.1⟩, hk p p1.1 (by omega)⟩
  refine x_gen (fun Q hQ => ?_)
  have hkk : lkk w f i = w_of w f (8 + i) := rfl
  generalize hk0 : w_of w f (8 + i) = k at kk kd ch hkk
  generalize hn : σ 47 0 f = n at jn0 lr hB hJ
  -- put behind the others
  have app : (∀ q, 0 ≤ q → q < n → ¬ (jn = 1 ∧ σ 45 0 (lkl σ f q) = σ 45 0 k)) → ∀ u5 : Int, x_Wp 1 19 (x_blk 19 3) [xR 44 0, xI f, xI k, xI jn, xI (f * 5), xI u5] [] σ Q := by
    intro hno u5
    generalize hσ' : x_st (x_st (x_st (x_st σ 48 0 (f * 5 + n) k) 49 0 (f * 5 + n) (w_of w k 1)) 47 0 f (n + 1)) 46 0 f (σ 46 0 f + σ 46 0 k) = σ'
    have fin := hQ none σ' ⟨rfl, ?_, ?_⟩
    · rw [bk_19_3]
      simp (disch := first | omega | (simp only [x_wtI, x_wtJ, x_wtR, x_wtN]; omega) | assumption | (simp (disch := omega) only [x_st_o, x_rd_ne]; first | assumption | omega) | (apply mir_eq; assumption; (intro c h1 h2; simp (disch := omega) only [x_st_o])) | (apply mis_eq; assumption; (intro c h1 h2; simp (disch := omega) only [x_st_o])) | rfl) only [bk_19_0, bk_19_1, bk_19_2, wp_ild1, wp_ic, wp_imul, wp_ist4, wp_ist5, wp_fall, wp_ild3, wp_ifeq, wp_ild5, wp_ald0, wr_44_3, wl_8, wl_45, wl_46, wl_47, wl_48, wl_49, wp_cald, wp_icge, wr_44_1, wr_44_4, wp_ild4, wp_iadd, wp_ild2, wp_icne, wr_44_5, wp_dup2, wr_44_0, wr_6_8, ws_8, ws_45, ws_46, ws_47, ws_48, ws_49, wp_ret, wp_inc5, wp_goto, wr_44_2, x_clr_I, x_clr_J, x_clr_R, x_clr_U, ct_some, ct_none, lc_lt, lc_ge, lc_gt, lc_le, lc_eq, lc_r, xI_inj, xJ_inj, Option.some.injEq, eq_self, bi_r, bi_0, bi_1, bi_n, Classical.not_not, and_true, true_and, ite_true, ite_false, ↓reduceIte, ↓x_andl, z_le, z_nle, z_lt, z_nlt, z_eq, z_neq, if_pos, if_neg, x_andl, false_and, and_false, or_true, true_or, or_false, false_or, not_true, not_false_iff, x_rd_eq, x_rd_ne, x_st_o, Int.cast_ofNat_Int, Int.ofNat_zero, Int.ofNat_one, not_true_eq_false, not_false_eq_true, if_true, if_false, ite_self, and_self, Int.ofNat_eq_natCast, Int.tdiv_eq_ediv_of_nonneg, Int.tmod_eq_emod_of_nonneg, x_bm32, hn, ch, hσ']
      exact fin
    · subst hσ'
      refine ⟨eqo_st (by simp) (eqo_st (by simp) (eqo_st (by simp) (eqo_st (by simp) eqo_refl))), fun g hg => ⟨?_, ?_⟩, fun q hq => ⟨?_, ?_⟩⟩
      · simp (disch := omega) only [x_st_o, x_rd_ne, x_rd_eq, s_fl_o, s_fl_in, s_fl_out, x_cp_o, x_cp_in, x_cp_out]
      · simp (disch := omega) only [x_st_o, x_rd_ne, x_rd_eq, s_fl_o, s_fl_in, s_fl_out, x_cp_o, x_cp_in, x_cp_out]
      · rw [x_st_o (by omega), x_st_o (by omega), x_st_o (by omega), x_rd_ne (by omega)]
      · rw [x_st_o (by omega), x_st_o (by omega), x_rd_ne (by omega), x_st_o (by omega)]
    · have e45 : σ' 45 0 = σ 45 0 := by
        subst hσ'
        funext q
        simp (disch := omega) only [x_st_o, x_rd_ne, x_rd_eq, s_fl_o, s_fl_in, s_fl_out, x_cp_o, x_cp_in, x_cp_out]
      have e47 : σ' 47 0 f = n + 1 := by
        subst hσ'
        simp (disch := omega) only [x_st_o, x_rd_ne, x_rd_eq, s_fl_o, s_fl_in, s_fl_out, x_cp_o, x_cp_in, x_cp_out]
      have e48 : ∀ q, lkl σ' f q = if q = n then k else lkl σ f q := by
        intro q
        subst hσ'
        unfold lkl
        by_cases z : q = n
        · rw [if_pos z, z, x_st_o (by omega), x_st_o (by omega), x_st_o (by omega), x_rd_eq]
        · rw [if_neg z, x_st_o (by omega), x_st_o (by omega), x_st_o (by omega), x_rd_ne (by omega)]
      have e49 : ∀ q, lko σ' f q = if q = n then w_of w k 1 else lko σ f q := by
        intro q
        subst hσ'
        unfold lko
        by_cases z : q = n
        · rw [if_pos z, z, x_st_o (by omega), x_st_o (by omega), x_rd_eq]
        · rw [if_neg z, x_st_o (by omega), x_st_o (by omega), x_rd_ne (by omega), x_st_o (by omega)]
      have e46 : ∀ g, σ' 46 0 g = if g = f then σ 46 0 f + σ 46 0 k else σ 46 0 g := by
        intro g
        subst hσ'
        by_cases z : g = f
        · rw [if_pos z, z, x_rd_eq]
        · rw [if_neg z, x_rd_ne (by omega), x_st_o (by omega), x_st_o (by omega), x_st_o (by omega)]
      refine ⟨?_, ?_⟩
      · rw [e45, e47]
        refine ⟨n, lkl σ f, lko σ f, hJ, Or.inr ⟨fun q q0 q1 => ?_, rfl, fun q q0 q1 => ?_, fun q q0 q1 => ?_⟩⟩
        · rw [hkk]
          exact hno q q0 q1
        · rw [hkk]
          exact e48 q
        · rw [hkk]
          exact e49 q
      · rw [e47, e46, if_pos rfl, bS_s (by omega), e48, if_pos rfl, e46, if_neg (by omega), bS_cg (bk := σ 46 0) (l := lkl σ f) n.toNat (fun q q0 q1 => by
          have x := lr q q0 (by omega)
          rw [e48, if_neg (by omega), e46, if_neg (by omega)]), hB]
        omega
  have key : ∀ m : Nat, ∀ j : Int, 0 ≤ j → j + m = n → (∀ q, 0 ≤ q → q < j → ¬ (jn = 1 ∧ σ 45 0 (lkl σ f q) = σ 45 0 k)) → x_Wp 1 19 (x_blk 19 1) [xR 44 0, xI f, xI k, xI jn, xI (f * 5), xI j] [] σ Q := by
    intro m
    induction m with
    | zero =>
      intro j j0 jm hno
      have A := app (fun q q0 q1 => hno q q0 (by omega)) j
      rw [bk_19_1]
      rcases hj with rfl | rfl
      · simp (disch := first | omega | (simp only [x_wtI, x_wtJ, x_wtR, x_wtN]; omega) | assumption | (simp (disch := omega) only [x_st_o, x_rd_ne]; first | assumption | omega) | (apply mir_eq; assumption; (intro c h1 h2; simp (disch := omega) only [x_st_o])) | (apply mis_eq; assumption; (intro c h1 h2; simp (disch := omega) only [x_st_o])) | rfl) only [bk_19_0, bk_19_2, wp_ild1, wp_ic, wp_imul, wp_ist4, wp_ist5, wp_fall, wp_ild3, wp_ifeq, wp_ild5, wp_ald0, wr_44_3, wl_8, wl_45, wl_46, wl_47, wl_48, wl_49, wp_cald, wp_icge, wr_44_1, wr_44_4, wp_ild4, wp_iadd, wp_ild2, wp_icne, wr_44_5, wp_dup2, wr_44_0, wr_6_8, ws_8, ws_45, ws_46, ws_47, ws_48, ws_49, wp_ret, wp_inc5, wp_goto, wr_44_2, x_clr_I, x_clr_J, x_clr_R, x_clr_U, ct_some, ct_none, lc_lt, lc_ge, lc_gt, lc_le, lc_eq, lc_r, xI_inj, xJ_inj, Option.some.injEq, eq_self, bi_r, bi_0, bi_1, bi_n, Classical.not_not, and_true, true_and, ite_true, ite_false, ↓reduceIte, ↓x_andl, z_le, z_nle, z_lt, z_nlt, z_eq, z_neq, if_pos, if_neg, x_andl, false_and, and_false, or_true, true_or, or_false, false_or, not_true, not_false_iff, x_rd_eq, x_rd_ne, x_st_o, Int.cast_ofNat_Int, Int.ofNat_zero, Int.ofNat_one, not_true_eq_false, not_false_eq_true, if_true, if_false, ite_self, and_self, Int.ofNat_eq_natCast, Int.tdiv_eq_ediv_of_nonneg, Int.tmod_eq_emod_of_nonneg, x_bm32]
        exact A
      · simp (disch := first | omega | (simp only [x_wtI, x_wtJ, x_wtR, x_wtN]; omega) | assumption | (simp (disch := omega) only [x_st_o, x_rd_ne]; first | assumption | omega) | (apply mir_eq; assumption; (intro c h1 h2; simp (disch := omega) only [x_st_o])) | (apply mis_eq; assumption; (intro c h1 h2; simp (disch := omega) only [x_st_o])) | rfl) only [bk_19_0, bk_19_2, wp_ild1, wp_ic, wp_imul, wp_ist4, wp_ist5, wp_fall, wp_ild3, wp_ifeq, wp_ild5, wp_ald0, wr_44_3, wl_8, wl_45, wl_46, wl_47, wl_48, wl_49, wp_cald, wp_icge, wr_44_1, wr_44_4, wp_ild4, wp_iadd, wp_ild2, wp_icne, wr_44_5, wp_dup2, wr_44_0, wr_6_8, ws_8, ws_45, ws_46, ws_47, ws_48, ws_49, wp_ret, wp_inc5, wp_goto, wr_44_2, x_clr_I, x_clr_J, x_clr_R, x_clr_U, ct_some, ct_none, lc_lt, lc_ge, lc_gt, lc_le, lc_eq, lc_r, xI_inj, xJ_inj, Option.some.injEq, eq_self, bi_r, bi_0, bi_1, bi_n, Classical.not_not, and_true, true_and, ite_true, ite_false, ↓reduceIte, ↓x_andl, z_le, z_nle, z_lt, z_nlt, z_eq, z_neq, if_pos, if_neg, x_andl, false_and, and_false, or_true, true_or, or_false, false_or, not_true, not_false_iff, x_rd_eq, x_rd_ne, x_st_o, Int.cast_ofNat_Int, Int.ofNat_zero, Int.ofNat_one, not_true_eq_false, not_false_eq_true, if_true, if_false, ite_self, and_self, Int.ofNat_eq_natCast, Int.tdiv_eq_ediv_of_nonneg, Int.tmod_eq_emod_of_nonneg, x_bm32, hn]
        exact A
    | succ m ih =>
      intro j j0 jm hno
      rcases hj with rfl | rfl
      · have A := app (fun q q0 q1 z => by omega) j
        rw [bk_19_1]
        simp (disch := first | omega | (simp only [x_wtI, x_wtJ, x_wtR, x_wtN]; omega) | assumption | (simp (disch := omega) only [x_st_o, x_rd_ne]; first | assumption | omega) | (apply mir_eq; assumption; (intro c h1 h2; simp (disch := omega) only [x_st_o])) | (apply mis_eq; assumption; (intro c h1 h2; simp (disch := omega) only [x_st_o])) | rfl) only [bk_19_0, bk_19_2, wp_ild1, wp_ic, wp_imul, wp_ist4, wp_ist5, wp_fall, wp_ild3, wp_ifeq, wp_ild5, wp_ald0, wr_44_3, wl_8, wl_45, wl_46, wl_47, wl_48, wl_49, wp_cald, wp_icge, wr_44_1, wr_44_4, wp_ild4, wp_iadd, wp_ild2, wp_icne, wr_44_5, wp_dup2, wr_44_0, wr_6_8, ws_8, ws_45, ws_46, ws_47, ws_48, ws_49, wp_ret, wp_inc5, wp_goto, wr_44_2, x_clr_I, x_clr_J, x_clr_R, x_clr_U, ct_some, ct_none, lc_lt, lc_ge, lc_gt, lc_le, lc_eq, lc_r, xI_inj, xJ_inj, Option.some.injEq, eq_self, bi_r, bi_0, bi_1, bi_n, Classical.not_not, and_true, true_and, ite_true, ite_false, ↓reduceIte, ↓x_andl, z_le, z_nle, z_lt, z_nlt, z_eq, z_neq, if_pos, if_neg, x_andl, false_and, and_false, or_true, true_or, or_false, false_or, not_true, not_false_iff, x_rd_eq, x_rd_ne, x_st_o, Int.cast_ofNat_Int, Int.ofNat_zero, Int.ofNat_one, not_true_eq_false, not_false_eq_true, if_true, if_false, ite_self, and_self, Int.ofNat_eq_natCast, Int.tdiv_eq_ediv_of_nonneg, Int.tmod_eq_emod_of_nonneg, x_bm32]
        exact A
      · have x := lr j j0 (by omega)
        have ej : σ 48 0 (f * 5 + j) = lkl σ f j := rfl
        generalize hlj : lkl σ f j = lj at x ej
        generalize hdj : σ 45 0 lj = dj at x
        by_cases c : dj = σ 45 0 k
        · generalize hσ' : x_st σ 49 0 (f * 5 + j) (σ 49 0 (f * 5 + j) + w_of w k 1) = σ'
          have fin := hQ none σ' ⟨rfl, ?_, ?_⟩
          · rw [bk_19_1]
            simp (disch := first | omega | (simp only [x_wtI, x_wtJ, x_wtR, x_wtN]; omega) | assumption | (simp (disch := omega) only [x_st_o, x_rd_ne]; first | assumption | omega) | (apply mir_eq; assumption; (intro c h1 h2; simp (disch := omega) only [x_st_o])) | (apply mis_eq; assumption; (intro c h1 h2; simp (disch := omega) only [x_st_o])) | rfl) only [bk_19_0, bk_19_2, bk_19_3, wp_ild1, wp_ic, wp_imul, wp_ist4, wp_ist5, wp_fall, wp_ild3, wp_ifeq, wp_ild5, wp_ald0, wr_44_3, wl_8, wl_45, wl_46, wl_47, wl_48, wl_49, wp_cald, wp_icge, wr_44_1, wr_44_4, wp_ild4, wp_iadd, wp_ild2, wp_icne, wr_44_5, wp_dup2, wr_44_0, wr_6_8, ws_8, ws_45, ws_46, ws_47, ws_48, ws_49, wp_ret, wp_inc5, wp_goto, wr_44_2, x_clr_I, x_clr_J, x_clr_R, x_clr_U, ct_some, ct_none, lc_lt, lc_ge, lc_gt, lc_le, lc_eq, lc_r, xI_inj, xJ_inj, Option.some.injEq, eq_self, bi_r, bi_0, bi_1, bi_n, Classical.not_not, and_true, true_and, ite_true, ite_false, ↓reduceIte, ↓x_andl, z_le, z_nle, z_lt, z_nlt, z_eq, z_neq, if_pos, if_neg, x_andl, false_and, and_false, or_true, true_or, or_false, false_or, not_true, not_false_iff, x_rd_eq, x_rd_ne, x_st_o, Int.cast_ofNat_Int, Int.ofNat_zero, Int.ofNat_one, not_true_eq_false, not_false_eq_true, if_true, if_false, ite_self, and_self, Int.ofNat_eq_natCast, Int.tdiv_eq_ediv_of_nonneg, Int.tmod_eq_emod_of_nonneg, x_bm32, hn, ej, hdj, c, ch, hσ']
            exact fin
          · subst hσ'
            refine ⟨eqo_st (by simp) eqo_refl, fun g hg => ⟨?_, ?_⟩, fun q hq => ⟨?_, ?_⟩⟩
            · simp (disch := omega) only [x_st_o, x_rd_ne, x_rd_eq, s_fl_o, s_fl_in, s_fl_out, x_cp_o, x_cp_in, x_cp_out]
            · simp (disch := omega) only [x_st_o, x_rd_ne, x_rd_eq, s_fl_o, s_fl_in, s_fl_out, x_cp_o, x_cp_in, x_cp_out]
            · rw [x_st_o (by omega)]
            · rw [x_rd_ne (by omega)]
          · have eo : ∀ c', ¬ c' = 49 → σ' c' 0 = σ c' 0 := by
              intro c' hc'
              subst hσ'
              exact x_st_o (by omega)
            have e48 : ∀ q, lkl σ' f q = lkl σ f q := fun q => by
              unfold lkl
              rw [eo 48 (by omega)]
            have e49 : ∀ q, lko σ' f q = if q = j then lko σ f q + w_of w k 1 else lko σ f q := by
              intro q
              subst hσ'
              unfold lko
              by_cases z : q = j
              · rw [if_pos z, z, x_rd_eq]
              · rw [if_neg z, x_rd_ne (by omega)]
            refine ⟨?_, ?_⟩
            · rw [eo 45 (by omega), eo 47 (by omega), hn]
              refine ⟨n, lkl σ f, lko σ f, hJ, Or.inl ⟨j, ⟨j0, by omega⟩, ⟨rfl, ?_⟩, fun q q0 q1 z => hno q q0 q1 ⟨rfl, ?_⟩, rfl, fun q q0 q1 => e48 q, fun q q0 q1 => ?_⟩⟩
              · rw [hkk, hlj, hdj]
                exact c
              · rw [hkk] at z
                exact z
              · rw [hkk]
                exact e49 q
            · rw [eo 47 (by omega), eo 46 (by omega), hn, bS_cg (bk := σ 46 0) (l := lkl σ f) n.toNat (fun q q0 q1 => by rw [e48])]
              exact hB
        · have A := ih (j + 1) (by omega) (by omega) (fun q q0 q1 z => by
            by_cases y : q = j
            · rw [y, hlj, hdj] at z
              exact c z.2
            · exact hno q q0 (by omega) z)
          rw [bk_19_1]
          simp (disch := first | omega | (simp only [x_wtI, x_wtJ, x_wtR, x_wtN]; omega) | assumption | (simp (disch := omega) only [x_st_o, x_rd_ne]; first | assumption | omega) | (apply mir_eq; assumption; (intro c h1 h2; simp (disch := omega) only [x_st_o])) | (apply mis_eq; assumption; (intro c h1 h2; simp (disch := omega) only [x_st_o])) | rfl) only [bk_19_0, bk_19_2, bk_19_3, wp_ild1, wp_ic, wp_imul, wp_ist4, wp_ist5, wp_fall, wp_ild3, wp_ifeq, wp_ild5, wp_ald0, wr_44_3, wl_8, wl_45, wl_46, wl_47, wl_48, wl_49, wp_cald, wp_icge, wr_44_1, wr_44_4, wp_ild4, wp_iadd, wp_ild2, wp_icne, wr_44_5, wp_dup2, wr_44_0, wr_6_8, ws_8, ws_45, ws_46, ws_47, ws_48, ws_49, wp_ret, wp_inc5, wp_goto, wr_44_2, x_clr_I, x_clr_J, x_clr_R, x_clr_U, ct_some, ct_none, lc_lt, lc_ge, lc_gt, lc_le, lc_eq, lc_r, xI_inj, xJ_inj, Option.some.injEq, eq_self, bi_r, bi_0, bi_1, bi_n, Classical.not_not, and_true, true_and, ite_true, ite_false, ↓reduceIte, ↓x_andl, z_le, z_nle, z_lt, z_nlt, z_eq, z_neq, if_pos, if_neg, x_andl, false_and, and_false, or_true, true_or, or_false, false_or, not_true, not_false_iff, x_rd_eq, x_rd_ne, x_st_o, Int.cast_ofNat_Int, Int.ofNat_zero, Int.ofNat_one, not_true_eq_false, not_false_eq_true, if_true, if_false, ite_self, and_self, Int.ofNat_eq_natCast, Int.tdiv_eq_ediv_of_nonneg, Int.tmod_eq_emod_of_nonneg, x_bm32, hn, ej, hdj]
          exact A
  have K := key n.toNat 0 (by omega) (by omega) (fun q q0 q1 => by omega)
  simp (disch := first | omega | (simp only [x_wtI, x_wtJ, x_wtR, x_wtN]; omega) | assumption | (simp (disch := omega) only [x_st_o, x_rd_ne]; first | assumption | omega) | (apply mir_eq; assumption; (intro c h1 h2; simp (disch := omega) only [x_st_o])) | (apply mis_eq; assumption; (intro c h1 h2; simp (disch := omega) only [x_st_o])) | rfl) only [sp_19, bk_19_0, bk_19_2, bk_19_3, wp_ild1, wp_ic, wp_imul, wp_ist4, wp_ist5, wp_fall, wp_ild3, wp_ifeq, wp_ild5, wp_ald0, wr_44_3, wl_8, wl_45, wl_46, wl_47, wl_48, wl_49, wp_cald, wp_icge, wr_44_1, wr_44_4, wp_ild4, wp_iadd, wp_ild2, wp_icne, wr_44_5, wp_dup2, wr_44_0, wr_6_8, ws_8, ws_45, ws_46, ws_47, ws_48, ws_49, wp_ret, wp_inc5, wp_goto, wr_44_2, x_clr_I, x_clr_J, x_clr_R, x_clr_U, ct_some, ct_none, lc_lt, lc_ge, lc_gt, lc_le, lc_eq, lc_r, xI_inj, xJ_inj, Option.some.injEq, eq_self, bi_r, bi_0, bi_1, bi_n, Classical.not_not, and_true, true_and, ite_true, ite_false, ↓reduceIte, ↓x_andl, z_le, z_nle, z_lt, z_nlt, z_eq, z_neq, if_pos, if_neg, x_andl, false_and, and_false, or_true, true_or, or_false, false_or, not_true, not_false_iff, x_rd_eq, x_rd_ne, x_st_o, Int.cast_ofNat_Int, Int.ofNat_zero, Int.ofNat_one, not_true_eq_false, not_false_eq_true, if_true, if_false, ite_self, and_self, Int.ofNat_eq_natCast, Int.tdiv_eq_ediv_of_nonneg, Int.tmod_eq_emod_of_nonneg, x_bm32]
  exact K

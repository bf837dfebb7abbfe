def cC (σ : x_S) (f : Int) : Int := if σ 34 0 f = 1 then 21 * σ 37 0 f + σ 36 0 f else -1
def cV (σ : x_S) (f : Int) : Int := if σ 35 0 f = 1 then 21 * σ 39 0 f + σ 38 0 f else -1
def wcell (σ : x_S) (f : Int) : Prop := (σ 34 0 f = 0 ∨ σ 34 0 f = 1) ∧ (σ 35 0 f = 0 ∨ σ 35 0 f = 1) ∧ (σ 34 0 f = 1 → (0 ≤ σ 36 0 f ∧ σ 36 0 f ≤ 20) ∧ (0 ≤ σ 37 0 f ∧ σ 37 0 f ≤ 1)) ∧ (σ 35 0 f = 1 → (0 ≤ σ 38 0 f ∧ σ 38 0 f ≤ 20) ∧ (0 ≤ σ 39 0 f ∧ σ 39 0 f ≤ 1))
def pk (w : Int → Int) (n : Int) (V S P : Int → Int) : Prop := ∀ f, 0 ≤ f → f < n → ¬ V f = -1 → P f = max (if f = w 8 then 0 else P (w_of w f 0)) (S f)
def stm (n : Int) (C V : Int → Int) (s : Int) : Prop := (s = -1 ∧ ∀ g, 0 ≤ g → g < n → ¬ (¬ C g = -1 ∧ V g = -1)) ∨ ((0 ≤ s ∧ s < n) ∧ (¬ C s = -1 ∧ V s = -1) ∧ ∀ g, 0 ≤ g → g < s → ¬ (¬ C g = -1 ∧ V g = -1))
theorem h_enter {σ : x_S} {w : Int → Int} {f : Int} (hM : mir σ 1 w) (hS : mis σ 1 w) (hw : wf w) (hn : wn w) (h0 : 0 ≤ f) (h1 : f < w 0) (hp : w 8 < f → (σ 35 0 (w_of w f 0) = 0 ∨ σ 35 0 (w_of w f 0) = 1) ∧ (σ 35 0 (w_of w f 0) = 1 → (0 ≤ σ 38 0 (w_of w f 0) ∧ σ 38 0 (w_of w f 0) ≤ 20) ∧ (0 ≤ σ 39 0 (w_of w f 0) ∧ σ 39 0 (w_of w f 0) ≤ 1))) : x_Sp 1 79 [xR 33 0, xI f] σ (fun r σ' => r = none ∧ x_eqo [(34, 0), (36, 0), (37, 0), (40, 0), (41, 0)] σ σ' ∧ (∀ c g, ¬ g = f → σ' c 0 g = σ c 0 g) ∧ (σ' 34 0 f = 0 ∨ σ' 34 0 f = 1) ∧ cC σ' f = (if f = w 8 then 21 * w 10 + w 9 else if w 8 < f then cV σ (w_of w f 0) else -1) ∧ (σ' 34 0 f = 1 → (0 ≤ σ' 36 0 f ∧ σ' 36 0 f ≤ 20) ∧ (0 ≤ σ' 37 0 f ∧ σ' 37 0 f ≤ 1) ∧ σ' 40 0 f = (if f = w 8 then 0 else σ 40 0 (w_of w f 0)) ∧ σ' 41 0 f = (if f = w 8 then 0 else σ 41 0 (w_of w f 0))) ∧ (σ' 34 0 f = 0 → σ' 40 0 f = 0)) := by
  refine x_gen (fun Q hQ => ?_)
  have hn' := hn
  unfold wn at hn'
  by_cases c : f = w 8
  · refine (k_enter1 (d := 0) hM hS hw hn h0 h1 c).mpr (hQ _ _ ⟨rfl, ?_, ?_, ?_, ?_, ?_, ?_⟩)
    · repeat (first | exact eqo_refl | refine eqo_st (by simp) ?_)
    · intro c g hg
      simp (disch := omega) only [x_st_o, x_rd_ne, x_rd_eq, s_fl_o, s_fl_in, s_fl_out, x_cp_o, x_cp_in, x_cp_out]
    · simp (disch := omega) only [x_st_o, x_rd_ne, x_rd_eq, s_fl_o, s_fl_in, s_fl_out, x_cp_o, x_cp_in, x_cp_out]
      exact Or.inr trivial
    · unfold cC
      simp (disch := omega) only [x_st_o, x_rd_ne, x_rd_eq, s_fl_o, s_fl_in, s_fl_out, x_cp_o, x_cp_in, x_cp_out]
      rw [if_pos c, if_pos trivial]
    · intro _
      simp (disch := omega) only [x_st_o, x_rd_ne, x_rd_eq, s_fl_o, s_fl_in, s_fl_out, x_cp_o, x_cp_in, x_cp_out]
      rw [if_pos c, if_pos c]
      exact ⟨hn'.2.1, hn'.2.2.1, rfl, rfl⟩
    · intro _
      simp (disch := omega) only [x_st_o, x_rd_ne, x_rd_eq, s_fl_o, s_fl_in, s_fl_out, x_cp_o, x_cp_in, x_cp_out]
  · by_cases c2 : w 8 < f
    · have u := wf_u hw (f := f) (by omega) h1
      obtain ⟨p1, p2⟩ := hp c2
      rcases p1 with p1 | p1
      · refine (k_enter3 (d := 0) hM hS hw hn h0 h1 c (Or.inr p1)).mpr (hQ _ _ ⟨rfl, ?_, ?_, ?_, ?_, ?_, ?_⟩)
        · repeat (first | exact eqo_refl | refine eqo_st (by simp) ?_)
        · intro c g hg
          simp (disch := omega) only [x_st_o, x_rd_ne, x_rd_eq, s_fl_o, s_fl_in, s_fl_out, x_cp_o, x_cp_in, x_cp_out]
        · simp (disch := omega) only [x_st_o, x_rd_ne, x_rd_eq, s_fl_o, s_fl_in, s_fl_out, x_cp_o, x_cp_in, x_cp_out]
          exact Or.inl trivial
        · unfold cC cV
          simp (disch := omega) only [x_st_o, x_rd_ne, x_rd_eq, s_fl_o, s_fl_in, s_fl_out, x_cp_o, x_cp_in, x_cp_out]
          rw [if_neg c, if_pos c2, p1, if_neg (by omega), if_neg (by omega)]
        · simp (disch := omega) only [x_st_o, x_rd_ne, x_rd_eq, s_fl_o, s_fl_in, s_fl_out, x_cp_o, x_cp_in, x_cp_out]
          intro z
          omega
        · intro _
          simp (disch := omega) only [x_st_o, x_rd_ne, x_rd_eq, s_fl_o, s_fl_in, s_fl_out, x_cp_o, x_cp_in, x_cp_out]
      · refine (k_enter2 (d := 0) hM hS hw hn h1 c2 p1).mpr (hQ _ _ ⟨rfl, ?_, ?_, ?_, ?_, ?_, ?_⟩)
        · repeat (first | exact eqo_refl | refine eqo_st (by simp) ?_)
        · intro c g hg
          simp (disch := omega) only [x_st_o, x_rd_ne, x_rd_eq, s_fl_o, s_fl_in, s_fl_out, x_cp_o, x_cp_in, x_cp_out]
        · simp (disch := omega) only [x_st_o, x_rd_ne, x_rd_eq, s_fl_o, s_fl_in, s_fl_out, x_cp_o, x_cp_in, x_cp_out]
          exact Or.inr trivial
        · unfold cC cV
          simp (disch := omega) only [x_st_o, x_rd_ne, x_rd_eq, s_fl_o, s_fl_in, s_fl_out, x_cp_o, x_cp_in, x_cp_out]
          rw [if_neg c, if_pos c2, p1, if_pos trivial, if_pos rfl]
        · intro _
          simp (disch := omega) only [x_st_o, x_rd_ne, x_rd_eq, s_fl_o, s_fl_in, s_fl_out, x_cp_o, x_cp_in, x_cp_out]
          rw [if_neg c, if_neg c]
          exact ⟨(p2 p1).1, (p2 p1).2, rfl, rfl⟩
        · simp (disch := omega) only [x_st_o, x_rd_ne, x_rd_eq, s_fl_o, s_fl_in, s_fl_out, x_cp_o, x_cp_in, x_cp_out]
          intro z
          omega
    · refine (k_enter3 (d := 0) hM hS hw hn h0 h1 c (Or.inl (by omega))).mpr (hQ _ _ ⟨rfl, ?_, ?_, ?_, ?_, ?_, ?_⟩)
      · repeat (first | exact eqo_refl | refine eqo_st (by simp) ?_)
      · intro c g hg
        simp (disch := omega) only [x_st_o, x_rd_ne, x_rd_eq, s_fl_o, s_fl_in, s_fl_out, x_cp_o, x_cp_in, x_cp_out]
      · simp (disch := omega) only [x_st_o, x_rd_ne, x_rd_eq, s_fl_o, s_fl_in, s_fl_out, x_cp_o, x_cp_in, x_cp_out]
        exact Or.inl trivial
      · unfold cC
        simp (disch := omega) only [x_st_o, x_rd_ne, x_rd_eq, s_fl_o, s_fl_in, s_fl_out, x_cp_o, x_cp_in, x_cp_out]
        rw [if_neg c, if_neg c2, if_neg (by omega)]
      · simp (disch := omega) only [x_st_o, x_rd_ne, x_rd_eq, s_fl_o, s_fl_in, s_fl_out, x_cp_o, x_cp_in, x_cp_out]
        intro z
        omega
      · intro _
        simp (disch := omega) only [x_st_o, x_rd_ne, x_rd_eq, s_fl_o, s_fl_in, s_fl_out, x_cp_o, x_cp_in, x_cp_out]
theorem h_leave {σ : x_S} {w : Int → Int} {f : Int} (hM : mir σ 1 w) (hS : mis σ 1 w) (hw : wf w) (hq : wq w) (h0 : 0 ≤ f) (h1 : f < w 0) (hc : σ 34 0 f = 0 ∨ σ 34 0 f = 1) (hr : σ 34 0 f = 1 → (0 ≤ σ 36 0 f ∧ σ 36 0 f ≤ 20) ∧ (0 ≤ σ 37 0 f ∧ σ 37 0 f ≤ 1) ∧ (-1000000 ≤ σ 40 0 f ∧ σ 40 0 f ≤ 1000000) ∧ (-1000000 ≤ σ 41 0 f ∧ σ 41 0 f ≤ 1000000)) : x_Sp 2 81 [xR 33 0, xI f] σ (fun r σ' => r = none ∧ x_eqo [(35, 0), (38, 0), (39, 0), (40, 0), (41, 0)] σ σ' ∧ (∀ c g, ¬ g = f → σ' c 0 g = σ c 0 g) ∧ (σ' 35 0 f = 0 ∨ σ' 35 0 f = 1) ∧ cV σ' f = (if cC σ f = -1 then -1 else p_beh w f (cC σ f) (w (536 + 2 * f)) (w (536 + 2 * f + 1))) ∧ (σ' 35 0 f = 1 → (0 ≤ σ' 38 0 f ∧ σ' 38 0 f ≤ 20) ∧ (0 ≤ σ' 39 0 f ∧ σ' 39 0 f ≤ 1) ∧ σ' 40 0 f = σ 40 0 f + p_cost w 5 f (w (536 + 2 * f)) (w (536 + 2 * f + 1)) (cV σ' f % 21) ∧ σ' 41 0 f = max (σ 41 0 f) (σ' 40 0 f)) ∧ (σ' 35 0 f = 0 → σ' 40 0 f = σ 40 0 f)) := by
  refine x_gen (fun Q hQ => ?_)
  have q := hq f h0 h1
  rcases hc with hc | hc
  · refine (k_leave0 (d := 0) hM hS hw hq h0 h1 (Or.inl hc)).mpr (hQ _ _ ⟨rfl, ?_, ?_, ?_, ?_, ?_, ?_⟩)
    · exact eqo_st (by simp) eqo_refl
    · intro c g hg
      simp (disch := omega) only [x_st_o, x_rd_ne, x_rd_eq, s_fl_o, s_fl_in, s_fl_out, x_cp_o, x_cp_in, x_cp_out]
    · simp (disch := omega) only [x_st_o, x_rd_ne, x_rd_eq, s_fl_o, s_fl_in, s_fl_out, x_cp_o, x_cp_in, x_cp_out]
      exact Or.inl trivial
    · have eC0 : cC σ f = -1 := if_neg (by omega)
      rw [eC0, if_pos rfl]
      unfold cV
      simp (disch := omega) only [x_st_o, x_rd_ne, x_rd_eq, s_fl_o, s_fl_in, s_fl_out, x_cp_o, x_cp_in, x_cp_out]
      rw [if_neg (by omega)]
    · simp (disch := omega) only [x_st_o, x_rd_ne, x_rd_eq, s_fl_o, s_fl_in, s_fl_out, x_cp_o, x_cp_in, x_cp_out]
      intro z
      omega
    · intro _
      simp (disch := omega) only [x_st_o, x_rd_ne, x_rd_eq, s_fl_o, s_fl_in, s_fl_out, x_cp_o, x_cp_in, x_cp_out]
  · obtain ⟨r1, r2, r3, r4⟩ := hr hc
    have eC : cC σ f = 21 * σ 37 0 f + σ 36 0 f := if_pos hc
    have em : (21 * σ 37 0 f + σ 36 0 f) % 21 = σ 36 0 f := by omega
    have ed : (21 * σ 37 0 f + σ 36 0 f) / 21 = σ 37 0 f := by omega
    by_cases hl : p_law w f (σ 36 0 f) (σ 37 0 f) (w (536 + 2 * f)) (w (536 + 2 * f + 1))
    · have eB : p_beh w f (21 * σ 37 0 f + σ 36 0 f) (w (536 + 2 * f)) (w (536 + 2 * f + 1)) = 21 * p_or (σ 37 0 f) (w (536 + 2 * f + 1)) + (σ 36 0 f + w (536 + 2 * f) - w_of w f 5) := by
        unfold p_beh
        rw [em, ed, if_pos ⟨q.2.2, hl⟩]
      have po := p_or_01 (a := σ 37 0 f) (b := w (536 + 2 * f + 1))
      have r := room_b hw (l := p_or (σ 37 0 f) (w (536 + 2 * f + 1)))
      have l4 := hl.2.2.2.1
      have l5 := hl.2.2.2.2
      refine (k_leave1 (d := 0) hM hS hw hq h0 h1 hc r1 r2 r3 r4 hl).mpr (hQ _ _ ⟨rfl, ?_, ?_, ?_, ?_, ?_, ?_⟩)
      · repeat (first | exact eqo_refl | refine eqo_st (by simp) ?_)
      · intro c g hg
        simp (disch := omega) only [x_st_o, x_rd_ne, x_rd_eq, s_fl_o, s_fl_in, s_fl_out, x_cp_o, x_cp_in, x_cp_out]
      · simp (disch := omega) only [x_st_o, x_rd_ne, x_rd_eq, s_fl_o, s_fl_in, s_fl_out, x_cp_o, x_cp_in, x_cp_out]
        exact Or.inr trivial
      · rw [eC, if_neg (by omega), eB]
        unfold cV
        simp (disch := omega) only [x_st_o, x_rd_ne, x_rd_eq, s_fl_o, s_fl_in, s_fl_out, x_cp_o, x_cp_in, x_cp_out]
        rw [if_pos trivial]
      · intro _
        have eV : ∀ σ', σ' = (x_st (x_st (x_st (x_st (x_st σ 35 0 f 1) 38 0 f (σ 36 0 f + w (536 + 2 * f) - w_of w f 5)) 39 0 f (p_or (σ 37 0 f) (w (536 + 2 * f + 1)))) 40 0 f (σ 40 0 f + p_cost w 5 f (w (536 + 2 * f)) (w (536 + 2 * f + 1)) (σ 36 0 f + w (536 + 2 * f) - w_of w f 5))) 41 0 f (max (σ 41 0 f) (σ 40 0 f + p_cost w 5 f (w (536 + 2 * f)) (w (536 + 2 * f + 1)) (σ 36 0 f + w (536 + 2 * f) - w_of w f 5)))) → cV σ' f % 21 = σ 36 0 f + w (536 + 2 * f) - w_of w f 5 := by
          intro σ' e
          subst e
          unfold cV
          simp (disch := omega) only [x_st_o, x_rd_ne, x_rd_eq, s_fl_o, s_fl_in, s_fl_out, x_cp_o, x_cp_in, x_cp_out]
          rw [if_pos trivial]
          omega
        rw [eV _ rfl]
        simp (disch := omega) only [x_st_o, x_rd_ne, x_rd_eq, s_fl_o, s_fl_in, s_fl_out, x_cp_o, x_cp_in, x_cp_out]
        exact ⟨by omega, po, trivial, trivial⟩
      · simp (disch := omega) only [x_st_o, x_rd_ne, x_rd_eq, s_fl_o, s_fl_in, s_fl_out, x_cp_o, x_cp_in, x_cp_out]
        intro z
        omega
    · refine (k_leave0 (d := 0) hM hS hw hq h0 h1 (Or.inr ⟨hc, r1, r2, hl⟩)).mpr (hQ _ _ ⟨rfl, ?_, ?_, ?_, ?_, ?_, ?_⟩)
      · exact eqo_st (by simp) eqo_refl
      · intro c g hg
        simp (disch := omega) only [x_st_o, x_rd_ne, x_rd_eq, s_fl_o, s_fl_in, s_fl_out, x_cp_o, x_cp_in, x_cp_out]
      · simp (disch := omega) only [x_st_o, x_rd_ne, x_rd_eq, s_fl_o, s_fl_in, s_fl_out, x_cp_o, x_cp_in, x_cp_out]
        exact Or.inl trivial
      · have eB : p_beh w f (21 * σ 37 0 f + σ 36 0 f) (w (536 + 2 * f)) (w (536 + 2 * f + 1)) = -1 := by
          unfold p_beh
          rw [em, ed, if_neg (fun z => hl z.2)]
        rw [eC, eB]
        unfold cV
        simp (disch := omega) only [x_st_o, x_rd_ne, x_rd_eq, s_fl_o, s_fl_in, s_fl_out, x_cp_o, x_cp_in, x_cp_out]
        rw [if_neg (by omega), ite_self]
      · simp (disch := omega) only [x_st_o, x_rd_ne, x_rd_eq, s_fl_o, s_fl_in, s_fl_out, x_cp_o, x_cp_in, x_cp_out]
        intro z
        omega
      · intro _
        simp (disch := omega) only [x_st_o, x_rd_ne, x_rd_eq, s_fl_o, s_fl_in, s_fl_out, x_cp_o, x_cp_in, x_cp_out]

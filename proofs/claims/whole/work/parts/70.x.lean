/-! the plan followed from now on -/
def wk (w : Int → Int) (n : Int) (C V S : Int → Int) : Prop := ∀ f, 0 ≤ f → f < n → C f = (if f = w 8 then 21 * w 10 + w 9 else if p_fr w (w 8) f then V (w_of w f 0) else -1) ∧ V f = (if C f = -1 then -1 else p_beh w f (C f) (w (536 + 2 * f)) (w (536 + 2 * f + 1))) ∧ (¬ V f = -1 → S f = (if f = w 8 then 0 else S (w_of w f 0)) + p_cost w 5 f (w (536 + 2 * f)) (w (536 + 2 * f + 1)) (V f % 21))
section WK
variable {w C V S C' V' S' : Int → Int} {N : Int}
theorem fr_gt {w : Int → Int} {top f : Int} (h : p_fr w top f) (h2 : ¬ f = top) : top < f := by
  by_cases c : f < top
  · exact absurd h (fr_lt c)
  · omega
theorem fr_par (hw : wf w) {top f : Int} (ht : 0 ≤ top) (h : p_fr w top f) (h2 : ¬ f = top) (h1 : f < w 0) : p_fr w top (w_of w f 0) ∧ 0 ≤ w_of w f 0 ∧ w_of w f 0 < f ∧ top ≤ w_of w f 0 := by
  have g := fr_gt h h2
  have u := wf_u hw (f := f) (by omega) h1
  have p := (fr_up hw ht g h1).mp h
  refine ⟨p, u.1, u.2.1, ?_⟩
  by_cases c : w_of w f 0 = top
  · omega
  · have := fr_gt p c
    omega
theorem fr_kid (hw : wf w) {top f i : Int} (ht : 0 ≤ top) (h : p_fr w top f) (h0 : 0 ≤ f) (h1 : f < w 0) (i0 : 0 ≤ i) (i1 : i < w_of w f 7) : p_fr w top (w_of w f (8 + i)) := by
  have k := wf_k hw h0 h1 i0 i1
  have ge : top ≤ f := by
    by_cases c : f < top
    · exact absurd h (fr_lt c)
    · omega
  rw [fr_up hw ht (by omega) k.2.1, k.2.2.1]
  exact h
theorem wk_uniq (hw : wf w) (hn : 0 ≤ w 8 ∧ w 8 < w 0) (hN : N ≤ w 0) (h : wk w N C V S) (h' : wk w N C' V' S') : ∀ f, 0 ≤ f → f < N → C f = C' f ∧ V f = V' f ∧ (¬ V f = -1 → S f = S' f) := by
  have key : ∀ n : Nat, ∀ f, 0 ≤ f → f < N → f < n → C f = C' f ∧ V f = V' f ∧ (¬ V f = -1 → S f = S' f) := by
    intro n
    induction n with
    | zero => intro f a _ b; omega
    | succ n ih =>
      intro f f0 f1 fn
      obtain ⟨a1, a2, a3⟩ := h f f0 f1
      obtain ⟨b1, b2, b3⟩ := h' f f0 f1
      have eC : C f = C' f := by
        rw [a1, b1]
        by_cases c : f = w 8
        · rw [if_pos c, if_pos c]
        · rw [if_neg c, if_neg c]
          by_cases c2 : p_fr w (w 8) f
          · rw [if_pos c2, if_pos c2]
            have u := fr_par hw hn.1 c2 c (by omega)
            exact (ih _ u.2.1 (by omega) (by omega)).2.1
          · rw [if_neg c2, if_neg c2]
      have eV : V f = V' f := by
        rw [a2, b2, eC]
      refine ⟨eC, eV, ?_⟩
      intro hv
      rw [a3 hv, b3 (by rw [← eV]; exact hv), eV]
      by_cases c : f = w 8
      · rw [if_pos c, if_pos c]
      · rw [if_neg c, if_neg c]
        have hc : ¬ C f = -1 := by
          intro z
          rw [a2, if_pos z] at hv
          exact hv rfl
        rw [a1, if_neg c] at hc
        by_cases c2 : p_fr w (w 8) f
        · rw [if_pos c2] at hc
          have u := fr_par hw hn.1 c2 c (by omega)
          rw [(ih _ u.2.1 (by omega) (by omega)).2.2 hc]
        · rw [if_neg c2] at hc
          exact absurd rfl hc
  intro f f0 f1
  exact key (f + 1).toNat f f0 f1 (by omega)
theorem wk_b (hw : wf w) (hn : wn w) (hq : wq w) (hN : N ≤ w 0) (h : wk w N C V S) : ∀ f, 0 ≤ f → f < N → (-1 ≤ C f ∧ C f < 42) ∧ (-1 ≤ V f ∧ V f < 42) ∧ (¬ V f = -1 → p_fr w (w 8) f ∧ ¬ C f = -1 ∧ -(30000 * (w_of w f 6 + 1)) ≤ S f ∧ S f ≤ 30000 * (w_of w f 6 + 1)) := by
  unfold wn at hn
  have key : ∀ n : Nat, ∀ f, 0 ≤ f → f < N → f < n → (-1 ≤ C f ∧ C f < 42) ∧ (-1 ≤ V f ∧ V f < 42) ∧ (¬ V f = -1 → p_fr w (w 8) f ∧ ¬ C f = -1 ∧ -(30000 * (w_of w f 6 + 1)) ≤ S f ∧ S f ≤ 30000 * (w_of w f 6 + 1)) := by
    intro n
    induction n with
    | zero => intro f a _ b; omega
    | succ n ih =>
      intro f f0 f1 fn
      obtain ⟨a1, a2, a3⟩ := h f f0 f1
      have q := hq f f0 (by omega)
      have o := wf_f hw f0 (show f < w 0 by omega)
      unfold wf_one at o
      have bC : -1 ≤ C f ∧ C f < 42 := by
        rw [a1]
        by_cases c : f = w 8
        · rw [if_pos c]
          omega
        · rw [if_neg c]
          by_cases c2 : p_fr w (w 8) f
          · rw [if_pos c2]
            have u := fr_par hw hn.1.1 c2 c (by omega)
            exact (ih _ u.2.1 (by omega) (by omega)).2.1
          · rw [if_neg c2]
            omega
      have bV : -1 ≤ V f ∧ V f < 42 := by
        rw [a2]
        by_cases c : C f = -1
        · rw [if_pos c]
          omega
        · rw [if_neg c]
          exact beh_b hw (by omega)
      refine ⟨bC, bV, ?_⟩
      intro hv
      have hc : ¬ C f = -1 := by
        intro z
        rw [a2, if_pos z] at hv
        exact hv rfl
      have s := a3 hv
      have cb := cost_b hw (E := 5) (x := w (536 + 2 * f)) (b := w (536 + 2 * f + 1)) (t := V f % 21) f0 (by omega) q.2.1 q.2.2 (by omega)
      by_cases c : f = w 8
      · rw [if_pos c] at s
        refine ⟨by rw [c]; exact fr_self, hc, by omega, by omega⟩
      · rw [if_neg c] at s
        rw [a1, if_neg c] at hc
        by_cases c2 : p_fr w (w 8) f
        · rw [if_pos c2] at hc
          have u := fr_par hw hn.1.1 c2 c (by omega)
          have uu := wf_u hw (f := f) (by omega) (by omega)
          have ii := (ih _ u.2.1 (by omega) (by omega)).2.2 hc
          refine ⟨c2, ?_, by omega, by omega⟩
          rw [a1, if_neg c, if_pos c2]
          exact hc
        · rw [if_neg c2] at hc
          exact absurd rfl hc
  intro f f0 f1
  exact key (f + 1).toNat f f0 f1 (by omega)
end WK

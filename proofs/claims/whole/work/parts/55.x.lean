/-! worlds that have the same tree -/
def tq (w w' : Int → Int) : Prop := (∀ i, 0 ≤ i → i < 8 → w' i = w i) ∧ (∀ i, 16 ≤ i → i < 536 → w' i = w i)
section TQ
variable {w w' : Int → Int} {f k : Int}
theorem tq_of (e : tq w w') (h0 : 0 ≤ f) (h1 : f < 40) (h2 : 0 ≤ k) (h3 : k < 13) : w_of w' f k = w_of w f k := e.2 _ (by omega) (by omega)
theorem tq_kid (e : tq w w') (hw : wf w) (h0 : 0 ≤ f) (h1 : f < w 0) {i : Int} (h2 : 0 ≤ i) (h3 : i < w_of w f 7) : w_of w' f (8 + i) = w_of w f (8 + i) := by
  have a := wf_h hw
  unfold wf_hdr at a
  have o := wf_f hw h0 h1
  unfold wf_one at o
  exact tq_of e h0 (by omega) (by omega) (by omega)
theorem tq_sum (e : tq w w') (hw : wf w) (h0 : 0 ≤ f) (h1 : f < w 0) : ∀ n : Nat, (n : Int) ≤ w_of w f 7 → w_sum w' f n = w_sum w f n := by
  have a := wf_h hw
  unfold wf_hdr at a
  intro n
  induction n with
  | zero => intro _; rfl
  | succ n ih =>
    intro hn
    have kk := wf_k hw (i := (n : Int)) h0 h1 (by omega) (by omega)
    show w_sum w' f n + w_of w' (w_of w' f (8 + n)) 1 = w_sum w f n + w_of w (w_of w f (8 + n)) 1
    rw [ih (by omega), tq_kid e hw h0 h1 (by omega) (by omega), tq_of e (by omega) (by omega) (by omega) (by omega)]
theorem tq_wf (e : tq w w') (hw : wf w) : wf w' := by
  have a := wf_h hw
  unfold wf_hdr at a
  have e0 := e.1 0 (by omega) (by omega)
  refine ⟨?_, ?_⟩
  · unfold wf_hdr
    rw [e0, e.1 1 (by omega) (by omega), e.1 2 (by omega) (by omega), e.1 3 (by omega) (by omega), e.1 4 (by omega) (by omega), e.1 5 (by omega) (by omega), e.1 6 (by omega) (by omega)]
    exact a
  · intro f h0 h1
    rw [e0] at h1
    have o := hw.2 f h0 h1
    have ob := o.1
    unfold wf_one at ob
    refine ⟨?_, ?_, ?_, ?_⟩
    · unfold wf_one
      rw [tq_of e h0 (by omega) (by omega) (by omega), tq_of e h0 (by omega) (by omega) (by omega), tq_of e h0 (by omega) (by omega) (by omega), tq_of e h0 (by omega) (by omega) (by omega), tq_of e h0 (by omega) (by omega) (by omega), tq_of e h0 (by omega) (by omega) (by omega), tq_of e h0 (by omega) (by omega) (by omega), tq_of e h0 (by omega) (by omega) (by omega)]
      exact o.1
    · intro i i0 i1
      rw [tq_of e h0 (by omega) (by omega) (by omega)] at i1
      have kk := o.2.1 i i0 i1
      rw [tq_kid e hw h0 h1 i0 i1, e0, tq_of e (by omega) (by omega) (by omega) (by omega), tq_of e (by omega) (by omega) (by omega) (by omega), tq_of e h0 (by omega) (by omega) (by omega)]
      exact kk
    · intro i j i0 i1 j1
      rw [tq_of e h0 (by omega) (by omega) (by omega)] at j1
      rw [tq_kid e hw h0 h1 i0 (by omega), tq_kid e hw h0 h1 (by omega) j1]
      exact o.2.2.1 i j i0 i1 j1
    · intro hp
      obtain ⟨i, i0, i1, i2⟩ := o.2.2.2 hp
      rw [tq_of e h0 (by omega) (by omega) (by omega)]
      refine ⟨i, i0, ?_, ?_⟩
      · rw [tq_of e (by omega) (by omega) (by omega) (by omega)]
        exact i1
      · rw [tq_kid e hw (by omega) (by omega) i0 i1]
        exact i2
theorem tq_100 (e : tq w w') (hw : wf w) (h : wf_100 w) : wf_100 w' := by
  have a := wf_h hw
  unfold wf_hdr at a
  intro f h0 h1 h2
  rw [e.1 0 (by omega) (by omega)] at h1
  rw [tq_of e h0 (by omega) (by omega) (by omega)] at h2 ⊢
  rw [tq_sum e hw h0 h1 _ (by omega)]
  exact h f h0 h1 h2
theorem tq_up (e : tq w w') (hw : wf w) {top : Int} (ht : 0 ≤ top) : ∀ (n : Nat) (f : Int), 0 ≤ f → f < w 0 → p_up w' top n f = p_up w top n f := by
  have a := wf_h hw
  unfold wf_hdr at a
  intro n
  induction n with
  | zero => intro f _ _; rfl
  | succ n ih =>
    intro f h0 h1
    show (if top < f then p_up w' top n (w_of w' f 0) else f) = (if top < f then p_up w top n (w_of w f 0) else f)
    by_cases c : top < f
    · have u := wf_u hw (f := f) (by omega) h1
      rw [if_pos c, if_pos c, tq_of e h0 (by omega) (by omega) (by omega), ih _ (by omega) (by omega)]
    · rw [if_neg c, if_neg c]
theorem tq_fr (e : tq w w') (hw : wf w) {top : Int} (ht : 0 ≤ top) (h0 : 0 ≤ f) (h1 : f < w 0) : p_fr w' top f ↔ p_fr w top f := by
  unfold p_fr
  rw [tq_up e hw ht 4 f h0 h1]
theorem tq_room (e : tq w w') (l : Int) : p_room w' l = p_room w l := by
  unfold p_room
  rw [e.1 3 (by omega) (by omega), e.1 2 (by omega) (by omega)]
theorem tq_cost (e : tq w w') (h0 : 0 ≤ f) (h1 : f < 40) (E x b t : Int) : p_cost w' E f x b t = p_cost w E f x b t := by
  unfold p_cost p_trade p_end
  rw [e.1 4 (by omega) (by omega), e.1 5 (by omega) (by omega), e.1 6 (by omega) (by omega), tq_of e h0 h1 (by omega) (by omega), tq_of e h0 h1 (by omega) (by omega), tq_of e h0 h1 (by omega) (by omega), tq_of e h0 h1 (by omega) (by omega)]
theorem tq_law (e : tq w w') (h0 : 0 ≤ f) (h1 : f < 40) (Wd st wd b t : Int) : s_law w' Wd f st wd b t ↔ s_law w Wd f st wd b t := by
  unfold s_law
  rw [tq_room e, tq_of e h0 h1 (by omega) (by omega), tq_of e h0 h1 (by omega) (by omega), tq_of e h0 h1 (by omega) (by omega)]
theorem tq_dead (e : tq w w') (hw : wf w) (h0 : 0 ≤ f) (h1 : f < w 0) (mk : Int) (T : Int → Int) (s : Int) : r_dead mk w' T f s ↔ r_dead mk w T f s := by
  have a := wf_h hw
  unfold wf_hdr at a
  unfold r_dead
  rw [tq_of e h0 (by omega) (by omega) (by omega)]
  constructor
  · rintro ⟨i, i0, i1, i2⟩
    rw [tq_kid e hw h0 h1 i0 i1] at i2
    exact ⟨i, i0, i1, i2⟩
  · rintro ⟨i, i0, i1, i2⟩
    rw [← tq_kid e hw h0 h1 i0 i1] at i2
    exact ⟨i, i0, i1, i2⟩
theorem tq_rsum (e : tq w w') (hw : wf w) (h0 : 0 ≤ f) (h1 : f < w 0) (T : Int → Int) (s : Int) : ∀ n : Nat, (n : Int) ≤ w_of w f 7 → r_sum w' T f s n = r_sum w T f s n := by
  have a := wf_h hw
  unfold wf_hdr at a
  intro n
  induction n with
  | zero => intro _; rfl
  | succ n ih =>
    intro hn
    have kk := wf_k hw (i := (n : Int)) h0 h1 (by omega) (by omega)
    show r_sum w' T f s n + w_of w' (w_of w' f (8 + n)) 1 * T (42 * w_of w' f (8 + n) + s) = r_sum w T f s n + w_of w (w_of w f (8 + n)) 1 * T (42 * w_of w f (8 + n) + s)
    rw [ih (by omega), tq_kid e hw h0 h1 (by omega) (by omega), tq_of e (by omega) (by omega) (by omega) (by omega)]
theorem tq_rmax (e : tq w w') (hw : wf w) (h0 : 0 ≤ f) (h1 : f < w 0) (T : Int → Int) (s : Int) : ∀ n : Nat, (n : Int) ≤ w_of w f 7 → r_max w' T f s n = r_max w T f s n := by
  intro n
  induction n with
  | zero => intro _; rfl
  | succ n ih =>
    intro hn
    show max (r_max w' T f s n) (T (42 * w_of w' f (8 + n) + s)) = max (r_max w T f s n) (T (42 * w_of w f (8 + n) + s))
    rw [ih (by omega), tq_kid e hw h0 h1 (by omega) (by omega)]
theorem tq_val (e : tq w w') (hw : wf w) (h0 : 0 ≤ f) (h1 : f < w 0) (mk c E Wd : Int) (L T : Int → Int) (st wd u : Int) : s_val mk c E Wd w' L T f st wd u ↔ s_val mk c E Wd w L T f st wd u := by
  have a := wf_h hw
  unfold wf_hdr at a
  have o := wf_f hw h0 h1
  unfold wf_one at o
  have hr : ∀ s, r_of c E w' L T f s = r_of c E w L T f s := by
    intro s
    unfold r_of p_end
    rw [tq_of e h0 (by omega) (by omega) (by omega), tq_of e h0 (by omega) (by omega) (by omega), tq_rsum e hw h0 h1 T s _ (by omega), tq_rmax e hw h0 h1 T s _ (by omega)]
  have hk : ∀ s, r_ok mk E w' T f s ↔ r_ok mk E w T f s := by
    intro s
    unfold r_ok p_end
    rw [tq_of e h0 (by omega) (by omega) (by omega), tq_of e h0 (by omega) (by omega) (by omega), tq_dead e hw h0 h1]
  have hv : ∀ b t, v_of c E w' L T f st wd b t = v_of c E w L T f st wd b t := by
    intro b t
    unfold v_of v_sc
    rw [hr, tq_cost e h0 (by omega), tq_of e h0 (by omega) (by omega) (by omega), tq_of e h0 (by omega) (by omega) (by omega)]
  unfold s_val
  constructor
  · rintro ⟨b, t, q1, q2, q3⟩
    exact ⟨b, t, (tq_law e h0 (by omega) _ _ _ _ _).mp q1, (hk _).mp q2, by rw [q3, hv]⟩
  · rintro ⟨b, t, q1, q2, q3⟩
    exact ⟨b, t, (tq_law e h0 (by omega) _ _ _ _ _).mpr q1, (hk _).mpr q2, by rw [q3, hv]⟩
theorem tq_row (e : tq w w') (hw : wf w) (h0 : 0 ≤ f) (h1 : f < w 0) {mk c E Wd : Int} {L T : Int → Int} (h : g_row mk c E Wd w L T f) : g_row mk c E Wd w' L T f := by
  intro st wd a1 a2 a3 a4
  exact ml_cg (h st wd a1 a2 a3 a4) (fun u => (tq_val e hw h0 h1 mk c E Wd L T st wd u).symm)
theorem tq_yset (e : tq w w') (h0 : 0 ≤ f) (h1 : f < 40) (mk : Int) (Y : Int → Int) (t u : Int) : y_set mk w' Y f t u ↔ y_set mk w Y f t u := by
  unfold y_set
  constructor
  · rintro ⟨st, wd, b, z, q1, q2, q3, q4, q5, q6⟩
    rw [tq_cost e h0 h1, tq_of e h0 h1 (by omega) (by omega)] at q6
    exact ⟨st, wd, b, z, q1, q2, q3, (tq_law e h0 h1 _ _ _ _ _).mp q4, q5, q6⟩
  · rintro ⟨st, wd, b, z, q1, q2, q3, q4, q5, q6⟩
    refine ⟨st, wd, b, z, q1, q2, q3, (tq_law e h0 h1 _ _ _ _ _).mpr q4, q5, ?_⟩
    rw [tq_cost e h0 h1, tq_of e h0 h1 (by omega) (by omega)]
    exact q6
theorem tq_wayC (e : tq w w') (e8 : w' 8 = w 8) (e9 : w' 9 = w 9) (e10 : w' 10 = w 10) (hw : wf w) (hn : 0 ≤ w 8) {Y Lc : Int → Int} (h : g_wayC w Y Lc) : g_wayC w' Y Lc := by
  have a := wf_h hw
  unfold wf_hdr at a
  have e0 := e.1 0 (by omega) (by omega)
  obtain ⟨⟨h1, h2⟩, h3⟩ := h
  refine ⟨⟨?_, ?_⟩, ?_⟩
  · rw [e8, e9, e10]
    exact h1
  · rw [e8, e0]
    intro k k0 k1 k2 t t0 t1
    have u := wf_u hw (f := k) (by omega) k1
    rw [tq_of e (by omega) (by omega) (by omega) (by omega)]
    refine ml_cg (h2 k k0 k1 ((tq_fr e hw hn (by omega) k1).mp k2) t t0 t1) (fun u => ?_)
    exact (tq_yset e (by omega) (by omega) _ _ _ _).symm
  · rw [e8, e0]
    intro k k0 k1 k2 k3
    rw [tq_of e (by omega) (by omega) (by omega) (by omega)] at k3
    obtain ⟨z, z1, z2⟩ := h3 k k0 k1 ((tq_fr e hw hn (by omega) k1).mp k2) k3
    refine ⟨z, ml_cg z1 (fun u => ?_), z2⟩
    unfold y_end
    constructor
    · rintro ⟨t, q1, q2⟩
      exact ⟨t, q1, (tq_yset e (by omega) (by omega) _ _ _ _).mpr q2⟩
    · rintro ⟨t, q1, q2⟩
      exact ⟨t, q1, (tq_yset e (by omega) (by omega) _ _ _ _).mp q2⟩
theorem tq_mir {σ : x_S} {j : Nat} (e : tq w w') (hw : wf w) (h : mir σ j w) : mir σ j w' := by
  have a := wf_h hw
  unfold wf_hdr at a
  have e0 := e.1 0 (by omega) (by omega)
  refine ⟨?_, ?_⟩
  · rw [e0, e.1 1 (by omega) (by omega), e.1 2 (by omega) (by omega), e.1 3 (by omega) (by omega), e.1 4 (by omega) (by omega), e.1 5 (by omega) (by omega), e.1 6 (by omega) (by omega)]
    exact h.1
  · intro f h0 h1
    rw [e0] at h1
    refine ⟨?_, ?_⟩
    · rw [tq_of e h0 (by omega) (by omega) (by omega), tq_of e h0 (by omega) (by omega) (by omega), tq_of e h0 (by omega) (by omega) (by omega), tq_of e h0 (by omega) (by omega) (by omega), tq_of e h0 (by omega) (by omega) (by omega), tq_of e h0 (by omega) (by omega) (by omega), tq_of e h0 (by omega) (by omega) (by omega), tq_of e h0 (by omega) (by omega) (by omega)]
      exact (h.2 f h0 h1).1
    · intro i i0 i1
      rw [tq_of e h0 (by omega) (by omega) (by omega)] at i1
      rw [tq_kid e hw h0 h1 i0 i1]
      exact (h.2 f h0 h1).2 i i0 i1
theorem tq_sym (e : tq w w') : tq w' w := ⟨fun i a b => (e.1 i a b).symm, fun i a b => (e.2 i a b).symm⟩
end TQ
/-! one index of the world is written: the tree stays if the index is none of the tree's -/
theorem tq_st {σ : x_S} {i v : Int} (h : (8 ≤ i ∧ i < 16) ∨ 536 ≤ i) : tq (σ 51 0) (x_st σ 51 0 i v 51 0) := by
  refine ⟨fun k a b => x_rd_ne (by omega), fun k a b => x_rd_ne (by omega)⟩
theorem tq_refl {w : Int → Int} : tq w w := ⟨fun _ _ _ => rfl, fun _ _ _ => rfl⟩
theorem tq_trans {w w1 w2 : Int → Int} (a : tq w w1) (b : tq w1 w2) : tq w w2 := ⟨fun i p q => (b.1 i p q).trans (a.1 i p q), fun i p q => (b.2 i p q).trans (a.2 i p q)⟩

/-! forks joined in the model -/
theorem jR_i {jn : Int} {kd ch kid : Int → Int} : ∀ {i : Nat} {n : Int} {l o : Int → Int}, (∀ p q : Int, 0 ≤ p → p < q → q < i → kid p < kid q) → jR jn kd ch kid i n l o → ∀ q q', 0 ≤ q → q < q' → q' < n → l q < l q' := by
  intro i
  induction i with
  | zero =>
    intro n l o _ h q q' _ _ q1
    have : n = 0 := h
    omega
  | succ i ih =>
    intro n l o hi h q q' q0 qq q1
    obtain ⟨n0, l0, o0, h0, h1⟩ := h
    have I := ih (fun p q a b c => hi p q a b (by omega)) h0
    have jn := jR_n h0
    rcases h1 with ⟨j, _, _, _, e, el, _⟩ | ⟨_, e, el, _⟩
    · rw [el q q0 (by omega), el q' (by omega) q1]
      exact I q q' q0 qq (by omega)
    · rw [el q q0 (by omega), el q' (by omega) q1]
      by_cases z : q' = n0
      · rw [if_pos z, if_neg (by omega)]
        obtain ⟨p, p1, p2⟩ := jR_l h0 q q0 (by omega)
        rw [p2]
        exact hi p i p1.1 p1.2 (by omega)
      · rw [if_neg z, if_neg (by omega)]
        exact I q q' q0 qq (by omega)
theorem jR_uq {jn : Int} {kd ch kid : Int → Int} : ∀ {i : Nat} {n n' : Int} {l o l' o' : Int → Int}, jR jn kd ch kid i n l o → jR jn kd ch kid i n' l' o' → n' = n ∧ ∀ q, 0 ≤ q → q < n → l' q = l q ∧ o' q = o q := by
  intro i
  induction i with
  | zero =>
    intro n n' l o l' o' h h'
    have a : n = 0 := h
    have b : n' = 0 := h'
    exact ⟨by omega, fun q p z => by omega⟩
  | succ i ih =>
    intro n n' l o l' o' h h'
    obtain ⟨n0, l0, o0, h0, h1⟩ := h
    obtain ⟨m0, k0, p0, g0, g1⟩ := h'
    obtain ⟨e, u⟩ := ih h0 g0
    subst e
    rcases h1 with ⟨j, j1, j2, j3, en, el, eo⟩ | ⟨j3, en, el, eo⟩
    · rcases g1 with ⟨j', i1, i2, i3, fn, fl, fo⟩ | ⟨i3, fn, fl, fo⟩
      · have ej : j = j' := by
          by_cases z : j < j'
          · have := i3 j j1.1 z
            rw [(u j j1.1 j1.2).1] at this
            exact absurd j2.2 this
          · by_cases z2 : j' < j
            · have := j3 j' i1.1 z2
              have x := i2.2
              rw [(u j' i1.1 i1.2).1] at x
              exact absurd x this
            · omega
        subst ej
        refine ⟨by omega, fun q q0 q1 => ?_⟩
        rw [fl q q0 (by omega), fo q q0 (by omega), el q q0 q1, eo q q0 q1, (u q q0 (by omega)).1, (u q q0 (by omega)).2]
        exact ⟨rfl, rfl⟩
      · exfalso
        refine i3 j j1.1 j1.2 ⟨j2.1, ?_⟩
        rw [(u j j1.1 j1.2).1]
        exact j2.2
    · rcases g1 with ⟨j', i1, i2, i3, fn, fl, fo⟩ | ⟨i3, fn, fl, fo⟩
      · exfalso
        refine j3 j' i1.1 i1.2 ⟨i2.1, ?_⟩
        rw [← (u j' i1.1 i1.2).1]
        exact i2.2
      · refine ⟨by omega, fun q q0 q1 => ?_⟩
        rw [fl q q0 (by omega), fo q q0 (by omega), el q q0 q1, eo q q0 q1]
        by_cases z : q = m0
        · rw [if_pos z, if_pos z, if_pos z, if_pos z]
          exact ⟨rfl, rfl⟩
        · rw [if_neg z, if_neg z, if_neg z, if_neg z]
          exact u q q0 (by omega)
/-! a fork whose list stands in the world, and one whose list is as it was -/
def jL (σc : x_S) (W : Int → Int) (f : Int) : Prop := w_of W f 7 = σc 47 0 f ∧ ∀ i, 0 ≤ i → i < σc 47 0 f → w_of W f (8 + i) = lkl σc f i ∧ w_of W (lkl σc f i) 1 = lko σc f i
def jO (w W : Int → Int) (f : Int) : Prop := w_of W f 7 = w_of w f 7 ∧ ∀ i, 0 ≤ i → i < w_of w f 7 → w_of W f (8 + i) = w_of w f (8 + i) ∧ w_of W (w_of w f (8 + i)) 1 = w_of w (w_of w f (8 + i)) 1
def jB (w W : Int → Int) : Prop := (∀ i, i < 16 ∨ 536 ≤ i → W i = w i) ∧ (∀ f k, 0 ≤ f → f < w 0 → 0 ≤ k → k ≤ 6 → ¬ k = 1 → w_of W f k = w_of w f k) ∧ ∀ f, 0 ≤ f → f < w 0 → 0 ≤ w_of W f 1 ∧ w_of W f 1 ≤ 1000
def jW (w : Int → Int) (σc : x_S) (c f0 : Int) (W : Int → Int) : Prop := jB w W ∧ ∀ f, 0 ≤ f → f < w 0 → ((c < w_of w f 6 ∨ (w_of w f 6 = c ∧ f < f0)) → jL σc W f) ∧ (¬ (c < w_of w f 6 ∨ (w_of w f 6 = c ∧ f < f0)) → jO w W f)
section JW
variable {w : Int → Int} {σc : x_S}
theorem lkl_k (hw : wf w) (hA : lkA 1 w σc 0) {f q : Int} (f0 : 0 ≤ f) (f1 : f < w 0) (q0 : 0 ≤ q) (q1 : q < σc 47 0 f) : ∃ p, (0 ≤ p ∧ p < w_of w f 7) ∧ lkl σc f q = w_of w f (8 + p) := by
  have o := wf_f hw f0 f1
  unfold wf_one at o
  obtain ⟨p, p1, p2⟩ := jR_l (hA.1 f f0 f1).1.1 q q0 q1
  exact ⟨p, by omega, p2⟩
theorem lkn (hw : wf w) (hA : lkA 1 w σc 0) {f : Int} (f0 : 0 ≤ f) (f1 : f < w 0) : 0 ≤ σc 47 0 f ∧ σc 47 0 f ≤ w_of w f 7 := by
  have o := wf_f hw f0 f1
  unfold wf_one at o
  have := jR_n (hA.1 f f0 f1).1.1
  omega
/-! the world is sound enough while forks are joined; at fork x the list is being made -/
theorem jwS {W : Int → Int} (hw : wf w) (hA : lkA 1 w σc 0) (hB : jB w W) (h : ∀ f, 0 ≤ f → f < w 0 → jL σc W f ∨ jO w W f ∨ ((0 ≤ w_of W f 7 ∧ w_of W f 7 ≤ 5) ∧ ∀ i, 0 ≤ i → i < w_of W f 7 → ∃ p, (0 ≤ p ∧ p < w_of w f 7) ∧ w_of W f (8 + i) = w_of w f (8 + p))) : wS W := by
  have a := wf_h hw
  unfold wf_hdr at a
  have e0 := hB.1 0 (by omega)
  refine ⟨by omega, fun f f0 f1 => ?_⟩
  rw [e0] at f1
  have o := wf_f hw f0 f1
  unfold wf_one at o
  have b := hB.2.2 f f0 f1
  have x := hB.2.1 f
  have x2 := x 2 f0 f1 (by omega) (by omega) (by omega)
  have x3 := x 3 f0 f1 (by omega) (by omega) (by omega)
  have x4 := x 4 f0 f1 (by omega) (by omega) (by omega)
  have x5 := x 5 f0 f1 (by omega) (by omega) (by omega)
  have x6 := x 6 f0 f1 (by omega) (by omega) (by omega)
  have ln := lkn hw hA f0 f1
  have kidp : ∀ v p, (0 ≤ p ∧ p < w_of w f 7) → v = w_of w f (8 + p) → (0 ≤ v ∧ v < W 0) ∧ w_of W v 6 = w_of W f 6 + 1 := by
    intro v p hp hv
    have kk := wf_k hw (f := f) (i := p) f0 f1 hp.1 hp.2
    rw [hv, e0, hB.2.1 _ 6 (by omega) kk.2.1 (by omega) (by omega) (by omega), x6]
    omega
  rcases h f f0 f1 with z | z | z
  · refine ⟨by rw [z.1]; omega, by omega, by omega, fun i i0 i1 => ?_⟩
    rw [z.1] at i1
    obtain ⟨p, p1, p2⟩ := lkl_k hw hA f0 f1 i0 i1
    exact kidp _ p p1 ((z.2 i i0 i1).1.trans p2)
  · refine ⟨by rw [z.1]; omega, by omega, by omega, fun i i0 i1 => ?_⟩
    rw [z.1] at i1
    exact kidp _ i ⟨i0, i1⟩ (z.2 i i0 i1).1
  · refine ⟨z.1, by omega, by omega, fun i i0 i1 => ?_⟩
    obtain ⟨p, p1, p2⟩ := z.2 i i0 i1
    exact kidp _ p p1 p2
/-! a change at fork x's list or at the chance of one of its kids leaves the other forks -/
theorem jL_u {W W' : Int → Int} {x f : Int} (hw : wf w) (hA : lkA 1 w σc 0) (f0 : 0 ≤ f) (f1 : f < w 0) (ne : ¬ f = x) (e : ∀ g k, 0 ≤ g → g < w 0 → 0 ≤ k → k < 13 → ¬ (g = x ∧ 7 ≤ k) → ¬ (w_of w g 0 = x ∧ k = 1) → w_of W' g k = w_of W g k) (h : jL σc W f) : jL σc W' f := by
  have o := wf_f hw f0 f1
  unfold wf_one at o
  have ln := lkn hw hA f0 f1
  refine ⟨by rw [e f 7 f0 f1 (by omega) (by omega) (by omega) (by omega)]; exact h.1, fun i i0 i1 => ?_⟩
  obtain ⟨p, p1, p2⟩ := lkl_k hw hA f0 f1 i0 i1
  have kk := wf_k hw (f := f) (i := p) f0 f1 p1.1 p1.2
  rw [← p2] at kk
  rw [e f (8 + i) f0 f1 (by omega) (by omega) (by omega) (by omega), e (lkl σc f i) 1 (by omega) kk.2.1 (by omega) (by omega) (by omega) (by omega)]
  exact h.2 i i0 i1
theorem jO_u {W W' : Int → Int} {x f : Int} (hw : wf w) (f0 : 0 ≤ f) (f1 : f < w 0) (ne : ¬ f = x) (e : ∀ g k, 0 ≤ g → g < w 0 → 0 ≤ k → k < 13 → ¬ (g = x ∧ 7 ≤ k) → ¬ (w_of w g 0 = x ∧ k = 1) → w_of W' g k = w_of W g k) (h : jO w W f) : jO w W' f := by
  have o := wf_f hw f0 f1
  unfold wf_one at o
  refine ⟨by rw [e f 7 f0 f1 (by omega) (by omega) (by omega) (by omega)]; exact h.1, fun i i0 i1 => ?_⟩
  have kk := wf_k hw (f := f) (i := i) f0 f1 i0 i1
  rw [e f (8 + i) f0 f1 (by omega) (by omega) (by omega) (by omega), e _ 1 (by omega) kk.2.1 (by omega) (by omega) (by omega) (by omega)]
  exact h.2 i i0 i1
end JW
/-! fork f is being joined: i of its kids are looked at -/
def jV (w : Int → Int) (σc : x_S) (c f : Int) (W : Int → Int) (i : Nat) (n : Int) (l o : Int → Int) : Prop := jB w W ∧ (∀ h, 0 ≤ h → h < w 0 → ¬ h = f → ((c < w_of w h 6 ∨ (w_of w h 6 = c ∧ h < f)) → jL σc W h) ∧ (¬ (c < w_of w h 6 ∨ (w_of w h 6 = c ∧ h < f)) → jO w W h)) ∧ w_of W f 7 = w_of w f 7 ∧ (∀ q, 0 ≤ q → q < n → w_of W f (8 + q) = l q ∧ w_of W (l q) 1 = o q) ∧ (∀ q, n ≤ q → q < w_of w f 7 → w_of W f (8 + q) = w_of w f (8 + q)) ∧ ∀ p, (i : Int) ≤ p → p < w_of w f 7 → w_of W (w_of w f (8 + p)) 1 = w_of w (w_of w f (8 + p)) 1
set_option maxHeartbeats 8000000 in
theorem h_joins {σ σc : x_S} {w : Int → Int} {c f : Int} (hw : wf w) (hA : lkA 1 w σc 0) (f0 : 0 ≤ f) (f1 : f < w 0) (hc : w_of w f 6 = c) (hW : jW w σc c f (σ 51 0)) (hs : ∀ i, 0 ≤ i → i < 616 → σ 69 0 i = w i) : x_Sp 6 254 [xR 50 0, xI f] σ (fun r σ' => r = none ∧ x_eqo [(51, 0)] σ σ' ∧ jW w σc c (f + 1) (σ' 51 0)) := by
  have a := wf_h hw
  unfold wf_hdr at a
  have o := wf_f hw f0 f1
  unfold wf_one at o
  have kinc : ∀ p q : Int, 0 ≤ p → p < q → q < w_of w f 7 → w_of w f (8 + p) < w_of w f (8 + q) := fun p q p0 pq q1 => wf_i hw f0 f1 p0 pq q1
  refine x_gen (fun Q hQ => ?_)
  -- cells of the saved world
  have s7 : σ 69 0 (16 + 13 * f + 7) = w_of w f 7 := hs _ (by omega) (by omega)
  have s8 : ∀ i, 0 ≤ i → i < w_of w f 7 → σ 69 0 (16 + 13 * f + 8 + i) = w_of w f (8 + i) := fun i i0 i1 => by
    rw [hs _ (by omega) (by omega)]
    show w (16 + 13 * f + 8 + i) = w (16 + 13 * f + (8 + i))
    rw [show 16 + 13 * f + 8 + i = 16 + 13 * f + (8 + i) by omega]
  -- the loop over the kids
  have loop : x_Wp 6 254 (x_blk 254 1) [xR 50 0, xI f, xI (16 + 13 * f), xI 0, xI 0, xU, xU] [] σ Q := by
    refine x_lpK (α := x_S × Int × (Int → Int) × (Int → Int) × x_V × x_V) (fun i q => x_eqo [(51, 0)] σ q.1 ∧ jR 1 (σc 45 0) (lch w) (lkk w f) i.toNat q.2.1 q.2.2.1 q.2.2.2.1 ∧ jV w σc c f (q.1 51 0) i.toNat q.2.1 q.2.2.1 q.2.2.2.1) (fun i q => x_Wp 6 254 (x_blk 254 1) [xR 50 0, xI f, xI (16 + 13 * f), xI q.2.1, xI i, q.2.2.2.2.1, q.2.2.2.2.2] [] q.1 Q) (lo := 0) (hi := w_of w f 7) (by omega) (a0 := (σ, 0, fun _ => 0, fun _ => 0, xU, xU)) ⟨eqo_refl, rfl, hW.1, fun h h0 h1 _ => hW.2 h h0 h1, ?_, fun q q0 q1 => by (dsimp only at q1; omega), fun q q0 q1 => ?_, fun p p0 p1 => ?_⟩ ?_ ?_
    · have x := (hW.2 f f0 f1).2 (by omega)
      exact x.1
    · have x := (hW.2 f f0 f1).2 (by omega)
      exact (x.2 q q0 q1).1
    · have x := (hW.2 f f0 f1).2 (by omega)
      exact (x.2 p (by omega) p1).2
    · intro i ⟨σi, n, l, od, u5, u6⟩ i0 i1 ⟨n1, nR, nV⟩ K
      simp only at n1 nR nV K ⊢
      obtain ⟨vB, vH, v7, vl, vr, vc⟩ := id nV
      have e69 : σi 69 0 = σ 69 0 := n1 69 0 (by simp)
      have nb := jR_n nR
      have kk := wf_k hw (f := f) (i := i) f0 f1 i0 i1
      have ok := wf_f hw (f := w_of w f (8 + i)) (by omega) kk.2.1
      unfold wf_one at ok
      obtain ⟨W, hWd⟩ : ∃ W, σi 51 0 = W := ⟨_, rfl⟩
      rw [hWd] at vB vH v7 vl vr vc
      have ei : ((i.toNat : Nat) : Int) = i := Int.toNat_of_nonneg i0
      rw [ei] at vc
      have lk : ∀ q, 0 ≤ q → q < n → ∃ p, (0 ≤ p ∧ p < i) ∧ l q = w_of w f (8 + p) := by
        intro q q0 q1
        obtain ⟨p, p1, p2⟩ := jR_l nR q q0 q1
        exact ⟨p, by omega, p2⟩
      have lr : ∀ q, 0 ≤ q → q < n → (f < l q ∧ l q < w_of w f (8 + i)) ∧ l q < w 0 ∧ w_of w (l q) 0 = f ∧ w_of w (l q) 6 = c + 1 := by
        intro q q0 q1
        obtain ⟨p, p1, p2⟩ := lk q q0 q1
        have kp := wf_k hw (f := f) (i := p) f0 f1 p1.1 (by omega)
        have := kinc p i p1.1 p1.2 i1
        rw [p2]
        omega
      have linc : ∀ q q', 0 ≤ q → q < q' → q' < n → l q < l q' := jR_i (fun p q p0 pq q1 => kinc p q p0 pq (by omega)) nR
      have wSW : wS W := by
        refine jwS hw hA vB (fun h h0 h1 => ?_)
        by_cases z : h = f
        · subst z
          refine Or.inr (Or.inr ⟨by omega, fun q q0 q1 => ?_⟩)
          by_cases y : q < n
          · obtain ⟨p, p1, p2⟩ := lk q q0 y
            exact ⟨p, by omega, (vl q q0 y).1.trans p2⟩
          · exact ⟨q, by omega, vr q (by omega) (by omega)⟩
        · by_cases y : c < w_of w h 6 ∨ (w_of w h 6 = c ∧ h < f)
          · exact Or.inl ((vH h h0 h1 z).1 y)
          · exact Or.inr (Or.inl ((vH h h0 h1 z).2 y))
      have e0W := vB.1 0 (by omega)
      have far6 : ∀ h, 0 ≤ h → h < w 0 → w_of W h 6 = w_of w h 6 := fun h h0 h1 => vB.2.1 h 6 h0 h1 (by omega) (by omega) (by omega)
      -- what is alike
      have alike : ∀ g, 0 ≤ g → g < w 0 → w_of w g 6 = c + 1 → (σc 45 0 g = σc 45 0 (w_of w f (8 + i)) ↔ alk W 4 g (w_of w f (8 + i))) := by
        intro g g0 g1 gc
        have o6 := wf_f hw g0 g1
        unfold wf_one at o6
        refine kd_alk (lev := c + 1) wSW e0W (fun g h a b c d => hA.2 g h a b c d) (fun h h0 h1 k k2 k5 => vB.2.1 h k h0 h1 (by omega) (by omega) (by omega)) (fun h h0 h1 hl => ?_) 4 g (w_of w f (8 + i)) g0 g1 (by omega) kk.2.1 (by rw [far6 g g0 g1]; omega) (by rw [far6 _ (by omega) kk.2.1]; omega) (by rw [far6 g g0 g1]; omega)
        rw [far6 h h0 h1] at hl
        have ne : ¬ h = f := fun z => by rw [z] at hl; omega
        exact (vH h h0 h1 ne).1 (Or.inl (by omega))
      have k8 : lkk w f (i.toNat : Int) = w_of w f (8 + i) := by rw [ei]; rfl
      generalize hkd : w_of w f (8 + i) = k at kk ok lr alike k8
      have chk : w_of W k 1 = w_of w k 1 := by
        have := vc i (Int.le_refl _) i1
        rw [hkd] at this
        exact this
      have j8 : ∀ q, 0 ≤ q → q < n → σi 51 0 (16 + 13 * f + 8 + q) = l q := fun q q0 q1 => by
        rw [hWd, show 16 + 13 * f + 8 + q = 16 + 13 * f + (8 + q) by omega]
        exact (vl q q0 q1).1
      have s8i := s8 i i0 i1
      rw [hkd] at s8i
      -- a new one
      have app : (∀ q, 0 ≤ q → q < n → ¬ σc 45 0 (l q) = σc 45 0 k) → ∀ u6 : Int, x_Wp 6 254 (x_blk 254 4) [xR 50 0, xI f, xI (16 + 13 * f), xI n, xI i, xI k, xI u6] [] σi Q := by
        intro hno u6
        have K2 := K (x_st σi 51 0 (16 + 13 * f + 8 + n) k, n + 1, fun q => if q = n then k else l q, fun q => if q = n then w_of w k 1 else od q, xI k, xI u6) ⟨eqo_st (by simp) n1, ?_, ?_⟩
        · simp only at K2
          have hx : 0 ≤ 16 + 13 * f + 8 + n ∧ 16 + 13 * f + 8 + n < 616 := by omega
          rw [bk_254_4]
          simp (disch := first | omega | (simp only [x_wtI, x_wtJ, x_wtR, x_wtN]; omega) | assumption | (simp (disch := omega) only [x_st_o, x_rd_ne]; first | assumption | omega) | (apply mir_eq; assumption; (intro c h1 h2; simp (disch := omega) only [x_st_o])) | (apply mis_eq; assumption; (intro c h1 h2; simp (disch := omega) only [x_st_o])) | rfl) only [bk_254_0, bk_254_2, bk_254_3, bk_254_5, bk_254_6, wp_ic, wp_ild1, wp_imul, wp_iadd, wp_ist2, wp_ist3, wp_ist4, wp_fall, wp_ild4, wp_ald0, wr_50_32, wp_ild2, wl_51, wl_69, wp_cald, wp_icge, wp_ist5, wp_ist6, wp_ild6, wp_ild3, wr_50_1, wp_ild5, wk_251, wp_ifne, wp_inc6, wp_goto, wp_dup2, wk_192, ws_51, ws_69, wp_inc3, wp_inc4, wp_ret, x_clr_I, x_clr_J, x_clr_R, x_clr_U, ct_some, ct_none, lc_lt, lc_ge, lc_gt, lc_le, lc_eq, lc_r, xI_inj, xJ_inj, Option.some.injEq, eq_self, bi_r, bi_0, bi_1, bi_n, Classical.not_not, and_true, true_and, ite_true, ite_false, ↓reduceIte, ↓x_andl, z_le, z_nle, z_lt, z_nlt, z_eq, z_neq, if_pos, if_neg, x_andl, false_and, and_false, or_true, true_or, or_false, false_or, not_true, not_false_iff, x_rd_eq, x_rd_ne, x_st_o, Int.cast_ofNat_Int, Int.ofNat_zero, Int.ofNat_one, not_true_eq_false, not_false_eq_true, if_true, if_false, ite_self, and_self, Int.ofNat_eq_natCast, Int.tdiv_eq_ediv_of_nonneg, Int.tmod_eq_emod_of_nonneg, x_bm32]
          exact K2
        · dsimp only
          rw [show (i + 1).toNat = i.toNat + 1 by omega]
          refine ⟨n, l, od, nR, Or.inr ⟨fun q q0 q1 => ?_, rfl, fun q q0 q1 => ?_, fun q q0 q1 => ?_⟩⟩
          · rw [k8]
            exact fun z => hno q q0 q1 z.2
          · rw [k8]
          · rw [k8]
            rfl
        · dsimp only
          have ew : (x_st σi 51 0 (16 + 13 * f + 8 + n) k) 51 0 = w_up W (16 + 13 * f + (8 + n)) k := by
            rw [x_st_w, hWd, show 16 + 13 * f + 8 + n = 16 + 13 * f + (8 + n) by omega]
          rw [ew]
          have e : ∀ g q, 0 ≤ g → g < w 0 → 0 ≤ q → q < 13 → ¬ (g = f ∧ 7 ≤ q) → ¬ (w_of w g 0 = f ∧ q = 1) → w_of (w_up W (16 + 13 * f + (8 + n)) k) g q = w_of W g q := by
            intro g q g0 g1 q0 q1 z1 z2
            refine up_ne ?_
            omega
          have en : ∀ g q, 0 ≤ q → q < 13 → ¬ (g = f ∧ q = 8 + n) → w_of (w_up W (16 + 13 * f + (8 + n)) k) g q = w_of W g q := by
            intro g q q0 q1 z1
            refine up_ne ?_
            omega
          refine ⟨⟨fun q hq => ?_, fun g q g0 g1 q0 q1 q2 => ?_, fun g g0 g1 => ?_⟩, fun h h0 h1 ne => ⟨fun z => jL_u hw hA h0 h1 ne e ((vH h h0 h1 ne).1 z), fun z => jO_u hw h0 h1 ne e ((vH h h0 h1 ne).2 z)⟩, ?_, fun q q0 q1 => ?_, fun q q0 q1 => ?_, fun p p0 p1 => ?_⟩
          · rw [up_ne (by omega)]
            exact vB.1 q hq
          · rw [en g q q0 (by omega) (by omega)]
            exact vB.2.1 g q g0 g1 q0 q1 q2
          · rw [en g 1 (by omega) (by omega) (by omega)]
            exact vB.2.2 g g0 g1
          · rw [en f 7 (by omega) (by omega) (by omega)]
            exact v7
          · dsimp only
            by_cases z : q = n
            · rw [if_pos z, if_pos z, z, en k 1 (by omega) (by omega) (by omega)]
              exact ⟨of_eq, chk⟩
            · rw [if_neg z, if_neg z, en f (8 + q) (by omega) (by omega) (by omega), en (l q) 1 (by omega) (by omega) (by omega)]
              exact vl q q0 (by omega)
          · rw [en f (8 + q) (by omega) (by omega) (by omega)]
            exact vr q (by omega) q1
          · rw [en _ 1 (by omega) (by omega) (by omega)]
            exact vc p (by omega) p1
      -- the search among those listed
      have search : ∀ m : Nat, ∀ j : Int, 0 ≤ j → j + m = n → (∀ q, 0 ≤ q → q < j → ¬ σc 45 0 (l q) = σc 45 0 k) → x_Wp 6 254 (x_blk 254 2) [xR 50 0, xI f, xI (16 + 13 * f), xI n, xI i, xI k, xI j] [] σi Q := by
        intro m
        induction m with
        | zero =>
          intro j j0 jm hno
          have A := app (fun q q0 q1 => hno q q0 (by omega)) j
          rw [bk_254_2]
          simp (disch := first | omega | (simp only [x_wtI, x_wtJ, x_wtR, x_wtN]; omega) | assumption | (simp (disch := omega) only [x_st_o, x_rd_ne]; first | assumption | omega) | (apply mir_eq; assumption; (intro c h1 h2; simp (disch := omega) only [x_st_o])) | (apply mis_eq; assumption; (intro c h1 h2; simp (disch := omega) only [x_st_o])) | rfl) only [bk_254_0, bk_254_1, bk_254_4, bk_254_5, bk_254_6, wp_ic, wp_ild1, wp_imul, wp_iadd, wp_ist2, wp_ist3, wp_ist4, wp_fall, wp_ild4, wp_ald0, wr_50_32, wp_ild2, wl_51, wl_69, wp_cald, wp_icge, wp_ist5, wp_ist6, wp_ild6, wp_ild3, wr_50_1, wp_ild5, wk_251, wp_ifne, wp_inc6, wp_goto, wp_dup2, wk_192, ws_51, ws_69, wp_inc3, wp_inc4, wp_ret, x_clr_I, x_clr_J, x_clr_R, x_clr_U, ct_some, ct_none, lc_lt, lc_ge, lc_gt, lc_le, lc_eq, lc_r, xI_inj, xJ_inj, Option.some.injEq, eq_self, bi_r, bi_0, bi_1, bi_n, Classical.not_not, and_true, true_and, ite_true, ite_false, ↓reduceIte, ↓x_andl, z_le, z_nle, z_lt, z_nlt, z_eq, z_neq, if_pos, if_neg, x_andl, false_and, and_false, or_true, true_or, or_false, false_or, not_true, not_false_iff, x_rd_eq, x_rd_ne, x_st_o, Int.cast_ofNat_Int, Int.ofNat_zero, Int.ofNat_one, not_true_eq_false, not_false_eq_true, if_true, if_false, ite_self, and_self, Int.ofNat_eq_natCast, Int.tdiv_eq_ediv_of_nonneg, Int.tmod_eq_emod_of_nonneg, x_bm32]
          rw [bk_254_3]
          simp (disch := first | omega | (simp only [x_wtI, x_wtJ, x_wtR, x_wtN]; omega) | assumption | (simp (disch := omega) only [x_st_o, x_rd_ne]; first | assumption | omega) | (apply mir_eq; assumption; (intro c h1 h2; simp (disch := omega) only [x_st_o])) | (apply mis_eq; assumption; (intro c h1 h2; simp (disch := omega) only [x_st_o])) | rfl) only [bk_254_0, bk_254_1, bk_254_2, bk_254_3, bk_254_5, bk_254_6, wp_ic, wp_ild1, wp_imul, wp_iadd, wp_ist2, wp_ist3, wp_ist4, wp_fall, wp_ild4, wp_ald0, wr_50_32, wp_ild2, wl_51, wl_69, wp_cald, wp_icge, wp_ist5, wp_ist6, wp_ild6, wp_ild3, wr_50_1, wp_ild5, wk_251, wp_ifne, wp_inc6, wp_goto, wp_dup2, wk_192, ws_51, ws_69, wp_inc3, wp_inc4, wp_ret, x_clr_I, x_clr_J, x_clr_R, x_clr_U, ct_some, ct_none, lc_lt, lc_ge, lc_gt, lc_le, lc_eq, lc_r, xI_inj, xJ_inj, Option.some.injEq, eq_self, bi_r, bi_0, bi_1, bi_n, Classical.not_not, and_true, true_and, ite_true, ite_false, ↓reduceIte, ↓x_andl, z_le, z_nle, z_lt, z_nlt, z_eq, z_neq, if_pos, if_neg, x_andl, false_and, and_false, or_true, true_or, or_false, false_or, not_true, not_false_iff, x_rd_eq, x_rd_ne, x_st_o, Int.cast_ofNat_Int, Int.ofNat_zero, Int.ofNat_one, not_true_eq_false, not_false_eq_true, if_true, if_false, ite_self, and_self, Int.ofNat_eq_natCast, Int.tdiv_eq_ediv_of_nonneg, Int.tmod_eq_emod_of_nonneg, x_bm32]
          exact A
        | succ m ih =>
          intro j j0 jm hno
          have lrj := lr j j0 (by omega)
          have al := alike (l j) (by omega) (by omega) lrj.2.2.2
          have fj := far6 (l j) (by omega) (by omega)
          obtain ⟨r, σ', ⟨hσ', v, hr, hv⟩, ev⟩ := x_ex (h_alike wSW 4 (l j) k σi hWd (by omega) (by omega) (by omega) (by omega) (by omega))
          subst hσ'
          subst hr
          have e8j := j8 j j0 (by omega)
          rcases hv with ⟨rfl, hl⟩ | ⟨rfl, hl⟩
          · -- joined to the j-th
            have eqk := al.mpr hl
            have clj : σ' 51 0 (16 + 13 * l j + 1) = od j := by
              rw [hWd]
              exact (vl j j0 (by omega)).2
            have chb := jR_o (B := 200) (ch := fun k => if 0 ≤ k ∧ k < w 0 then w_of w k 1 else 0) (by omega) (fun q => by
              show 0 ≤ (if 0 ≤ lkk w f q ∧ lkk w f q < w 0 then w_of w (lkk w f q) 1 else 0) ∧ (if 0 ≤ lkk w f q ∧ lkk w f q < w 0 then w_of w (lkk w f q) 1 else 0) ≤ 200
              by_cases z : 0 ≤ lkk w f q ∧ lkk w f q < w 0
              · rw [if_pos z]
                have ok := wf_f hw z.1 z.2
                unfold wf_one at ok
                omega
              · rw [if_neg z]
                omega) (jR_cg (kd' := σc 45 0) (ch' := fun k => if 0 ≤ k ∧ k < w 0 then w_of w k 1 else 0) (kid' := lkk w f) (l' := l) (o' := od) (fun p p0 p1 => by
                have kp := wf_k hw (f := f) (i := p) f0 f1 p0 (by omega)
                refine ⟨rfl, rfl, ?_⟩
                show (if 0 ≤ lkk w f p ∧ lkk w f p < w 0 then w_of w (lkk w f p) 1 else 0) = w_of w (lkk w f p) 1
                have e : lkk w f p = w_of w f (8 + p) := rfl
                rw [e, if_pos ⟨by omega, kp.2.1⟩]) (fun _ _ _ => ⟨rfl, rfl⟩) nR) j j0 (by omega)
            have K2 := K (x_st σ' 51 0 (16 + 13 * l j + 1) (od j + w_of w k 1), n, l, fun q => if q = j then od q + w_of w k 1 else od q, xI k, xI j) ⟨eqo_st (by simp) n1, ?_, ?_⟩
            · simp only at K2
              have hx : 0 ≤ 16 + 13 * l j + 1 ∧ 16 + 13 * l j + 1 < 616 := by omega
              have ofk := fun (d' : Nat) (Q' : Option x_V → x_S → Prop) => k_of (d := d') (σ := σ') (Q := Q') (f := k) (k := 1) (w := W) hWd (by omega)
              rw [chk] at ofk
              generalize l j = lj at e8j clj K2 ev hx
              rw [bk_254_2]
              simp (disch := first | omega | (simp only [x_wtI, x_wtJ, x_wtR, x_wtN]; omega) | assumption | (simp (disch := omega) only [x_st_o, x_rd_ne]; first | assumption | omega) | (apply mir_eq; assumption; (intro c h1 h2; simp (disch := omega) only [x_st_o])) | (apply mis_eq; assumption; (intro c h1 h2; simp (disch := omega) only [x_st_o])) | rfl) only [bk_254_0, bk_254_1, bk_254_4, bk_254_5, bk_254_6, wp_ic, wp_ild1, wp_imul, wp_iadd, wp_ist2, wp_ist3, wp_ist4, wp_fall, wp_ild4, wp_ald0, wr_50_32, wp_ild2, wl_51, wl_69, wp_cald, wp_icge, wp_ist5, wp_ist6, wp_ild6, wp_ild3, wr_50_1, wp_ild5, wk_251, wp_ifne, wp_inc6, wp_goto, wp_dup2, wk_192, ws_51, ws_69, wp_inc3, wp_inc4, wp_ret, x_clr_I, x_clr_J, x_clr_R, x_clr_U, ct_some, ct_none, lc_lt, lc_ge, lc_gt, lc_le, lc_eq, lc_r, xI_inj, xJ_inj, Option.some.injEq, eq_self, bi_r, bi_0, bi_1, bi_n, Classical.not_not, and_true, true_and, ite_true, ite_false, ↓reduceIte, ↓x_andl, z_le, z_nle, z_lt, z_nlt, z_eq, z_neq, if_pos, if_neg, x_andl, false_and, and_false, or_true, true_or, or_false, false_or, not_true, not_false_iff, x_rd_eq, x_rd_ne, x_st_o, Int.cast_ofNat_Int, Int.ofNat_zero, Int.ofNat_one, not_true_eq_false, not_false_eq_true, if_true, if_false, ite_self, and_self, Int.ofNat_eq_natCast, Int.tdiv_eq_ediv_of_nonneg, Int.tmod_eq_emod_of_nonneg, x_bm32, e8j]
              refine (ev 0 _).mpr ?_
              simp (disch := first | omega | (simp only [x_wtI, x_wtJ, x_wtR, x_wtN]; omega) | assumption | (simp (disch := omega) only [x_st_o, x_rd_ne]; first | assumption | omega) | (apply mir_eq; assumption; (intro c h1 h2; simp (disch := omega) only [x_st_o])) | (apply mis_eq; assumption; (intro c h1 h2; simp (disch := omega) only [x_st_o])) | rfl) only [bk_254_0, bk_254_1, bk_254_2, bk_254_4, bk_254_5, bk_254_6, wp_ic, wp_ild1, wp_imul, wp_iadd, wp_ist2, wp_ist3, wp_ist4, wp_fall, wp_ild4, wp_ald0, wr_50_32, wp_ild2, wl_51, wl_69, wp_cald, wp_icge, wp_ist5, wp_ist6, wp_ild6, wp_ild3, wr_50_1, wp_ild5, wk_251, wp_ifne, wp_inc6, wp_goto, wp_dup2, wk_192, ws_51, ws_69, wp_inc3, wp_inc4, wp_ret, x_clr_I, x_clr_J, x_clr_R, x_clr_U, ct_some, ct_none, lc_lt, lc_ge, lc_gt, lc_le, lc_eq, lc_r, xI_inj, xJ_inj, Option.some.injEq, eq_self, bi_r, bi_0, bi_1, bi_n, Classical.not_not, and_true, true_and, ite_true, ite_false, ↓reduceIte, ↓x_andl, z_le, z_nle, z_lt, z_nlt, z_eq, z_neq, if_pos, if_neg, x_andl, false_and, and_false, or_true, true_or, or_false, false_or, not_true, not_false_iff, x_rd_eq, x_rd_ne, x_st_o, Int.cast_ofNat_Int, Int.ofNat_zero, Int.ofNat_one, not_true_eq_false, not_false_eq_true, if_true, if_false, ite_self, and_self, Int.ofNat_eq_natCast, Int.tdiv_eq_ediv_of_nonneg, Int.tmod_eq_emod_of_nonneg, x_bm32]
              rw [bk_254_3]
              simp (disch := first | omega | (simp only [x_wtI, x_wtJ, x_wtR, x_wtN]; omega) | assumption | (simp (disch := omega) only [x_st_o, x_rd_ne]; first | assumption | omega) | (apply mir_eq; assumption; (intro c h1 h2; simp (disch := omega) only [x_st_o])) | (apply mis_eq; assumption; (intro c h1 h2; simp (disch := omega) only [x_st_o])) | rfl) only [bk_254_0, bk_254_2, bk_254_3, bk_254_4, bk_254_5, bk_254_6, wp_ic, wp_ild1, wp_imul, wp_iadd, wp_ist2, wp_ist3, wp_ist4, wp_fall, wp_ild4, wp_ald0, wr_50_32, wp_ild2, wl_51, wl_69, wp_cald, wp_icge, wp_ist5, wp_ist6, wp_ild6, wp_ild3, wr_50_1, wp_ild5, wk_251, wp_ifne, wp_inc6, wp_goto, wp_dup2, wk_192, ws_51, ws_69, wp_inc3, wp_inc4, wp_ret, x_clr_I, x_clr_J, x_clr_R, x_clr_U, ct_some, ct_none, lc_lt, lc_ge, lc_gt, lc_le, lc_eq, lc_r, xI_inj, xJ_inj, Option.some.injEq, eq_self, bi_r, bi_0, bi_1, bi_n, Classical.not_not, and_true, true_and, ite_true, ite_false, ↓reduceIte, ↓x_andl, z_le, z_nle, z_lt, z_nlt, z_eq, z_neq, if_pos, if_neg, x_andl, false_and, and_false, or_true, true_or, or_false, false_or, not_true, not_false_iff, x_rd_eq, x_rd_ne, x_st_o, Int.cast_ofNat_Int, Int.ofNat_zero, Int.ofNat_one, not_true_eq_false, not_false_eq_true, if_true, if_false, ite_self, and_self, Int.ofNat_eq_natCast, Int.tdiv_eq_ediv_of_nonneg, Int.tmod_eq_emod_of_nonneg, x_bm32, e8j, clj, ofk]
              exact K2
            · dsimp only
              rw [show (i + 1).toNat = i.toNat + 1 by omega]
              refine ⟨n, l, od, nR, Or.inl ⟨j, ⟨j0, by omega⟩, ⟨rfl, ?_⟩, fun q q0 q1 => ?_, rfl, fun q q0 q1 => rfl, fun q q0 q1 => ?_⟩⟩
              · rw [k8]
                exact eqk
              · rw [k8]
                exact hno q q0 q1
              · rw [k8]
                rfl
            · dsimp only
              have ew : (x_st σ' 51 0 (16 + 13 * l j + 1) (od j + w_of w k 1)) 51 0 = w_up W (16 + 13 * l j + 1) (od j + w_of w k 1) := by
                rw [x_st_w, hWd]
              rw [ew]
              have en : ∀ g q, 0 ≤ q → q < 13 → ¬ (g = l j ∧ q = 1) → w_of (w_up W (16 + 13 * l j + 1) (od j + w_of w k 1)) g q = w_of W g q := by
                intro g q q0 q1 z1
                refine up_ne ?_
                omega
              have e : ∀ g q, 0 ≤ g → g < w 0 → 0 ≤ q → q < 13 → ¬ (g = f ∧ 7 ≤ q) → ¬ (w_of w g 0 = f ∧ q = 1) → w_of (w_up W (16 + 13 * l j + 1) (od j + w_of w k 1)) g q = w_of W g q := by
                intro g q g0 g1 q0 q1 z1 z2
                refine en g q q0 q1 (fun y => z2 ⟨?_, y.2⟩)
                rw [y.1]
                exact lrj.2.2.1
              refine ⟨⟨fun q hq => ?_, fun g q g0 g1 q0 q1 q2 => ?_, fun g g0 g1 => ?_⟩, fun h h0 h1 ne => ⟨fun z => jL_u hw hA h0 h1 ne e ((vH h h0 h1 ne).1 z), fun z => jO_u hw h0 h1 ne e ((vH h h0 h1 ne).2 z)⟩, ?_, fun q q0 q1 => ?_, fun q q0 q1 => ?_, fun p p0 p1 => ?_⟩
              · rw [up_ne (by omega)]
                exact vB.1 q hq
              · rw [en g q q0 (by omega) (by omega)]
                exact vB.2.1 g q g0 g1 q0 q1 q2
              · by_cases z : g = l j
                · rw [z, of_eq]
                  omega
                · rw [en g 1 (by omega) (by omega) (by omega)]
                  exact vB.2.2 g g0 g1
              · rw [en f 7 (by omega) (by omega) (by omega)]
                exact v7
              · rw [en f (8 + q) (by omega) (by omega) (by omega)]
                refine ⟨(vl q q0 q1).1, ?_⟩
                dsimp only
                by_cases z : q = j
                · rw [if_pos z, z]
                  exact of_eq
                · have nq : ¬ l q = l j := by
                    by_cases y : q < j
                    · have := linc q j q0 y (by omega)
                      omega
                    · have := linc j q j0 (by omega) q1
                      omega
                  rw [if_neg z, en (l q) 1 (by omega) (by omega) (by omega)]
                  exact (vl q q0 q1).2
              · rw [en f (8 + q) (by omega) (by omega) (by omega)]
                exact vr q q0 q1
              · have kp := kinc i p i0 (by omega) p1
                rw [hkd] at kp
                rw [en _ 1 (by omega) (by omega) (by omega)]
                exact vc p (by omega) p1
          · have A := ih (j + 1) (by omega) (by omega) (fun q q0 q1 z => by
              by_cases y : q = j
              · rw [y] at z
                exact hl (al.mp z)
              · exact hno q q0 (by omega) z)
            generalize l j = lj at e8j ev
            rw [bk_254_2]
            simp (disch := first | omega | (simp only [x_wtI, x_wtJ, x_wtR, x_wtN]; omega) | assumption | (simp (disch := omega) only [x_st_o, x_rd_ne]; first | assumption | omega) | (apply mir_eq; assumption; (intro c h1 h2; simp (disch := omega) only [x_st_o])) | (apply mis_eq; assumption; (intro c h1 h2; simp (disch := omega) only [x_st_o])) | rfl) only [bk_254_0, bk_254_1, bk_254_4, bk_254_5, bk_254_6, wp_ic, wp_ild1, wp_imul, wp_iadd, wp_ist2, wp_ist3, wp_ist4, wp_fall, wp_ild4, wp_ald0, wr_50_32, wp_ild2, wl_51, wl_69, wp_cald, wp_icge, wp_ist5, wp_ist6, wp_ild6, wp_ild3, wr_50_1, wp_ild5, wk_251, wp_ifne, wp_inc6, wp_goto, wp_dup2, wk_192, ws_51, ws_69, wp_inc3, wp_inc4, wp_ret, x_clr_I, x_clr_J, x_clr_R, x_clr_U, ct_some, ct_none, lc_lt, lc_ge, lc_gt, lc_le, lc_eq, lc_r, xI_inj, xJ_inj, Option.some.injEq, eq_self, bi_r, bi_0, bi_1, bi_n, Classical.not_not, and_true, true_and, ite_true, ite_false, ↓reduceIte, ↓x_andl, z_le, z_nle, z_lt, z_nlt, z_eq, z_neq, if_pos, if_neg, x_andl, false_and, and_false, or_true, true_or, or_false, false_or, not_true, not_false_iff, x_rd_eq, x_rd_ne, x_st_o, Int.cast_ofNat_Int, Int.ofNat_zero, Int.ofNat_one, not_true_eq_false, not_false_eq_true, if_true, if_false, ite_self, and_self, Int.ofNat_eq_natCast, Int.tdiv_eq_ediv_of_nonneg, Int.tmod_eq_emod_of_nonneg, x_bm32, e8j]
            refine (ev 0 _).mpr ?_
            simp (disch := first | omega | (simp only [x_wtI, x_wtJ, x_wtR, x_wtN]; omega) | assumption | (simp (disch := omega) only [x_st_o, x_rd_ne]; first | assumption | omega) | (apply mir_eq; assumption; (intro c h1 h2; simp (disch := omega) only [x_st_o])) | (apply mis_eq; assumption; (intro c h1 h2; simp (disch := omega) only [x_st_o])) | rfl) only [bk_254_0, bk_254_1, bk_254_4, bk_254_5, bk_254_6, wp_ic, wp_ild1, wp_imul, wp_iadd, wp_ist2, wp_ist3, wp_ist4, wp_fall, wp_ild4, wp_ald0, wr_50_32, wp_ild2, wl_51, wl_69, wp_cald, wp_icge, wp_ist5, wp_ist6, wp_ild6, wp_ild3, wr_50_1, wp_ild5, wk_251, wp_ifne, wp_inc6, wp_goto, wp_dup2, wk_192, ws_51, ws_69, wp_inc3, wp_inc4, wp_ret, x_clr_I, x_clr_J, x_clr_R, x_clr_U, ct_some, ct_none, lc_lt, lc_ge, lc_gt, lc_le, lc_eq, lc_r, xI_inj, xJ_inj, Option.some.injEq, eq_self, bi_r, bi_0, bi_1, bi_n, Classical.not_not, and_true, true_and, ite_true, ite_false, ↓reduceIte, ↓x_andl, z_le, z_nle, z_lt, z_nlt, z_eq, z_neq, if_pos, if_neg, x_andl, false_and, and_false, or_true, true_or, or_false, false_or, not_true, not_false_iff, x_rd_eq, x_rd_ne, x_st_o, Int.cast_ofNat_Int, Int.ofNat_zero, Int.ofNat_one, not_true_eq_false, not_false_eq_true, if_true, if_false, ite_self, and_self, Int.ofNat_eq_natCast, Int.tdiv_eq_ediv_of_nonneg, Int.tmod_eq_emod_of_nonneg, x_bm32]
            exact A
      have S := search n.toNat 0 (by omega) (by omega) (fun q q0 q1 => by omega)
      have s7i : σi 69 0 (16 + 13 * f + 7) = w_of w f 7 := by rw [e69]; exact s7
      have s8i2 : σi 69 0 (16 + 13 * f + 8 + i) = k := by rw [e69]; exact s8i
      have hx : 0 ≤ 16 + 13 * f + 8 + i ∧ 16 + 13 * f + 8 + i < 616 := by omega
      rw [bk_254_1]
      simp (disch := first | omega | (simp only [x_wtI, x_wtJ, x_wtR, x_wtN]; omega) | assumption | (simp (disch := omega) only [x_st_o, x_rd_ne]; first | assumption | omega) | (apply mir_eq; assumption; (intro c h1 h2; simp (disch := omega) only [x_st_o])) | (apply mis_eq; assumption; (intro c h1 h2; simp (disch := omega) only [x_st_o])) | rfl) only [bk_254_0, bk_254_3, bk_254_4, bk_254_5, bk_254_6, wp_ic, wp_ild1, wp_imul, wp_iadd, wp_ist2, wp_ist3, wp_ist4, wp_fall, wp_ild4, wp_ald0, wr_50_32, wp_ild2, wl_51, wl_69, wp_cald, wp_icge, wp_ist5, wp_ist6, wp_ild6, wp_ild3, wr_50_1, wp_ild5, wk_251, wp_ifne, wp_inc6, wp_goto, wp_dup2, wk_192, ws_51, ws_69, wp_inc3, wp_inc4, wp_ret, x_clr_I, x_clr_J, x_clr_R, x_clr_U, ct_some, ct_none, lc_lt, lc_ge, lc_gt, lc_le, lc_eq, lc_r, xI_inj, xJ_inj, Option.some.injEq, eq_self, bi_r, bi_0, bi_1, bi_n, Classical.not_not, and_true, true_and, ite_true, ite_false, ↓reduceIte, ↓x_andl, z_le, z_nle, z_lt, z_nlt, z_eq, z_neq, if_pos, if_neg, x_andl, false_and, and_false, or_true, true_or, or_false, false_or, not_true, not_false_iff, x_rd_eq, x_rd_ne, x_st_o, Int.cast_ofNat_Int, Int.ofNat_zero, Int.ofNat_one, not_true_eq_false, not_false_eq_true, if_true, if_false, ite_self, and_self, Int.ofNat_eq_natCast, Int.tdiv_eq_ediv_of_nonneg, Int.tmod_eq_emod_of_nonneg, x_bm32, s7i, s8i2]
      exact S
    · intro ⟨σi, n, l, od, u5, u6⟩ ⟨n1, nR, nV⟩
      simp only at n1 nR nV ⊢
      obtain ⟨vB, vH, v7, vl, vr, vc⟩ := id nV
      have s7i : σi 69 0 (16 + 13 * f + 7) = w_of w f 7 := by rw [n1 69 0 (by simp)]; exact s7
      obtain ⟨eu, uu⟩ := jR_uq (hA.1 f f0 f1).1.1 nR
      have nb := lkn hw hA f0 f1
      obtain ⟨W, hWd⟩ : ∃ W, σi 51 0 = W := ⟨_, rfl⟩
      rw [hWd] at vB vH v7 vl vr vc
      have F := hQ none (x_st σi 51 0 (16 + 13 * f + 7) n) ⟨rfl, eqo_st (by simp) n1, ?_⟩
      · rw [bk_254_1]
        simp (disch := first | omega | (simp only [x_wtI, x_wtJ, x_wtR, x_wtN]; omega) | assumption | (simp (disch := omega) only [x_st_o, x_rd_ne]; first | assumption | omega) | (apply mir_eq; assumption; (intro c h1 h2; simp (disch := omega) only [x_st_o])) | (apply mis_eq; assumption; (intro c h1 h2; simp (disch := omega) only [x_st_o])) | rfl) only [bk_254_0, bk_254_2, bk_254_3, bk_254_4, bk_254_5, bk_254_6, wp_ic, wp_ild1, wp_imul, wp_iadd, wp_ist2, wp_ist3, wp_ist4, wp_fall, wp_ild4, wp_ald0, wr_50_32, wp_ild2, wl_51, wl_69, wp_cald, wp_icge, wp_ist5, wp_ist6, wp_ild6, wp_ild3, wr_50_1, wp_ild5, wk_251, wp_ifne, wp_inc6, wp_goto, wp_dup2, wk_192, ws_51, ws_69, wp_inc3, wp_inc4, wp_ret, x_clr_I, x_clr_J, x_clr_R, x_clr_U, ct_some, ct_none, lc_lt, lc_ge, lc_gt, lc_le, lc_eq, lc_r, xI_inj, xJ_inj, Option.some.injEq, eq_self, bi_r, bi_0, bi_1, bi_n, Classical.not_not, and_true, true_and, ite_true, ite_false, ↓reduceIte, ↓x_andl, z_le, z_nle, z_lt, z_nlt, z_eq, z_neq, if_pos, if_neg, x_andl, false_and, and_false, or_true, true_or, or_false, false_or, not_true, not_false_iff, x_rd_eq, x_rd_ne, x_st_o, Int.cast_ofNat_Int, Int.ofNat_zero, Int.ofNat_one, not_true_eq_false, not_false_eq_true, if_true, if_false, ite_self, and_self, Int.ofNat_eq_natCast, Int.tdiv_eq_ediv_of_nonneg, Int.tmod_eq_emod_of_nonneg, x_bm32, s7i]
        exact F
      · rw [x_st_w, hWd]
        have en : ∀ g q, 0 ≤ q → q < 13 → ¬ (g = f ∧ q = 7) → w_of (w_up W (16 + 13 * f + 7) n) g q = w_of W g q := by
          intro g q q0 q1 z1
          refine up_ne ?_
          omega
        have e : ∀ g q, 0 ≤ g → g < w 0 → 0 ≤ q → q < 13 → ¬ (g = f ∧ 7 ≤ q) → ¬ (w_of w g 0 = f ∧ q = 1) → w_of (w_up W (16 + 13 * f + 7) n) g q = w_of W g q := by
          intro g q g0 g1 q0 q1 z1 z2
          exact en g q q0 q1 (by omega)
        refine ⟨⟨fun q hq => ?_, fun g q g0 g1 q0 q1 q2 => ?_, fun g g0 g1 => ?_⟩, fun h h0 h1 => ?_⟩
        · rw [up_ne (by omega)]
          exact vB.1 q hq
        · rw [en g q q0 (by omega) (by omega)]
          exact vB.2.1 g q g0 g1 q0 q1 q2
        · rw [en g 1 (by omega) (by omega) (by omega)]
          exact vB.2.2 g g0 g1
        · by_cases z : h = f
          · subst z
            refine ⟨fun _ => ⟨of_eq.trans eu, fun q q0 q1 => ?_⟩, fun y => absurd (Or.inr ⟨hc, by omega⟩) y⟩
            have x := vl q q0 (by omega)
            have y := uu q q0 q1
            rw [y.1] at x
            rw [y.2] at x
            rw [en h (8 + q) (by omega) (by omega) (by omega), en _ 1 (by omega) (by omega) (by omega)]
            exact x
          · have v := vH h h0 h1 z
            refine ⟨fun y => jL_u hw hA h0 h1 z e (v.1 (by omega)), fun y => jO_u hw h0 h1 z e (v.2 (by omega))⟩
  simp (disch := first | omega | (simp only [x_wtI, x_wtJ, x_wtR, x_wtN]; omega) | assumption | (simp (disch := omega) only [x_st_o, x_rd_ne]; first | assumption | omega) | (apply mir_eq; assumption; (intro c h1 h2; simp (disch := omega) only [x_st_o])) | (apply mis_eq; assumption; (intro c h1 h2; simp (disch := omega) only [x_st_o])) | rfl) only [sp_254, bk_254_0, bk_254_2, bk_254_3, bk_254_4, bk_254_5, bk_254_6, wp_ic, wp_ild1, wp_imul, wp_iadd, wp_ist2, wp_ist3, wp_ist4, wp_fall, wp_ild4, wp_ald0, wr_50_32, wp_ild2, wl_51, wl_69, wp_cald, wp_icge, wp_ist5, wp_ist6, wp_ild6, wp_ild3, wr_50_1, wp_ild5, wk_251, wp_ifne, wp_inc6, wp_goto, wp_dup2, wk_192, ws_51, ws_69, wp_inc3, wp_inc4, wp_ret, x_clr_I, x_clr_J, x_clr_R, x_clr_U, ct_some, ct_none, lc_lt, lc_ge, lc_gt, lc_le, lc_eq, lc_r, xI_inj, xJ_inj, Option.some.injEq, eq_self, bi_r, bi_0, bi_1, bi_n, Classical.not_not, and_true, true_and, ite_true, ite_false, ↓reduceIte, ↓x_andl, z_le, z_nle, z_lt, z_nlt, z_eq, z_neq, if_pos, if_neg, x_andl, false_and, and_false, or_true, true_or, or_false, false_or, not_true, not_false_iff, x_rd_eq, x_rd_ne, x_st_o, Int.cast_ofNat_Int, Int.ofNat_zero, Int.ofNat_one, not_true_eq_false, not_false_eq_true, if_true, if_false, ite_self, and_self, Int.ofNat_eq_natCast, Int.tdiv_eq_ediv_of_nonneg, Int.tmod_eq_emod_of_nonneg, x_bm32]
  exact loop

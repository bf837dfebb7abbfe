/-! chances -/
section CH
variable {w : Int → Int} {f : Int}
theorem sum_nn (hw : wf w) (h0 : 0 ≤ f) (h1 : f < w 0) : ∀ n : Nat, (n : Int) ≤ w_of w f 7 → 0 ≤ w_sum w f n ∧ ∀ i : Int, 0 ≤ i → i < (n : Int) → w_of w (w_of w f (8 + i)) 1 ≤ w_sum w f n := by
  intro n
  induction n with
  | zero => intro _; exact ⟨Int.le_refl _, fun i a b => by omega⟩
  | succ n ih =>
    intro hn
    have q := ih (by omega)
    have kk := wf_k hw (i := (n : Int)) h0 h1 (by omega) (by omega)
    have o := wf_f hw (f := w_of w f (8 + n)) (by omega) (by omega)
    unfold wf_one at o
    have e : w_sum w f (n + 1) = w_sum w f n + w_of w (w_of w f (8 + n)) 1 := rfl
    refine ⟨by omega, ?_⟩
    intro i i0 i1
    by_cases c : i = n
    · subst c; omega
    · have := q.2 i i0 (by omega)
      omega
theorem ch_100 (hw : wf w) (h100 : wf_100 w) (h0 : 0 ≤ f) (h1 : f < w 0) {i : Int} (i0 : 0 ≤ i) (i1 : i < w_of w f 7) : 0 ≤ w_of w (w_of w f (8 + i)) 1 ∧ w_of w (w_of w f (8 + i)) 1 ≤ 100 := by
  have o := wf_f hw h0 h1
  unfold wf_one at o
  have kk := wf_k hw h0 h1 i0 i1
  have ok := wf_f hw (f := w_of w f (8 + i)) (by omega) (by omega)
  unfold wf_one at ok
  have s := h100 f h0 h1 (by omega)
  have q := (sum_nn hw h0 h1 (w_of w f 7).toNat (by omega)).2 i i0 (by omega)
  omega
/-! n goes from kid i of f to kid j -/
def w_mv (w : Int → Int) (g t n : Int) : Int → Int := w_up (w_up w (16 + 13 * g + 1) (w_of w g 1 - n)) (16 + 13 * t + 1) (w_of w t 1 + n)
theorem mv_k {g t n h k : Int} (hk : 0 ≤ k ∧ k < 13 ∧ ¬ k = 1) : w_of (w_mv w g t n) h k = w_of w h k := by
  unfold w_mv
  rw [of_nek (by omega) (by omega) (by omega), of_nek (by omega) (by omega) (by omega)]
theorem mv_g {g t n : Int} (e : ¬ g = t) : w_of (w_mv w g t n) g 1 = w_of w g 1 - n := by
  unfold w_mv
  rw [of_nef (by omega) (by omega) e, of_eq]
theorem mv_t {g t n : Int} : w_of (w_mv w g t n) t 1 = w_of w t 1 + n := by
  unfold w_mv
  rw [of_eq]
theorem mv_o {g t n h : Int} (e : ¬ h = g) (e2 : ¬ h = t) : w_of (w_mv w g t n) h 1 = w_of w h 1 := by
  unfold w_mv
  rw [of_nef (by omega) (by omega) e2, of_nef (by omega) (by omega) e]
theorem mv_h {g t n i : Int} (g0 : 0 ≤ g) (t0 : 0 ≤ t) (hi : i < 16 ∨ 536 ≤ i) (g1 : g < 40) (t1 : t < 40) : w_mv w g t n i = w i := by
  unfold w_mv
  rw [up_ne (by omega), up_ne (by omega)]
theorem wf_mv (hw : wf w) {g t n : Int} (g0 : 0 ≤ g) (g1 : g < w 0) (t0 : 0 ≤ t) (t1 : t < w 0) (hg : 0 ≤ w_of w g 1 - n ∧ w_of w g 1 - n ≤ 200) (ht : 0 ≤ w_of w t 1 + n ∧ w_of w t 1 + n ≤ 200) : wf (w_mv w g t n) := by
  unfold w_mv
  refine wf_set (wf_set hw g0 g1 (by omega) (by omega)) t0 ?_ (by omega) (by omega)
  rw [hd_up g0 (by omega) (by omega)]
  exact t1
theorem hun_mv (hw : wf w) (h100 : wf_100 w) (h0 : 0 ≤ f) (h1 : f < w 0) {i j n : Int} (i0 : 0 ≤ i) (i1 : i < w_of w f 7) (j0 : 0 ≤ j) (j1 : j < w_of w f 7) (ij : ¬ i = j) : wf_100 (w_mv w (w_of w f (8 + i)) (w_of w f (8 + j)) n) := by
  have a := wf_h hw
  unfold wf_hdr at a
  have o := wf_f hw h0 h1
  unfold wf_one at o
  have ki := wf_k hw h0 h1 i0 i1
  have kj := wf_k hw h0 h1 j0 j1
  have inj : ∀ x y, 0 ≤ x → x < w_of w f 7 → 0 ≤ y → y < w_of w f 7 → w_of w f (8 + x) = w_of w f (8 + y) → x = y := by
    intro x y x0 x1 y0 y1 e
    by_cases c : x < y
    · have := wf_i hw h0 h1 x0 c y1; omega
    · by_cases c2 : y < x
      · have := wf_i hw h0 h1 y0 c2 x1; omega
      · omega
  intro g g0 g1 g2
  rw [mv_h (by omega) (by omega) (by omega) (by omega) (by omega)] at g1
  rw [mv_k (by omega)] at g2 ⊢
  have og := wf_f hw g0 g1
  unfold wf_one at og
  by_cases c : g = f
  · subst c
    have key : ∀ m : Nat, (m : Int) ≤ w_of w g 7 → w_sum (w_mv w (w_of w g (8 + i)) (w_of w g (8 + j)) n) g m = w_sum w g m + (if i < m then -n else 0) + (if j < m then n else 0) := by
      intro m
      induction m with
      | zero => intro _; rw [if_neg (by omega), if_neg (by omega)]; rfl
      | succ m ih =>
        intro hm
        have e1 : w_sum (w_mv w (w_of w g (8 + i)) (w_of w g (8 + j)) n) g (m + 1) = w_sum (w_mv w (w_of w g (8 + i)) (w_of w g (8 + j)) n) g m + w_of (w_mv w (w_of w g (8 + i)) (w_of w g (8 + j)) n) (w_of (w_mv w (w_of w g (8 + i)) (w_of w g (8 + j)) n) g (8 + m)) 1 := rfl
        have e2 : w_sum w g (m + 1) = w_sum w g m + w_of w (w_of w g (8 + m)) 1 := rfl
        rw [e1, e2, ih (by omega), mv_k (k := 8 + (m : Int)) (by omega)]
        by_cases ci : i = m
        · subst ci
          rw [mv_g (fun z => ij (inj _ _ i0 i1 j0 j1 z))]
          split <;> split <;> split <;> split <;> omega
        · by_cases cj : j = m
          · subst cj
            rw [mv_t]
            split <;> split <;> split <;> split <;> omega
          · rw [mv_o (fun z => ci (inj _ _ i0 i1 (by omega) (by omega) z.symm)) (fun z => cj (inj _ _ j0 j1 (by omega) (by omega) z.symm))]
            split <;> split <;> split <;> split <;> omega
    rw [key _ (by omega), h100 g g0 g1 g2, if_pos (by omega), if_pos (by omega)]
    omega
  · have key : ∀ m : Nat, (m : Int) ≤ w_of w g 7 → w_sum (w_mv w (w_of w f (8 + i)) (w_of w f (8 + j)) n) g m = w_sum w g m := by
      intro m
      induction m with
      | zero => intro _; rfl
      | succ m ih =>
        intro hm
        have km := wf_k hw (i := (m : Int)) g0 g1 (by omega) (by omega)
        show w_sum _ g m + w_of _ (w_of _ g (8 + m)) 1 = w_sum w g m + w_of w (w_of w g (8 + m)) 1
        rw [ih (by omega), mv_k (k := 8 + (m : Int)) (by omega), mv_o (fun z => c (by rw [z] at km; omega)) (fun z => c (by rw [z] at km; omega))]
    rw [key _ (by omega)]
    exact h100 g g0 g1 g2
theorem mir_mv {σ : x_S} {jj : Nat} (hw : wf w) (h : mir σ jj w) {g t n : Int} (g0 : 0 ≤ g) (g1 : g < w 0) (t0 : 0 ≤ t) (t1 : t < w 0) (hg : 0 ≤ w_of w g 1 - n ∧ w_of w g 1 - n ≤ 200) : mir (x_st (x_st σ 8 jj g (w_of w g 1 - n)) 8 jj t (w_of w t 1 + n)) jj (w_mv w g t n) := by
  unfold w_mv
  refine mir_set (wf_set hw g0 g1 (by omega) (by omega)) (mir_set hw h g0 g1 (by omega) rfl) t0 ?_ (by omega) rfl
  rw [hd_up g0 (by omega) (by omega)]
  exact t1
end CH
theorem iT_zero {σ : x_S} (h : ∀ k, 13 ≤ k → k ≤ 16 → σ 0 0 k = 0) : iT σ := by
  unfold iT
  rw [h 13 (by omega) (by omega), h 14 (by omega) (by omega), h 15 (by omega) (by omega), h 16 (by omega) (by omega)]
  exact ⟨⟨Or.inl rfl, fun z => absurd z (by omega)⟩, ⟨Or.inl rfl, fun z => absurd z (by omega)⟩, ⟨Or.inl rfl, fun z => absurd z (by omega)⟩, ⟨Or.inl rfl, fun z => absurd z (by omega)⟩⟩

/-! one number of a fork is written -/
def w_up (w : Int → Int) (i v : Int) : Int → Int := fun i' => if i' = i then v else w i'
theorem x_st_w {σ : x_S} {c j : Nat} {i v : Int} : x_st σ c j i v c j = w_up (σ c j) i v := by
  funext i'
  unfold x_st w_up
  by_cases h : i' = i
  · rw [if_pos ⟨rfl, rfl, h⟩, if_pos h]
  · rw [if_neg (fun z => h z.2.2), if_neg h]
theorem up_eq {w : Int → Int} {i v : Int} : w_up w i v i = v := if_pos rfl
theorem up_ne {w : Int → Int} {i v i' : Int} (h : ¬ i' = i) : w_up w i v i' = w i' := if_neg h
section WUP
variable {w : Int → Int} {f k v f' k' : Int}
theorem of_eq : w_of (w_up w (16 + 13 * f + k) v) f k = v := up_eq
theorem of_nek (h0 : 0 ≤ k ∧ k < 13) (h1 : 0 ≤ k' ∧ k' < 13) (h : ¬ k' = k) : w_of (w_up w (16 + 13 * f + k) v) f' k' = w_of w f' k' := up_ne (by omega)
theorem of_nef (h0 : 0 ≤ k ∧ k < 13) (h1 : 0 ≤ k' ∧ k' < 13) (h : ¬ f' = f) : w_of (w_up w (16 + 13 * f + k) v) f' k' = w_of w f' k' := up_ne (by omega)
theorem hd_up {i : Int} (h0 : 0 ≤ f) (h1 : 0 ≤ k) (h : i < 16) : w_up w (16 + 13 * f + k) v i = w i := up_ne (by omega)
theorem wf_set (hw : wf w) (h0 : 0 ≤ f) (h1 : f < w 0) (hk : 1 ≤ k ∧ k ≤ 5) (hv : 0 ≤ v ∧ ((k = 1 ∧ v ≤ 200) ∨ (k = 2 ∧ v ≤ 999) ∨ (k = 3 ∧ v ≤ 20) ∨ (k = 4 ∧ v ≤ 99) ∨ (k = 5 ∧ v ≤ 20))) : wf (w_up w (16 + 13 * f + k) v) := by
  have a := wf_h hw
  unfold wf_hdr at a
  have e0 : w_up w (16 + 13 * f + k) v 0 = w 0 := hd_up h0 (by omega) (by omega)
  refine ⟨?_, ?_⟩
  · unfold wf_hdr
    rw [e0, hd_up h0 (by omega) (by omega), hd_up h0 (by omega) (by omega), hd_up h0 (by omega) (by omega), hd_up h0 (by omega) (by omega), hd_up h0 (by omega) (by omega), hd_up h0 (by omega) (by omega)]
    exact a
  · intro g g0 g1
    rw [e0] at g1
    have o := hw.2 g g0 g1
    have ob := o.1
    unfold wf_one at ob
    have n0 : ∀ g', w_of (w_up w (16 + 13 * f + k) v) g' 0 = w_of w g' 0 := fun g' => of_nek (by omega) (by omega) (by omega)
    have n6 : ∀ g', w_of (w_up w (16 + 13 * f + k) v) g' 6 = w_of w g' 6 := fun g' => of_nek (by omega) (by omega) (by omega)
    have n7 : ∀ g', w_of (w_up w (16 + 13 * f + k) v) g' 7 = w_of w g' 7 := fun g' => of_nek (by omega) (by omega) (by omega)
    have n8 : ∀ g' i, 0 ≤ i → i < 5 → w_of (w_up w (16 + 13 * f + k) v) g' (8 + i) = w_of w g' (8 + i) := fun g' i p q => of_nek (by omega) (by omega) (by omega)
    refine ⟨?_, ?_, ?_, ?_⟩
    · unfold wf_one
      rw [n0, n6, n7]
      by_cases cg : g = f
      · subst cg
        have hk5 : k = 1 ∨ k = 2 ∨ k = 3 ∨ k = 4 ∨ k = 5 := by omega
        rcases hk5 with rfl | rfl | rfl | rfl | rfl
        · rw [of_eq, of_nek (by omega) (by omega) (by omega), of_nek (by omega) (by omega) (by omega), of_nek (by omega) (by omega) (by omega), of_nek (by omega) (by omega) (by omega)]
          omega
        · rw [of_nek (by omega) (by omega) (by omega), of_eq, of_nek (by omega) (by omega) (by omega), of_nek (by omega) (by omega) (by omega), of_nek (by omega) (by omega) (by omega)]
          omega
        · rw [of_nek (by omega) (by omega) (by omega), of_nek (by omega) (by omega) (by omega), of_eq, of_nek (by omega) (by omega) (by omega), of_nek (by omega) (by omega) (by omega)]
          omega
        · rw [of_nek (by omega) (by omega) (by omega), of_nek (by omega) (by omega) (by omega), of_nek (by omega) (by omega) (by omega), of_eq, of_nek (by omega) (by omega) (by omega)]
          omega
        · rw [of_nek (by omega) (by omega) (by omega), of_nek (by omega) (by omega) (by omega), of_nek (by omega) (by omega) (by omega), of_nek (by omega) (by omega) (by omega), of_eq]
          omega
      · rw [of_nef (by omega) (by omega) cg, of_nef (by omega) (by omega) cg, of_nef (by omega) (by omega) cg, of_nef (by omega) (by omega) cg, of_nef (by omega) (by omega) cg]
        exact ob
    · intro i i0 i1
      rw [n7] at i1
      rw [n8 _ _ i0 (by omega), e0, n0, n6, n6]
      exact o.2.1 i i0 i1
    · intro i j i0 i1 j1
      rw [n7] at j1
      rw [n8 _ _ i0 (by omega), n8 _ _ (by omega) (by omega)]
      exact o.2.2.1 i j i0 i1 j1
    · intro hp
      obtain ⟨i, i0, i1, i2⟩ := o.2.2.2 hp
      rw [n0]
      have b := wf_f hw (f := w_of w g 0) (by omega) (by omega)
      unfold wf_one at b
      refine ⟨i, i0, ?_, ?_⟩
      · rw [n7]; exact i1
      · rw [n8 _ _ i0 (by omega)]; exact i2
theorem mir_set {σ : x_S} {j c : Nat} (hw : wf w) (h : mir σ j w) (h0 : 0 ≤ f) (h1 : f < w 0) (hk : 1 ≤ k ∧ k ≤ 5) (hc : (c : Int) = 7 + k) : mir (x_st σ c j f v) j (w_up w (16 + 13 * f + k) v) := by
  have a := wf_h hw
  unfold wf_hdr at a
  have e0 : w_up w (16 + 13 * f + k) v 0 = w 0 := hd_up h0 (by omega) (by omega)
  refine ⟨?_, ?_⟩
  · rw [e0, hd_up h0 (by omega) (by omega), hd_up h0 (by omega) (by omega), hd_up h0 (by omega) (by omega), hd_up h0 (by omega) (by omega), hd_up h0 (by omega) (by omega), hd_up h0 (by omega) (by omega), x_st_o (by omega)]
    exact h.1
  · intro g g0 g1
    rw [e0] at g1
    have q := h.2 g g0 g1
    have o := wf_f hw g0 g1
    unfold wf_one at o
    have n0 : ∀ g', w_of (w_up w (16 + 13 * f + k) v) g' 0 = w_of w g' 0 := fun g' => of_nek (by omega) (by omega) (by omega)
    have n6 : ∀ g', w_of (w_up w (16 + 13 * f + k) v) g' 6 = w_of w g' 6 := fun g' => of_nek (by omega) (by omega) (by omega)
    have n7 : ∀ g', w_of (w_up w (16 + 13 * f + k) v) g' 7 = w_of w g' 7 := fun g' => of_nek (by omega) (by omega) (by omega)
    have one : ∀ (c' : Nat) (k' : Int), (c' : Int) = 7 + k' → 1 ≤ k' → k' ≤ 5 → σ c' j g = w_of w g k' → x_st σ c j f v c' j g = w_of (w_up w (16 + 13 * f + k) v) g k' := by
      intro c' k' hc' k0 k1 e
      by_cases z : k' = k
      · subst z
        have : c' = c := by omega
        subst this
        by_cases y : g = f
        · subst y
          rw [x_rd_eq, of_eq]
        · rw [x_rd_ne (by omega), of_nef (by omega) (by omega) y, e]
      · rw [x_rd_ne (by omega), of_nek (by omega) (by omega) z, e]
    refine ⟨⟨?_, one 8 1 rfl (by omega) (by omega) q.1.2.1, one 9 2 rfl (by omega) (by omega) q.1.2.2.1, one 10 3 rfl (by omega) (by omega) q.1.2.2.2.1, one 11 4 rfl (by omega) (by omega) q.1.2.2.2.2.1, one 12 5 rfl (by omega) (by omega) q.1.2.2.2.2.2.1, ?_, ?_⟩, ?_⟩
    · rw [x_st_o (by omega), n0]; exact q.1.1
    · rw [x_st_o (by omega), n6]; exact q.1.2.2.2.2.2.2.1
    · rw [x_st_o (by omega), n7]; exact q.1.2.2.2.2.2.2.2
    · intro i i0 i1
      rw [n7] at i1
      rw [x_st_o (by omega), of_nek (by omega) (by omega) (by omega)]
      exact q.2 i i0 i1
theorem sum_set (hw : wf w) (h0 : 0 ≤ f) (hk : 2 ≤ k ∧ k ≤ 5) {g : Int} (g0 : 0 ≤ g) (g1 : g < w 0) : ∀ n : Nat, (n : Int) ≤ w_of w g 7 → w_sum (w_up w (16 + 13 * f + k) v) g n = w_sum w g n := by
  have o := wf_f hw g0 g1
  unfold wf_one at o
  intro n
  induction n with
  | zero => intro _; rfl
  | succ n ih =>
    intro hn
    show w_sum _ g n + w_of _ (w_of _ g (8 + n)) 1 = w_sum w g n + w_of w (w_of w g (8 + n)) 1
    rw [ih (by omega), of_nek (k' := 8 + (n : Int)) (by omega) (by omega) (by omega), of_nek (k' := 1) (by omega) (by omega) (by omega)]
theorem hun_set (hw : wf w) (h : wf_100 w) (h0 : 0 ≤ f) (hk : 2 ≤ k ∧ k ≤ 5) : wf_100 (w_up w (16 + 13 * f + k) v) := by
  intro g g0 g1 g2
  rw [hd_up h0 (by omega) (by omega)] at g1
  have o := wf_f hw g0 g1
  unfold wf_one at o
  rw [of_nek (by omega) (by omega) (by omega)] at g2 ⊢
  rw [sum_set hw h0 hk g0 g1 _ (by omega)]
  exact h g g0 g1 g2
end WUP
theorem iN_w {L : Int} {S0 : Int → Int} {σ : x_S} (h : iN L S0 σ) : ∃ w, σ 51 0 = w ∧ wf w ∧ wf_100 w ∧ wn w ∧ wq w ∧ mir σ 1 w ∧ mis σ 1 w := ⟨_, rfl, h.1.1.1, h.1.1.2.1, h.1.1.2.2.1, h.1.1.2.2.2, h.1.2.1, h.1.2.2⟩

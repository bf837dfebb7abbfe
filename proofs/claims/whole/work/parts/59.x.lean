/-! numbers -/
theorem mulb {a b A B : Int} (ha : -A ≤ a ∧ a ≤ A) (hb : 0 ≤ b ∧ b ≤ B) : -(A * B) ≤ a * b ∧ a * b ≤ A * B := by
  have h1 : a * b ≤ A * b := Int.mul_le_mul_of_nonneg_right ha.2 hb.1
  have h2 : (-A) * b ≤ a * b := Int.mul_le_mul_of_nonneg_right ha.1 hb.1
  have h3 : A * b ≤ A * B := Int.mul_le_mul_of_nonneg_left hb.2 (by omega)
  rw [Int.neg_mul] at h2
  omega
theorem cost_b {w : Int → Int} (hw : wf w) {E f x b t : Int} (h0 : 0 ≤ f) (h1 : f < w 0) (hx : -20 ≤ x ∧ x ≤ 20) (hb : 0 ≤ b ∧ b ≤ 1) (ht : 0 ≤ t ∧ t ≤ 20) : -30000 ≤ p_cost w E f x b t ∧ p_cost w E f x b t ≤ 30000 := by
  have a := wf_h hw
  unfold wf_hdr at a
  have o := wf_f hw h0 h1
  unfold wf_one at o
  have m1 := mulb (a := x) (b := w_of w f 2) (A := 20) (B := 999) hx (by omega)
  have m2 := mulb (a := x) (b := w_of w f 4) (A := 20) (B := 99) hx (by omega)
  have m3 := mulb (a := b) (b := w 4) (A := 1) (B := 999) (by omega) (by omega)
  have m4 := mulb (a := t) (b := w 5) (A := 20) (B := 99) (by omega) (by omega)
  have m5 := mulb (a := t) (b := w 6) (A := 20) (B := 99) (by omega) (by omega)
  unfold p_cost p_trade
  split
  · split <;> omega
  · split <;> omega

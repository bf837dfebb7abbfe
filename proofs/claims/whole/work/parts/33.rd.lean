theorem x_rd_eq {σ : x_S} {c j : Nat} {i v : Int} : x_st σ c j i v c j i = v := by
  unfold x_st
  rw [if_pos ⟨rfl, rfl, rfl⟩]
theorem x_rd_ne {σ : x_S} {c j c' j' : Nat} {i i' v : Int} (h : ¬ (c' = c ∧ j' = j ∧ i' = i)) : x_st σ c j i v c' j' i' = σ c' j' i' := by
  unfold x_st
  rw [if_neg h]
theorem xt_0_0 : x_tst 0 0 = 1 := id rfl
theorem xt_0_1 : x_tst 0 1 = 2 := id rfl
theorem xt_0_2 : x_tst 0 2 = 3 := id rfl
theorem xt_0_d {z : Int} (h : z < 0 ∨ 3 ≤ z) : x_tst 0 z = 4 := by
  show (if (0 : Int) ≤ z ∧ z < 0 + ((3 : Nat) : Int) then _ else 4) = 4
  rw [if_neg]
  intro q
  have q1 := q.1
  have q2 := q.2
  omega
theorem xt_1_0 : x_tst 1 0 = 2 := id rfl
theorem xt_1_1 : x_tst 1 1 = 3 := id rfl
theorem xt_1_2 : x_tst 1 2 = 4 := id rfl
theorem xt_1_3 : x_tst 1 3 = 5 := id rfl
theorem xt_1_4 : x_tst 1 4 = 6 := id rfl
theorem xt_1_5 : x_tst 1 5 = 7 := id rfl
theorem xt_1_6 : x_tst 1 6 = 8 := id rfl
theorem xt_1_7 : x_tst 1 7 = 9 := id rfl
theorem xt_1_d {z : Int} (h : z < 0 ∨ 8 ≤ z) : x_tst 1 z = 10 := by
  show (if (0 : Int) ≤ z ∧ z < 0 + ((8 : Nat) : Int) then _ else 10) = 10
  rw [if_neg]
  intro q
  have q1 := q.1
  have q2 := q.2
  omega
theorem xt_2_0 : x_tst 2 0 = 1 := id rfl
theorem xt_2_1 : x_tst 2 1 = 2 := id rfl
theorem xt_2_2 : x_tst 2 2 = 3 := id rfl
theorem xt_2_3 : x_tst 2 3 = 4 := id rfl
theorem xt_2_4 : x_tst 2 4 = 5 := id rfl
theorem xt_2_5 : x_tst 2 5 = 6 := id rfl
theorem xt_2_6 : x_tst 2 6 = 7 := id rfl
theorem xt_2_7 : x_tst 2 7 = 8 := id rfl
theorem xt_2_8 : x_tst 2 8 = 9 := id rfl
theorem xt_2_9 : x_tst 2 9 = 10 := id rfl
theorem xt_2_10 : x_tst 2 10 = 11 := id rfl
theorem xt_2_d {z : Int} (h : z < 0 ∨ 11 ≤ z) : x_tst 2 z = 12 := by
  show (if (0 : Int) ≤ z ∧ z < 0 + ((11 : Nat) : Int) then _ else 12) = 12
  rw [if_neg]
  intro q
  have q1 := q.1
  have q2 := q.2
  omega
theorem xt_3_0 : x_tst 3 0 = 1 := id rfl
theorem xt_3_1 : x_tst 3 1 = 2 := id rfl
theorem xt_3_2 : x_tst 3 2 = 3 := id rfl
theorem xt_3_3 : x_tst 3 3 = 4 := id rfl
theorem xt_3_4 : x_tst 3 4 = 5 := id rfl
theorem xt_3_d {z : Int} (h : z < 0 ∨ 5 ≤ z) : x_tst 3 z = 6 := by
  show (if (0 : Int) ≤ z ∧ z < 0 + ((5 : Nat) : Int) then _ else 6) = 6
  rw [if_neg]
  intro q
  have q1 := q.1
  have q2 := q.2
  omega
theorem xt_4_0 : x_tst 4 0 = 1 := id rfl
theorem xt_4_1 : x_tst 4 1 = 2 := id rfl
theorem xt_4_2 : x_tst 4 2 = 9 := id rfl
theorem xt_4_3 : x_tst 4 3 = 2 := id rfl
theorem xt_4_4 : x_tst 4 4 = 10 := id rfl
theorem xt_4_5 : x_tst 4 5 = 10 := id rfl
theorem xt_4_6 : x_tst 4 6 = 10 := id rfl
theorem xt_4_7 : x_tst 4 7 = 10 := id rfl
theorem xt_4_8 : x_tst 4 8 = 10 := id rfl
theorem xt_4_9 : x_tst 4 9 = 10 := id rfl
theorem xt_4_10 : x_tst 4 10 = 11 := id rfl
theorem xt_4_d {z : Int} (h : z < 0 ∨ 11 ≤ z) : x_tst 4 z = 16 := by
  show (if (0 : Int) ≤ z ∧ z < 0 + ((11 : Nat) : Int) then _ else 16) = 16
  rw [if_neg]
  intro q
  have q1 := q.1
  have q2 := q.2
  omega
theorem xt_5_d {z : Int} (h : z < 0 ∨ 50 ≤ z) : x_tst 5 z = 52 := by
  show (if (0 : Int) ≤ z ∧ z < 0 + ((50 : Nat) : Int) then _ else 52) = 52
  rw [if_neg]
  intro q
  have q1 := q.1
  have q2 := q.2
  omega
theorem xl_0_0 : x_lst 0 0 = 1 := id rfl
theorem xl_0_1 : x_lst 0 1 = 2 := id rfl
theorem xl_0_d {z : Int} (h : ¬ (0 = z) ∧ ¬ (1 = z)) : x_lst 0 z = 3 := by
  show ((([((0 : Int), (1 : Nat)), ((1 : Int), (2 : Nat))].find? (fun q => decide (q.1 = z))).map (·.2)).getD 3) = 3
  simp only [List.find?, decide_eq_false h.1, decide_eq_false h.2]
  rfl

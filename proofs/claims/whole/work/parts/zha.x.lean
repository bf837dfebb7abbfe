/-! bits of what was told -/
set_option maxHeartbeats 16000000 in
theorem tb_k {td : Int → Int} {m : Int} (h : tdW td) : (0 ≤ tbv td m ∧ tbv td m < 64) ∧ (x_and (tbv td m) 32 = if 0 < m then 32 else 0) ∧ ((x_and (tbv td m) 1 = if td 0 = 1 then 1 else 0) ∧ (td 0 = 0 → x_or (tbv td m) 1 = tbv (w_up td 0 1) m)) ∧ ((x_and (tbv td m) 2 = if td 1 = 1 then 2 else 0) ∧ (td 1 = 0 → x_or (tbv td m) 2 = tbv (w_up td 1 1) m)) ∧ ((x_and (tbv td m) 4 = if td 2 = 1 then 4 else 0) ∧ (td 2 = 0 → x_or (tbv td m) 4 = tbv (w_up td 2 1) m)) ∧ ((x_and (tbv td m) 8 = if td 3 = 1 then 8 else 0) ∧ (td 3 = 0 → x_or (tbv td m) 8 = tbv (w_up td 3 1) m)) ∧ ((x_and (tbv td m) 16 = if td 4 = 1 then 16 else 0) ∧ (td 4 = 0 → x_or (tbv td m) 16 = tbv (w_up td 4 1) m)) ∧ (m = 0 → x_or (tbv td m) 32 = tbv td 1) := by
  have t0 := h 0 (by omega) (by omega)
  have t1 := h 1 (by omega) (by omega)
  have t2 := h 2 (by omega) (by omega)
  have t3 := h 3 (by omega) (by omega)
  have t4 := h 4 (by omega) (by omega)
  have r : 0 ≤ tbv td m ∧ tbv td m < 64 := by
    unfold tbv
    split <;> omega
  have A := tb_A r
  have O := tb_O r
  have ne : ∀ k q, ¬ q = k → w_up td k 1 q = td q := fun k q hq => up_ne hq
  have ev : tbv td m = td 0 + 2 * td 1 + 4 * td 2 + 8 * td 3 + 16 * td 4 + (if 0 < m then 32 else 0) := rfl
  have eu : ∀ k, tbv (w_up td k 1) m = w_up td k 1 0 + 2 * w_up td k 1 1 + 4 * w_up td k 1 2 + 8 * w_up td k 1 3 + 16 * w_up td k 1 4 + (if 0 < m then 32 else 0) := fun k => rfl
  have sp : (if 0 < m then (32 : Int) else 0) = 0 ∨ (if 0 < m then (32 : Int) else 0) = 32 := by
    split
    · exact Or.inr rfl
    · exact Or.inl rfl
  refine ⟨r, ?_, ⟨?_, fun z => ?_⟩, ⟨?_, fun z => ?_⟩, ⟨?_, fun z => ?_⟩, ⟨?_, fun z => ?_⟩, ⟨?_, fun z => ?_⟩, fun z => ?_⟩
  · rw [A.2.2.2.2.2]
    generalize (if 0 < m then (32 : Int) else 0) = q at ev sp
    omega
  · rw [A.1]
    generalize (if 0 < m then (32 : Int) else 0) = q at ev sp
    split <;> omega
  · rw [O.1, eu, up_eq, ne 0 1 (by omega), ne 0 2 (by omega), ne 0 3 (by omega), ne 0 4 (by omega)]
    generalize (if 0 < m then (32 : Int) else 0) = q at ev sp
    omega
  · rw [A.2.1]
    generalize (if 0 < m then (32 : Int) else 0) = q at ev sp
    split <;> omega
  · rw [O.2.1, eu, up_eq, ne 1 0 (by omega), ne 1 2 (by omega), ne 1 3 (by omega), ne 1 4 (by omega)]
    generalize (if 0 < m then (32 : Int) else 0) = q at ev sp
    omega
  · rw [A.2.2.1]
    generalize (if 0 < m then (32 : Int) else 0) = q at ev sp
    split <;> omega
  · rw [O.2.2.1, eu, up_eq, ne 2 0 (by omega), ne 2 1 (by omega), ne 2 3 (by omega), ne 2 4 (by omega)]
    generalize (if 0 < m then (32 : Int) else 0) = q at ev sp
    omega
  · rw [A.2.2.2.1]
    generalize (if 0 < m then (32 : Int) else 0) = q at ev sp
    split <;> omega
  · rw [O.2.2.2.1, eu, up_eq, ne 3 0 (by omega), ne 3 1 (by omega), ne 3 2 (by omega), ne 3 4 (by omega)]
    generalize (if 0 < m then (32 : Int) else 0) = q at ev sp
    omega
  · rw [A.2.2.2.2.1]
    generalize (if 0 < m then (32 : Int) else 0) = q at ev sp
    split <;> omega
  · rw [O.2.2.2.2.1, eu, up_eq, ne 4 0 (by omega), ne 4 1 (by omega), ne 4 2 (by omega), ne 4 3 (by omega)]
    generalize (if 0 < m then (32 : Int) else 0) = q at ev sp
    omega
  · have e1 : tbv td 1 = td 0 + 2 * td 1 + 4 * td 2 + 8 * td 3 + 16 * td 4 + 32 := rfl
    rw [if_neg (by omega)] at ev
    rw [O.2.2.2.2.2, e1]
    omega

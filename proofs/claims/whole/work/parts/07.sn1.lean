/-! numbers -/
theorem x_toI {a : Int} (h : x_b32 a = true) : (Int32.ofInt a).toInt = a := by
  have h := x_b32_iff.mp h
  exact Int32.toInt_ofInt_of_le h.1 (by have := h.2; omega)
theorem x_toL {a : Int} (h : x_b64 a = true) : (Int64.ofInt a).toInt = a := by
  have h := x_b64_iff.mp h
  exact Int64.toInt_ofInt_of_le h.1 (by have := h.2; omega)
theorem x_n_div {a b : Int} (ha : x_b32 a = true) (hb : x_b32 b = true) : Int32.ofInt a / Int32.ofInt b = Int32.ofInt (a.tdiv b) := by
  apply Int32.toInt.inj
  rw [Int32.toInt_div, x_toI ha, x_toI hb, Int32.toInt_ofInt]
theorem x_n_rem {a b : Int} (ha : x_b32 a = true) (hb : x_b32 b = true) : Int32.ofInt a - Int32.ofInt a / Int32.ofInt b * Int32.ofInt b = Int32.ofInt (a.tmod b) := by
  rw [x_n_div ha hb, ← Int32.ofInt_mul, ← Int32.ofInt_sub]
  congr 1
  have := Int.tmod_add_mul_tdiv a b
  rw [Int.mul_comm] at this
  omega
theorem x_n_ldiv {a b : Int} (ha : x_b64 a = true) (hb : x_b64 b = true) : Int64.ofInt a / Int64.ofInt b = Int64.ofInt (a.tdiv b) := by
  apply Int64.toInt.inj
  rw [Int64.toInt_div, x_toL ha, x_toL hb, Int64.toInt_ofInt]
theorem x_n_ne {a : Int} (ha : x_b32 a = true) (h : a ≠ 0) : ¬ Int32.ofInt a = 0 := by
  intro z
  have := congrArg Int32.toInt z
  rw [x_toI ha] at this
  exact h this
theorem x_n_lne {a : Int} (ha : x_b64 a = true) (h : a ≠ 0) : ¬ Int64.ofInt a = 0 := by
  intro z
  have := congrArg Int64.toInt z
  rw [x_toL ha] at this
  exact h this
theorem x_n_i2l {a : Int} (ha : x_b32 a = true) : (Int32.ofInt a).toInt64 = Int64.ofInt a := by
  apply Int64.toInt.inj
  have h := x_b32_iff.mp ha
  rw [Int32.toInt_toInt64, x_toI ha, x_toL (x_b64_iff.mpr ⟨by have := h.1; omega, by have := h.2; omega⟩)]
theorem x_n_l2i (a : Int) : (Int64.ofInt a).toInt32 = Int32.ofInt (a.bmod 4294967296) := by
  apply Int32.toInt.inj
  rw [Int64.toInt32_ofInt]
  simp only [Int32.toInt_ofInt]
  exact (Int.bmod_bmod ..).symm
theorem x_n_i2b (a : Int) : (Int32.ofInt a).toInt8.toInt32 = Int32.ofInt (a.bmod 256) := by
  apply Int32.toInt.inj
  rw [Int32.toInt8_ofInt]
  simp only [Int8.toInt_toInt32, Int8.toInt_ofInt, Int32.toInt_ofInt]
  have h1 := Int.le_bmod (x := a) (m := 256) (by decide)
  have h2 := Int.bmod_lt (x := a) (m := 256) (by decide)
  symm
  rw [Int.bmod_eq_of_le (by simp [Int32.size] at *; omega) (by simp [Int32.size] at *; omega)]
theorem x_n_i2s (a : Int) : (Int32.ofInt a).toInt16.toInt32 = Int32.ofInt (a.bmod 65536) := by
  apply Int32.toInt.inj
  rw [Int32.toInt16_ofInt]
  simp only [Int16.toInt_toInt32, Int16.toInt_ofInt, Int32.toInt_ofInt]
  have h1 := Int.le_bmod (x := a) (m := 65536) (by decide)
  have h2 := Int.bmod_lt (x := a) (m := 65536) (by decide)
  symm
  rw [Int.bmod_eq_of_le (by simp [Int32.size] at *; omega) (by simp [Int32.size] at *; omega)]
theorem x_n_cmp {x y : Int} (hx : x_b64 x = true) (hy : x_b64 y = true) : lg_cmp (Int64.ofInt x) (Int64.ofInt y) = Int32.ofInt (x_lcmp x y) := by
  simp only [lg_cmp, x_lcmp, Int64.lt_iff_toInt_lt, x_toL hx, x_toL hy]
  by_cases h1 : y < x
  · have : ¬ x < y := by omega
    have h3 : ¬ x = y := by omega
    simp [h1, this, h3]
  · by_cases h2 : x < y
    · have h3 : ¬ Int64.ofInt x = Int64.ofInt y := by
        intro z
        have := congrArg Int64.toInt z
        rw [x_toL hx, x_toL hy] at this
        omega
      simp [h1, h2, h3]
    · have h3 : x = y := by omega
      subst h3
      simp
theorem x_n_i2c (a : Int) : ((Int32.ofInt a).toUInt32 % 65536).toInt32 = Int32.ofInt (a % 65536) := by
  rw [pk_char, nI, ← Int32.ofInt_eq_ofNat]
  congr 1
  have : ((Int32.ofInt a).toBitVec.toNat : Int) = a % 4294967296 := by
    have h : (Int32.ofInt a).toBitVec = BitVec.ofInt 32 a := rfl
    rw [h, BitVec.toNat_ofInt]
    simp
    omega
  rw [Int.natCast_emod, this]
  omega
theorem x_n_ix {i : Int} {n : Nat} (h0 : 0 ≤ i) (hn : i < n) (hN : n ≤ 2147483647) : vp_in (Int32.ofInt i) n ∧ (Int32.ofInt i).toNatClampNeg = i.toNat := by
  have e : (Int32.ofInt i).toInt = i := x_toI (x_b32_iff.mpr ⟨by omega, by omega⟩)
  refine ⟨?_, ?_⟩
  · rw [vp_in_iff, e]
    exact ⟨h0, hn⟩
  · rw [Int32.toNatClampNeg, e]
theorem x_n_lt {x y : Int} (hx : x_b32 x = true) (hy : x_b32 y = true) : Int32.ofInt x < Int32.ofInt y ↔ x < y := by rw [Int32.lt_iff_toInt_lt, x_toI hx, x_toI hy]
theorem x_n_le {x y : Int} (hx : x_b32 x = true) (hy : x_b32 y = true) : Int32.ofInt x ≤ Int32.ofInt y ↔ x ≤ y := by rw [Int32.le_iff_toInt_le, x_toI hx, x_toI hy]
theorem x_n_eq {x y : Int} (hx : x_b32 x = true) (hy : x_b32 y = true) : Int32.ofInt x = Int32.ofInt y ↔ x = y := by rw [← Int32.toInt_inj, x_toI hx, x_toI hy]
theorem x_b32_0 : x_b32 0 = true := by decide
theorem x_n_0 : Int32.ofInt 0 = 0 := by decide

/-! a call's two runs, forward -/
def x_f100 (σ σ1 : x_S) : Prop := ∀ j i, σ1 100 j i = σ 100 j i
theorem ag_I {mX mM : Nat} {as : List x_V} {σ : x_S} {I : x_S → Prop} (h : x_Sp 999 mX (xR 0 0 :: as) σ (fun r σ1 => ∃ v, r = some (xI v) ∧ x_f100 σ σ1 ∧ x_Sp 999 mM (xR 50 0 :: as) σ1 (fun r2 σ2 => r2 = some (xI v) ∧ I σ2))) : ∃ σ2, I σ2 ∧ x_agI mX mM as σ σ2 := by
  obtain ⟨n, r, σ1, hr, v, rfl, h100, n2, r2, σ2, hr2, rfl, hI⟩ := h
  exact ⟨σ2, hI, v, σ1, ⟨n, _, _, hr, rfl, rfl⟩, ⟨n2, _, _, hr2, rfl, rfl⟩, h100⟩
theorem ag_J {mX mM : Nat} {as : List x_V} {σ : x_S} {I : x_S → Prop} (h : x_Sp 999 mX (xR 0 0 :: as) σ (fun r σ1 => ∃ v, r = some (xJ v) ∧ x_f100 σ σ1 ∧ (-9223372036854775808 ≤ v ∧ v ≤ 9223372036854775807) ∧ x_Sp 999 mM (xR 50 0 :: as) σ1 (fun r2 σ2 => r2 = some (xJ v) ∧ I σ2))) : ∃ σ2, I σ2 ∧ x_agJ mX mM as σ σ2 := by
  obtain ⟨n, r, σ1, hr, v, rfl, h100, hv, n2, r2, σ2, hr2, rfl, hI⟩ := h
  exact ⟨σ2, hI, v, σ1, ⟨n, _, _, hr, rfl, rfl⟩, ⟨n2, _, _, hr2, rfl, rfl⟩, h100, hv⟩
theorem x_gen {k m : Nat} {as : List x_V} {σ : x_S} {R : Option x_V → x_S → Prop} (h : ∀ Q : Option x_V → x_S → Prop, (∀ r σ', R r σ' → Q r σ') → x_Sp k m as σ Q) : x_Sp k m as σ R := h R (fun _ _ z => z)
theorem w_gen {d m : Nat} {K : List x_I} {L st : List x_V} {σ : x_S} {R : Option x_V → x_S → Prop} (h : ∀ Q : Option x_V → x_S → Prop, (∀ r σ', R r σ' → Q r σ') → x_Wp d m K L st σ Q) : x_Wp d m K L st σ R := h R (fun _ _ z => z)
theorem lsh_two {v b : Int} {n : Nat} (hn : (((Int32.ofInt b).toInt64 &&& 63).toBitVec.smod 64).toNat = n) : x_lshr (x_lshl v b) b = ((((v % 18446744073709551616).toNat * 2 ^ n : Nat) : Int).bmod 18446744073709551616).bmod 18446744073709551616 / 2 ^ n := by
  have e1 : x_lshl v b = (((v % 18446744073709551616).toNat * 2 ^ n : Nat) : Int).bmod 18446744073709551616 := by
    show ((BitVec.ofInt 64 v) <<< (((Int32.ofInt b).toInt64 &&& 63).toBitVec.smod 64)).toInt = _
    rw [BitVec.shiftLeft_eq', hn, BitVec.toInt_shiftLeft, BitVec.toNat_ofInt, Nat.shiftLeft_eq]
    rfl
  have e2 : ∀ y : Int, x_lshr y b = (y.bmod 18446744073709551616) / 2 ^ n := by
    intro y
    show ((BitVec.ofInt 64 y).sshiftRight' (((Int32.ofInt b).toInt64 &&& 63).toBitVec.smod 64)).toInt = _
    rw [BitVec.sshiftRight_eq', hn, BitVec.toInt_sshiftRight, BitVec.toInt_ofInt, Int.shiftRight_eq_div_pow]
    rfl
  rw [e2, e1]

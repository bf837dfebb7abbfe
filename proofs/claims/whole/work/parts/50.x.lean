/-! loops, frames, small facts -/
theorem x_lpJ {α : Type} (J : Int → α → Prop) (P : Int → α → Prop) {lo hi : Int} (hle : lo ≤ hi) {a0 : α} (h0 : J lo a0)
    (hs : ∀ i a, lo ≤ i → i < hi → J i a → ∃ a', J (i + 1) a' ∧ (P (i + 1) a' → P i a))
    (he : ∀ a, J hi a → P hi a) : P lo a0 := by
  have h : ∀ n : Nat, ∀ i a, lo ≤ i → i + n = hi → J i a → P i a := by
    intro n
    induction n with
    | zero =>
      intro i a _ h2 hj
      have e : i = hi := by omega
      subst e
      exact he a hj
    | succ n ih =>
      intro i a h1 h2 hj
      obtain ⟨a', hj', hp⟩ := hs i a h1 (by omega) hj
      exact hp (ih (i + 1) a' (by omega) (by omega) hj')
  exact h (hi - lo).toNat lo a0 (by omega) (by omega) h0
theorem x_lpX {α : Type} (J : Int → α → Prop) (P : Int → α → Prop) {lo hi : Int} (hle : lo ≤ hi) {a0 : α} (h0 : J lo a0)
    (hs : ∀ i a, lo ≤ i → i < hi → J i a → P i a ∨ ∃ a', J (i + 1) a' ∧ (P (i + 1) a' → P i a))
    (he : ∀ a, J hi a → P hi a) : P lo a0 := by
  have h : ∀ n : Nat, ∀ i a, lo ≤ i → i + n = hi → J i a → P i a := by
    intro n
    induction n with
    | zero =>
      intro i a _ h2 hj
      have e : i = hi := by omega
      subst e
      exact he a hj
    | succ n ih =>
      intro i a h1 h2 hj
      rcases hs i a h1 (by omega) hj with hp | ⟨a', hj', hp⟩
      · exact hp
      · exact hp (ih (i + 1) a' (by omega) (by omega) hj')
  exact h (hi - lo).toNat lo a0 (by omega) (by omega) h0
theorem x_lpD {α : Type} (J : Int → α → Prop) (P : Int → α → Prop) {lo hi : Int} (hle : lo ≤ hi) {a0 : α} (h0 : J hi a0)
    (hs : ∀ i a, lo < i → i ≤ hi → J i a → ∃ a', J (i - 1) a' ∧ (P (i - 1) a' → P i a))
    (he : ∀ a, J lo a → P lo a) : P hi a0 := by
  have h : ∀ n : Nat, ∀ i a, i ≤ hi → lo + n = i → J i a → P i a := by
    intro n
    induction n with
    | zero =>
      intro i a _ h2 hj
      have e : i = lo := by omega
      subst e
      exact he a hj
    | succ n ih =>
      intro i a h1 h2 hj
      obtain ⟨a', hj', hp⟩ := hs i a (by omega) h1 hj
      exact hp (ih (i - 1) a' (by omega) (by omega) hj')
  exact h (hi - lo).toNat hi a0 (by omega) (by omega) h0
theorem x_lpV {α : Type} (J : α → Prop) (P : α → Prop) (μ : α → Int) {a0 : α} (h0 : J a0)
    (hs : ∀ a, J a → P a ∨ (0 ≤ μ a ∧ ∃ a', J a' ∧ μ a' < μ a ∧ (P a' → P a))) : P a0 := by
  have h : ∀ n : Nat, ∀ a, μ a < n → J a → P a := by
    intro n
    induction n with
    | zero =>
      intro a h1 hj
      rcases hs a hj with hp | ⟨h2, _⟩
      · exact hp
      · omega
    | succ n ih =>
      intro a h1 hj
      rcases hs a hj with hp | ⟨h2, a', hj', hm, hp⟩
      · exact hp
      · exact hp (ih a' (by omega) hj')
  exact h (μ a0 + 1).toNat a0 (by omega) h0
theorem x_st_o {σ : x_S} {c j c' j' : Nat} {i v : Int} (h : ¬ (c' = c ∧ j' = j)) : x_st σ c j i v c' j' = σ c' j' := by
  funext i'
  unfold x_st
  rw [if_neg (fun e => h ⟨e.1, e.2.1⟩)]
theorem x_cp_o {σ : x_S} {c j c2 j2 c' j' : Nat} {i i2 n : Int} (h : ¬ (c' = c2 ∧ j' = j2)) : x_cp σ c j i c2 j2 i2 n c' j' = σ c' j' := by
  funext i'
  unfold x_cp
  rw [if_neg (fun e => h ⟨e.1, e.2.1⟩)]
theorem x_cp_in {σ : x_S} {c j c2 j2 : Nat} {i i2 n i' : Int} (h : i2 ≤ i' ∧ i' < i2 + n) : x_cp σ c j i c2 j2 i2 n c2 j2 i' = σ c j (i + (i' - i2)) := by
  unfold x_cp
  rw [if_pos ⟨rfl, rfl, h.1, h.2⟩]
theorem x_cp_out {σ : x_S} {c j c2 j2 : Nat} {i i2 n i' : Int} (h : ¬ (i2 ≤ i' ∧ i' < i2 + n)) : x_cp σ c j i c2 j2 i2 n c2 j2 i' = σ c2 j2 i' := by
  unfold x_cp
  rw [if_neg (fun e => h e.2.2)]
def x_eqo (S : List (Nat × Nat)) (σ σ' : x_S) : Prop := ∀ c j, (c, j) ∉ S → σ' c j = σ c j
theorem eqo_refl {S : List (Nat × Nat)} {σ : x_S} : x_eqo S σ σ := fun _ _ _ => rfl
theorem eqo_trans {S : List (Nat × Nat)} {σ σ1 σ2 : x_S} (h1 : x_eqo S σ σ1) (h2 : x_eqo S σ1 σ2) : x_eqo S σ σ2 := fun c j h => (h2 c j h).trans (h1 c j h)
theorem eqo_mono {S T : List (Nat × Nat)} {σ σ1 : x_S} (hs : ∀ p, p ∈ S → p ∈ T) (h1 : x_eqo S σ σ1) : x_eqo T σ σ1 := fun c j h => h1 c j (fun z => h (hs _ z))
theorem eqo_st {S : List (Nat × Nat)} {σ σ1 : x_S} {c j : Nat} {i v : Int} (hc : (c, j) ∈ S) (h1 : x_eqo S σ σ1) : x_eqo S σ (x_st σ1 c j i v) := by
  intro c' j' h
  rw [x_st_o (fun e => h (by rw [e.1, e.2]; exact hc))]
  exact h1 c' j' h
theorem eqo_cp {S : List (Nat × Nat)} {σ σ1 : x_S} {c j c2 j2 : Nat} {i i2 n : Int} (hc : (c2, j2) ∈ S) (h1 : x_eqo S σ σ1) : x_eqo S σ (x_cp σ1 c j i c2 j2 i2 n) := by
  intro c' j' h
  rw [x_cp_o (fun e => h (by rw [e.1, e.2]; exact hc))]
  exact h1 c' j' h
theorem eqo_fl {S : List (Nat × Nat)} {σ σ1 : x_S} {c j : Nat} {lo hi v : Int} (hc : (c, j) ∈ S) (h1 : x_eqo S σ σ1) : x_eqo S σ (s_fl σ1 c j lo hi v) := by
  intro c' j' h
  rw [← h1 c' j' h]
  funext i'
  unfold s_fl
  rw [if_neg (fun e => h (by rw [e.1, e.2.1]; exact hc))]
theorem s_fl_o {σ : x_S} {c j c' j' : Nat} {lo hi v : Int} (h : ¬ (c' = c ∧ j' = j)) : s_fl σ c j lo hi v c' j' = σ c' j' := by
  funext i'
  unfold s_fl
  rw [if_neg (fun e => h ⟨e.1, e.2.1⟩)]
theorem s_fl_in {σ : x_S} {c j : Nat} {lo hi v i : Int} (h : lo ≤ i ∧ i < hi) : s_fl σ c j lo hi v c j i = v := by
  unfold s_fl
  rw [if_pos ⟨rfl, rfl, h.1, h.2⟩]
theorem s_fl_out {σ : x_S} {c j : Nat} {lo hi v i : Int} (h : ¬ (lo ≤ i ∧ i < hi)) : s_fl σ c j lo hi v c j i = σ c j i := by
  unfold s_fl
  rw [if_neg (fun e => h e.2.2)]
theorem x_or_01 {a b : Int} (ha : 0 ≤ a ∧ a ≤ 1) (hb : 0 ≤ b ∧ b ≤ 1) : x_or a b = if a = 1 ∨ b = 1 then 1 else 0 := by
  have h1 : a = 0 ∨ a = 1 := by omega
  have h2 : b = 0 ∨ b = 1 := by omega
  rcases h1 with rfl | rfl <;> rcases h2 with rfl | rfl <;> rfl
theorem bi_t {q : Prop} [Decidable q] (h : q) : x_bi q = 1 := if_pos h
theorem bi_f {q : Prop} [Decidable q] (h : ¬ q) : x_bi q = 0 := if_neg h
theorem bi_cg {p q : Prop} [Decidable p] [Decidable q] (h : p ↔ q) : x_bi p = x_bi q := by
  by_cases hp : p
  · rw [bi_t hp, bi_t (h.mp hp)]
  · rw [bi_f hp, bi_f (fun z => hp (h.mpr z))]
/-! more calls may be opened: nothing changes -/
theorem x_run_d1 : ∀ (n d m : Nat) (K : List x_I) (L st : List x_V) (k : x_K) (σ : x_S) (x : Option x_V × x_K × x_S), x_run n d m K L st k σ = some x → x_run n (d + 1) m K L st k σ = some x := by
  intro n
  induction n with
  | zero => intro d m K L st k σ x h; simp [x_run] at h
  | succ n ih =>
    intro d m K L st k σ x h
    match K with
    | [] => simp [x_run] at h
    | (op, a, b, c, e, p) :: K =>
      rw [x_run] at h ⊢
      split at h
      · rename_i hop
        rw [if_pos hop]
        split at h
        · exact ih _ _ _ _ _ _ _ _ h
        · cases h
      · rename_i hop
        rw [if_neg hop]
        split at h
        · rename_i hop2
          rw [if_pos hop2]
          split at h
          · exact ih _ _ _ _ _ _ _ _ h
          · exact ih _ _ _ _ _ _ _ _ h
          · cases h
        · rename_i hop2
          rw [if_neg hop2]
          split at h
          · rename_i hop3
            rw [if_pos hop3]
            exact h
          · rename_i hop3
            rw [if_neg hop3]
            split at h
            · split at h
              · rename_i hc
                rw [if_pos ⟨Nat.succ_pos d, hc.2⟩]
                split at h
                · rename_i hr
                  have e1 := ih _ _ _ _ _ _ _ _ hr
                  rw [show d - 1 + 1 = d + 1 - 1 by omega] at e1
                  rw [e1]
                  exact ih _ _ _ _ _ _ _ _ h
                · cases h
              · cases h
            · cases h
theorem x_run_dp {n m k0 : Nat} {K : List x_I} {L st : List x_V} {k : x_K} {σ : x_S} {x : Option x_V × x_K × x_S} (h : x_run n k0 m K L st k σ = some x) : ∀ d, x_run n (d + k0) m K L st k σ = some x := by
  intro d
  induction d with
  | zero => rw [Nat.zero_add]; exact h
  | succ d ih => rw [Nat.add_right_comm]; exact x_run_d1 _ _ _ _ _ _ _ _ _ ih
theorem x_use {d k m : Nat} {as : List x_V} {σ : x_S} {R Q : Option x_V → x_S → Prop} (h : x_Sp k m as σ R) (hq : ∀ r σ', R r σ' → Q r σ') : x_Sp (d + k) m as σ Q := by
  obtain ⟨n, r, σ', hr, hR⟩ := h
  exact ⟨n, r, σ', x_run_dp hr d, hq r σ' hR⟩
theorem x_mono {d m : Nat} {K : List x_I} {L st : List x_V} {σ : x_S} {R Q : Option x_V → x_S → Prop} (h : x_Wp d m K L st σ R) (hq : ∀ r σ', R r σ' → Q r σ') : x_Wp d m K L st σ Q := by
  obtain ⟨n, r, σ', hr, hR⟩ := h
  exact ⟨n, r, σ', hr, hq r σ' hR⟩
theorem x_ex {k m : Nat} {as : List x_V} {σ : x_S} {R : Option x_V → x_S → Prop} (h : x_Sp k m as σ R) : ∃ r σ', R r σ' ∧ ∀ (d : Nat) (Q : Option x_V → x_S → Prop), x_Sp (d + k) m as σ Q ↔ Q r σ' := by
  obtain ⟨n, r, σ', hr, hR⟩ := h
  refine ⟨r, σ', hR, fun d Q => x_sp_of ?_⟩
  exact ⟨n, r, σ', x_run_dp hr d, rfl, rfl⟩
theorem z_le {a b : Int} (h : a ≤ b) : (a ≤ b) ↔ True := iff_true_intro h
theorem z_nle {a b : Int} (h : ¬ a ≤ b) : (a ≤ b) ↔ False := iff_false_intro h
theorem z_lt {a b : Int} (h : a < b) : (a < b) ↔ True := iff_true_intro h
theorem z_nlt {a b : Int} (h : ¬ a < b) : (a < b) ↔ False := iff_false_intro h
theorem z_eq {a b : Int} (h : a = b) : (a = b) ↔ True := iff_true_intro h
theorem z_neq {a b : Int} (h : ¬ a = b) : (a = b) ↔ False := iff_false_intro h
theorem x_bm32 {x : Int} (h : -2147483648 ≤ x ∧ x ≤ 2147483647) : x.bmod 4294967296 = x := Int.bmod_eq_of_le (by omega) (by omega)

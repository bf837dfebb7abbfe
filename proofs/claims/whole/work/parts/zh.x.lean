theorem weq_u {b : Int → Int} : ∀ (s s' : List Int) (f : Int), s.length = s'.length → weq b s f = true → weq b s' f = true → s = s' := by
  intro s
  induction s with
  | nil =>
    intro s' f hl _ _
    cases s' with
    | nil => rfl
    | cons c s' => simp at hl
  | cons c s ih =>
    intro s' f hl h h'
    cases s' with
    | nil => simp at hl
    | cons c' s' =>
      have e : weq b (c :: s) f = (decide (b f = c) && weq b s (f + 1)) := rfl
      have e' : weq b (c' :: s') f = (decide (b f = c') && weq b s' (f + 1)) := rfl
      rw [e, Bool.and_eq_true, decide_eq_true_eq] at h
      rw [e', Bool.and_eq_true, decide_eq_true_eq] at h'
      have hl' : s.length = s'.length := by simpa using hl
      rw [ih s' (f + 1) hl' h.2 h'.2, ← h.1, ← h'.1]
theorem isW_u {b : Int → Int} {s s' : List Int} {f k a : Int} (h : isW b s f k a) (h' : isW b s' f k a) : s = s' := weq_u s s' f (by have := h.2.1; have := h'.2.1; omega) h.2.2 h'.2.2
theorem k_isW {d : Nat} {Q : Option x_V → x_S → Prop} {σ : x_S} {b : Int → Int} {n f k a : Int} {j : Nat} (hB : rdB σ b n) (hj : j < 28) (h7 : σ 3 0 7 = f) (h8 : σ 3 0 8 = k) (h6 : σ 3 0 6 = a) (hr : 0 ≤ f ∧ f ≤ a ∧ a ≤ n) (hk : 0 ≤ k ∧ k ≤ 4) : x_Sp (d + 4) 31 [xR 3 0, xR 101 j] σ Q ↔ Q (some (xI (if isW b (xst j) f k a then 1 else 0))) σ := by
  obtain ⟨r, σ', ⟨hσ, hr'⟩, ev⟩ := x_ex (h_isW hB hj h7 h8 h6 hr hk)
  subst hσ
  rw [← hr']
  exact ev d Q
theorem k_mis {d : Nat} {Q : Option x_V → x_S → Prop} {σ : x_S} {b : Int → Int} {n : Int} {x : PS} {j : Nat} (hj : j < 28) (h : MS σ b n x) : x_Sp (d + 4) 180 [xR 50 0, xR 101 j] σ Q ↔ Q (some (xI (if x.1 = 0 ∧ isW b (xst j) (tF b n x.2.2) (tK b n x.2.2) (tA b n x.2.2) then 1 else 0))) σ := by
  obtain ⟨r, σ', ⟨hσ, hr'⟩, ev⟩ := x_ex (h_mis hj h)
  subst hσ
  rw [← hr']
  exact ev d Q
/-! what was told -/
def tbv (td : Int → Int) (m : Int) : Int := td 0 + 2 * td 1 + 4 * td 2 + 8 * td 3 + 16 * td 4 + (if 0 < m then 32 else 0)
theorem tb_a : ∀ t : Fin 64, x_and (t.val : Int) 1 = (t.val : Int) % 2 ∧ x_and (t.val : Int) 2 = 2 * ((t.val : Int) / 2 % 2) ∧ x_and (t.val : Int) 4 = 4 * ((t.val : Int) / 4 % 2) ∧ x_and (t.val : Int) 8 = 8 * ((t.val : Int) / 8 % 2) ∧ x_and (t.val : Int) 16 = 16 * ((t.val : Int) / 16 % 2) ∧ x_and (t.val : Int) 32 = 32 * ((t.val : Int) / 32 % 2) := by decide +kernel
theorem tb_o : ∀ t : Fin 64, x_or (t.val : Int) 1 = (t.val : Int) + 1 - (t.val : Int) % 2 ∧ x_or (t.val : Int) 2 = (t.val : Int) + 2 - 2 * ((t.val : Int) / 2 % 2) ∧ x_or (t.val : Int) 4 = (t.val : Int) + 4 - 4 * ((t.val : Int) / 4 % 2) ∧ x_or (t.val : Int) 8 = (t.val : Int) + 8 - 8 * ((t.val : Int) / 8 % 2) ∧ x_or (t.val : Int) 16 = (t.val : Int) + 16 - 16 * ((t.val : Int) / 16 % 2) ∧ x_or (t.val : Int) 32 = (t.val : Int) + 32 - 32 * ((t.val : Int) / 32 % 2) := by decide +kernel
theorem tb_A {t : Int} (h : 0 ≤ t ∧ t < 64) : x_and t 1 = t % 2 ∧ x_and t 2 = 2 * (t / 2 % 2) ∧ x_and t 4 = 4 * (t / 4 % 2) ∧ x_and t 8 = 8 * (t / 8 % 2) ∧ x_and t 16 = 16 * (t / 16 % 2) ∧ x_and t 32 = 32 * (t / 32 % 2) := by
  have x := tb_a ⟨t.toNat, by omega⟩
  have e : (((⟨t.toNat, by omega⟩ : Fin 64).val : Nat) : Int) = t := Int.toNat_of_nonneg h.1
  rw [e] at x
  exact x
theorem tb_O {t : Int} (h : 0 ≤ t ∧ t < 64) : x_or t 1 = t + 1 - t % 2 ∧ x_or t 2 = t + 2 - 2 * (t / 2 % 2) ∧ x_or t 4 = t + 4 - 4 * (t / 4 % 2) ∧ x_or t 8 = t + 8 - 8 * (t / 8 % 2) ∧ x_or t 16 = t + 16 - 16 * (t / 16 % 2) ∧ x_or t 32 = t + 32 - 32 * (t / 32 % 2) := by
  have x := tb_o ⟨t.toNat, by omega⟩
  have e : (((⟨t.toNat, by omega⟩ : Fin 64).val : Nat) : Int) = t := Int.toNat_of_nonneg h.1
  rw [e] at x
  exact x
/-! the draft -/
def dHd (fr : Int → Int) : Prop := (0 ≤ fr 1 ∧ fr 1 ≤ 20) ∧ (0 ≤ fr 2 ∧ fr 2 ≤ 20) ∧ (0 ≤ fr 3 ∧ fr 3 ≤ 20) ∧ (0 ≤ fr 4 ∧ fr 4 ≤ 999) ∧ (0 ≤ fr 5 ∧ fr 5 ≤ 99) ∧ (0 ≤ fr 6 ∧ fr 6 ≤ 99)
def dW (fr : Int → Int) : Prop := dHd fr ∧ (∀ i, (7 ≤ i ∧ i < 16) ∨ (536 ≤ i ∧ i < 616) → fr i = 0) ∧ ((fr 0 = 0 ∧ w_of fr 0 0 = -1 ∧ ∀ k, 1 ≤ k → k < 13 → w_of fr 0 k = 0) ∨ (wf fr ∧ ∀ f, 0 ≤ f → f < fr 0 → w_of fr f 2 ≤ 99))
def tdW (td : Int → Int) : Prop := ∀ k, 0 ≤ k → k ≤ 4 → 0 ≤ td k ∧ td k ≤ 1
def DR (σ : x_S) (fr td wo : Int → Int) : Prop := mir σ 0 fr ∧ σ 3 0 9 = tbv td (fr 0) ∧ ∀ f, 0 < f → f < fr 0 → σ 5 0 f = wo f
theorem dW_m {fr : Int → Int} (h : dW fr) : 0 ≤ fr 0 ∧ fr 0 ≤ 40 := by
  rcases h.2.2 with z | z
  · omega
  · have := z.1.1.1
    omega
/-! the pieces of a line -/
abbrev mayF (fr : Int → Int) (v : Int) : Prop := (0 ≤ v ∧ v < fr 0) ∧ w_of fr v 6 < 4 ∧ w_of fr v 7 < 5

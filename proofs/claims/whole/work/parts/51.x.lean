/-! the world of the model, what it must keep, how the class mirrors it -/
def w_of (w : Int → Int) (f k : Int) : Int := w (16 + 13 * f + k)
def p_or (a b : Int) : Int := if a = 1 ∨ b = 1 then 1 else 0
theorem por00 : p_or 0 0 = 0 := id rfl
theorem por01 : p_or 0 1 = 1 := id rfl
theorem por10 : p_or 1 0 = 1 := id rfl
theorem por11 : p_or 1 1 = 1 := id rfl
theorem x_or_p {a b : Int} (ha : 0 ≤ a ∧ a ≤ 1) (hb : 0 ≤ b ∧ b ≤ 1) : x_or a b = p_or a b := x_or_01 ha hb
def p_room (w : Int → Int) (l : Int) : Int := if l = 1 then w 3 else w 2
abbrev p_law (w : Int → Int) (f st wd x b : Int) : Prop := x ≤ w_of w f 3 ∧ 0 ≤ st + x ∧ ¬ (b = 1 ∧ wd = 1) ∧ 0 ≤ st + x - w_of w f 5 ∧ st + x - w_of w f 5 ≤ p_room w (p_or wd b)
abbrev p_end (w : Int → Int) (E f : Int) : Prop := w_of w f 7 = 0 ∨ E ≤ w_of w f 6
abbrev p_trade (w : Int → Int) (f x : Int) : Int := if 0 < x then x * w_of w f 2 else x * w_of w f 4
def p_beh (w : Int → Int) (f s x b : Int) : Int := if (0 ≤ b ∧ b ≤ 1) ∧ p_law w f (s % 21) (s / 21) x b then 21 * p_or (s / 21) b + (s % 21 + x - w_of w f 5) else -1
def p_cost (w : Int → Int) (E f x b t : Int) : Int := p_trade w f x + b * w 4 + t * w 5 - (if p_end w E f then t * w 6 else 0)
def w_sum (w : Int → Int) (f : Int) : Nat → Int
  | 0 => 0
  | n + 1 => w_sum w f n + w_of w (w_of w f (8 + n)) 1
def wf_hdr (w : Int → Int) : Prop := (1 ≤ w 0 ∧ w 0 ≤ 40) ∧ (0 ≤ w 1 ∧ w 1 ≤ 20) ∧ (0 ≤ w 2 ∧ w 2 ≤ 20) ∧ (0 ≤ w 3 ∧ w 3 ≤ 20) ∧ (0 ≤ w 4 ∧ w 4 ≤ 999) ∧ (0 ≤ w 5 ∧ w 5 ≤ 99) ∧ (0 ≤ w 6 ∧ w 6 ≤ 99)
def wf_one (w : Int → Int) (f : Int) : Prop := ((-1 ≤ w_of w f 0 ∧ w_of w f 0 < f) ∧ (0 < f → 0 ≤ w_of w f 0) ∧ (f = 0 → w_of w f 0 = -1 ∧ w_of w f 6 = 0)) ∧ (0 ≤ w_of w f 1 ∧ w_of w f 1 ≤ 200) ∧ (0 ≤ w_of w f 2 ∧ w_of w f 2 ≤ 999) ∧ (0 ≤ w_of w f 3 ∧ w_of w f 3 ≤ 20) ∧ (0 ≤ w_of w f 4 ∧ w_of w f 4 ≤ 99) ∧ (0 ≤ w_of w f 5 ∧ w_of w f 5 ≤ 20) ∧ (0 ≤ w_of w f 6 ∧ w_of w f 6 ≤ 4) ∧ (0 ≤ w_of w f 7 ∧ w_of w f 7 ≤ 5)
def wf_kid (w : Int → Int) (f : Int) : Prop := ∀ i, 0 ≤ i → i < w_of w f 7 → f < w_of w f (8 + i) ∧ w_of w f (8 + i) < w 0 ∧ w_of w (w_of w f (8 + i)) 0 = f ∧ w_of w (w_of w f (8 + i)) 6 = w_of w f 6 + 1
def wf_inc (w : Int → Int) (f : Int) : Prop := ∀ i j, 0 ≤ i → i < j → j < w_of w f 7 → w_of w f (8 + i) < w_of w f (8 + j)
def wf_par (w : Int → Int) (f : Int) : Prop := 0 < f → ∃ i, 0 ≤ i ∧ i < w_of w (w_of w f 0) 7 ∧ w_of w (w_of w f 0) (8 + i) = f
def wf (w : Int → Int) : Prop := wf_hdr w ∧ ∀ f, 0 ≤ f → f < w 0 → wf_one w f ∧ wf_kid w f ∧ wf_inc w f ∧ wf_par w f
def wf_100 (w : Int → Int) : Prop := ∀ f, 0 ≤ f → f < w 0 → 0 < w_of w f 7 → w_sum w f (w_of w f 7).toNat = 100
def wn (w : Int → Int) : Prop := (0 ≤ w 8 ∧ w 8 < w 0) ∧ (0 ≤ w 9 ∧ w 9 ≤ 20) ∧ (0 ≤ w 10 ∧ w 10 ≤ 1) ∧ (-(100000 * w 12) ≤ w 11 ∧ w 11 ≤ 100000 * w 12) ∧ w 12 = w_of w (w 8) 6
def wq (w : Int → Int) : Prop := ∀ f, 0 ≤ f → f < w 0 → w_of w f 2 ≤ 99 ∧ (-20 ≤ w (536 + 2 * f) ∧ w (536 + 2 * f) ≤ 20) ∧ (0 ≤ w (536 + 2 * f + 1) ∧ w (536 + 2 * f + 1) ≤ 1)
def wW (w : Int → Int) : Prop := wf w ∧ wf_100 w ∧ wn w ∧ wq w
theorem wf_h {w : Int → Int} (h : wf w) : wf_hdr w := h.1
theorem wf_f {w : Int → Int} (h : wf w) {f : Int} (h0 : 0 ≤ f) (h1 : f < w 0) : wf_one w f := (h.2 f h0 h1).1
theorem wf_k {w : Int → Int} (h : wf w) {f i : Int} (h0 : 0 ≤ f) (h1 : f < w 0) (h2 : 0 ≤ i) (h3 : i < w_of w f 7) : f < w_of w f (8 + i) ∧ w_of w f (8 + i) < w 0 ∧ w_of w (w_of w f (8 + i)) 0 = f ∧ w_of w (w_of w f (8 + i)) 6 = w_of w f 6 + 1 := (h.2 f h0 h1).2.1 i h2 h3
theorem wf_i {w : Int → Int} (h : wf w) {f i j : Int} (h0 : 0 ≤ f) (h1 : f < w 0) (h2 : 0 ≤ i) (h3 : i < j) (h4 : j < w_of w f 7) : w_of w f (8 + i) < w_of w f (8 + j) := (h.2 f h0 h1).2.2.1 i j h2 h3 h4
theorem wf_p {w : Int → Int} (h : wf w) {f : Int} (h0 : 0 < f) (h1 : f < w 0) : ∃ i, 0 ≤ i ∧ i < w_of w (w_of w f 0) 7 ∧ w_of w (w_of w f 0) (8 + i) = f := (h.2 f (by omega) h1).2.2.2 h0
theorem wf_u {w : Int → Int} (h : wf w) {f : Int} (h0 : 0 < f) (h1 : f < w 0) : 0 ≤ w_of w f 0 ∧ w_of w f 0 < f ∧ w_of w f 6 = w_of w (w_of w f 0) 6 + 1 := by
  have a := wf_f h (f := f) (by omega) h1
  unfold wf_one at a
  obtain ⟨i, i0, i1, e⟩ := wf_p h h0 h1
  have b := wf_k h (f := w_of w f 0) (i := i) (by omega) (by omega) i0 i1
  rw [e] at b
  exact ⟨by omega, by omega, b.2.2.2⟩
/-! the class's tree j and scene j hold the world w -/
def mir (σ : x_S) (j : Nat) (w : Int → Int) : Prop := (σ 6 j 0 = w 1 ∧ σ 6 j 1 = w 2 ∧ σ 6 j 2 = w 3 ∧ σ 6 j 3 = w 4 ∧ σ 6 j 4 = w 5 ∧ σ 6 j 5 = w 6 ∧ σ 6 j 6 = w 0) ∧ ∀ f, 0 ≤ f → f < w 0 → (σ 7 j f = w_of w f 0 ∧ σ 8 j f = w_of w f 1 ∧ σ 9 j f = w_of w f 2 ∧ σ 10 j f = w_of w f 3 ∧ σ 11 j f = w_of w f 4 ∧ σ 12 j f = w_of w f 5 ∧ σ 13 j f = w_of w f 6 ∧ σ 14 j f = w_of w f 7) ∧ ∀ i, 0 ≤ i → i < w_of w f 7 → σ 15 j (f * 5 + i) = w_of w f (8 + i)
def mis (σ : x_S) (j : Nat) (w : Int → Int) : Prop := (σ 20 j 3 = w 8 ∧ σ 20 j 4 = w 9 ∧ σ 20 j 5 = w 10 ∧ σ 20 j 6 = w 11 ∧ σ 20 j 7 = w 12) ∧ ∀ f, 0 ≤ f → f < w 0 → σ 21 j f = w (536 + 2 * f) ∧ σ 22 j f = w (536 + 2 * f + 1)
section MIR
variable {σ : x_S} {j : Nat} {w : Int → Int} {f i : Int}
theorem mi_start (h : mir σ j w) : σ 6 j 0 = w 1 := h.1.1
theorem mi_cap (h : mir σ j w) : σ 6 j 1 = w 2 := h.1.2.1
theorem mi_wide (h : mir σ j w) : σ 6 j 2 = w 3 := h.1.2.2.1
theorem mi_wing (h : mir σ j w) : σ 6 j 3 = w 4 := h.1.2.2.2.1
theorem mi_hold (h : mir σ j w) : σ 6 j 4 = w 5 := h.1.2.2.2.2.1
theorem mi_left (h : mir σ j w) : σ 6 j 5 = w 6 := h.1.2.2.2.2.2.1
theorem mi_size (h : mir σ j w) : σ 6 j 6 = w 0 := h.1.2.2.2.2.2.2
theorem mi_under (h : mir σ j w) (h0 : 0 ≤ f) (h1 : f < w 0) : σ 7 j f = w_of w f 0 := (h.2 f h0 h1).1.1
theorem mi_chance (h : mir σ j w) (h0 : 0 ≤ f) (h1 : f < w 0) : σ 8 j f = w_of w f 1 := (h.2 f h0 h1).1.2.1
theorem mi_price (h : mir σ j w) (h0 : 0 ≤ f) (h1 : f < w 0) : σ 9 j f = w_of w f 2 := (h.2 f h0 h1).1.2.2.1
theorem mi_most (h : mir σ j w) (h0 : 0 ≤ f) (h1 : f < w 0) : σ 10 j f = w_of w f 3 := (h.2 f h0 h1).1.2.2.2.1
theorem mi_sell (h : mir σ j w) (h0 : 0 ≤ f) (h1 : f < w 0) : σ 11 j f = w_of w f 4 := (h.2 f h0 h1).1.2.2.2.2.1
theorem mi_need (h : mir σ j w) (h0 : 0 ≤ f) (h1 : f < w 0) : σ 12 j f = w_of w f 5 := (h.2 f h0 h1).1.2.2.2.2.2.1
theorem mi_far (h : mir σ j w) (h0 : 0 ≤ f) (h1 : f < w 0) : σ 13 j f = w_of w f 6 := (h.2 f h0 h1).1.2.2.2.2.2.2.1
theorem mi_kids (h : mir σ j w) (h0 : 0 ≤ f) (h1 : f < w 0) : σ 14 j f = w_of w f 7 := (h.2 f h0 h1).1.2.2.2.2.2.2.2
theorem mi_kid (h : mir σ j w) (h0 : 0 ≤ f) (h1 : f < w 0) (h2 : 0 ≤ i) (h3 : i < w_of w f 7) : σ 15 j (f * 5 + i) = w_of w f (8 + i) := (h.2 f h0 h1).2 i h2 h3
theorem mi_kid0 (h : mir σ j w) (h0 : 0 ≤ f) (h1 : f < w 0) (h3 : 0 < w_of w f 7) : σ 15 j (f * 5) = w_of w f 8 := by
  have e := mi_kid h h0 h1 (Int.le_refl 0) h3
  rw [Int.add_zero] at e
  exact e
theorem ms_fork (h : mis σ j w) : σ 20 j 3 = w 8 := h.1.1
theorem ms_stock (h : mis σ j w) : σ 20 j 4 = w 9 := h.1.2.1
theorem ms_wide (h : mis σ j w) : σ 20 j 5 = w 10 := h.1.2.2.1
theorem ms_spent (h : mis σ j w) : σ 20 j 6 = w 11 := h.1.2.2.2.1
theorem ms_years (h : mis σ j w) : σ 20 j 7 = w 12 := h.1.2.2.2.2
theorem ms_x (h : mis σ j w) (h0 : 0 ≤ f) (h1 : f < w 0) : σ 21 j f = w (536 + 2 * f) := (h.2 f h0 h1).1
theorem ms_b (h : mis σ j w) (h0 : 0 ≤ f) (h1 : f < w 0) : σ 22 j f = w (536 + 2 * f + 1) := (h.2 f h0 h1).2
/-! a store that keeps the tree's cells keeps the mirror -/
theorem mir_eq {σ' : x_S} (h : mir σ j w) (e : ∀ c, 6 ≤ c → c ≤ 15 → σ' c j = σ c j) : mir σ' j w := by
  unfold mir
  rw [e 6 (by omega) (by omega), e 7 (by omega) (by omega), e 8 (by omega) (by omega), e 9 (by omega) (by omega), e 10 (by omega) (by omega), e 11 (by omega) (by omega), e 12 (by omega) (by omega), e 13 (by omega) (by omega), e 14 (by omega) (by omega), e 15 (by omega) (by omega)]
  exact h
theorem mis_eq {σ' : x_S} (h : mis σ j w) (e : ∀ c, 20 ≤ c → c ≤ 22 → σ' c j = σ c j) : mis σ' j w := by
  unfold mis
  rw [e 20 (by omega) (by omega), e 21 (by omega) (by omega), e 22 (by omega) (by omega)]
  exact h
end MIR

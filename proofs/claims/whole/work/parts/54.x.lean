/-! least values; what a table of least values must be -/
def x_ml (mk : Int) (S : Int → Prop) (v : Int) : Prop := (v = mk ∧ ∀ u, ¬ S u) ∨ (S v ∧ ∀ u, S u → v ≤ u)
theorem ml_uniq {mk v v' : Int} {S : Int → Prop} (h : x_ml mk S v) (h' : x_ml mk S v') : v = v' := by
  rcases h with ⟨rfl, h⟩ | ⟨hs, h⟩
  · rcases h' with ⟨rfl, _⟩ | ⟨hs', _⟩
    · rfl
    · exact absurd hs' (h v')
  · rcases h' with ⟨rfl, h'⟩ | ⟨hs', h'⟩
    · exact absurd hs (h' v)
    · have := h v' hs'
      have := h' v hs
      omega
theorem ml_cg {mk v : Int} {S S' : Int → Prop} (h : x_ml mk S v) (e : ∀ u, S u ↔ S' u) : x_ml mk S' v := by
  rcases h with ⟨rfl, h⟩ | ⟨hs, h⟩
  · exact Or.inl ⟨rfl, fun u z => h u ((e u).mpr z)⟩
  · exact Or.inr ⟨(e v).mp hs, fun u z => h u ((e u).mpr z)⟩
theorem ml_tr {m1 m2 v1 v2 : Int} {S : Int → Prop} (h1 : x_ml m1 S v1) (h2 : x_ml m2 S v2) : (v1 = m1 ∧ v2 = m2 ∧ ∀ u, ¬ S u) ∨ (v1 = v2 ∧ S v1 ∧ ∀ u, S u → v1 ≤ u) := by
  rcases h1 with ⟨rfl, a⟩ | ⟨a, b⟩
  · rcases h2 with ⟨rfl, _⟩ | ⟨c, _⟩
    · exact Or.inl ⟨rfl, rfl, a⟩
    · exact absurd c (a _)
  · rcases h2 with ⟨rfl, c⟩ | ⟨c, e⟩
    · exact absurd a (c _)
    · have := b _ c
      have := e _ a
      exact Or.inr ⟨by omega, a, b⟩
theorem ml_nil {mk : Int} {S : Int → Prop} (h : ∀ u, ¬ S u) : x_ml mk S mk := Or.inl ⟨rfl, h⟩
theorem ml_add {mk v u : Int} {S : Int → Prop} (h : x_ml mk S v) (hm : ∀ z, S z → z ≠ mk) : x_ml mk (fun z => S z ∨ z = u) (if v = mk ∨ u < v then u else v) := by
  rcases h with ⟨rfl, h⟩ | ⟨hs, h⟩
  · rw [if_pos (Or.inl rfl)]
    exact Or.inr ⟨Or.inr rfl, fun z hz => hz.elim (fun q => absurd q (h z)) (fun q => by omega)⟩
  · by_cases c : u < v
    · rw [if_pos (Or.inr c)]
      exact Or.inr ⟨Or.inr rfl, fun z hz => hz.elim (fun q => by have := h z q; omega) (fun q => by omega)⟩
    · rw [if_neg (fun q => q.elim (hm v hs) c)]
      exact Or.inr ⟨Or.inl hs, fun z hz => hz.elim (fun q => h z q) (fun q => by omega)⟩
def r_dead (mk : Int) (w T : Int → Int) (f s : Int) : Prop := ∃ i, 0 ≤ i ∧ i < w_of w f 7 ∧ T (42 * w_of w f (8 + i) + s) = mk
def r_sum (w T : Int → Int) (f s : Int) : Nat → Int
  | 0 => 0
  | n + 1 => r_sum w T f s n + w_of w (w_of w f (8 + n)) 1 * T (42 * w_of w f (8 + n) + s)
def r_max (w T : Int → Int) (f s : Int) : Nat → Int
  | 0 => (-9223372036854775808)
  | n + 1 => max (r_max w T f s n) (T (42 * w_of w f (8 + n) + s))
def r_of (c E : Int) (w L T : Int → Int) (f s : Int) : Int := if p_end w E f then (if c = 2 then - L f else 0) else if c = 0 then r_sum w T f s (w_of w f 7).toNat else r_max w T f s (w_of w f 7).toNat
def r_ok (mk E : Int) (w T : Int → Int) (f s : Int) : Prop := p_end w E f ∨ ¬ r_dead mk w T f s
def v_sc (c : Int) (w : Int → Int) (f : Int) : Int := if c = 0 then x_pay (w_of w f 6) else 1
def v_of (c E : Int) (w L T : Int → Int) (f st wd b t : Int) : Int := v_sc c w f * p_cost w E f (t + w_of w f 5 - st) b t + r_of c E w L T f (21 * p_or wd b + t)
def v_mx (c v : Int) : Int := if c = 3 then max 0 v else v
def s_law (w : Int → Int) (Wd f st wd b t : Int) : Prop := (b = 0 ∨ (b = 1 ∧ wd = 0 ∧ w_of w f 6 ≤ Wd)) ∧ 0 ≤ t ∧ t ≤ p_room w (p_or wd b) ∧ t ≤ st + w_of w f 3 - w_of w f 5
def s_val (mk c E Wd : Int) (w L T : Int → Int) (f st wd u : Int) : Prop := ∃ b t, s_law w Wd f st wd b t ∧ r_ok mk E w T f (21 * p_or wd b + t) ∧ u = v_mx c (v_of c E w L T f st wd b t)
def g_row (mk c E Wd : Int) (w L T : Int → Int) (f : Int) : Prop := ∀ st wd, 0 ≤ st → st ≤ 20 → 0 ≤ wd → wd ≤ 1 → x_ml mk (s_val mk c E Wd w L T f st wd) (T (42 * f + (21 * wd + st)))
/-! ways from now on -/
def y_set (mk : Int) (w Y : Int → Int) (f t u : Int) : Prop := ∃ st wd b z, (0 ≤ st ∧ st ≤ 20) ∧ (0 ≤ wd ∧ wd ≤ 1) ∧ Y (42 * f + (21 * wd + st)) ≠ mk ∧ s_law w 4 f st wd b z ∧ t = 21 * p_or wd b + z ∧ u = Y (42 * f + (21 * wd + st)) + p_cost w 5 f (z + w_of w f 5 - st) b z
def y_end (mk : Int) (w Y : Int → Int) (f u : Int) : Prop := ∃ t, (0 ≤ t ∧ t < 42) ∧ y_set mk w Y f t u
def g_way (mk : Int) (w Y : Int → Int) : Prop := (∀ s, 0 ≤ s → s < 42 → Y (42 * w 8 + s) = if s = 21 * w 10 + w 9 then 0 else mk) ∧ ∀ k, w 8 < k → k < w 0 → p_fr w (w 8) k → ∀ t, 0 ≤ t → t < 42 → x_ml mk (y_set mk w Y (w_of w k 0) t) (Y (42 * k + t))
def g_wayC (w Y Lc : Int → Int) : Prop := g_way 2147483647 w Y ∧ ∀ e, w 8 ≤ e → e < w 0 → p_fr w (w 8) e → w_of w e 7 = 0 → ∃ z, x_ml 2147483647 (y_end 2147483647 w Y e) z ∧ Lc e = if z = 2147483647 then 0 else z
/-! the invariant -/
def iW (σ : x_S) : Prop := wW (σ 51 0) ∧ mir σ 1 (σ 51 0) ∧ mis σ 1 (σ 51 0)
def iT (σ : x_S) : Prop :=
  ((σ 0 0 13 = 0 ∨ σ 0 0 13 = 1) ∧ (σ 0 0 13 = 1 → ∀ f, 0 ≤ f → f < σ 51 0 0 → g_row 9223372036854775807 0 5 4 (σ 51 0) (fun _ => 0) (σ 25 0) f)) ∧
  ((σ 0 0 14 = 0 ∨ σ 0 0 14 = 1) ∧ (σ 0 0 14 = 1 → ∀ f, 0 ≤ f → f < σ 51 0 0 → g_row 9223372036854775807 1 5 4 (σ 51 0) (fun _ => 0) (σ 25 1) f)) ∧
  ((σ 0 0 15 = 0 ∨ σ 0 0 15 = 1) ∧ (σ 0 0 15 = 1 → g_wayC (σ 51 0) (σ 31 0) (σ 30 0))) ∧
  ((σ 0 0 16 = 0 ∨ σ 0 0 16 = 1) ∧ (σ 0 0 16 = 1 → ∃ Y, g_wayC (σ 51 0) Y (σ 26 2) ∧ ∀ f, 0 ≤ f → f < σ 51 0 0 → p_fr (σ 51 0) (σ 51 0 8) f → g_row 9223372036854775807 2 5 4 (σ 51 0) (σ 26 2) (σ 25 2) f))
def iF (σ : x_S) : Prop := (σ 24 0 1 = 4 ∧ σ 24 0 2 = 5 ∧ σ 24 0 3 = 0) ∧ (σ 24 1 1 = 4 ∧ σ 24 1 2 = 5 ∧ σ 24 1 3 = 1) ∧ (σ 24 2 1 = 4 ∧ σ 24 2 2 = 5 ∧ σ 24 2 3 = 2)
def iM (σ : x_S) : Prop := σ 50 0 17 = 5 ∧ σ 50 0 18 = 4 ∧ σ 50 0 19 = -1 ∧ σ 0 0 17 = σ 50 0 33
def iS (σ : x_S) : Prop := (∀ s, 0 ≤ s → s < 4 → (σ 17 0 s = -1 ∧ σ 70 0 s = -1) ∨ ((0 ≤ σ 17 0 s ∧ σ 17 0 s ≤ 3) ∧ σ 71 0 s = σ 17 0 s ∧ (0 ≤ σ 70 0 s ∧ σ 70 0 s ≤ 60) ∧ σ 18 0 s = σ 70 0 s)) ∧ (∀ i, 0 ≤ i → i < 240 → σ 19 0 i = σ 72 0 i ∧ -9223372036854775808 ≤ σ 72 0 i ∧ σ 72 0 i ≤ 9223372036854775807)
def iR (σ : x_S) : Prop := (σ 3 0 1 = σ 50 0 5 ∧ 0 ≤ σ 50 0 5 ∧ σ 50 0 5 ≤ 1800) ∧ (∀ i, 0 ≤ i → i < σ 50 0 5 → σ 4 0 i = σ 54 0 i ∧ -128 ≤ σ 54 0 i ∧ σ 54 0 i < 128) ∧ (σ 3 0 2 = σ 50 0 12 ∧ σ 3 0 3 = σ 50 0 13)
def x_im (σ : x_S) (k : Nat) : Int → Int := fun i => σ 52 0 (616 * (k : Int) + i)
def iI (σ : x_S) : Prop := ∀ k : Nat, k < 3 → (σ 53 0 k = 0 ∨ σ 53 0 k = 1) ∧ σ 20 (k + 2) 8 = σ 53 0 k ∧ (σ 53 0 k = 1 → wW (x_im σ k) ∧ mir σ (k + 2) (x_im σ k) ∧ mis σ (k + 2) (x_im σ k))
def iX (L : Int) (S0 : Int → Int) (σ : x_S) : Prop := (∀ z, σ 100 0 z = S0 z) ∧ σ 100 1 0 = L
def iN (L : Int) (S0 : Int → Int) (σ : x_S) : Prop := iW σ ∧ iT σ ∧ iF σ ∧ iM σ ∧ iS σ ∧ iR σ ∧ iI σ ∧ iX L S0 σ
/-! what a change elsewhere keeps -/
theorem iW_eq {σ σ' : x_S} (h : iW σ) (e : σ' 51 0 = σ 51 0) (e1 : ∀ c, 6 ≤ c → c ≤ 22 → σ' c 1 = σ c 1) : iW σ' := by
  unfold iW
  rw [e]
  exact ⟨h.1, mir_eq h.2.1 (fun c a b => e1 c a (by omega)), mis_eq h.2.2 (fun c a b => e1 c (by omega) b)⟩
theorem iT_eq {σ σ' : x_S} (h : iT σ) (e : σ' 51 0 = σ 51 0) (e0 : ∀ k, 13 ≤ k → k ≤ 16 → σ' 0 0 k = σ 0 0 k) (e1 : σ' 25 0 = σ 25 0) (e2 : σ' 25 1 = σ 25 1) (e3 : σ' 25 2 = σ 25 2) (e4 : σ' 26 2 = σ 26 2) (e5 : σ' 30 0 = σ 30 0) (e6 : σ' 31 0 = σ 31 0) : iT σ' := by
  unfold iT
  rw [e, e0 13 (by omega) (by omega), e0 14 (by omega) (by omega), e0 15 (by omega) (by omega), e0 16 (by omega) (by omega), e1, e2, e3, e4, e5, e6]
  exact h
theorem iF_eq {σ σ' : x_S} (h : iF σ) (e : ∀ j k, j < 3 → 1 ≤ k → k ≤ 3 → σ' 24 j k = σ 24 j k) : iF σ' := by
  unfold iF
  rw [e 0 1 (by omega) (by omega) (by omega), e 0 2 (by omega) (by omega) (by omega), e 0 3 (by omega) (by omega) (by omega), e 1 1 (by omega) (by omega) (by omega), e 1 2 (by omega) (by omega) (by omega), e 1 3 (by omega) (by omega) (by omega), e 2 1 (by omega) (by omega) (by omega), e 2 2 (by omega) (by omega) (by omega), e 2 3 (by omega) (by omega) (by omega)]
  exact h
theorem iM_eq {σ σ' : x_S} (h : iM σ) (e1 : σ' 50 0 17 = σ 50 0 17) (e2 : σ' 50 0 18 = σ 50 0 18) (e3 : σ' 50 0 19 = σ 50 0 19) (e4 : σ' 50 0 33 = σ 50 0 33) (e5 : σ' 0 0 17 = σ 0 0 17) : iM σ' := by
  unfold iM
  rw [e1, e2, e3, e4, e5]
  exact h
theorem iS_eq {σ σ' : x_S} (h : iS σ) (e : ∀ c, c = 17 ∨ c = 18 ∨ c = 19 ∨ c = 70 ∨ c = 71 ∨ c = 72 → σ' c 0 = σ c 0) : iS σ' := by
  unfold iS
  rw [e 17 (by omega), e 18 (by omega), e 19 (by omega), e 70 (by omega), e 71 (by omega), e 72 (by omega)]
  exact h
theorem iR_eq {σ σ' : x_S} (h : iR σ) (e1 : σ' 4 0 = σ 4 0) (e2 : σ' 54 0 = σ 54 0) (e3 : ∀ k, 1 ≤ k → k ≤ 3 → σ' 3 0 k = σ 3 0 k) (e4 : σ' 50 0 5 = σ 50 0 5) (e5 : σ' 50 0 12 = σ 50 0 12) (e6 : σ' 50 0 13 = σ 50 0 13) : iR σ' := by
  unfold iR
  rw [e1, e2, e3 1 (by omega) (by omega), e3 2 (by omega) (by omega), e3 3 (by omega) (by omega), e4, e5, e6]
  exact h
theorem iI_eq {σ σ' : x_S} (h : iI σ) (e1 : σ' 52 0 = σ 52 0) (e2 : σ' 53 0 = σ 53 0) (e3 : ∀ c j, 6 ≤ c → c ≤ 22 → 2 ≤ j → j ≤ 4 → σ' c j = σ c j) : iI σ' := by
  intro k hk
  have a := h k hk
  have ex : x_im σ' k = x_im σ k := by
    unfold x_im
    rw [e1]
  rw [e2, ex, e3 20 (k + 2) (by omega) (by omega) (by omega) (by omega)]
  exact ⟨a.1, a.2.1, fun z => ⟨(a.2.2 z).1, mir_eq (a.2.2 z).2.1 (fun c q1 q2 => e3 c (k + 2) q1 (by omega) (by omega) (by omega)), mis_eq (a.2.2 z).2.2 (fun c q1 q2 => e3 c (k + 2) (by omega) q2 (by omega) (by omega))⟩⟩
theorem iX_eq {L : Int} {S0 : Int → Int} {σ σ' : x_S} (h : iX L S0 σ) (e : ∀ j, σ' 100 j = σ 100 j) : iX L S0 σ' := by
  unfold iX
  rw [e 0, e 1]
  exact h
/-! cells that nothing rests on from call to call -/
def x_scr : List (Nat × Nat) := [(1, 0), (2, 0), (24, 0), (24, 1), (24, 2), (24, 3), (25, 3), (26, 0), (26, 1), (26, 3), (27, 0), (27, 1), (27, 2), (27, 3), (28, 0), (28, 1), (28, 2), (28, 3), (29, 0), (32, 0), (33, 0), (34, 0), (35, 0), (36, 0), (37, 0), (38, 0), (39, 0), (40, 0), (41, 0), (42, 0), (43, 0), (44, 0), (45, 0), (46, 0), (47, 0), (48, 0), (49, 0), (50, 0), (55, 0), (56, 0), (57, 0), (58, 0), (59, 0), (60, 0), (61, 0), (62, 0), (63, 0), (64, 0), (65, 0), (66, 0), (67, 0), (68, 0), (69, 0), (73, 0)]
theorem iN_scr {L : Int} {S0 : Int → Int} {σ σ' : x_S} (h : iN L S0 σ) (e : x_eqo x_scr σ σ') (ef : ∀ j k, j < 3 → 1 ≤ k → k ≤ 3 → σ' 24 j k = σ 24 j k) (em : ∀ k, k = 5 ∨ k = 12 ∨ k = 13 ∨ k = 17 ∨ k = 18 ∨ k = 19 ∨ k = 33 → σ' 50 0 k = σ 50 0 k) : iN L S0 σ' := by
  obtain ⟨hW, hT, hF, hM, hS, hR, hI, hX⟩ := h
  have n : ∀ c j, (c, j) ∉ x_scr → σ' c j = σ c j := e
  have n51 := n 51 0 (by decide)
  have n0 := n 0 0 (by decide)
  have n3 := n 3 0 (by decide)
  have nt : ∀ c j, 6 ≤ c → c ≤ 22 → 1 ≤ j → j ≤ 4 → σ' c j = σ c j := by
    intro c j a b _ _
    refine n c j ?_
    intro z
    have : ∀ p ∈ x_scr, ¬ (6 ≤ p.1 ∧ p.1 ≤ 22) := by decide
    exact this _ z ⟨a, b⟩
  refine ⟨iW_eq hW n51 (fun c a b => nt c 1 a b (by omega) (by omega)), iT_eq hT n51 (fun k _ _ => by rw [n0]) (n 25 0 (by decide)) (n 25 1 (by decide)) (n 25 2 (by decide)) (n 26 2 (by decide)) (n 30 0 (by decide)) (n 31 0 (by decide)), iF_eq hF ef, iM_eq hM (em 17 (by omega)) (em 18 (by omega)) (em 19 (by omega)) (em 33 (by omega)) (by rw [n0]), iS_eq hS ?_, iR_eq hR (n 4 0 (by decide)) (n 54 0 (by decide)) (fun k _ _ => by rw [n3]) (em 5 (by omega)) (em 12 (by omega)) (em 13 (by omega)), iI_eq hI (n 52 0 (by decide)) (n 53 0 (by decide)) (fun c j a b _ _ => nt c j a b (by omega) (by omega)), iX_eq hX ?_⟩
  · intro c hc
    rcases hc with rfl | rfl | rfl | rfl | rfl | rfl <;> exact n _ 0 (by decide)
  · intro j
    refine n 100 j ?_
    intro z
    have : ∀ p ∈ x_scr, ¬ (100 ≤ p.1) := by decide
    exact this _ z (Nat.le_refl _)

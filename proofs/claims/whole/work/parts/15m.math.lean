theorem x_run_up1 : ∀ (n d m : Nat) (K : List x_I) (L st : List x_V) (k : x_K) (σ : x_S) (x : Option x_V × x_K × x_S), x_run n d m K L st k σ = some x → x_run (n + 1) d m K L st k σ = some x := by
  intro n
  induction n with
  | zero => intro d m K L st k σ x h; simp [x_run] at h
  | succ n ih =>
    intro d m K L st k σ x h
    match K with
    | [] => simp [x_run] at h
    | (op, a, b, c, e, p) :: K =>
      rw [x_run] at h ⊢
      split at h
      · rename_i hop
        rw [if_pos hop]
        split at h
        · exact ih _ _ _ _ _ _ _ _ h
        · cases h
      · rename_i hop
        rw [if_neg hop]
        split at h
        · rename_i hop2
          rw [if_pos hop2]
          split at h
          · exact ih _ _ _ _ _ _ _ _ h
          · exact ih _ _ _ _ _ _ _ _ h
          · cases h
        · rename_i hop2
          rw [if_neg hop2]
          split at h
          · rename_i hop3
            rw [if_pos hop3]
            exact h
          · rename_i hop3
            rw [if_neg hop3]
            split at h
            · split at h
              · rename_i hc
                rw [if_pos hc]
                split at h
                · rename_i hr
                  rw [ih _ _ _ _ _ _ _ _ hr]
                  exact ih _ _ _ _ _ _ _ _ h
                · cases h
              · cases h
            · cases h
theorem x_run_up {n n' d m : Nat} {K : List x_I} {L st : List x_V} {k : x_K} {σ : x_S} {x : Option x_V × x_K × x_S} (h : x_run n d m K L st k σ = some x) (hn : n ≤ n') : x_run n' d m K L st k σ = some x := by
  induction n' with
  | zero => rw [Nat.le_zero.mp hn] at h; exact h
  | succ n' ih =>
    by_cases e : n = n' + 1
    · rw [← e]; exact h
    · exact x_run_up1 _ _ _ _ _ _ _ _ _ (ih (by omega))
section XRS
variable {n d m : Nat} {K : List x_I} {L st : List x_V} {k : x_K} {σ : x_S} {a : Int} {b c e p op : Nat}
theorem x_rs {L' st' : List x_V} {k' : x_K} {σ' : x_S} (hop : op < 64) (h : x_sx op a b c e L st k σ = some (L', st', k', σ')) : x_run (n + 1) d m ((op, a, b, c, e, p) :: K) L st k σ = x_run n d m K L' st' k' σ' := by
  rw [x_run, if_pos hop, h]
theorem x_rn (hop : op < 64) (h : x_sx op a b c e L st k σ = none) : x_run (n + 1) d m ((op, a, b, c, e, p) :: K) L st k σ = none := by
  rw [x_run, if_pos hop, h]
theorem x_rb {t : Nat} {st' : List x_V} (hop : ¬ op < 64) (hop2 : op < 80) (h : x_br op b st = some (some t, st')) : x_run (n + 1) d m ((op, a, b, c, e, p) :: K) L st k σ = x_run n d m (x_blk m t) L st' k σ := by
  rw [x_run, if_neg hop, if_pos hop2, h]
theorem x_rbf {st' : List x_V} (hop : ¬ op < 64) (hop2 : op < 80) (h : x_br op b st = some (none, st')) : x_run (n + 1) d m ((op, a, b, c, e, p) :: K) L st k σ = x_run n d m K L st' k σ := by
  rw [x_run, if_neg hop, if_pos hop2, h]
theorem x_rbn (hop : ¬ op < 64) (hop2 : op < 80) (h : x_br op b st = none) : x_run (n + 1) d m ((op, a, b, c, e, p) :: K) L st k σ = none := by
  rw [x_run, if_neg hop, if_pos hop2, h]
theorem x_rr {r : Option x_V} (h1 : ¬ op < 64) (h2 : ¬ op < 80) (h3 : op < 84) (h : x_rt op (x_mZ m) st = some r) : x_run (n + 1) d m ((op, a, b, c, e, p) :: K) L st k σ = some (r, k, σ) := by
  rw [x_run, if_neg h1, if_neg h2, if_pos h3, h]
end XRS
theorem xm_273_0 : x_blk 273 0 = [(2, 0, 0, 0, 0, 0), (2, 0, 1, 0, 0, 1), (74, 0, 1, 0, 9, 2), (2, 0, 0, 0, 0, 5), (76, 0, 2, 0, 10, 6)] := id rfl
theorem xm_273_1 : x_blk 273 1 = [(2, 0, 1, 0, 0, 9), (77, 0, 2, 0, 0, 10)] := id rfl
theorem xm_273_2 : x_blk 273 2 = [(80, 0, 0, 0, 0, 10)] := id rfl
theorem xm_274_0 : x_blk 274 0 = [(2, 0, 0, 0, 0, 0), (2, 0, 1, 0, 0, 1), (72, 0, 1, 0, 9, 2), (2, 0, 0, 0, 0, 5), (76, 0, 2, 0, 10, 6)] := id rfl
theorem xm_274_1 : x_blk 274 1 = [(2, 0, 1, 0, 0, 9), (77, 0, 2, 0, 0, 10)] := id rfl
theorem xm_274_2 : x_blk 274 2 = [(80, 0, 0, 0, 0, 10)] := id rfl
theorem xm_275_0 : x_blk 275 0 = [(3, 0, 0, 0, 0, 0), (3, 0, 2, 0, 0, 1), (34, 0, 0, 0, 0, 2), (68, 0, 1, 0, 10, 3), (3, 0, 0, 0, 0, 6), (76, 0, 2, 0, 11, 7)] := id rfl
theorem xm_275_1 : x_blk 275 1 = [(3, 0, 2, 0, 0, 10), (77, 0, 2, 0, 0, 11)] := id rfl
theorem xm_275_2 : x_blk 275 2 = [(81, 0, 0, 0, 0, 11)] := id rfl
theorem xm_276_0 : x_blk 276 0 = [(3, 0, 0, 0, 0, 0), (3, 0, 2, 0, 0, 1), (34, 0, 0, 0, 0, 2), (66, 0, 1, 0, 10, 3), (3, 0, 0, 0, 0, 6), (76, 0, 2, 0, 11, 7)] := id rfl
theorem xm_276_1 : x_blk 276 1 = [(3, 0, 2, 0, 0, 10), (77, 0, 2, 0, 0, 11)] := id rfl
theorem xm_276_2 : x_blk 276 2 = [(81, 0, 0, 0, 0, 11)] := id rfl
theorem x_mt273 {n d : Nat} {as : List x_V} {k k1 : x_K} {σ σ1 : x_S} {r : Option x_V} (h2 : as.length = 2) (hl : (x_arg as).length ≤ 2) (h : x_run n d 273 (x_blk 273 0) (x_ini 273 as) [] k σ = some (r, k1, σ1)) :
    ∃ x y : Int, as = [xI x, xI y] ∧ x_b32 x = true ∧ x_b32 y = true ∧ r = some (xI (if y < x then y else x)) ∧ k1 = k ∧ σ1 = σ := by
  have h := x_run_up h (Nat.le_add_right n 10)
  obtain ⟨u, v, rfl⟩ : ∃ u v, as = [u, v] := by
    match as, h2 with
    | [u, v], _ => exact ⟨u, v, rfl⟩
  rw [xm_273_0] at h
  rcases u with x | x | ⟨c, j⟩ | x
  · rcases v with y | y | ⟨c, j⟩ | y
    · change x_run (n + 10) d 273 _ [xI x, xI y] [] k σ = _ at h
      cases hc : (x_b32 x && x_b32 y) with
      | false =>
        exfalso
        have e : ∀ K, x_run (n + 10) d 273 ((2, 0, 0, 0, 0, 0) :: (2, 0, 1, 0, 0, 1) :: (74, 0, 1, 0, 9, 2) :: K) [xI x, xI y] [] k σ = none := by
          intro K
          refine Eq.trans (x_rs (by decide) (by rfl)) ?_
          refine Eq.trans (x_rs (by decide) (by rfl)) ?_
          exact x_rbn (by decide) (by decide) (by show (if (x_b32 x && x_b32 y) = true then _ else none) = none; rw [hc]; rfl)
        rw [e] at h
        cases h
      | true =>
        by_cases hlt : y < x
        · have e : x_run (n + 10) d 273 (x_blk 273 0) [xI x, xI y] [] k σ = some (some (xI y), k, σ) := by
            rw [xm_273_0]
            refine Eq.trans (x_rs (by decide) (by rfl)) ?_
            refine Eq.trans (x_rs (by decide) (by rfl)) ?_
            refine Eq.trans (x_rb (t := 1) (st' := []) (by decide) (by decide) (by show (if (x_b32 x && x_b32 y) = true then x_if (decide (y < x)) 1 [] else none) = _; rw [hc, decide_eq_true hlt]; rfl)) ?_
            rw [xm_273_1]
            refine Eq.trans (x_rs (by decide) (by rfl)) ?_
            refine Eq.trans (x_rb (t := 2) (by decide) (by decide) (by rfl)) ?_
            rw [xm_273_2]
            exact x_rr (by decide) (by decide) (by decide) (by rfl)
          rw [xm_273_0] at e
          rw [e] at h
          cases h
          rw [Bool.and_eq_true] at hc
          exact ⟨x, y, rfl, hc.1, hc.2, by rw [if_pos hlt], rfl, rfl⟩
        · have e : x_run (n + 10) d 273 (x_blk 273 0) [xI x, xI y] [] k σ = some (some (xI x), k, σ) := by
            rw [xm_273_0]
            refine Eq.trans (x_rs (by decide) (by rfl)) ?_
            refine Eq.trans (x_rs (by decide) (by rfl)) ?_
            refine Eq.trans (x_rbf (st' := []) (by decide) (by decide) (by show (if (x_b32 x && x_b32 y) = true then x_if (decide (y < x)) 1 [] else none) = _; rw [hc, decide_eq_false hlt]; rfl)) ?_
            refine Eq.trans (x_rs (by decide) (by rfl)) ?_
            refine Eq.trans (x_rb (t := 2) (by decide) (by decide) (by rfl)) ?_
            rw [xm_273_2]
            exact x_rr (by decide) (by decide) (by decide) (by rfl)
          rw [xm_273_0] at e
          rw [e] at h
          cases h
          rw [Bool.and_eq_true] at hc
          exact ⟨x, y, rfl, hc.1, hc.2, by rw [if_neg hlt], rfl, rfl⟩
    · simp [x_arg] at hl
    · exfalso
      have e : ∀ K, x_run (n + 10) d 273 ((2, 0, 0, 0, 0, 0) :: (2, 0, 1, 0, 0, 1) :: K) (x_ini 273 [.inl x, .inr (.inr (.inl (c, j)))]) [] k σ = none := by
        intro K
        refine Eq.trans (x_rs (by decide) (by rfl)) ?_
        exact x_rn (by decide) (by rfl)
      rw [e] at h
      cases h
    · exfalso
      have e : ∀ K, x_run (n + 10) d 273 ((2, 0, 0, 0, 0, 0) :: (2, 0, 1, 0, 0, 1) :: K) (x_ini 273 [.inl x, .inr (.inr (.inr y))]) [] k σ = none := by
        intro K
        refine Eq.trans (x_rs (by decide) (by rfl)) ?_
        exact x_rn (by decide) (by rfl)
      rw [e] at h
      cases h
  · rcases v with y | y | ⟨c, j⟩ | y <;> simp [x_arg] at hl
  · exfalso
    have e : ∀ K, x_run (n + 10) d 273 ((2, 0, 0, 0, 0, 0) :: K) (x_ini 273 [.inr (.inr (.inl (c, j))), v]) [] k σ = none := by
      intro K
      rcases v with y | y | ⟨c, j⟩ | y <;> exact x_rn (by decide) (by rfl)
    rw [e] at h
    cases h
  · exfalso
    have e : ∀ K, x_run (n + 10) d 273 ((2, 0, 0, 0, 0, 0) :: K) (x_ini 273 [.inr (.inr (.inr x)), v]) [] k σ = none := by
      intro K
      rcases v with y | y | ⟨c, j⟩ | y <;> exact x_rn (by decide) (by rfl)
    rw [e] at h
    cases h
theorem x_mt274 {n d : Nat} {as : List x_V} {k k1 : x_K} {σ σ1 : x_S} {r : Option x_V} (h2 : as.length = 2) (hl : (x_arg as).length ≤ 2) (h : x_run n d 274 (x_blk 274 0) (x_ini 274 as) [] k σ = some (r, k1, σ1)) :
    ∃ x y : Int, as = [xI x, xI y] ∧ x_b32 x = true ∧ x_b32 y = true ∧ r = some (xI (if x < y then y else x)) ∧ k1 = k ∧ σ1 = σ := by
  have h := x_run_up h (Nat.le_add_right n 10)
  obtain ⟨u, v, rfl⟩ : ∃ u v, as = [u, v] := by
    match as, h2 with
    | [u, v], _ => exact ⟨u, v, rfl⟩
  rw [xm_274_0] at h
  rcases u with x | x | ⟨c, j⟩ | x
  · rcases v with y | y | ⟨c, j⟩ | y
    · change x_run (n + 10) d 274 _ [xI x, xI y] [] k σ = _ at h
      cases hc : (x_b32 x && x_b32 y) with
      | false =>
        exfalso
        have e : ∀ K, x_run (n + 10) d 274 ((2, 0, 0, 0, 0, 0) :: (2, 0, 1, 0, 0, 1) :: (72, 0, 1, 0, 9, 2) :: K) [xI x, xI y] [] k σ = none := by
          intro K
          refine Eq.trans (x_rs (by decide) (by rfl)) ?_
          refine Eq.trans (x_rs (by decide) (by rfl)) ?_
          exact x_rbn (by decide) (by decide) (by show (if (x_b32 x && x_b32 y) = true then _ else none) = none; rw [hc]; rfl)
        rw [e] at h
        cases h
      | true =>
        by_cases hlt : x < y
        · have e : x_run (n + 10) d 274 (x_blk 274 0) [xI x, xI y] [] k σ = some (some (xI y), k, σ) := by
            rw [xm_274_0]
            refine Eq.trans (x_rs (by decide) (by rfl)) ?_
            refine Eq.trans (x_rs (by decide) (by rfl)) ?_
            refine Eq.trans (x_rb (t := 1) (st' := []) (by decide) (by decide) (by show (if (x_b32 x && x_b32 y) = true then x_if (decide (x < y)) 1 [] else none) = _; rw [hc, decide_eq_true hlt]; rfl)) ?_
            rw [xm_274_1]
            refine Eq.trans (x_rs (by decide) (by rfl)) ?_
            refine Eq.trans (x_rb (t := 2) (by decide) (by decide) (by rfl)) ?_
            rw [xm_274_2]
            exact x_rr (by decide) (by decide) (by decide) (by rfl)
          rw [xm_274_0] at e
          rw [e] at h
          cases h
          rw [Bool.and_eq_true] at hc
          exact ⟨x, y, rfl, hc.1, hc.2, by rw [if_pos hlt], rfl, rfl⟩
        · have e : x_run (n + 10) d 274 (x_blk 274 0) [xI x, xI y] [] k σ = some (some (xI x), k, σ) := by
            rw [xm_274_0]
            refine Eq.trans (x_rs (by decide) (by rfl)) ?_
            refine Eq.trans (x_rs (by decide) (by rfl)) ?_
            refine Eq.trans (x_rbf (st' := []) (by decide) (by decide) (by show (if (x_b32 x && x_b32 y) = true then x_if (decide (x < y)) 1 [] else none) = _; rw [hc, decide_eq_false hlt]; rfl)) ?_
            refine Eq.trans (x_rs (by decide) (by rfl)) ?_
            refine Eq.trans (x_rb (t := 2) (by decide) (by decide) (by rfl)) ?_
            rw [xm_274_2]
            exact x_rr (by decide) (by decide) (by decide) (by rfl)
          rw [xm_274_0] at e
          rw [e] at h
          cases h
          rw [Bool.and_eq_true] at hc
          exact ⟨x, y, rfl, hc.1, hc.2, by rw [if_neg hlt], rfl, rfl⟩
    · simp [x_arg] at hl
    · exfalso
      have e : ∀ K, x_run (n + 10) d 274 ((2, 0, 0, 0, 0, 0) :: (2, 0, 1, 0, 0, 1) :: K) (x_ini 274 [.inl x, .inr (.inr (.inl (c, j)))]) [] k σ = none := by
        intro K
        refine Eq.trans (x_rs (by decide) (by rfl)) ?_
        exact x_rn (by decide) (by rfl)
      rw [e] at h
      cases h
    · exfalso
      have e : ∀ K, x_run (n + 10) d 274 ((2, 0, 0, 0, 0, 0) :: (2, 0, 1, 0, 0, 1) :: K) (x_ini 274 [.inl x, .inr (.inr (.inr y))]) [] k σ = none := by
        intro K
        refine Eq.trans (x_rs (by decide) (by rfl)) ?_
        exact x_rn (by decide) (by rfl)
      rw [e] at h
      cases h
  · rcases v with y | y | ⟨c, j⟩ | y <;> simp [x_arg] at hl
  · exfalso
    have e : ∀ K, x_run (n + 10) d 274 ((2, 0, 0, 0, 0, 0) :: K) (x_ini 274 [.inr (.inr (.inl (c, j))), v]) [] k σ = none := by
      intro K
      rcases v with y | y | ⟨c, j⟩ | y <;> exact x_rn (by decide) (by rfl)
    rw [e] at h
    cases h
  · exfalso
    have e : ∀ K, x_run (n + 10) d 274 ((2, 0, 0, 0, 0, 0) :: K) (x_ini 274 [.inr (.inr (.inr x)), v]) [] k σ = none := by
      intro K
      rcases v with y | y | ⟨c, j⟩ | y <;> exact x_rn (by decide) (by rfl)
    rw [e] at h
    cases h
theorem x_mq275 {x y : Int} : (0 < x_lcmp x y) ↔ y < x := by
  unfold x_lcmp
  split
  · omega
  · split <;> omega
theorem x_mp275 {x y : Int} : x_b32 (x_lcmp x y) = true := by
  unfold x_lcmp
  split
  · rfl
  · split <;> rfl
theorem x_mt275 {n d : Nat} {as : List x_V} {k k1 : x_K} {σ σ1 : x_S} {r : Option x_V} (h2 : as.length = 2) (hl : (x_arg as).length ≤ 4) (h : x_run n d 275 (x_blk 275 0) (x_ini 275 as) [] k σ = some (r, k1, σ1)) :
    ∃ x y : Int, as = [xJ x, xJ y] ∧ x_b64 x = true ∧ x_b64 y = true ∧ r = some (xJ (if y < x then y else x)) ∧ k1 = k ∧ σ1 = σ := by
  have h := x_run_up h (Nat.le_add_right n 10)
  obtain ⟨u, v, rfl⟩ : ∃ u v, as = [u, v] := by
    match as, h2 with
    | [u, v], _ => exact ⟨u, v, rfl⟩
  rw [xm_275_0] at h
  rcases u with x | x | ⟨c, j⟩ | x
  · exfalso
    have e : ∀ K, x_run (n + 10) d 275 ((3, 0, 0, 0, 0, 0) :: K) (x_ini 275 [.inl x, v]) [] k σ = none := by
      intro K
      rcases v with y | y | ⟨c, j⟩ | y <;> exact x_rn (by decide) (by rfl)
    rw [e] at h
    cases h
  · rcases v with y | y | ⟨c, j⟩ | y
    · exfalso
      have e : ∀ K, x_run (n + 10) d 275 ((3, 0, 0, 0, 0, 0) :: (3, 0, 2, 0, 0, 1) :: K) (x_ini 275 [.inr (.inl x), .inl y]) [] k σ = none := by
        intro K
        refine Eq.trans (x_rs (by decide) (by rfl)) ?_
        exact x_rn (by decide) (by rfl)
      rw [e] at h
      cases h
    · change x_run (n + 10) d 275 _ [xJ x, xU, xJ y, xU] [] k σ = _ at h
      cases hc : (x_b64 x && x_b64 y) with
      | false =>
        exfalso
        have e : ∀ K, x_run (n + 10) d 275 ((3, 0, 0, 0, 0, 0) :: (3, 0, 2, 0, 0, 1) :: (34, 0, 0, 0, 0, 2) :: K) [xJ x, xU, xJ y, xU] [] k σ = none := by
          intro K
          refine Eq.trans (x_rs (by decide) (by rfl)) ?_
          refine Eq.trans (x_rs (by decide) (by rfl)) ?_
          exact x_rn (by decide) (by show (if (x_b64 x && x_b64 y) = true then _ else none) = none; rw [hc]; rfl)
        rw [e] at h
        cases h
      | true =>
        have es : x_sx 34 0 0 0 0 [xJ x, xU, xJ y, xU] [xJ y, xJ x] k σ = some ([xJ x, xU, xJ y, xU], [xI (x_lcmp x y)], k, σ) := by
          show (if (x_b64 x && x_b64 y) = true then _ else none) = _
          rw [hc]
          rfl
        by_cases hlt : y < x
        · have e : x_run (n + 10) d 275 (x_blk 275 0) [xJ x, xU, xJ y, xU] [] k σ = some (some (xJ y), k, σ) := by
            rw [xm_275_0]
            refine Eq.trans (x_rs (by decide) (by rfl)) ?_
            refine Eq.trans (x_rs (by decide) (by rfl)) ?_
            refine Eq.trans (x_rs (by decide) es) ?_
            refine Eq.trans (x_rb (t := 1) (st' := []) (by decide) (by decide) (by show (if x_b32 (x_lcmp x y) = true then x_if (decide (0 < x_lcmp x y)) 1 [] else none) = _; rw [x_mp275, decide_eq_true (x_mq275.mpr hlt)]; rfl)) ?_
            rw [xm_275_1]
            refine Eq.trans (x_rs (by decide) (by rfl)) ?_
            refine Eq.trans (x_rb (t := 2) (by decide) (by decide) (by rfl)) ?_
            rw [xm_275_2]
            exact x_rr (by decide) (by decide) (by decide) (by rfl)
          rw [xm_275_0] at e
          rw [e] at h
          cases h
          rw [Bool.and_eq_true] at hc
          exact ⟨x, y, rfl, hc.1, hc.2, by rw [if_pos hlt], rfl, rfl⟩
        · have e : x_run (n + 10) d 275 (x_blk 275 0) [xJ x, xU, xJ y, xU] [] k σ = some (some (xJ x), k, σ) := by
            rw [xm_275_0]
            refine Eq.trans (x_rs (by decide) (by rfl)) ?_
            refine Eq.trans (x_rs (by decide) (by rfl)) ?_
            refine Eq.trans (x_rs (by decide) es) ?_
            refine Eq.trans (x_rbf (st' := []) (by decide) (by decide) (by show (if x_b32 (x_lcmp x y) = true then x_if (decide (0 < x_lcmp x y)) 1 [] else none) = _; rw [x_mp275, decide_eq_false (fun z => hlt (x_mq275.mp z))]; rfl)) ?_
            refine Eq.trans (x_rs (by decide) (by rfl)) ?_
            refine Eq.trans (x_rb (t := 2) (by decide) (by decide) (by rfl)) ?_
            rw [xm_275_2]
            exact x_rr (by decide) (by decide) (by decide) (by rfl)
          rw [xm_275_0] at e
          rw [e] at h
          cases h
          rw [Bool.and_eq_true] at hc
          exact ⟨x, y, rfl, hc.1, hc.2, by rw [if_neg hlt], rfl, rfl⟩
    · exfalso
      have e : ∀ K, x_run (n + 10) d 275 ((3, 0, 0, 0, 0, 0) :: (3, 0, 2, 0, 0, 1) :: K) (x_ini 275 [.inr (.inl x), .inr (.inr (.inl (c, j)))]) [] k σ = none := by
        intro K
        refine Eq.trans (x_rs (by decide) (by rfl)) ?_
        exact x_rn (by decide) (by rfl)
      rw [e] at h
      cases h
    · exfalso
      have e : ∀ K, x_run (n + 10) d 275 ((3, 0, 0, 0, 0, 0) :: (3, 0, 2, 0, 0, 1) :: K) (x_ini 275 [.inr (.inl x), .inr (.inr (.inr y))]) [] k σ = none := by
        intro K
        refine Eq.trans (x_rs (by decide) (by rfl)) ?_
        exact x_rn (by decide) (by rfl)
      rw [e] at h
      cases h
  · exfalso
    have e : ∀ K, x_run (n + 10) d 275 ((3, 0, 0, 0, 0, 0) :: K) (x_ini 275 [.inr (.inr (.inl (c, j))), v]) [] k σ = none := by
      intro K
      rcases v with y | y | ⟨c, j⟩ | y <;> exact x_rn (by decide) (by rfl)
    rw [e] at h
    cases h
  · exfalso
    have e : ∀ K, x_run (n + 10) d 275 ((3, 0, 0, 0, 0, 0) :: K) (x_ini 275 [.inr (.inr (.inr x)), v]) [] k σ = none := by
      intro K
      rcases v with y | y | ⟨c, j⟩ | y <;> exact x_rn (by decide) (by rfl)
    rw [e] at h
    cases h
theorem x_mq276 {x y : Int} : (x_lcmp x y < 0) ↔ x < y := by
  unfold x_lcmp
  split
  · omega
  · split <;> omega
theorem x_mp276 {x y : Int} : x_b32 (x_lcmp x y) = true := by
  unfold x_lcmp
  split
  · rfl
  · split <;> rfl
theorem x_mt276 {n d : Nat} {as : List x_V} {k k1 : x_K} {σ σ1 : x_S} {r : Option x_V} (h2 : as.length = 2) (hl : (x_arg as).length ≤ 4) (h : x_run n d 276 (x_blk 276 0) (x_ini 276 as) [] k σ = some (r, k1, σ1)) :
    ∃ x y : Int, as = [xJ x, xJ y] ∧ x_b64 x = true ∧ x_b64 y = true ∧ r = some (xJ (if x < y then y else x)) ∧ k1 = k ∧ σ1 = σ := by
  have h := x_run_up h (Nat.le_add_right n 10)
  obtain ⟨u, v, rfl⟩ : ∃ u v, as = [u, v] := by
    match as, h2 with
    | [u, v], _ => exact ⟨u, v, rfl⟩
  rw [xm_276_0] at h
  rcases u with x | x | ⟨c, j⟩ | x
  · exfalso
    have e : ∀ K, x_run (n + 10) d 276 ((3, 0, 0, 0, 0, 0) :: K) (x_ini 276 [.inl x, v]) [] k σ = none := by
      intro K
      rcases v with y | y | ⟨c, j⟩ | y <;> exact x_rn (by decide) (by rfl)
    rw [e] at h
    cases h
  · rcases v with y | y | ⟨c, j⟩ | y
    · exfalso
      have e : ∀ K, x_run (n + 10) d 276 ((3, 0, 0, 0, 0, 0) :: (3, 0, 2, 0, 0, 1) :: K) (x_ini 276 [.inr (.inl x), .inl y]) [] k σ = none := by
        intro K
        refine Eq.trans (x_rs (by decide) (by rfl)) ?_
        exact x_rn (by decide) (by rfl)
      rw [e] at h
      cases h
    · change x_run (n + 10) d 276 _ [xJ x, xU, xJ y, xU] [] k σ = _ at h
      cases hc : (x_b64 x && x_b64 y) with
      | false =>
        exfalso
        have e : ∀ K, x_run (n + 10) d 276 ((3, 0, 0, 0, 0, 0) :: (3, 0, 2, 0, 0, 1) :: (34, 0, 0, 0, 0, 2) :: K) [xJ x, xU, xJ y, xU] [] k σ = none := by
          intro K
          refine Eq.trans (x_rs (by decide) (by rfl)) ?_
          refine Eq.trans (x_rs (by decide) (by rfl)) ?_
          exact x_rn (by decide) (by show (if (x_b64 x && x_b64 y) = true then _ else none) = none; rw [hc]; rfl)
        rw [e] at h
        cases h
      | true =>
        have es : x_sx 34 0 0 0 0 [xJ x, xU, xJ y, xU] [xJ y, xJ x] k σ = some ([xJ x, xU, xJ y, xU], [xI (x_lcmp x y)], k, σ) := by
          show (if (x_b64 x && x_b64 y) = true then _ else none) = _
          rw [hc]
          rfl
        by_cases hlt : x < y
        · have e : x_run (n + 10) d 276 (x_blk 276 0) [xJ x, xU, xJ y, xU] [] k σ = some (some (xJ y), k, σ) := by
            rw [xm_276_0]
            refine Eq.trans (x_rs (by decide) (by rfl)) ?_
            refine Eq.trans (x_rs (by decide) (by rfl)) ?_
            refine Eq.trans (x_rs (by decide) es) ?_
            refine Eq.trans (x_rb (t := 1) (st' := []) (by decide) (by decide) (by show (if x_b32 (x_lcmp x y) = true then x_if (decide (x_lcmp x y < 0)) 1 [] else none) = _; rw [x_mp276, decide_eq_true (x_mq276.mpr hlt)]; rfl)) ?_
            rw [xm_276_1]
            refine Eq.trans (x_rs (by decide) (by rfl)) ?_
            refine Eq.trans (x_rb (t := 2) (by decide) (by decide) (by rfl)) ?_
            rw [xm_276_2]
            exact x_rr (by decide) (by decide) (by decide) (by rfl)
          rw [xm_276_0] at e
          rw [e] at h
          cases h
          rw [Bool.and_eq_true] at hc
          exact ⟨x, y, rfl, hc.1, hc.2, by rw [if_pos hlt], rfl, rfl⟩
        · have e : x_run (n + 10) d 276 (x_blk 276 0) [xJ x, xU, xJ y, xU] [] k σ = some (some (xJ x), k, σ) := by
            rw [xm_276_0]
            refine Eq.trans (x_rs (by decide) (by rfl)) ?_
            refine Eq.trans (x_rs (by decide) (by rfl)) ?_
            refine Eq.trans (x_rs (by decide) es) ?_
            refine Eq.trans (x_rbf (st' := []) (by decide) (by decide) (by show (if x_b32 (x_lcmp x y) = true then x_if (decide (x_lcmp x y < 0)) 1 [] else none) = _; rw [x_mp276, decide_eq_false (fun z => hlt (x_mq276.mp z))]; rfl)) ?_
            refine Eq.trans (x_rs (by decide) (by rfl)) ?_
            refine Eq.trans (x_rb (t := 2) (by decide) (by decide) (by rfl)) ?_
            rw [xm_276_2]
            exact x_rr (by decide) (by decide) (by decide) (by rfl)
          rw [xm_276_0] at e
          rw [e] at h
          cases h
          rw [Bool.and_eq_true] at hc
          exact ⟨x, y, rfl, hc.1, hc.2, by rw [if_neg hlt], rfl, rfl⟩
    · exfalso
      have e : ∀ K, x_run (n + 10) d 276 ((3, 0, 0, 0, 0, 0) :: (3, 0, 2, 0, 0, 1) :: K) (x_ini 276 [.inr (.inl x), .inr (.inr (.inl (c, j)))]) [] k σ = none := by
        intro K
        refine Eq.trans (x_rs (by decide) (by rfl)) ?_
        exact x_rn (by decide) (by rfl)
      rw [e] at h
      cases h
    · exfalso
      have e : ∀ K, x_run (n + 10) d 276 ((3, 0, 0, 0, 0, 0) :: (3, 0, 2, 0, 0, 1) :: K) (x_ini 276 [.inr (.inl x), .inr (.inr (.inr y))]) [] k σ = none := by
        intro K
        refine Eq.trans (x_rs (by decide) (by rfl)) ?_
        exact x_rn (by decide) (by rfl)
      rw [e] at h
      cases h
  · exfalso
    have e : ∀ K, x_run (n + 10) d 276 ((3, 0, 0, 0, 0, 0) :: K) (x_ini 276 [.inr (.inr (.inl (c, j))), v]) [] k σ = none := by
      intro K
      rcases v with y | y | ⟨c, j⟩ | y <;> exact x_rn (by decide) (by rfl)
    rw [e] at h
    cases h
  · exfalso
    have e : ∀ K, x_run (n + 10) d 276 ((3, 0, 0, 0, 0, 0) :: K) (x_ini 276 [.inr (.inr (.inr x)), v]) [] k σ = none := by
      intro K
      rcases v with y | y | ⟨c, j⟩ | y <;> exact x_rn (by decide) (by rfl)
    rw [e] at h
    cases h
noncomputable def x_mok (m : Nat) : Bool := x_tb (x_mp m).1 (.code (x_mY m) (x_mC m) (x_mL m) (x_mR m)) && x_tb (x_mp m).2.1 (.initialized (x_ow m)) && x_tb (x_mp m).2.2.1 (.static (x_mY m)) && decide ((x_mp m).2.2.2.2.1 = 0 ∧ (x_mp m).2.2.2.2.2 = 2)
theorem x_mok273 : x_mok 273 = true := by decide +kernel
theorem x_mok274 : x_mok 274 = true := by decide +kernel
theorem x_mok275 : x_mok 275 = true := by decide +kernel
theorem x_mok276 : x_mok 276 = true := by decide +kernel

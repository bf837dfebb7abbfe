/-! how a state of the small machine lies in the heap -/
abbrev x_X : Type := (Nat → Nat) × (Nat → Nat) × Nat × Option Nat × Nat × Nat × (Nat → Int32)
def x_cv (X : x_X) (α : Nat → Nat → Nat) : x_V → Value
  | .inl a => .int (Int32.ofInt a)
  | .inr (.inl a) => .long (Int64.ofInt a)
  | .inr (.inr (.inl (c, j))) => if c < 100 then .ref (α c j) else if c = 100 then .ref X.2.2.2.2.1 else if c = 101 then .ref (X.1 j) else if c = 102 then .ref (X.2.1 j) else if c = 103 then .ref X.2.2.1 else va_rf X.2.2.2.1
  | .inr (.inr (.inr _)) => .null
theorem x_cv_i (X : x_X) (α : Nat → Nat → Nat) (a : Int) : x_cv X α (xI a) = .int (Int32.ofInt a) := rfl
theorem x_cv_j (X : x_X) (α : Nat → Nat → Nat) (a : Int) : x_cv X α (xJ a) = .long (Int64.ofInt a) := rfl
theorem x_cv_r (X : x_X) (α : Nat → Nat → Nat) {c : Nat} (j : Nat) (h : c < 100) : x_cv X α (xR c j) = .ref (α c j) := by simp [x_cv, xR, h]
theorem x_cat1 (X : x_X) (α : Nat → Nat → Nat) (a : Int) : (x_cv X α (.inl a)).category = 1 := rfl
theorem x_cat2 (X : x_X) (α : Nat → Nat → Nat) (a : Int) : (x_cv X α (.inr (.inl a))).category = 2 := rfl
theorem x_cat3 (X : x_X) (α : Nat → Nat → Nat) (r : (Nat × Nat) ⊕ Unit) : (x_cv X α (.inr (.inr r))).category = 1 := by
  rcases r with ⟨c, j⟩ | u
  · simp only [x_cv]
    split
    · rfl
    · split
      · rfl
      · split
        · rfl
        · split
          · rfl
          · split
            · rfl
            · cases X.2.2.2.1 <;> rfl
  · rfl
theorem x_get_set (L : List x_V) (i : Nat) (v : x_V) (j : Nat) : i < L.length → x_get (x_set L i v) j = if j = i then v else if j + 1 = i then x_clr (x_get L j) else x_get L j := by
  induction L generalizing i j with
  | nil => intro h; simp at h
  | cons x L ih =>
    intro h
    match i with
    | 0 => cases j <;> simp [x_set, x_get]
    | 1 =>
      cases j with
      | zero => simp [x_set, x_get]
      | succ j =>
        have := ih 0 j (by simp at h; omega)
        simp [x_set, x_get, this]
    | i + 2 =>
      cases j with
      | zero => simp [x_set, x_get]
      | succ j =>
        have := ih (i + 1) j (by simp at h ⊢; omega)
        simp [x_set, x_get, this]
theorem x_get_un (L : List x_V) (i j : Nat) : x_get (x_un1 L i) j = if j = i then xU else x_get L j := by
  induction L generalizing i j with
  | nil => simp [x_un1, x_get]
  | cons x L ih =>
    match i with
    | 0 => cases j <;> simp [x_un1, x_get]
    | i + 1 =>
      cases j with
      | zero => simp [x_un1, x_get]
      | succ j => simp [x_un1, x_get, ih i j]
theorem x_len_set (L : List x_V) (i : Nat) (v : x_V) : (x_set L i v).length = L.length := by
  induction L generalizing i with
  | nil => simp [x_set]
  | cons x L ih =>
    match i with
    | 0 => simp [x_set]
    | 1 => simp [x_set, ih]
    | i + 2 => simp [x_set, ih]
theorem x_len_un (L : List x_V) (i : Nat) : (x_un1 L i).length = L.length := by
  induction L generalizing i with
  | nil => simp [x_un1]
  | cons x L ih =>
    match i with
    | 0 => simp [x_un1]
    | i + 1 => simp [x_un1, ih]
theorem x_get_out (L : List x_V) (i : Nat) : L.length ≤ i → x_get L i = xU := by
  induction L generalizing i with
  | nil => intro _; rfl
  | cons x L ih =>
    intro h
    match i with
    | 0 => simp at h
    | i + 1 => simp only [x_get]; exact ih i (by simp at h; omega)
theorem x_get_mem (L : List x_V) (i : Nat) : x_get L i ≠ xU → x_get L i ∈ L := by
  induction L generalizing i with
  | nil => intro h; exact absurd rfl h
  | cons x L ih =>
    intro h
    match i with
    | 0 => simp [x_get]
    | i + 1 => simp only [x_get] at h ⊢; exact List.mem_cons_of_mem _ (ih i h)
theorem x_set_mem (L : List x_V) (i : Nat) (v w : x_V) : w ∈ x_set L i v → w = v ∨ w = xU ∨ w ∈ L := by
  induction L generalizing i with
  | nil => intro h; simp [x_set] at h
  | cons x L ih =>
    match i with
    | 0 =>
      intro h
      simp only [x_set, List.mem_cons] at h
      rcases h with h | h
      · exact Or.inl h
      · exact Or.inr (Or.inr (List.mem_cons_of_mem _ h))
    | 1 =>
      intro h
      simp only [x_set, List.mem_cons] at h
      rcases h with h | h
      · right
        rcases x with a | a | a
        · right; rw [h]; exact List.mem_cons_self
        · left; rw [h]; rfl
        · right; rw [h]; exact List.mem_cons_self
      · rcases ih 0 h with h | h | h
        · exact Or.inl h
        · exact Or.inr (Or.inl h)
        · exact Or.inr (Or.inr (List.mem_cons_of_mem _ h))
    | i + 2 =>
      intro h
      simp only [x_set, List.mem_cons] at h
      rcases h with h | h
      · exact Or.inr (Or.inr (by rw [h]; exact List.mem_cons_self))
      · rcases ih (i + 1) h with h | h | h
        · exact Or.inl h
        · exact Or.inr (Or.inl h)
        · exact Or.inr (Or.inr (List.mem_cons_of_mem _ h))
theorem x_un_mem (L : List x_V) (i : Nat) (w : x_V) : w ∈ x_un1 L i → w = xU ∨ w ∈ L := by
  induction L generalizing i with
  | nil => intro h; simp [x_un1] at h
  | cons x L ih =>
    match i with
    | 0 =>
      intro h
      simp only [x_un1, List.mem_cons] at h
      rcases h with h | h
      · exact Or.inl h
      · exact Or.inr (List.mem_cons_of_mem _ h)
    | i + 1 =>
      intro h
      simp only [x_un1, List.mem_cons] at h
      rcases h with h | h
      · exact Or.inr (by rw [h]; exact List.mem_cons_self)
      · rcases ih i h with h | h
        · exact Or.inl h
        · exact Or.inr (List.mem_cons_of_mem _ h)
/-- the places -/
def x_ll (X : x_X) (α : Nat → Nat → Nat) (n : Nat) (L : List x_V) : List (Nat × Value) := (List.range n).filterMap (fun i => if x_get L i = xU then none else some (i, x_cv X α (x_get L i)))
theorem x_ll_mem {X : x_X} {α : Nat → Nat → Nat} {n : Nat} {L : List x_V} {q : Nat × Value} : q ∈ x_ll X α n L ↔ q.1 < n ∧ x_get L q.1 ≠ xU ∧ q.2 = x_cv X α (x_get L q.1) := by
  simp only [x_ll, List.mem_filterMap, List.mem_range]
  constructor
  · rintro ⟨i, hi, h⟩
    by_cases hx : x_get L i = xU
    · simp [hx] at h
    · simp [hx] at h
      rw [← h]
      exact ⟨hi, hx, rfl⟩
  · rintro ⟨h1, h2, h3⟩
    refine ⟨q.1, h1, ?_⟩
    simp [h2, ← h3]
theorem x_lh_at {X : x_X} {α : Nat → Nat → Nat} {n i : Nat} {L : List x_V} {ls : Array Slot} (h : lv_has ls n (x_ll X α n L)) (hi : i < n) (hx : x_get L i ≠ xU) : ls[i]? = some (.val (x_cv X α (x_get L i))) :=
  h.2.2 (i, x_cv X α (x_get L i)) (x_ll_mem.mpr ⟨hi, hx, rfl⟩)
theorem x_lh_less {ls : Array Slot} {n : Nat} {l l' : List (Nat × Value)} (h : lv_has ls n l) (hs : ∀ q ∈ l', q ∈ l) : lv_has ls n l' := ⟨h.1, h.2.1, fun q hq => h.2.2 q (hs q hq)⟩
theorem x_clr_ne {v : x_V} (h : x_clr v ≠ xU) : x_clr v = v ∧ ∀ a, v ≠ .inr (.inl a) := by
  rcases v with a | a | a
  · exact ⟨rfl, fun _ h => by cases h⟩
  · exact absurd rfl h
  · exact ⟨rfl, fun _ h => by cases h⟩
theorem x_cat_ne {X : x_X} {α : Nat → Nat → Nat} {v : x_V} (h : ∀ a, v ≠ .inr (.inl a)) : (x_cv X α v).category ≠ 2 := by
  rcases v with a | a | a
  · rw [x_cat1]; decide
  · exact absurd rfl (h a)
  · rw [x_cat3]; decide
theorem x_lh_set1 {X : x_X} {α : Nat → Nat → Nat} {n i : Nat} {L : List x_V} {ls' : Array Slot} {w : x_V} (hL : L.length = n) (hi : i < n)
    (h : lv_has ls' n ((i, x_cv X α w) :: (x_ll X α n L).filter (fun q => !(q.1 == i) && !(q.1 + 1 == i && q.2.category == 2)))) : lv_has ls' n (x_ll X α n (x_set L i w)) := by
  refine x_lh_less h (fun q hq => ?_)
  obtain ⟨h1, h2, h3⟩ := x_ll_mem.mp hq
  rw [x_get_set L i w q.1 (by omega)] at h2 h3
  by_cases e1 : q.1 = i
  · rw [if_pos e1] at h3
    have : q = (i, x_cv X α w) := Prod.ext e1 h3
    rw [this]
    exact List.mem_cons_self
  · rw [if_neg e1] at h2 h3
    refine List.mem_cons_of_mem _ (List.mem_filter.mpr ?_)
    by_cases e2 : q.1 + 1 = i
    · rw [if_pos e2] at h2 h3
      obtain ⟨h4, h5⟩ := x_clr_ne h2
      rw [h4] at h2 h3
      refine ⟨x_ll_mem.mpr ⟨h1, h2, h3⟩, ?_⟩
      have := x_cat_ne (X := X) (α := α) h5
      rw [← h3] at this
      simp [e1, this]
    · rw [if_neg e2] at h2 h3
      exact ⟨x_ll_mem.mpr ⟨h1, h2, h3⟩, by simp [e1, e2]⟩
theorem x_lh_set2 {X : x_X} {α : Nat → Nat → Nat} {n i : Nat} {L : List x_V} {ls' : Array Slot} {w : x_V} (hL : L.length = n) (hi : i + 1 < n)
    (h : lv_has ls' n ((i, x_cv X α w) :: (x_ll X α n L).filter (fun q => !(q.1 == i) && (!(q.1 == i + 1) && !(q.1 + 1 == i && q.2.category == 2))))) : lv_has ls' n (x_ll X α n (x_un1 (x_set L i w) (i + 1))) := by
  refine x_lh_less h (fun q hq => ?_)
  obtain ⟨h1, h2, h3⟩ := x_ll_mem.mp hq
  rw [x_get_un] at h2 h3
  by_cases e0 : q.1 = i + 1
  · rw [if_pos e0] at h2
    exact absurd rfl h2
  rw [if_neg e0] at h2 h3
  rw [x_get_set L i w q.1 (by omega)] at h2 h3
  by_cases e1 : q.1 = i
  · rw [if_pos e1] at h3
    have : q = (i, x_cv X α w) := Prod.ext e1 h3
    rw [this]
    exact List.mem_cons_self
  · rw [if_neg e1] at h2 h3
    refine List.mem_cons_of_mem _ (List.mem_filter.mpr ?_)
    by_cases e2 : q.1 + 1 = i
    · rw [if_pos e2] at h2 h3
      obtain ⟨h4, h5⟩ := x_clr_ne h2
      rw [h4] at h2 h3
      refine ⟨x_ll_mem.mpr ⟨h1, h2, h3⟩, ?_⟩
      have := x_cat_ne (X := X) (α := α) h5
      rw [← h3] at this
      simp [e0, e1, this]
    · rw [if_neg e2] at h2 h3
      exact ⟨x_ll_mem.mpr ⟨h1, h2, h3⟩, by simp [e0, e1, e2]⟩
theorem x_arg_in {X : x_X} {α : Nat → Nat → Nat} (as : List x_V) : ∀ (i0 i : Nat), x_get (x_arg as) i ≠ xU → (i0 + i, x_cv X α (x_get (x_arg as) i)) ∈ lv_args i0 (as.map (x_cv X α)) := by
  induction as with
  | nil => intro i0 i h; exact absurd rfl h
  | cons v as ih =>
    intro i0 i h
    rcases v with a | a | a
    · simp only [x_arg, List.map_cons, lv_args, x_cat1] at h ⊢
      match i with
      | 0 => exact List.mem_cons_self
      | i + 1 =>
        have := ih (i0 + 1) i h
        refine List.mem_cons_of_mem _ ?_
        simp only [x_get]
        have e : i0 + (i + 1) = i0 + 1 + i := by omega
        rw [e]
        exact this
    · simp only [x_arg, List.map_cons, lv_args, x_cat2] at h ⊢
      match i with
      | 0 => exact List.mem_cons_self
      | 1 => exact absurd rfl h
      | i + 2 =>
        have := ih (i0 + 2) i h
        refine List.mem_cons_of_mem _ ?_
        simp only [x_get]
        have e : i0 + (i + 2) = i0 + 2 + i := by omega
        rw [e]
        exact this
    · simp only [x_arg, List.map_cons, lv_args, x_cat3] at h ⊢
      match i with
      | 0 => exact List.mem_cons_self
      | i + 1 =>
        have := ih (i0 + 1) i h
        refine List.mem_cons_of_mem _ ?_
        simp only [x_get]
        have e : i0 + (i + 1) = i0 + 1 + i := by omega
        rw [e]
        exact this
theorem x_arg_len {X : x_X} {α : Nat → Nat → Nat} (as : List x_V) : (lg_sl (as.map (x_cv X α))).length = (x_arg as).length := by
  induction as with
  | nil => rfl
  | cons v as ih =>
    have e : lg_sl ((v :: as).map (x_cv X α)) = (if (x_cv X α v).category = 2 then [Slot.val (x_cv X α v), .second] else [.val (x_cv X α v)]) ++ lg_sl (as.map (x_cv X α)) := by simp [lg_sl]
    rw [e, List.length_append, ih]
    rcases v with a | a | a
    · rw [x_cat1]; simp [x_arg]; omega
    · rw [x_cat2]; simp [x_arg]; omega
    · rw [x_cat3]; simp [x_arg]; omega
theorem x_get_app (L : List x_V) (n i : Nat) : x_get (L ++ List.replicate n xU) i = x_get L i := by
  induction L generalizing i with
  | nil =>
    rw [List.nil_append]
    induction n generalizing i with
    | zero => rfl
    | succ n ih =>
      rw [List.replicate_succ]
      cases i with
      | zero => rfl
      | succ i => simp only [x_get]; exact ih i
  | cons x L ih =>
    cases i with
    | zero => rfl
    | succ i => simp only [List.cons_append, x_get]; exact ih i
theorem x_lh_ini {X : x_X} {α : Nat → Nat → Nat} (m : Nat) (as : List x_V) (h : (x_arg as).length ≤ x_mL m) :
    lv_has ((lg_sl (as.map (x_cv X α)) ++ List.replicate (x_mL m - (lg_sl (as.map (x_cv X α))).length) Slot.unset).toArray) (x_mL m) (x_ll X α (x_mL m) (x_ini m as)) := by
  refine x_lh_less (lv_entry (as.map (x_cv X α)) (n := x_mL m) (by rw [x_arg_len]; exact h)) (fun q hq => ?_)
  obtain ⟨h1, h2, h3⟩ := x_ll_mem.mp hq
  rw [x_ini, x_get_app] at h2 h3
  have := x_arg_in (X := X) (α := α) as 0 q.1 h2
  rw [Nat.zero_add, ← h3] at this
  exact this
theorem x_ini_len (m : Nat) (as : List x_V) (h : (x_arg as).length ≤ x_mL m) : (x_ini m as).length = x_mL m := by
  simp [x_ini]; omega

/-! the cells -/
def x_tgt (q : Nat × Nat × Nat) : Nat × Nat := if q.1 = 23 then (20, q.2.1 + 2) else x_rho q.1 q.2.1 q.2.2
def x_nf (ci : Nat) : Nat := (x_clb ci).2.2
def x_fv (α : Nat → Nat → Nat) (k : x_K) (σ : x_S) (c j ci f : Nat) : Value := match x_fty ci f with
  | .int => .int (Int32.ofInt (σ c j f))
  | .boolean => .int (Int32.ofInt (σ c j f))
  | .long => .long (Int64.ofInt (σ c j f))
  | _ => if x_flg k c f j = true then .ref (α (x_rho c f j).1 (x_rho c f j).2) else .null
def x_en (dA : Nat → ClassId) (α : Nat → Nat → Nat) (k : x_K) (σ : x_S) (c j : Nat) : va_E := match (x_kd c).1 with
  | 0 => .inr ((x_kd c).2, (List.range (x_nf (x_kd c).2)).map (x_fv α k σ c j (x_kd c).2))
  | 1 => .inl (dA 0, (x_kd c).2, .inl (fun i => Int32.ofInt (σ c j i)))
  | 2 => .inl (dA 1, (x_kd c).2, .inr (.inl (fun i => Int64.ofInt (σ c j i))))
  | 3 => .inl (dA 2, (x_kd c).2, .inl (fun i => Int32.ofInt (σ c j i)))
  | 4 => .inl (dA 3, (x_kd c).2, .inl (fun i => Int32.ofInt (σ c j i)))
  | _ => .inl (dA 4, (x_kd c).2, .inr (.inr (.inr (.inr (fun i => if x_flg k c i j = true then some (α 20 (i + 2)) else none)))))
def x_w (dA : Nat → ClassId) (α : Nat → Nat → Nat) (k : x_K) (σ : x_S) : va_W := (x_nms.take k.1).map (fun q => (α q.1 q.2, x_en dA α k σ q.1 q.2))
theorem x_nms_nd : x_nms.Nodup := by decide +kernel
theorem x_nms_ok : ∀ q ∈ x_nms, q.1 < 100 ∧ (q.1 = 23 ∨ (x_kd q.1).1 ≤ 4) ∧ ((x_kd q.1).1 = 0 → (x_kd q.1).2 < 10) := by decide +kernel
theorem x_puts_nd : x_puts.Nodup := by decide +kernel
theorem x_w_at {dA : Nat → ClassId} {α : Nat → Nat → Nat} {k : x_K} {σ : x_S} {c j : Nat} (h : (c, j) ∈ x_nms.take k.1) : ∃ q0 : Nat, (x_nms.take k.1)[q0]? = some (c, j) ∧ (x_w dA α k σ)[q0]? = some (α c j, x_en dA α k σ c j) := by
  obtain ⟨q0, hq⟩ := List.getElem?_of_mem h
  exact ⟨q0, hq, by rw [x_w, List.getElem?_map, hq]; rfl⟩
theorem x_nd_take (n : Nat) : (x_nms.take n).Nodup := x_nms_nd.sublist (List.take_sublist n x_nms)
theorem x_nd_at {n i q0 : Nat} {a : Nat × Nat} (h1 : (x_nms.take n)[i]? = some a) (h2 : (x_nms.take n)[q0]? = some a) : i = q0 := by
  exact (List.getElem?_inj (List.getElem?_eq_some_iff.mp h1).1 (x_nd_take n)).mp (h1.trans h2.symm)
theorem x_w_set {dA : Nat → ClassId} {α : Nat → Nat → Nat} {k k' : x_K} {σ σ' : x_S} {c j q0 : Nat} (hk : k'.1 = k.1) (hq : (x_nms.take k.1)[q0]? = some (c, j))
    (ho : ∀ c' j', (c', j') ≠ (c, j) → x_en dA α k' σ' c' j' = x_en dA α k σ c' j') : (x_w dA α k σ).set q0 (α c j, x_en dA α k' σ' c j) = x_w dA α k' σ' := by
  have hl : q0 < (x_w dA α k σ).length := by
    rw [x_w, List.length_map]
    exact (List.getElem?_eq_some_iff.mp hq).1
  apply List.ext_getElem?
  intro i
  by_cases e : i = q0
  · subst e
    rw [List.getElem?_set_self hl, x_w, List.getElem?_map, hk, hq]
    rfl
  · rw [List.getElem?_set_ne (Ne.symm e), x_w, x_w, List.getElem?_map, List.getElem?_map, hk]
    cases hi : (x_nms.take k.1)[i]? with
    | none => rfl
    | some a =>
      obtain ⟨c', j'⟩ := a
      have hne : (c', j') ≠ (c, j) := fun z => e (x_nd_at hi (z ▸ hq))
      simp only [Option.map_some]
      rw [ho c' j' hne]
theorem x_en_congr {dA : Nat → ClassId} {α : Nat → Nat → Nat} {k k' : x_K} {σ σ' : x_S} {c j : Nat} (hs : ∀ i, σ' c j i = σ c j i) (hf : ∀ f, x_flg k' c f j = x_flg k c f j) : x_en dA α k' σ' c j = x_en dA α k σ c j := by
  have e1 : σ' c j = σ c j := funext hs
  have e2 : (fun f => x_flg k' c f j) = fun f => x_flg k c f j := funext hf
  have e3 : x_fv α k' σ' c j (x_kd c).2 = x_fv α k σ c j (x_kd c).2 := by
    funext f
    simp only [x_fv, e1, hf]
  simp only [x_en, e1, e3, hf]
theorem x_st_ne {σ : x_S} {c j c' j' : Nat} {i v : Int} (h : (c', j') ≠ (c, j)) (i' : Int) : x_st σ c j i v c' j' i' = σ c' j' i' := by
  simp only [x_st]
  rw [if_neg]
  rintro ⟨rfl, rfl, -⟩
  exact h rfl
theorem x_st_eq (σ : x_S) (c j : Nat) (i v i' : Int) : x_st σ c j i v c j i' = if i' = i then v else σ c j i' := by
  simp [x_st]
/-- slots made -/
def x_cs (c : Nat) : Nat := if (x_kd c).1 = 0 then x_nf (x_kd c).2 else (x_kd c).2
def x_sl (n : Nat) : Nat := ((x_nms.take n).map (fun q => x_cs q.1)).sum
theorem x_sl_succ {n c j : Nat} (h : x_nms[n]? = some (c, j)) : x_sl (n + 1) = x_sl n + x_cs c := by
  rw [x_sl, x_sl, List.take_add_one, h]
  simp
theorem x_sl_mono {a b : Nat} (h : a ≤ b) : x_sl a ≤ x_sl b := by
  rw [x_sl, x_sl]
  have e : x_nms.take b = x_nms.take a ++ (x_nms.drop a).take (b - a) := by
    rw [← List.take_add]
    congr 1
    omega
  rw [e, List.map_append, List.sum_append]
  exact Nat.le_add_right _ _
def x_ov (k : x_K) : x_V → Prop
  | .inr (.inr (.inl (c, j))) => (c, j) ∈ x_nms.take k.1 ∨ (100 ≤ c ∧ c ≤ 104)
  | _ => True
def x_ovs (k : x_K) (l : List x_V) : Prop := ∀ v ∈ l, x_ov k v
def x_In (X : x_X) (k : x_K) (σ : x_S) : Prop := k.1 ≤ x_nms.length ∧ (∀ q ∈ x_puts.take k.2, x_tgt q ∈ x_nms.take k.1 ∧ (q.1, q.2.2) ∈ x_nms.take k.1) ∧ σ 100 1 0 = (X.2.2.2.2.2.1 : Int) ∧ ∀ i : Nat, i < X.2.2.2.2.2.1 → Int32.ofInt (σ 100 0 i) = X.2.2.2.2.2.2 i
theorem x_take_sub {a b : Nat} (h : a ≤ b) {q : Nat × Nat} (hq : q ∈ x_nms.take a) : q ∈ x_nms.take b := by
  have e : x_nms.take b = x_nms.take a ++ (x_nms.drop a).take (b - a) := by
    rw [← List.take_add]
    congr 1
    omega
  rw [e]
  exact List.mem_append_left _ hq
theorem x_ov_mono {k k' : x_K} (h : k.1 ≤ k'.1) {v : x_V} (hv : x_ov k v) : x_ov k' v := by
  rcases v with a | a | ⟨c, j⟩ | u
  · trivial
  · trivial
  · rcases hv with hv | hv
    · exact Or.inl (x_take_sub h hv)
    · exact Or.inr hv
  · trivial
theorem x_cv_ag {X : x_X} {α α' : Nat → Nat → Nat} {k : x_K} (h : ∀ q ∈ x_nms.take k.1, α' q.1 q.2 = α q.1 q.2) {v : x_V} (hv : x_ov k v) : x_cv X α' v = x_cv X α v := by
  rcases v with a | a | ⟨c, j⟩ | u
  · rfl
  · rfl
  · simp only [x_cv]
    by_cases hc : c < 100
    · rw [if_pos hc, if_pos hc]
      rcases hv with hv | hv
      · rw [h (c, j) hv]
      · omega
    · rw [if_neg hc, if_neg hc]
  · rfl
theorem x_ll_ag {X : x_X} {α α' : Nat → Nat → Nat} {k : x_K} (h : ∀ q ∈ x_nms.take k.1, α' q.1 q.2 = α q.1 q.2) {n : Nat} {L : List x_V} (hL : x_ovs k L) : x_ll X α' n L = x_ll X α n L := by
  rw [x_ll, x_ll]
  congr 1
  funext i
  by_cases hx : x_get L i = xU
  · simp [hx]
  · simp only [hx, if_false]
    rw [x_cv_ag h (hL _ (x_get_mem L i hx))]
theorem x_map_ag {X : x_X} {α α' : Nat → Nat → Nat} {k : x_K} (h : ∀ q ∈ x_nms.take k.1, α' q.1 q.2 = α q.1 q.2) {L : List x_V} (hL : x_ovs k L) : L.map (x_cv X α') = L.map (x_cv X α) :=
  List.map_congr_left (fun v hv => x_cv_ag h (hL v hv))
/-- a new cell -/
def x_al (α : Nat → Nat → Nat) (c j a : Nat) : Nat → Nat → Nat := fun c' j' => if c' = c ∧ j' = j then a else α c' j'
theorem x_al_ne {α : Nat → Nat → Nat} {c j a c' j' : Nat} (h : (c', j') ≠ (c, j)) : x_al α c j a c' j' = α c' j' := by
  simp only [x_al]
  rw [if_neg]
  rintro ⟨rfl, rfl⟩
  exact h rfl
theorem x_al_eq {α : Nat → Nat → Nat} {c j a : Nat} : x_al α c j a c j = a := by simp [x_al]
theorem x_new_ne {n c j : Nat} (h : x_nms[n]? = some (c, j)) {q : Nat × Nat} (hq : q ∈ x_nms.take n) : q ≠ (c, j) := by
  rintro rfl
  have hn : (x_nms.take (n + 1)).Nodup := x_nd_take (n + 1)
  rw [List.take_add_one, h] at hn
  simp only [Option.toList_some] at hn
  rw [List.nodup_append] at hn
  exact hn.2.2 _ hq _ (List.mem_singleton.mpr rfl) rfl
theorem x_flg_mem {k : x_K} {c f j : Nat} : x_flg k c f j = true ↔ (c, f, j) ∈ x_puts.take k.2 := by simp [x_flg]
theorem x_en_gen {dA : Nat → ClassId} {α α' : Nat → Nat → Nat} {k k' : x_K} {σ σ' : x_S} {c j : Nat} (hc : c = 23 ∨ (x_kd c).1 ≤ 4) (hs : ∀ i, σ' c j i = σ c j i) (hf : ∀ f, x_flg k' c f j = x_flg k c f j)
    (ha : ∀ f, x_flg k c f j = true → α' (x_tgt (c, f, j)).1 (x_tgt (c, f, j)).2 = α (x_tgt (c, f, j)).1 (x_tgt (c, f, j)).2) : x_en dA α' k' σ' c j = x_en dA α k σ c j := by
  have e1 : σ' c j = σ c j := funext hs
  by_cases e23 : c = 23
  · subst e23
    have hfun : (fun i : Nat => if x_flg k' 23 i j = true then some (α' 20 (i + 2)) else none) = fun i : Nat => if x_flg k 23 i j = true then some (α 20 (i + 2)) else none := by
      funext i
      rw [hf i]
      by_cases hg : x_flg k 23 i j = true
      · rw [if_pos hg, if_pos hg]
        have := ha i hg
        simp only [x_tgt, if_true] at this
        rw [this]
      · rw [if_neg hg, if_neg hg]
    have hk : (x_kd 23).1 = 5 := rfl
    simp only [x_en, hk, hfun]
  · have hfv : x_fv α' k' σ' c j (x_kd c).2 = x_fv α k σ c j (x_kd c).2 := by
      funext f
      simp only [x_fv, e1, hf]
      by_cases hg : x_flg k c f j = true
      · have := ha f hg
        simp only [x_tgt, e23, if_false] at this
        rw [this]
      · simp only [hg]
        split <;> rfl
    have h4 : (x_kd c).1 ≤ 4 := by
      rcases hc with h | h
      · exact absurd h e23
      · exact h
    have h5 : (x_kd c).1 = 0 ∨ (x_kd c).1 = 1 ∨ (x_kd c).1 = 2 ∨ (x_kd c).1 = 3 ∨ (x_kd c).1 = 4 := by omega
    rcases h5 with h5 | h5 | h5 | h5 | h5 <;> simp only [x_en, e1, hfv, h5]
theorem x_zr_ne {σ : x_S} {c j c' j' : Nat} (h : (c', j') ≠ (c, j)) (i : Int) : x_zr σ c j c' j' i = σ c' j' i := by
  simp only [x_zr]
  rw [if_neg]
  rintro ⟨rfl, rfl⟩
  exact h rfl
theorem x_take_mem {n : Nat} {q : Nat × Nat} (h : q ∈ x_nms.take n) : q ∈ x_nms := List.mem_of_mem_take h
theorem x_w_new {X : x_X} {dA : Nat → ClassId} {α : Nat → Nat → Nat} {k : x_K} {σ : x_S} {c j a : Nat} (h : x_nms[k.1]? = some (c, j)) (hI : x_In X k σ) :
    x_w dA (x_al α c j a) (k.1 + 1, k.2) (x_zr σ c j) = x_w dA α k σ ++ [(a, x_en dA (x_al α c j a) (k.1 + 1, k.2) (x_zr σ c j) c j)] := by
  rw [x_w, x_w]
  simp only
  rw [List.take_add_one, h, Option.toList_some, List.map_append]
  congr 1
  · refine List.map_congr_left (fun q hq => ?_)
    obtain ⟨c', j'⟩ := q
    have hne := x_new_ne h hq
    have hen : x_en dA (x_al α c j a) (k.1 + 1, k.2) (x_zr σ c j) c' j' = x_en dA α k σ c' j' :=
      x_en_gen (x_nms_ok _ (x_take_mem hq)).2.1 (x_zr_ne hne) (fun _ => rfl) (fun f hg => x_al_ne (x_new_ne h (hI.2.1 _ (x_flg_mem.mp hg)).1))
    simp only [x_al_ne hne, hen]
  · simp [x_al_eq]

noncomputable def x_Wp (d m : Nat) (K : List x_I) (L st : List x_V) (σ : x_S) (Q : Option x_V → x_S → Prop) : Prop := ∃ (n : Nat) (r : Option x_V) (σ' : x_S), x_run n d m K L st x_kF σ = some (r, x_kF, σ') ∧ Q r σ'
noncomputable def x_Sp (d m : Nat) (as : List x_V) (σ : x_S) (Q : Option x_V → x_S → Prop) : Prop := x_Wp d m (x_blk m 0) (x_ini m as) [] σ Q
noncomputable def x_ct (d m : Nat) (K : List x_I) (L st : List x_V) (Q : Option x_V → x_S → Prop) : Option x_V → x_S → Prop := fun r σ => x_Wp d m K L (x_psh r st) σ Q
noncomputable def x_cl2 (d m op b : Nat) (K : List x_I) (L : List x_V) (σ : x_S) (Q : Option x_V → x_S → Prop) (z : Option (List x_V × List x_V)) : Prop := match z with
  | some (as, st') => (0 < d ∧ x_cok op b as st' = true) ∧ x_Sp (d - 1) b as σ (x_ct d m K L st' Q)
  | none => False
noncomputable def x_nx (d m : Nat) (K : List x_I) (L st : List x_V) (σ : x_S) (Q : Option x_V → x_S → Prop) (t : Option Nat) : Prop := match t with
  | some t => x_Wp d m (x_blk m t) L st σ Q
  | none => x_Wp d m K L st σ Q
section XWP
variable {d m : Nat} {K : List x_I} {L st : List x_V} {σ : x_S} {Q : Option x_V → x_S → Prop} {a : Int} {b c e p : Nat}
theorem x_wp_s {op : Nat} {L' st' : List x_V} {σ' : x_S} (hop : op < 64) (h : x_sx op a b c e L st x_kF σ = some (L', st', x_kF, σ')) : x_Wp d m ((op, a, b, c, e, p) :: K) L st σ Q ↔ x_Wp d m K L' st' σ' Q := by
  constructor
  · rintro ⟨n, r, σ2, hr, hq⟩
    cases n with
    | zero => simp [x_run] at hr
    | succ n =>
      rw [x_run, if_pos hop, h] at hr
      exact ⟨n, r, σ2, hr, hq⟩
  · rintro ⟨n, r, σ2, hr, hq⟩
    refine ⟨n + 1, r, σ2, ?_, hq⟩
    rw [x_run, if_pos hop, h]
    exact hr
theorem x_wp_n {op : Nat} (hop : op < 64) (h : x_sx op a b c e L st x_kF σ = none) : x_Wp d m ((op, a, b, c, e, p) :: K) L st σ Q ↔ False := by
  constructor
  · rintro ⟨n, r, σ2, hr, hq⟩
    cases n with
    | zero => simp [x_run] at hr
    | succ n =>
      rw [x_run, if_pos hop, h] at hr
      cases hr
  · intro h; exact h.elim
theorem x_wp_b {op : Nat} {t : Option Nat} {st' : List x_V} (hop : ¬ op < 64) (hop2 : op < 80) (h : x_br op b st = some (t, st')) : x_Wp d m ((op, a, b, c, e, p) :: K) L st σ Q ↔ x_nx d m K L st' σ Q t := by
  constructor
  · rintro ⟨n, r, σ2, hr, hq⟩
    cases n with
    | zero => simp [x_run] at hr
    | succ n =>
      rw [x_run, if_neg hop, if_pos hop2, h] at hr
      cases t with
      | none => exact ⟨n, r, σ2, hr, hq⟩
      | some t => exact ⟨n, r, σ2, hr, hq⟩
  · intro hw
    cases t with
    | none =>
      obtain ⟨n, r, σ2, hr, hq⟩ := hw
      refine ⟨n + 1, r, σ2, ?_, hq⟩
      rw [x_run, if_neg hop, if_pos hop2, h]
      exact hr
    | some t =>
      obtain ⟨n, r, σ2, hr, hq⟩ := hw
      refine ⟨n + 1, r, σ2, ?_, hq⟩
      rw [x_run, if_neg hop, if_pos hop2, h]
      exact hr
theorem x_wp_bn {op : Nat} (hop : ¬ op < 64) (hop2 : op < 80) (h : x_br op b st = none) : x_Wp d m ((op, a, b, c, e, p) :: K) L st σ Q ↔ False := by
  constructor
  · rintro ⟨n, r, σ2, hr, hq⟩
    cases n with
    | zero => simp [x_run] at hr
    | succ n =>
      rw [x_run, if_neg hop, if_pos hop2, h] at hr
      cases hr
  · intro h; exact h.elim
theorem x_wp_r {op : Nat} {r : Option x_V} (h1 : ¬ op < 64) (h2 : ¬ op < 80) (h3 : op < 84) (h : x_rt op (x_mZ m) st = some r) : x_Wp d m ((op, a, b, c, e, p) :: K) L st σ Q ↔ Q r σ := by
  constructor
  · rintro ⟨n, r2, σ2, hr, hq⟩
    cases n with
    | zero => simp [x_run] at hr
    | succ n =>
      rw [x_run, if_neg h1, if_neg h2, if_pos h3, h] at hr
      cases hr
      exact hq
  · intro hq
    refine ⟨1, r, σ, ?_, hq⟩
    rw [x_run, if_neg h1, if_neg h2, if_pos h3, h]
theorem x_wp_c {op : Nat} (h1 : ¬ op < 64) (h2 : ¬ op < 80) (h3 : ¬ op < 84) : x_cl2 d m op b K L σ Q (x_pop c st []) → x_Wp d m ((op, a, b, c, e, p) :: K) L st σ Q := by
  intro h
  cases hz : x_pop c st [] with
  | none => rw [hz] at h; exact h.elim
  | some z =>
    obtain ⟨as, st'⟩ := z
    rw [hz] at h
    obtain ⟨hc, n1, r1, σ1, hr1, n2, r2, σ2, hr2, hq⟩ := h
    refine ⟨max n1 n2 + 1, r2, σ2, ?_, hq⟩
    rw [x_run, if_neg h1, if_neg h2, if_neg h3, hz]
    simp only
    rw [if_pos hc, x_run_up hr1 (Nat.le_max_left _ _)]
    exact x_run_up hr2 (Nat.le_max_right _ _)
theorem wp_ic : x_Wp d m ((0, a, b, c, e, p) :: K) L (st) σ Q ↔ x_Wp d m K L (xI a :: st) (σ) Q := x_wp_s (by decide) rfl
theorem wp_lc : x_Wp d m ((1, a, b, c, e, p) :: K) L (st) σ Q ↔ x_Wp d m K L (xJ a :: st) (σ) Q := x_wp_s (by decide) rfl
theorem wp_ild {x : Int} (h : x_get L b = xI x) : x_Wp d m ((2, a, b, c, e, p) :: K) L st σ Q ↔ x_Wp d m K L (xI x :: st) σ Q := x_wp_s (by decide) (by show o_ild a b c e L st x_kF σ = _; simp only [o_ild, h]; rfl)
theorem wp_lld {x : Int} (h : x_get L b = xJ x) : x_Wp d m ((3, a, b, c, e, p) :: K) L st σ Q ↔ x_Wp d m K L (xJ x :: st) σ Q := x_wp_s (by decide) (by show o_lld a b c e L st x_kF σ = _; simp only [o_lld, h]; rfl)
theorem wp_ald {u v : Nat} (h : x_get L b = xR u v) : x_Wp d m ((4, a, b, c, e, p) :: K) L st σ Q ↔ x_Wp d m K L (xR u v :: st) σ Q := x_wp_s (by decide) (by show o_ald a b c e L st x_kF σ = _; simp only [o_ald, h]; rfl)
theorem wp_ist {x : Int} : x_Wp d m ((5, a, b, c, e, p) :: K) L (xI x :: st) σ Q ↔ x_Wp d m K (x_set L b (xI x)) (st) (σ) Q := x_wp_s (by decide) rfl
theorem wp_lst {x : Int} : x_Wp d m ((6, a, b, c, e, p) :: K) L (xJ x :: st) σ Q ↔ x_Wp d m K (x_un1 (x_set L b (xJ x)) (b + 1)) (st) (σ) Q := x_wp_s (by decide) rfl
theorem wp_ast {u v : Nat} : x_Wp d m ((7, a, b, c, e, p) :: K) L (xR u v :: st) σ Q ↔ x_Wp d m K (x_set L b (xR u v)) (st) (σ) Q := x_wp_s (by decide) rfl
theorem wp_inc {x : Int} (h : x_get L b = xI x) : x_Wp d m ((8, a, b, c, e, p) :: K) L st σ Q ↔ x_Wp d m K (x_set L b (xI (x + a))) st σ Q := x_wp_s (by decide) (by show o_inc a b c e L st x_kF σ = _; simp only [o_inc, h]; rfl)
theorem wp_iadd {x y : Int} : x_Wp d m ((9, a, b, c, e, p) :: K) L (xI y :: xI x :: st) σ Q ↔ x_Wp d m K L (xI (x + y) :: st) (σ) Q := x_wp_s (by decide) rfl
theorem wp_isub {x y : Int} : x_Wp d m ((10, a, b, c, e, p) :: K) L (xI y :: xI x :: st) σ Q ↔ x_Wp d m K L (xI (x - y) :: st) (σ) Q := x_wp_s (by decide) rfl
theorem wp_imul {x y : Int} : x_Wp d m ((11, a, b, c, e, p) :: K) L (xI y :: xI x :: st) σ Q ↔ x_Wp d m K L (xI (x * y) :: st) (σ) Q := x_wp_s (by decide) rfl
theorem wp_iand {x y : Int} : x_Wp d m ((15, a, b, c, e, p) :: K) L (xI y :: xI x :: st) σ Q ↔ x_Wp d m K L (xI (x_and x y) :: st) (σ) Q := x_wp_s (by decide) rfl
theorem wp_ior {x y : Int} : x_Wp d m ((16, a, b, c, e, p) :: K) L (xI y :: xI x :: st) σ Q ↔ x_Wp d m K L (xI (x_or x y) :: st) (σ) Q := x_wp_s (by decide) rfl
theorem wp_ishl {x y : Int} : x_Wp d m ((17, a, b, c, e, p) :: K) L (xI y :: xI x :: st) σ Q ↔ x_Wp d m K L (xI (x_shl x y) :: st) (σ) Q := x_wp_s (by decide) rfl
theorem wp_ishr {x y : Int} : x_Wp d m ((18, a, b, c, e, p) :: K) L (xI y :: xI x :: st) σ Q ↔ x_Wp d m K L (xI (x_shr x y) :: st) (σ) Q := x_wp_s (by decide) rfl
theorem wp_iushr {x y : Int} : x_Wp d m ((19, a, b, c, e, p) :: K) L (xI y :: xI x :: st) σ Q ↔ x_Wp d m K L (xI (x_ushr x y) :: st) (σ) Q := x_wp_s (by decide) rfl
theorem wp_ineg {x : Int} : x_Wp d m ((14, a, b, c, e, p) :: K) L (xI x :: st) σ Q ↔ x_Wp d m K L (xI (-x) :: st) (σ) Q := x_wp_s (by decide) rfl
theorem wp_ladd {x y : Int} : x_Wp d m ((20, a, b, c, e, p) :: K) L (xJ y :: xJ x :: st) σ Q ↔ x_Wp d m K L (xJ (x + y) :: st) (σ) Q := x_wp_s (by decide) rfl
theorem wp_lsub {x y : Int} : x_Wp d m ((21, a, b, c, e, p) :: K) L (xJ y :: xJ x :: st) σ Q ↔ x_Wp d m K L (xJ (x - y) :: st) (σ) Q := x_wp_s (by decide) rfl
theorem wp_lmul {x y : Int} : x_Wp d m ((22, a, b, c, e, p) :: K) L (xJ y :: xJ x :: st) σ Q ↔ x_Wp d m K L (xJ (x * y) :: st) (σ) Q := x_wp_s (by decide) rfl
theorem wp_land {x y : Int} : x_Wp d m ((25, a, b, c, e, p) :: K) L (xJ y :: xJ x :: st) σ Q ↔ x_Wp d m K L (xJ (x_land x y) :: st) (σ) Q := x_wp_s (by decide) rfl
theorem wp_lor {x y : Int} : x_Wp d m ((26, a, b, c, e, p) :: K) L (xJ y :: xJ x :: st) σ Q ↔ x_Wp d m K L (xJ (x_lor x y) :: st) (σ) Q := x_wp_s (by decide) rfl
theorem wp_lneg {x : Int} : x_Wp d m ((24, a, b, c, e, p) :: K) L (xJ x :: st) σ Q ↔ x_Wp d m K L (xJ (-x) :: st) (σ) Q := x_wp_s (by decide) rfl
theorem wp_lshl {x y : Int} : x_Wp d m ((27, a, b, c, e, p) :: K) L (xI y :: xJ x :: st) σ Q ↔ x_Wp d m K L (xJ (x_lshl x y) :: st) (σ) Q := x_wp_s (by decide) rfl
theorem wp_lshr {x y : Int} : x_Wp d m ((28, a, b, c, e, p) :: K) L (xI y :: xJ x :: st) σ Q ↔ x_Wp d m K L (xJ (x_lshr x y) :: st) (σ) Q := x_wp_s (by decide) rfl
theorem wp_l2i {x : Int} : x_Wp d m ((30, a, b, c, e, p) :: K) L (xJ x :: st) σ Q ↔ x_Wp d m K L (xI (x.bmod 4294967296) :: st) (σ) Q := x_wp_s (by decide) rfl
theorem wp_i2b {x : Int} : x_Wp d m ((31, a, b, c, e, p) :: K) L (xI x :: st) σ Q ↔ x_Wp d m K L (xI (x.bmod 256) :: st) (σ) Q := x_wp_s (by decide) rfl
theorem wp_i2s {x : Int} : x_Wp d m ((32, a, b, c, e, p) :: K) L (xI x :: st) σ Q ↔ x_Wp d m K L (xI (x.bmod 65536) :: st) (σ) Q := x_wp_s (by decide) rfl
theorem wp_i2c {x : Int} : x_Wp d m ((33, a, b, c, e, p) :: K) L (xI x :: st) σ Q ↔ x_Wp d m K L (xI (x % 65536) :: st) (σ) Q := x_wp_s (by decide) rfl
theorem wp_dupi {x : Int} : x_Wp d m ((35, a, b, c, e, p) :: K) L (xI x :: st) σ Q ↔ x_Wp d m K L (xI x :: xI x :: st) (σ) Q := x_wp_s (by decide) rfl
theorem wp_dupr {u v : Nat} : x_Wp d m ((35, a, b, c, e, p) :: K) L (xR u v :: st) σ Q ↔ x_Wp d m K L (xR u v :: xR u v :: st) (σ) Q := x_wp_s (by decide) rfl
theorem wp_dup2 {x : Int} {u v : Nat} : x_Wp d m ((36, a, b, c, e, p) :: K) L (xI x :: xR u v :: st) σ Q ↔ x_Wp d m K L (xI x :: xR u v :: xI x :: xR u v :: st) (σ) Q := x_wp_s (by decide) rfl
theorem wp_pop {x : Int} : x_Wp d m ((37, a, b, c, e, p) :: K) L (xI x :: st) σ Q ↔ x_Wp d m K L (st) (σ) Q := x_wp_s (by decide) rfl
theorem wp_pop2 {x : Int} : x_Wp d m ((38, a, b, c, e, p) :: K) L (xJ x :: st) σ Q ↔ x_Wp d m K L (st) (σ) Q := x_wp_s (by decide) rfl
theorem wp_idiv {x y : Int} : x_Wp d m ((12, a, b, c, e, p) :: K) L (xI y :: xI x :: st) σ Q ↔ ((-2147483648 ≤ x ∧ x ≤ 2147483647) ∧ (-2147483648 ≤ y ∧ y ≤ 2147483647) ∧ y ≠ 0) ∧ x_Wp d m K L (xI (x.tdiv y) :: st) (σ) Q := by
  by_cases h : (-2147483648 ≤ x ∧ x ≤ 2147483647) ∧ (-2147483648 ≤ y ∧ y ≤ 2147483647) ∧ y ≠ 0
  · rw [x_wp_s (L' := L) (st' := xI (x.tdiv y) :: st) (σ' := σ) (by decide) (by show o_idiv a b c e L (xI y :: xI x :: st) x_kF σ = _; simp only [o_idiv, xI, xJ, xR, x_b32, x_b64]; simp [h])]
    exact ⟨fun z => ⟨h, z⟩, fun z => z.2⟩
  · rw [x_wp_n (by decide) (by show o_idiv a b c e L (xI y :: xI x :: st) x_kF σ = _; simp only [o_idiv, xI, xJ, xR, x_b32, x_b64]; simp; omega)]
    exact ⟨fun z => z.elim, fun z => h z.1⟩
theorem wp_irem {x y : Int} : x_Wp d m ((13, a, b, c, e, p) :: K) L (xI y :: xI x :: st) σ Q ↔ ((-2147483648 ≤ x ∧ x ≤ 2147483647) ∧ (-2147483648 ≤ y ∧ y ≤ 2147483647) ∧ y ≠ 0) ∧ x_Wp d m K L (xI (x.tmod y) :: st) (σ) Q := by
  by_cases h : (-2147483648 ≤ x ∧ x ≤ 2147483647) ∧ (-2147483648 ≤ y ∧ y ≤ 2147483647) ∧ y ≠ 0
  · rw [x_wp_s (L' := L) (st' := xI (x.tmod y) :: st) (σ' := σ) (by decide) (by show o_irem a b c e L (xI y :: xI x :: st) x_kF σ = _; simp only [o_irem, xI, xJ, xR, x_b32, x_b64]; simp [h])]
    exact ⟨fun z => ⟨h, z⟩, fun z => z.2⟩
  · rw [x_wp_n (by decide) (by show o_irem a b c e L (xI y :: xI x :: st) x_kF σ = _; simp only [o_irem, xI, xJ, xR, x_b32, x_b64]; simp; omega)]
    exact ⟨fun z => z.elim, fun z => h z.1⟩
theorem wp_ldiv {x y : Int} : x_Wp d m ((23, a, b, c, e, p) :: K) L (xJ y :: xJ x :: st) σ Q ↔ ((-9223372036854775808 ≤ x ∧ x ≤ 9223372036854775807) ∧ (-9223372036854775808 ≤ y ∧ y ≤ 9223372036854775807) ∧ y ≠ 0) ∧ x_Wp d m K L (xJ (x.tdiv y) :: st) (σ) Q := by
  by_cases h : (-9223372036854775808 ≤ x ∧ x ≤ 9223372036854775807) ∧ (-9223372036854775808 ≤ y ∧ y ≤ 9223372036854775807) ∧ y ≠ 0
  · rw [x_wp_s (L' := L) (st' := xJ (x.tdiv y) :: st) (σ' := σ) (by decide) (by show o_ldiv a b c e L (xJ y :: xJ x :: st) x_kF σ = _; simp only [o_ldiv, xI, xJ, xR, x_b32, x_b64]; simp [h])]
    exact ⟨fun z => ⟨h, z⟩, fun z => z.2⟩
  · rw [x_wp_n (by decide) (by show o_ldiv a b c e L (xJ y :: xJ x :: st) x_kF σ = _; simp only [o_ldiv, xI, xJ, xR, x_b32, x_b64]; simp; omega)]
    exact ⟨fun z => z.elim, fun z => h z.1⟩
theorem wp_i2l {x : Int} : x_Wp d m ((29, a, b, c, e, p) :: K) L (xI x :: st) σ Q ↔ (-2147483648 ≤ x ∧ x ≤ 2147483647) ∧ x_Wp d m K L (xJ x :: st) (σ) Q := by
  by_cases h : -2147483648 ≤ x ∧ x ≤ 2147483647
  · rw [x_wp_s (L' := L) (st' := xJ x :: st) (σ' := σ) (by decide) (by show o_i2l a b c e L (xI x :: st) x_kF σ = _; simp only [o_i2l, xI, xJ, xR, x_b32, x_b64]; simp [h])]
    exact ⟨fun z => ⟨h, z⟩, fun z => z.2⟩
  · rw [x_wp_n (by decide) (by show o_i2l a b c e L (xI x :: st) x_kF σ = _; simp only [o_i2l, xI, xJ, xR, x_b32, x_b64]; simp; omega)]
    exact ⟨fun z => z.elim, fun z => h z.1⟩
theorem wp_lcmp {x y : Int} : x_Wp d m ((34, a, b, c, e, p) :: K) L (xJ y :: xJ x :: st) σ Q ↔ ((-9223372036854775808 ≤ x ∧ x ≤ 9223372036854775807) ∧ (-9223372036854775808 ≤ y ∧ y ≤ 9223372036854775807)) ∧ x_Wp d m K L (xI (x_lcmp x y) :: st) (σ) Q := by
  by_cases h : (-9223372036854775808 ≤ x ∧ x ≤ 9223372036854775807) ∧ (-9223372036854775808 ≤ y ∧ y ≤ 9223372036854775807)
  · rw [x_wp_s (L' := L) (st' := xI (x_lcmp x y) :: st) (σ' := σ) (by decide) (by show o_lcmp a b c e L (xJ y :: xJ x :: st) x_kF σ = _; simp only [o_lcmp, xI, xJ, xR, x_b32, x_b64]; simp [h])]
    exact ⟨fun z => ⟨h, z⟩, fun z => z.2⟩
  · rw [x_wp_n (by decide) (by show o_lcmp a b c e L (xJ y :: xJ x :: st) x_kF σ = _; simp only [o_lcmp, xI, xJ, xR, x_b32, x_b64]; simp; omega)]
    exact ⟨fun z => z.elim, fun z => h z.1⟩
theorem wp_geti {u v : Nat} (h : x_kd u = (0, b)) : x_Wp d m ((39, a, b, c, e, p) :: K) L (xR u v :: st) σ Q ↔ x_Wp d m K L (xI (σ u v c) :: st) (σ) Q := x_wp_s (by decide) (by show o_geti a b c e L (xR u v :: st) x_kF σ = _; simp only [o_geti, xI, xJ, xR]; simp [h])
theorem wp_getj {u v : Nat} (h : x_kd u = (0, b)) : x_Wp d m ((40, a, b, c, e, p) :: K) L (xR u v :: st) σ Q ↔ x_Wp d m K L (xJ (σ u v c) :: st) (σ) Q := x_wp_s (by decide) (by show o_getj a b c e L (xR u v :: st) x_kF σ = _; simp only [o_getj, xI, xJ, xR]; simp [h])
theorem wp_getr {u v : Nat} (h : x_kd u = (0, b)) (hz : (u, c, v) ∈ x_puts) : x_Wp d m ((41, a, b, c, e, p) :: K) L (xR u v :: st) σ Q ↔ x_Wp d m K L (xR (x_rho u c v).1 (x_rho u c v).2 :: st) σ Q := x_wp_s (by decide) (by show o_getr a b c e L (xR u v :: st) x_kF σ = _; simp only [o_getr, xR, x_flg, x_kF, List.take_length]; simp [h, hz])
theorem wp_puti {x : Int} {u v : Nat} (h : x_kd u = (0, b)) : x_Wp d m ((42, a, b, c, e, p) :: K) L (xI x :: xR u v :: st) σ Q ↔ x_Wp d m K L (st) (x_st σ u v c x) Q := x_wp_s (by decide) (by show o_puti a b c e L (xI x :: xR u v :: st) x_kF σ = _; simp only [o_puti, xI, xJ, xR]; simp [h])
theorem wp_putj {x : Int} {u v : Nat} (h : x_kd u = (0, b)) : x_Wp d m ((43, a, b, c, e, p) :: K) L (xJ x :: xR u v :: st) σ Q ↔ x_Wp d m K L (st) (x_st σ u v c x) Q := x_wp_s (by decide) (by show o_putj a b c e L (xJ x :: xR u v :: st) x_kF σ = _; simp only [o_putj, xI, xJ, xR]; simp [h])
theorem wp_putz {x : Int} {u v : Nat} (h : x_kd u = (0, b)) (hz : x = 0 ∨ x = 1) : x_Wp d m ((45, a, b, c, e, p) :: K) L (xI x :: xR u v :: st) σ Q ↔ x_Wp d m K L (st) (x_st σ u v c x) Q := x_wp_s (by decide) (by show o_putz a b c e L (xI x :: xR u v :: st) x_kF σ = _; simp only [o_putz, xI, xJ, xR]; simp [h, hz])
theorem x_kd_lt {u k n : Nat} (h : x_kd u = (k, n)) (hk : k ≠ 99) : u < 100 := by
  by_cases hu : u < 74
  · omega
  · exfalso
    have : x_kd u = (99, 0) := by
      simp only [x_kd, List.getD]
      rw [List.getElem?_eq_none (by simp [x_kds]; omega)]
      rfl
    rw [this] at h
    cases h
    exact hk rfl
theorem wp_iald {i : Int} {u v : Nat} {n : Nat} (h : x_kd u = (1, n)) : x_Wp d m ((46, a, b, c, e, p) :: K) L (xI i :: xR u v :: st) σ Q ↔ (0 ≤ i ∧ i < n) ∧ x_Wp d m K L (xI (σ u v i) :: st) (σ) Q := by
  by_cases hi : 0 ≤ i ∧ i < n
  · rw [x_wp_s (L' := L) (st' := xI (σ u v i) :: st) (σ' := σ) (by decide) (by show o_iald a b c e L (xI i :: xR u v :: st) x_kF σ = _; simp only [o_iald, xI, xJ, xR, h]; simp [hi])]
    exact ⟨fun z => ⟨hi, z⟩, fun z => z.2⟩
  · have hu : u < 100 := x_kd_lt h (by decide)
    rw [x_wp_n (by decide) (by show o_iald a b c e L (xI i :: xR u v :: st) x_kF σ = _; simp only [o_iald, xI, xJ, xR, h]; rw [if_neg (fun z => hi z.2), if_neg (fun z => by have := z.1; omega)])]
    exact ⟨fun z => z.elim, fun z => hi z.1⟩
theorem wp_lald {i : Int} {u v : Nat} {n : Nat} (h : x_kd u = (2, n)) : x_Wp d m ((47, a, b, c, e, p) :: K) L (xI i :: xR u v :: st) σ Q ↔ (0 ≤ i ∧ i < n) ∧ x_Wp d m K L (xJ (σ u v i) :: st) (σ) Q := by
  by_cases hi : 0 ≤ i ∧ i < n
  · rw [x_wp_s (L' := L) (st' := xJ (σ u v i) :: st) (σ' := σ) (by decide) (by show o_lald a b c e L (xI i :: xR u v :: st) x_kF σ = _; simp only [o_lald, xI, xJ, xR, h]; simp [hi])]
    exact ⟨fun z => ⟨hi, z⟩, fun z => z.2⟩
  · have hu : u < 100 := x_kd_lt h (by decide)
    rw [x_wp_n (by decide) (by show o_lald a b c e L (xI i :: xR u v :: st) x_kF σ = _; simp only [o_lald, xI, xJ, xR, h]; rw [if_neg (fun z => hi z.2), if_neg (fun z => by have := z.1; omega)])]
    exact ⟨fun z => z.elim, fun z => hi z.1⟩
theorem wp_bald {i : Int} {u v : Nat} {n : Nat} (h : x_kd u = (3, n)) : x_Wp d m ((48, a, b, c, e, p) :: K) L (xI i :: xR u v :: st) σ Q ↔ (0 ≤ i ∧ i < n) ∧ x_Wp d m K L (xI (σ u v i) :: st) (σ) Q := by
  by_cases hi : 0 ≤ i ∧ i < n
  · rw [x_wp_s (L' := L) (st' := xI (σ u v i) :: st) (σ' := σ) (by decide) (by show o_bald a b c e L (xI i :: xR u v :: st) x_kF σ = _; simp only [o_bald, xI, xJ, xR, h]; simp [hi])]
    exact ⟨fun z => ⟨hi, z⟩, fun z => z.2⟩
  · have hu : u < 100 := x_kd_lt h (by decide)
    rw [x_wp_n (by decide) (by show o_bald a b c e L (xI i :: xR u v :: st) x_kF σ = _; simp only [o_bald, xI, xJ, xR, h]; rw [if_neg (fun z => hi z.2), if_neg (fun z => by have := z.1; omega)])]
    exact ⟨fun z => z.elim, fun z => hi z.1⟩
theorem wp_zald {i : Int} {u v : Nat} {n : Nat} (h : x_kd u = (4, n)) : x_Wp d m ((48, a, b, c, e, p) :: K) L (xI i :: xR u v :: st) σ Q ↔ (0 ≤ i ∧ i < n) ∧ x_Wp d m K L (xI (σ u v i) :: st) (σ) Q := by
  by_cases hi : 0 ≤ i ∧ i < n
  · rw [x_wp_s (L' := L) (st' := xI (σ u v i) :: st) (σ' := σ) (by decide) (by show o_bald a b c e L (xI i :: xR u v :: st) x_kF σ = _; simp only [o_bald, xI, xJ, xR, h]; simp [hi])]
    exact ⟨fun z => ⟨hi, z⟩, fun z => z.2⟩
  · have hu : u < 100 := x_kd_lt h (by decide)
    rw [x_wp_n (by decide) (by show o_bald a b c e L (xI i :: xR u v :: st) x_kF σ = _; simp only [o_bald, xI, xJ, xR, h]; rw [if_neg (fun z => hi z.2), if_neg (fun z => by have := z.1; omega)])]
    exact ⟨fun z => z.elim, fun z => hi z.1⟩
theorem wp_iast {x i : Int} {u v : Nat} {n : Nat} (h : x_kd u = (1, n)) : x_Wp d m ((50, a, b, c, e, p) :: K) L (xI x :: xI i :: xR u v :: st) σ Q ↔ (0 ≤ i ∧ i < n) ∧ x_Wp d m K L (st) (x_st σ u v i x) Q := by
  by_cases hi : 0 ≤ i ∧ i < n
  · rw [x_wp_s (L' := L) (st' := st) (σ' := x_st σ u v i x) (by decide) (by show o_iast a b c e L (xI x :: xI i :: xR u v :: st) x_kF σ = _; simp only [o_iast, xI, xJ, xR, h]; simp [hi])]
    exact ⟨fun z => ⟨hi, z⟩, fun z => z.2⟩
  · have hu : u < 100 := x_kd_lt h (by decide)
    rw [x_wp_n (by decide) (by show o_iast a b c e L (xI x :: xI i :: xR u v :: st) x_kF σ = _; simp only [o_iast, xI, xJ, xR, h]; simp; omega)]
    exact ⟨fun z => z.elim, fun z => hi z.1⟩
theorem wp_last {x i : Int} {u v : Nat} {n : Nat} (h : x_kd u = (2, n)) : x_Wp d m ((51, a, b, c, e, p) :: K) L (xJ x :: xI i :: xR u v :: st) σ Q ↔ (0 ≤ i ∧ i < n) ∧ x_Wp d m K L (st) (x_st σ u v i x) Q := by
  by_cases hi : 0 ≤ i ∧ i < n
  · rw [x_wp_s (L' := L) (st' := st) (σ' := x_st σ u v i x) (by decide) (by show o_last a b c e L (xJ x :: xI i :: xR u v :: st) x_kF σ = _; simp only [o_last, xI, xJ, xR, h]; simp [hi])]
    exact ⟨fun z => ⟨hi, z⟩, fun z => z.2⟩
  · have hu : u < 100 := x_kd_lt h (by decide)
    rw [x_wp_n (by decide) (by show o_last a b c e L (xJ x :: xI i :: xR u v :: st) x_kF σ = _; simp only [o_last, xI, xJ, xR, h]; simp; omega)]
    exact ⟨fun z => z.elim, fun z => hi z.1⟩
theorem wp_bast {x i : Int} {u v n : Nat} (h : x_kd u = (3, n)) : x_Wp d m ((52, a, b, c, e, p) :: K) L (xI x :: xI i :: xR u v :: st) σ Q ↔ ((0 ≤ i ∧ i < n) ∧ -128 ≤ x ∧ x < 128) ∧ x_Wp d m K L st (x_st σ u v i x) Q := by
  by_cases hi : (0 ≤ i ∧ i < n) ∧ -128 ≤ x ∧ x < 128
  · rw [x_wp_s (L' := L) (st' := st) (σ' := x_st σ u v i x) (by decide) (by show o_bast a b c e L (xI x :: xI i :: xR u v :: st) x_kF σ = _; simp only [o_bast, xI, xR, h]; simp [hi])]
    exact ⟨fun z => ⟨hi, z⟩, fun z => z.2⟩
  · rw [x_wp_n (by decide) (by show o_bast a b c e L (xI x :: xI i :: xR u v :: st) x_kF σ = _; simp only [o_bast, xI, xR, h]; simp; omega)]
    exact ⟨fun z => z.elim, fun z => hi z.1⟩
theorem wp_zast {x i : Int} {u v n : Nat} (h : x_kd u = (4, n)) : x_Wp d m ((52, a, b, c, e, p) :: K) L (xI x :: xI i :: xR u v :: st) σ Q ↔ ((0 ≤ i ∧ i < n) ∧ (x = 0 ∨ x = 1)) ∧ x_Wp d m K L st (x_st σ u v i x) Q := by
  by_cases hi : (0 ≤ i ∧ i < n) ∧ (x = 0 ∨ x = 1)
  · rw [x_wp_s (L' := L) (st' := st) (σ' := x_st σ u v i x) (by decide) (by show o_bast a b c e L (xI x :: xI i :: xR u v :: st) x_kF σ = _; simp only [o_bast, xI, xR, h]; simp [hi])]
    exact ⟨fun z => ⟨hi, z⟩, fun z => z.2⟩
  · rw [x_wp_n (by decide) (by show o_bast a b c e L (xI x :: xI i :: xR u v :: st) x_kF σ = _; simp only [o_bast, xI, xR, h]; simp; omega)]
    exact ⟨fun z => z.elim, fun z => hi z.1⟩
theorem wp_acpy {n dp sp : Int} {u2 v2 u v k n1 n2 : Nat} (h : x_kd u = (k, n1)) (h2 : x_kd u2 = (k, n2)) (hk : k = 1 ∨ k = 2) (hw : x_wt st ≤ 8) : x_Wp d m ((59, a, b, c, e, p) :: K) L (xI n :: xI dp :: xR u2 v2 :: xI sp :: xR u v :: st) σ Q ↔ (0 ≤ n ∧ 0 ≤ dp ∧ 0 ≤ sp ∧ sp + n ≤ n1 ∧ dp + n ≤ n2) ∧ x_Wp d m K L st (x_cp σ u v sp u2 v2 dp n) Q := by
  by_cases hi : 0 ≤ n ∧ 0 ≤ dp ∧ 0 ≤ sp ∧ sp + n ≤ n1 ∧ dp + n ≤ n2
  · rw [x_wp_s (L' := L) (st' := st) (σ' := x_cp σ u v sp u2 v2 dp n) (by decide) (by show o_acpy a b c e L (xI n :: xI dp :: xR u2 v2 :: xI sp :: xR u v :: st) x_kF σ = _; simp only [o_acpy, xI, xR, h, h2]; simp [hi, hk, hw])]
    exact ⟨fun z => ⟨hi, z⟩, fun z => z.2⟩
  · rw [x_wp_n (by decide) (by show o_acpy a b c e L (xI n :: xI dp :: xR u2 v2 :: xI sp :: xR u v :: st) x_kF σ = _; simp only [o_acpy, xI, xR, h, h2]; simp; omega)]
    exact ⟨fun z => z.elim, fun z => hi z.1⟩
theorem wp_alen {u v k n : Nat} (h : x_kd u = (k, n)) (hk : 1 ≤ k ∧ k ≤ 5) : x_Wp d m ((54, a, b, c, e, p) :: K) L (xR u v :: st) σ Q ↔ x_Wp d m K L (xI n :: st) σ Q := x_wp_s (by decide) (by show o_alen a b c e L (xR u v :: st) x_kF σ = _; simp only [o_alen, xR, h]; simp [hk])
theorem wp_aald {i : Int} : x_Wp d m ((49, a, b, c, e, p) :: K) L (xI i :: xR 23 0 :: st) σ Q ↔ (0 ≤ i ∧ i < 3) ∧ x_Wp d m K L (xR 20 (i.toNat + 2) :: st) σ Q := by
  by_cases hi : 0 ≤ i ∧ i < 3
  · have hf : x_flg x_kF 23 i.toNat 0 = true := by
      have : i.toNat = 0 ∨ i.toNat = 1 ∨ i.toNat = 2 := by omega
      rcases this with h | h | h <;> rw [h] <;> decide +kernel
    rw [x_wp_s (L' := L) (st' := xR 20 (i.toNat + 2) :: st) (σ' := σ) (by decide) (by show o_aald a b c e L (xI i :: xR 23 0 :: st) x_kF σ = _; simp only [o_aald, xI, xR]; simp [hi, hf])]
    exact ⟨fun z => ⟨hi, z⟩, fun z => z.2⟩
  · rw [x_wp_n (by decide) (by show o_aald a b c e L (xI i :: xR 23 0 :: st) x_kF σ = _; simp only [o_aald, xI, xR]; simp; omega)]
    exact ⟨fun z => z.elim, fun z => hi z.1⟩
theorem wp_parts : x_Wp d m ((60, a, 0, c, e, p) :: K) L st σ Q ↔ x_Wp d m K L (xR 103 0 :: st) σ Q := x_wp_s (by decide) rfl
theorem wp_cmpct : x_Wp d m ((60, a, 1, c, e, p) :: K) L st σ Q ↔ x_Wp d m K L (xI 1 :: st) σ Q := x_wp_s (by decide) rfl
theorem wp_fmt : x_Wp d m ((60, a, 2, c, e, p) :: K) L st σ Q ↔ x_Wp d m K L (xR 104 0 :: st) σ Q := x_wp_s (by decide) rfl
theorem wp_lds (h : b < 28) : x_Wp d m ((61, a, b, c, e, p) :: K) L st σ Q ↔ x_Wp d m K L (xR 101 b :: st) σ Q := x_wp_s (by decide) (by show o_lds a b c e L st x_kF σ = _; simp only [o_lds, h, if_true])
theorem wp_sval {v : Nat} (h : v < 28) : x_Wp d m ((62, a, b, c, e, p) :: K) L (xR 101 v :: st) σ Q ↔ x_Wp d m K L (xR 102 v :: st) σ Q := x_wp_s (by decide) (by show o_sval a b c e L (xR 101 v :: st) x_kF σ = _; simp only [o_sval, xR]; simp [h])
theorem wp_scod {v : Nat} (h : v < 28) : x_Wp d m ((63, a, b, c, e, p) :: K) L (xR 101 v :: st) σ Q ↔ x_Wp d m K L (xI 0 :: st) σ Q := x_wp_s (by decide) (by show o_scod a b c e L (xR 101 v :: st) x_kF σ = _; simp only [o_scod, xR]; simp [h])
theorem wp_pald {i : Int} {v : Nat} : x_Wp d m ((47, a, b, c, e, p) :: K) L (xI i :: xR 103 v :: st) σ Q ↔ (0 ≤ i ∧ i < 5) ∧ x_Wp d m K L (xJ (x_pay i) :: st) σ Q := by
  by_cases hi : 0 ≤ i ∧ i < 5
  · rw [x_wp_s (L' := L) (st' := xJ (x_pay i) :: st) (σ' := σ) (by decide) (by show o_lald a b c e L (xI i :: xR 103 v :: st) x_kF σ = _; simp only [o_lald, xI, xJ, xR, show (x_kd 103).1 = 99 from rfl]; simp [hi])]
    exact ⟨fun z => ⟨hi, z⟩, fun z => z.2⟩
  · rw [x_wp_n (by decide) (by show o_lald a b c e L (xI i :: xR 103 v :: st) x_kF σ = _; simp only [o_lald, xI, xJ, xR, show (x_kd 103).1 = 99 from rfl]; simp; omega)]
    exact ⟨fun z => z.elim, fun z => hi z.1⟩
theorem wp_sbal {i : Int} {v : Nat} (h : v < 28) : x_Wp d m ((48, a, b, c, e, p) :: K) L (xI i :: xR 102 v :: st) σ Q ↔ (0 ≤ i ∧ i < x_sln v) ∧ x_Wp d m K L (xI (x_chr v i) :: st) σ Q := by
  by_cases hi : 0 ≤ i ∧ i < x_sln v
  · rw [x_wp_s (L' := L) (st' := xI (x_chr v i) :: st) (σ' := σ) (by decide) (by show o_bald a b c e L (xI i :: xR 102 v :: st) x_kF σ = _; simp only [o_bald, xI, xR, show (x_kd 102).1 = 99 from rfl]; simp [hi, h])]
    exact ⟨fun z => ⟨hi, z⟩, fun z => z.2⟩
  · rw [x_wp_n (by decide) (by show o_bald a b c e L (xI i :: xR 102 v :: st) x_kF σ = _; simp only [o_bald, xI, xR, show (x_kd 102).1 = 99 from rfl]; simp; omega)]
    exact ⟨fun z => z.elim, fun z => hi z.1⟩
theorem wp_slen {v : Nat} (h : v < 28) : x_Wp d m ((54, a, b, c, e, p) :: K) L (xR 102 v :: st) σ Q ↔ x_Wp d m K L (xI (x_sln v) :: st) σ Q := x_wp_s (by decide) (by show o_alen a b c e L (xR 102 v :: st) x_kF σ = _; simp only [o_alen, xR, show (x_kd 102).1 = 99 from rfl]; simp [h])
theorem wp_clen : x_Wp d m ((54, a, b, c, e, p) :: K) L (xR 100 0 :: st) σ Q ↔ x_Wp d m K L (xI (σ 100 1 0) :: st) σ Q := x_wp_s (by decide) (by show o_alen a b c e L (xR 100 0 :: st) x_kF σ = _; simp only [o_alen, xR, show (x_kd 100).1 = 99 from rfl]; simp)
theorem wp_cald {i : Int} : x_Wp d m ((46, a, b, c, e, p) :: K) L (xI i :: xR 100 0 :: st) σ Q ↔ (0 ≤ i ∧ i < σ 100 1 0) ∧ x_Wp d m K L (xI (σ 100 0 i) :: st) σ Q := by
  by_cases hi : 0 ≤ i ∧ i < σ 100 1 0
  · rw [x_wp_s (L' := L) (st' := xI (σ 100 0 i) :: st) (σ' := σ) (by decide) (by show o_iald a b c e L (xI i :: xR 100 0 :: st) x_kF σ = _; simp only [o_iald, xI, xR, show (x_kd 100).1 = 99 from rfl]; simp [hi])]
    exact ⟨fun z => ⟨hi, z⟩, fun z => z.2⟩
  · rw [x_wp_n (by decide) (by show o_iald a b c e L (xI i :: xR 100 0 :: st) x_kF σ = _; simp only [o_iald, xI, xR, show (x_kd 100).1 = 99 from rfl]; simp; omega)]
    exact ⟨fun z => z.elim, fun z => hi z.1⟩
theorem wp_ifeq {x : Int} : x_Wp d m ((64, a, b, c, e, p) :: K) L (xI x :: st) σ Q ↔ (-2147483648 ≤ x ∧ x ≤ 2147483647) ∧ if x = 0 then x_Wp d m (x_blk m b) L st σ Q else x_Wp d m K L st σ Q := by
  by_cases h : -2147483648 ≤ x ∧ x ≤ 2147483647
  · rw [x_wp_b (t := if x = 0 then some b else none) (st' := st) (by decide) (by decide) (by simp only [x_br, xI, x_b32, x_if]; simp [h])]
    by_cases hx : x = 0 <;> simp [hx, h, x_nx]
  · rw [x_wp_bn (by decide) (by decide) (by simp only [x_br, xI, x_b32, x_if]; simp; omega)]
    exact ⟨fun z => z.elim, fun z => h z.1⟩
theorem wp_ifne {x : Int} : x_Wp d m ((65, a, b, c, e, p) :: K) L (xI x :: st) σ Q ↔ (-2147483648 ≤ x ∧ x ≤ 2147483647) ∧ if ¬ x = 0 then x_Wp d m (x_blk m b) L st σ Q else x_Wp d m K L st σ Q := by
  by_cases h : -2147483648 ≤ x ∧ x ≤ 2147483647
  · rw [x_wp_b (t := if ¬ x = 0 then some b else none) (st' := st) (by decide) (by decide) (by simp only [x_br, xI, x_b32, x_if]; simp [h])]
    by_cases hx : ¬ x = 0 <;> simp [hx, h, x_nx]
  · rw [x_wp_bn (by decide) (by decide) (by simp only [x_br, xI, x_b32, x_if]; simp; omega)]
    exact ⟨fun z => z.elim, fun z => h z.1⟩
theorem wp_iflt {x : Int} : x_Wp d m ((66, a, b, c, e, p) :: K) L (xI x :: st) σ Q ↔ (-2147483648 ≤ x ∧ x ≤ 2147483647) ∧ if x < 0 then x_Wp d m (x_blk m b) L st σ Q else x_Wp d m K L st σ Q := by
  by_cases h : -2147483648 ≤ x ∧ x ≤ 2147483647
  · rw [x_wp_b (t := if x < 0 then some b else none) (st' := st) (by decide) (by decide) (by simp only [x_br, xI, x_b32, x_if]; simp [h])]
    by_cases hx : x < 0 <;> simp [hx, h, x_nx]
  · rw [x_wp_bn (by decide) (by decide) (by simp only [x_br, xI, x_b32, x_if]; simp; omega)]
    exact ⟨fun z => z.elim, fun z => h z.1⟩
theorem wp_ifge {x : Int} : x_Wp d m ((67, a, b, c, e, p) :: K) L (xI x :: st) σ Q ↔ (-2147483648 ≤ x ∧ x ≤ 2147483647) ∧ if 0 ≤ x then x_Wp d m (x_blk m b) L st σ Q else x_Wp d m K L st σ Q := by
  by_cases h : -2147483648 ≤ x ∧ x ≤ 2147483647
  · rw [x_wp_b (t := if 0 ≤ x then some b else none) (st' := st) (by decide) (by decide) (by simp only [x_br, xI, x_b32, x_if]; simp [h])]
    by_cases hx : 0 ≤ x <;> simp [hx, h, x_nx]
  · rw [x_wp_bn (by decide) (by decide) (by simp only [x_br, xI, x_b32, x_if]; simp; omega)]
    exact ⟨fun z => z.elim, fun z => h z.1⟩
theorem wp_ifgt {x : Int} : x_Wp d m ((68, a, b, c, e, p) :: K) L (xI x :: st) σ Q ↔ (-2147483648 ≤ x ∧ x ≤ 2147483647) ∧ if 0 < x then x_Wp d m (x_blk m b) L st σ Q else x_Wp d m K L st σ Q := by
  by_cases h : -2147483648 ≤ x ∧ x ≤ 2147483647
  · rw [x_wp_b (t := if 0 < x then some b else none) (st' := st) (by decide) (by decide) (by simp only [x_br, xI, x_b32, x_if]; simp [h])]
    by_cases hx : 0 < x <;> simp [hx, h, x_nx]
  · rw [x_wp_bn (by decide) (by decide) (by simp only [x_br, xI, x_b32, x_if]; simp; omega)]
    exact ⟨fun z => z.elim, fun z => h z.1⟩
theorem wp_ifle {x : Int} : x_Wp d m ((69, a, b, c, e, p) :: K) L (xI x :: st) σ Q ↔ (-2147483648 ≤ x ∧ x ≤ 2147483647) ∧ if x ≤ 0 then x_Wp d m (x_blk m b) L st σ Q else x_Wp d m K L st σ Q := by
  by_cases h : -2147483648 ≤ x ∧ x ≤ 2147483647
  · rw [x_wp_b (t := if x ≤ 0 then some b else none) (st' := st) (by decide) (by decide) (by simp only [x_br, xI, x_b32, x_if]; simp [h])]
    by_cases hx : x ≤ 0 <;> simp [hx, h, x_nx]
  · rw [x_wp_bn (by decide) (by decide) (by simp only [x_br, xI, x_b32, x_if]; simp; omega)]
    exact ⟨fun z => z.elim, fun z => h z.1⟩
theorem wp_iclt {x y : Int} : x_Wp d m ((72, a, b, c, e, p) :: K) L (xI y :: xI x :: st) σ Q ↔ ((-2147483648 ≤ x ∧ x ≤ 2147483647) ∧ (-2147483648 ≤ y ∧ y ≤ 2147483647)) ∧ if x < y then x_Wp d m (x_blk m b) L st σ Q else x_Wp d m K L st σ Q := by
  by_cases h : (-2147483648 ≤ x ∧ x ≤ 2147483647) ∧ (-2147483648 ≤ y ∧ y ≤ 2147483647)
  · rw [x_wp_b (t := if x < y then some b else none) (st' := st) (by decide) (by decide) (by simp only [x_br, xI, x_b32, x_if]; simp [h])]
    by_cases hx : x < y <;> simp [hx, h, x_nx]
  · rw [x_wp_bn (by decide) (by decide) (by simp only [x_br, xI, x_b32, x_if]; simp; omega)]
    exact ⟨fun z => z.elim, fun z => h z.1⟩
theorem wp_icge {x y : Int} : x_Wp d m ((73, a, b, c, e, p) :: K) L (xI y :: xI x :: st) σ Q ↔ ((-2147483648 ≤ x ∧ x ≤ 2147483647) ∧ (-2147483648 ≤ y ∧ y ≤ 2147483647)) ∧ if y ≤ x then x_Wp d m (x_blk m b) L st σ Q else x_Wp d m K L st σ Q := by
  by_cases h : (-2147483648 ≤ x ∧ x ≤ 2147483647) ∧ (-2147483648 ≤ y ∧ y ≤ 2147483647)
  · rw [x_wp_b (t := if y ≤ x then some b else none) (st' := st) (by decide) (by decide) (by simp only [x_br, xI, x_b32, x_if]; simp [h])]
    by_cases hx : y ≤ x <;> simp [hx, h, x_nx]
  · rw [x_wp_bn (by decide) (by decide) (by simp only [x_br, xI, x_b32, x_if]; simp; omega)]
    exact ⟨fun z => z.elim, fun z => h z.1⟩
theorem wp_icgt {x y : Int} : x_Wp d m ((74, a, b, c, e, p) :: K) L (xI y :: xI x :: st) σ Q ↔ ((-2147483648 ≤ x ∧ x ≤ 2147483647) ∧ (-2147483648 ≤ y ∧ y ≤ 2147483647)) ∧ if y < x then x_Wp d m (x_blk m b) L st σ Q else x_Wp d m K L st σ Q := by
  by_cases h : (-2147483648 ≤ x ∧ x ≤ 2147483647) ∧ (-2147483648 ≤ y ∧ y ≤ 2147483647)
  · rw [x_wp_b (t := if y < x then some b else none) (st' := st) (by decide) (by decide) (by simp only [x_br, xI, x_b32, x_if]; simp [h])]
    by_cases hx : y < x <;> simp [hx, h, x_nx]
  · rw [x_wp_bn (by decide) (by decide) (by simp only [x_br, xI, x_b32, x_if]; simp; omega)]
    exact ⟨fun z => z.elim, fun z => h z.1⟩
theorem wp_icle {x y : Int} : x_Wp d m ((75, a, b, c, e, p) :: K) L (xI y :: xI x :: st) σ Q ↔ ((-2147483648 ≤ x ∧ x ≤ 2147483647) ∧ (-2147483648 ≤ y ∧ y ≤ 2147483647)) ∧ if x ≤ y then x_Wp d m (x_blk m b) L st σ Q else x_Wp d m K L st σ Q := by
  by_cases h : (-2147483648 ≤ x ∧ x ≤ 2147483647) ∧ (-2147483648 ≤ y ∧ y ≤ 2147483647)
  · rw [x_wp_b (t := if x ≤ y then some b else none) (st' := st) (by decide) (by decide) (by simp only [x_br, xI, x_b32, x_if]; simp [h])]
    by_cases hx : x ≤ y <;> simp [hx, h, x_nx]
  · rw [x_wp_bn (by decide) (by decide) (by simp only [x_br, xI, x_b32, x_if]; simp; omega)]
    exact ⟨fun z => z.elim, fun z => h z.1⟩
theorem wp_iceq {x y : Int} : x_Wp d m ((70, a, b, c, e, p) :: K) L (xI y :: xI x :: st) σ Q ↔ (x = y ∨ ((-2147483648 ≤ x ∧ x ≤ 2147483647) ∧ (-2147483648 ≤ y ∧ y ≤ 2147483647))) ∧ if x = y then x_Wp d m (x_blk m b) L st σ Q else x_Wp d m K L st σ Q := by
  by_cases h : x = y ∨ ((-2147483648 ≤ x ∧ x ≤ 2147483647) ∧ (-2147483648 ≤ y ∧ y ≤ 2147483647))
  · rw [x_wp_b (t := if x = y then some b else none) (st' := st) (by decide) (by decide) (by simp only [x_br, xI, x_b32, x_if]; simp [h])]
    by_cases hx : x = y
    · rw [if_pos hx, if_pos hx]; exact ⟨fun z => ⟨h, z⟩, fun z => z.2⟩
    · rw [if_neg hx, if_neg hx]; exact ⟨fun z => ⟨h, z⟩, fun z => z.2⟩
  · rw [x_wp_bn (by decide) (by decide) (by simp only [x_br, xI, x_b32, x_if]; simp; omega)]
    exact ⟨fun z => z.elim, fun z => h z.1⟩
theorem wp_icne {x y : Int} : x_Wp d m ((71, a, b, c, e, p) :: K) L (xI y :: xI x :: st) σ Q ↔ (x = y ∨ ((-2147483648 ≤ x ∧ x ≤ 2147483647) ∧ (-2147483648 ≤ y ∧ y ≤ 2147483647))) ∧ if ¬ x = y then x_Wp d m (x_blk m b) L st σ Q else x_Wp d m K L st σ Q := by
  by_cases h : x = y ∨ ((-2147483648 ≤ x ∧ x ≤ 2147483647) ∧ (-2147483648 ≤ y ∧ y ≤ 2147483647))
  · rw [x_wp_b (t := if ¬ x = y then some b else none) (st' := st) (by decide) (by decide) (by simp only [x_br, xI, x_b32, x_if]; simp [h])]
    by_cases hx : ¬ x = y
    · rw [if_pos hx, if_pos hx]; exact ⟨fun z => ⟨h, z⟩, fun z => z.2⟩
    · rw [if_neg hx, if_neg hx]; exact ⟨fun z => ⟨h, z⟩, fun z => z.2⟩
  · rw [x_wp_bn (by decide) (by decide) (by simp only [x_br, xI, x_b32, x_if]; simp; omega)]
    exact ⟨fun z => z.elim, fun z => h z.1⟩
theorem wp_goto : x_Wp d m ((76, a, b, c, e, p) :: K) L st σ Q ↔ x_Wp d m (x_blk m b) L st σ Q := x_wp_b (t := some b) (by decide) (by decide) rfl
theorem wp_fall : x_Wp d m ((77, a, b, c, e, p) :: K) L st σ Q ↔ x_Wp d m (x_blk m b) L st σ Q := x_wp_b (t := some b) (by decide) (by decide) rfl
def x_tst (b : Nat) (x : Int) : Nat := if (x_tsw.getD b (0, 0, [])).1 ≤ x ∧ x < (x_tsw.getD b (0, 0, [])).1 + ((x_tsw.getD b (0, 0, [])).2.2.length : Int) then (x_tsw.getD b (0, 0, [])).2.2.getD (x - (x_tsw.getD b (0, 0, [])).1).toNat 0 else (x_tsw.getD b (0, 0, [])).2.1
theorem wp_tsw {x : Int} : x_Wp d m ((78, a, b, c, e, p) :: K) L (xI x :: st) σ Q ↔ (-2147483648 ≤ x ∧ x ≤ 2147483647) ∧ x_Wp d m (x_blk m (x_tst b x)) L st σ Q := by
  by_cases h : -2147483648 ≤ x ∧ x ≤ 2147483647
  · rw [x_wp_b (t := some (x_tst b x)) (st' := st) (by decide) (by decide) (by simp only [x_br, xI, x_b32]; simp [h]; rfl)]
    simp [h, x_nx]
  · rw [x_wp_bn (by decide) (by decide) (by simp only [x_br, xI, x_b32]; simp; omega)]
    exact ⟨fun z => z.elim, fun z => h z.1⟩
def x_lst (b : Nat) (x : Int) : Nat := ((((x_lsw.getD b (0, [])).2.find? (fun q => decide (q.1 = x))).map (·.2)).getD (x_lsw.getD b (0, [])).1)
theorem wp_lsw {x : Int} : x_Wp d m ((79, a, b, c, e, p) :: K) L (xI x :: st) σ Q ↔ (-2147483648 ≤ x ∧ x ≤ 2147483647) ∧ x_Wp d m (x_blk m (x_lst b x)) L st σ Q := by
  by_cases h : -2147483648 ≤ x ∧ x ≤ 2147483647
  · rw [x_wp_b (t := some (x_lst b x)) (st' := st) (by decide) (by decide) (by simp only [x_br, xI, x_b32]; simp [h]; rfl)]
    simp [h, x_nx]
  · rw [x_wp_bn (by decide) (by decide) (by simp only [x_br, xI, x_b32]; simp; omega)]
    exact ⟨fun z => z.elim, fun z => h z.1⟩
theorem wp_iret {x : Int} (h : x_mZ m = 0) : x_Wp d m ((80, a, b, c, e, p) :: K) L [xI x] σ Q ↔ Q (some (xI x)) σ := x_wp_r (by decide) (by decide) (by decide) (by simp only [x_rt, xI, h]; simp)
theorem wp_zret {x : Int} (h : x_mZ m = 1) (hx : x = 0 ∨ x = 1) : x_Wp d m ((80, a, b, c, e, p) :: K) L [xI x] σ Q ↔ Q (some (xI x)) σ := x_wp_r (by decide) (by decide) (by decide) (by simp only [x_rt, xI, h]; simp [hx])
theorem wp_bret {x : Int} (h : x_mZ m = 2) (hx : -128 ≤ x ∧ x < 128) : x_Wp d m ((80, a, b, c, e, p) :: K) L [xI x] σ Q ↔ Q (some (xI x)) σ := x_wp_r (by decide) (by decide) (by decide) (by simp only [x_rt, xI, h]; simp [hx])
theorem wp_cret {x : Int} (h : x_mZ m = 3) (hx : 0 ≤ x ∧ x < 65536) : x_Wp d m ((80, a, b, c, e, p) :: K) L [xI x] σ Q ↔ Q (some (xI x)) σ := x_wp_r (by decide) (by decide) (by decide) (by simp only [x_rt, xI, h]; simp [hx])
theorem wp_lret {x : Int} : x_Wp d m ((81, a, b, c, e, p) :: K) L [xJ x] σ Q ↔ Q (some (xJ x)) σ := x_wp_r (by decide) (by decide) (by decide) rfl
theorem wp_aret {u v : Nat} (h : u < 100) : x_Wp d m ((82, a, b, c, e, p) :: K) L [xR u v] σ Q ↔ Q (some (xR u v)) σ := x_wp_r (by decide) (by decide) (by decide) (by simp only [x_rt, xR]; simp [h])
theorem wp_ret : x_Wp d m ((83, a, b, c, e, p) :: K) L [] σ Q ↔ Q none σ := x_wp_r (by decide) (by decide) (by decide) rfl
end XWP
section XWP2
variable {d m : Nat} {K : List x_I} {L st : List x_V} {σ : x_S} {Q : Option x_V → x_S → Prop} {a : Int} {c e p : Nat}
theorem x_clr_I (z : Int) : x_clr (xI z) = xI z := rfl
theorem x_clr_J (z : Int) : x_clr (xJ z) = xU := rfl
theorem x_clr_R (u v : Nat) : x_clr (xR u v) = xR u v := rfl
theorem x_clr_U : x_clr xU = xU := rfl
theorem wp_ild0 {x : Int} : x_Wp d m ((2, a, 0, c, e, p) :: K) (xI x :: L) st σ Q ↔ x_Wp d m K (xI x :: L) (xI x :: st) σ Q := x_wp_s (by decide) rfl
theorem wp_lld0 {x : Int} : x_Wp d m ((3, a, 0, c, e, p) :: K) (xJ x :: L) st σ Q ↔ x_Wp d m K (xJ x :: L) (xJ x :: st) σ Q := x_wp_s (by decide) rfl
theorem wp_ald0 {u v : Nat} : x_Wp d m ((4, a, 0, c, e, p) :: K) (xR u v :: L) st σ Q ↔ x_Wp d m K (xR u v :: L) (xR u v :: st) σ Q := x_wp_s (by decide) rfl
theorem wp_ist0 {w : x_V} {x : Int} : x_Wp d m ((5, a, 0, c, e, p) :: K) (w :: L) (xI x :: st) σ Q ↔ x_Wp d m K (xI x :: L) st σ Q := x_wp_s (by decide) rfl
theorem wp_lst0 {w w2 : x_V} {x : Int} : x_Wp d m ((6, a, 0, c, e, p) :: K) (w :: w2 :: L) (xJ x :: st) σ Q ↔ x_Wp d m K (xJ x :: xU :: L) st σ Q := x_wp_s (by decide) rfl
theorem wp_ast0 {w : x_V} {u v : Nat} : x_Wp d m ((7, a, 0, c, e, p) :: K) (w :: L) (xR u v :: st) σ Q ↔ x_Wp d m K (xR u v :: L) st σ Q := x_wp_s (by decide) rfl
theorem wp_inc0 {x : Int} : x_Wp d m ((8, a, 0, c, e, p) :: K) (xI x :: L) st σ Q ↔ x_Wp d m K (xI (x + a) :: L) st σ Q := x_wp_s (by decide) rfl
theorem wp_ild1 {v0 : x_V} {x : Int} : x_Wp d m ((2, a, 1, c, e, p) :: K) (v0 :: xI x :: L) st σ Q ↔ x_Wp d m K (v0 :: xI x :: L) (xI x :: st) σ Q := x_wp_s (by decide) rfl
theorem wp_lld1 {v0 : x_V} {x : Int} : x_Wp d m ((3, a, 1, c, e, p) :: K) (v0 :: xJ x :: L) st σ Q ↔ x_Wp d m K (v0 :: xJ x :: L) (xJ x :: st) σ Q := x_wp_s (by decide) rfl
theorem wp_ald1 {v0 : x_V} {u v : Nat} : x_Wp d m ((4, a, 1, c, e, p) :: K) (v0 :: xR u v :: L) st σ Q ↔ x_Wp d m K (v0 :: xR u v :: L) (xR u v :: st) σ Q := x_wp_s (by decide) rfl
theorem wp_ist1 {v0 : x_V} {w : x_V} {x : Int} : x_Wp d m ((5, a, 1, c, e, p) :: K) (v0 :: w :: L) (xI x :: st) σ Q ↔ x_Wp d m K ((x_clr v0) :: xI x :: L) st σ Q := x_wp_s (by decide) rfl
theorem wp_lst1 {v0 : x_V} {w w2 : x_V} {x : Int} : x_Wp d m ((6, a, 1, c, e, p) :: K) (v0 :: w :: w2 :: L) (xJ x :: st) σ Q ↔ x_Wp d m K ((x_clr v0) :: xJ x :: xU :: L) st σ Q := x_wp_s (by decide) rfl
theorem wp_ast1 {v0 : x_V} {w : x_V} {u v : Nat} : x_Wp d m ((7, a, 1, c, e, p) :: K) (v0 :: w :: L) (xR u v :: st) σ Q ↔ x_Wp d m K ((x_clr v0) :: xR u v :: L) st σ Q := x_wp_s (by decide) rfl
theorem wp_inc1 {v0 : x_V} {x : Int} : x_Wp d m ((8, a, 1, c, e, p) :: K) (v0 :: xI x :: L) st σ Q ↔ x_Wp d m K ((x_clr v0) :: xI (x + a) :: L) st σ Q := x_wp_s (by decide) rfl
theorem wp_ild2 {v0 v1 : x_V} {x : Int} : x_Wp d m ((2, a, 2, c, e, p) :: K) (v0 :: v1 :: xI x :: L) st σ Q ↔ x_Wp d m K (v0 :: v1 :: xI x :: L) (xI x :: st) σ Q := x_wp_s (by decide) rfl
theorem wp_lld2 {v0 v1 : x_V} {x : Int} : x_Wp d m ((3, a, 2, c, e, p) :: K) (v0 :: v1 :: xJ x :: L) st σ Q ↔ x_Wp d m K (v0 :: v1 :: xJ x :: L) (xJ x :: st) σ Q := x_wp_s (by decide) rfl
theorem wp_ald2 {v0 v1 : x_V} {u v : Nat} : x_Wp d m ((4, a, 2, c, e, p) :: K) (v0 :: v1 :: xR u v :: L) st σ Q ↔ x_Wp d m K (v0 :: v1 :: xR u v :: L) (xR u v :: st) σ Q := x_wp_s (by decide) rfl
theorem wp_ist2 {v0 v1 : x_V} {w : x_V} {x : Int} : x_Wp d m ((5, a, 2, c, e, p) :: K) (v0 :: v1 :: w :: L) (xI x :: st) σ Q ↔ x_Wp d m K (v0 :: (x_clr v1) :: xI x :: L) st σ Q := x_wp_s (by decide) rfl
theorem wp_lst2 {v0 v1 : x_V} {w w2 : x_V} {x : Int} : x_Wp d m ((6, a, 2, c, e, p) :: K) (v0 :: v1 :: w :: w2 :: L) (xJ x :: st) σ Q ↔ x_Wp d m K (v0 :: (x_clr v1) :: xJ x :: xU :: L) st σ Q := x_wp_s (by decide) rfl
theorem wp_ast2 {v0 v1 : x_V} {w : x_V} {u v : Nat} : x_Wp d m ((7, a, 2, c, e, p) :: K) (v0 :: v1 :: w :: L) (xR u v :: st) σ Q ↔ x_Wp d m K (v0 :: (x_clr v1) :: xR u v :: L) st σ Q := x_wp_s (by decide) rfl
theorem wp_inc2 {v0 v1 : x_V} {x : Int} : x_Wp d m ((8, a, 2, c, e, p) :: K) (v0 :: v1 :: xI x :: L) st σ Q ↔ x_Wp d m K (v0 :: (x_clr v1) :: xI (x + a) :: L) st σ Q := x_wp_s (by decide) rfl
theorem wp_ild3 {v0 v1 v2 : x_V} {x : Int} : x_Wp d m ((2, a, 3, c, e, p) :: K) (v0 :: v1 :: v2 :: xI x :: L) st σ Q ↔ x_Wp d m K (v0 :: v1 :: v2 :: xI x :: L) (xI x :: st) σ Q := x_wp_s (by decide) rfl
theorem wp_lld3 {v0 v1 v2 : x_V} {x : Int} : x_Wp d m ((3, a, 3, c, e, p) :: K) (v0 :: v1 :: v2 :: xJ x :: L) st σ Q ↔ x_Wp d m K (v0 :: v1 :: v2 :: xJ x :: L) (xJ x :: st) σ Q := x_wp_s (by decide) rfl
theorem wp_ald3 {v0 v1 v2 : x_V} {u v : Nat} : x_Wp d m ((4, a, 3, c, e, p) :: K) (v0 :: v1 :: v2 :: xR u v :: L) st σ Q ↔ x_Wp d m K (v0 :: v1 :: v2 :: xR u v :: L) (xR u v :: st) σ Q := x_wp_s (by decide) rfl
theorem wp_ist3 {v0 v1 v2 : x_V} {w : x_V} {x : Int} : x_Wp d m ((5, a, 3, c, e, p) :: K) (v0 :: v1 :: v2 :: w :: L) (xI x :: st) σ Q ↔ x_Wp d m K (v0 :: v1 :: (x_clr v2) :: xI x :: L) st σ Q := x_wp_s (by decide) rfl
theorem wp_lst3 {v0 v1 v2 : x_V} {w w2 : x_V} {x : Int} : x_Wp d m ((6, a, 3, c, e, p) :: K) (v0 :: v1 :: v2 :: w :: w2 :: L) (xJ x :: st) σ Q ↔ x_Wp d m K (v0 :: v1 :: (x_clr v2) :: xJ x :: xU :: L) st σ Q := x_wp_s (by decide) rfl
theorem wp_ast3 {v0 v1 v2 : x_V} {w : x_V} {u v : Nat} : x_Wp d m ((7, a, 3, c, e, p) :: K) (v0 :: v1 :: v2 :: w :: L) (xR u v :: st) σ Q ↔ x_Wp d m K (v0 :: v1 :: (x_clr v2) :: xR u v :: L) st σ Q := x_wp_s (by decide) rfl
theorem wp_inc3 {v0 v1 v2 : x_V} {x : Int} : x_Wp d m ((8, a, 3, c, e, p) :: K) (v0 :: v1 :: v2 :: xI x :: L) st σ Q ↔ x_Wp d m K (v0 :: v1 :: (x_clr v2) :: xI (x + a) :: L) st σ Q := x_wp_s (by decide) rfl
theorem wp_ild4 {v0 v1 v2 v3 : x_V} {x : Int} : x_Wp d m ((2, a, 4, c, e, p) :: K) (v0 :: v1 :: v2 :: v3 :: xI x :: L) st σ Q ↔ x_Wp d m K (v0 :: v1 :: v2 :: v3 :: xI x :: L) (xI x :: st) σ Q := x_wp_s (by decide) rfl
theorem wp_lld4 {v0 v1 v2 v3 : x_V} {x : Int} : x_Wp d m ((3, a, 4, c, e, p) :: K) (v0 :: v1 :: v2 :: v3 :: xJ x :: L) st σ Q ↔ x_Wp d m K (v0 :: v1 :: v2 :: v3 :: xJ x :: L) (xJ x :: st) σ Q := x_wp_s (by decide) rfl
theorem wp_ald4 {v0 v1 v2 v3 : x_V} {u v : Nat} : x_Wp d m ((4, a, 4, c, e, p) :: K) (v0 :: v1 :: v2 :: v3 :: xR u v :: L) st σ Q ↔ x_Wp d m K (v0 :: v1 :: v2 :: v3 :: xR u v :: L) (xR u v :: st) σ Q := x_wp_s (by decide) rfl
theorem wp_ist4 {v0 v1 v2 v3 : x_V} {w : x_V} {x : Int} : x_Wp d m ((5, a, 4, c, e, p) :: K) (v0 :: v1 :: v2 :: v3 :: w :: L) (xI x :: st) σ Q ↔ x_Wp d m K (v0 :: v1 :: v2 :: (x_clr v3) :: xI x :: L) st σ Q := x_wp_s (by decide) rfl
theorem wp_lst4 {v0 v1 v2 v3 : x_V} {w w2 : x_V} {x : Int} : x_Wp d m ((6, a, 4, c, e, p) :: K) (v0 :: v1 :: v2 :: v3 :: w :: w2 :: L) (xJ x :: st) σ Q ↔ x_Wp d m K (v0 :: v1 :: v2 :: (x_clr v3) :: xJ x :: xU :: L) st σ Q := x_wp_s (by decide) rfl
theorem wp_ast4 {v0 v1 v2 v3 : x_V} {w : x_V} {u v : Nat} : x_Wp d m ((7, a, 4, c, e, p) :: K) (v0 :: v1 :: v2 :: v3 :: w :: L) (xR u v :: st) σ Q ↔ x_Wp d m K (v0 :: v1 :: v2 :: (x_clr v3) :: xR u v :: L) st σ Q := x_wp_s (by decide) rfl
theorem wp_inc4 {v0 v1 v2 v3 : x_V} {x : Int} : x_Wp d m ((8, a, 4, c, e, p) :: K) (v0 :: v1 :: v2 :: v3 :: xI x :: L) st σ Q ↔ x_Wp d m K (v0 :: v1 :: v2 :: (x_clr v3) :: xI (x + a) :: L) st σ Q := x_wp_s (by decide) rfl
theorem wp_ild5 {v0 v1 v2 v3 v4 : x_V} {x : Int} : x_Wp d m ((2, a, 5, c, e, p) :: K) (v0 :: v1 :: v2 :: v3 :: v4 :: xI x :: L) st σ Q ↔ x_Wp d m K (v0 :: v1 :: v2 :: v3 :: v4 :: xI x :: L) (xI x :: st) σ Q := x_wp_s (by decide) rfl
theorem wp_lld5 {v0 v1 v2 v3 v4 : x_V} {x : Int} : x_Wp d m ((3, a, 5, c, e, p) :: K) (v0 :: v1 :: v2 :: v3 :: v4 :: xJ x :: L) st σ Q ↔ x_Wp d m K (v0 :: v1 :: v2 :: v3 :: v4 :: xJ x :: L) (xJ x :: st) σ Q := x_wp_s (by decide) rfl
theorem wp_ald5 {v0 v1 v2 v3 v4 : x_V} {u v : Nat} : x_Wp d m ((4, a, 5, c, e, p) :: K) (v0 :: v1 :: v2 :: v3 :: v4 :: xR u v :: L) st σ Q ↔ x_Wp d m K (v0 :: v1 :: v2 :: v3 :: v4 :: xR u v :: L) (xR u v :: st) σ Q := x_wp_s (by decide) rfl
theorem wp_ist5 {v0 v1 v2 v3 v4 : x_V} {w : x_V} {x : Int} : x_Wp d m ((5, a, 5, c, e, p) :: K) (v0 :: v1 :: v2 :: v3 :: v4 :: w :: L) (xI x :: st) σ Q ↔ x_Wp d m K (v0 :: v1 :: v2 :: v3 :: (x_clr v4) :: xI x :: L) st σ Q := x_wp_s (by decide) rfl
theorem wp_lst5 {v0 v1 v2 v3 v4 : x_V} {w w2 : x_V} {x : Int} : x_Wp d m ((6, a, 5, c, e, p) :: K) (v0 :: v1 :: v2 :: v3 :: v4 :: w :: w2 :: L) (xJ x :: st) σ Q ↔ x_Wp d m K (v0 :: v1 :: v2 :: v3 :: (x_clr v4) :: xJ x :: xU :: L) st σ Q := x_wp_s (by decide) rfl
theorem wp_ast5 {v0 v1 v2 v3 v4 : x_V} {w : x_V} {u v : Nat} : x_Wp d m ((7, a, 5, c, e, p) :: K) (v0 :: v1 :: v2 :: v3 :: v4 :: w :: L) (xR u v :: st) σ Q ↔ x_Wp d m K (v0 :: v1 :: v2 :: v3 :: (x_clr v4) :: xR u v :: L) st σ Q := x_wp_s (by decide) rfl
theorem wp_inc5 {v0 v1 v2 v3 v4 : x_V} {x : Int} : x_Wp d m ((8, a, 5, c, e, p) :: K) (v0 :: v1 :: v2 :: v3 :: v4 :: xI x :: L) st σ Q ↔ x_Wp d m K (v0 :: v1 :: v2 :: v3 :: (x_clr v4) :: xI (x + a) :: L) st σ Q := x_wp_s (by decide) rfl
theorem wp_ild6 {v0 v1 v2 v3 v4 v5 : x_V} {x : Int} : x_Wp d m ((2, a, 6, c, e, p) :: K) (v0 :: v1 :: v2 :: v3 :: v4 :: v5 :: xI x :: L) st σ Q ↔ x_Wp d m K (v0 :: v1 :: v2 :: v3 :: v4 :: v5 :: xI x :: L) (xI x :: st) σ Q := x_wp_s (by decide) rfl
theorem wp_lld6 {v0 v1 v2 v3 v4 v5 : x_V} {x : Int} : x_Wp d m ((3, a, 6, c, e, p) :: K) (v0 :: v1 :: v2 :: v3 :: v4 :: v5 :: xJ x :: L) st σ Q ↔ x_Wp d m K (v0 :: v1 :: v2 :: v3 :: v4 :: v5 :: xJ x :: L) (xJ x :: st) σ Q := x_wp_s (by decide) rfl
theorem wp_ald6 {v0 v1 v2 v3 v4 v5 : x_V} {u v : Nat} : x_Wp d m ((4, a, 6, c, e, p) :: K) (v0 :: v1 :: v2 :: v3 :: v4 :: v5 :: xR u v :: L) st σ Q ↔ x_Wp d m K (v0 :: v1 :: v2 :: v3 :: v4 :: v5 :: xR u v :: L) (xR u v :: st) σ Q := x_wp_s (by decide) rfl
theorem wp_ist6 {v0 v1 v2 v3 v4 v5 : x_V} {w : x_V} {x : Int} : x_Wp d m ((5, a, 6, c, e, p) :: K) (v0 :: v1 :: v2 :: v3 :: v4 :: v5 :: w :: L) (xI x :: st) σ Q ↔ x_Wp d m K (v0 :: v1 :: v2 :: v3 :: v4 :: (x_clr v5) :: xI x :: L) st σ Q := x_wp_s (by decide) rfl
theorem wp_lst6 {v0 v1 v2 v3 v4 v5 : x_V} {w w2 : x_V} {x : Int} : x_Wp d m ((6, a, 6, c, e, p) :: K) (v0 :: v1 :: v2 :: v3 :: v4 :: v5 :: w :: w2 :: L) (xJ x :: st) σ Q ↔ x_Wp d m K (v0 :: v1 :: v2 :: v3 :: v4 :: (x_clr v5) :: xJ x :: xU :: L) st σ Q := x_wp_s (by decide) rfl
theorem wp_ast6 {v0 v1 v2 v3 v4 v5 : x_V} {w : x_V} {u v : Nat} : x_Wp d m ((7, a, 6, c, e, p) :: K) (v0 :: v1 :: v2 :: v3 :: v4 :: v5 :: w :: L) (xR u v :: st) σ Q ↔ x_Wp d m K (v0 :: v1 :: v2 :: v3 :: v4 :: (x_clr v5) :: xR u v :: L) st σ Q := x_wp_s (by decide) rfl
theorem wp_inc6 {v0 v1 v2 v3 v4 v5 : x_V} {x : Int} : x_Wp d m ((8, a, 6, c, e, p) :: K) (v0 :: v1 :: v2 :: v3 :: v4 :: v5 :: xI x :: L) st σ Q ↔ x_Wp d m K (v0 :: v1 :: v2 :: v3 :: v4 :: (x_clr v5) :: xI (x + a) :: L) st σ Q := x_wp_s (by decide) rfl
theorem wp_ild7 {v0 v1 v2 v3 v4 v5 v6 : x_V} {x : Int} : x_Wp d m ((2, a, 7, c, e, p) :: K) (v0 :: v1 :: v2 :: v3 :: v4 :: v5 :: v6 :: xI x :: L) st σ Q ↔ x_Wp d m K (v0 :: v1 :: v2 :: v3 :: v4 :: v5 :: v6 :: xI x :: L) (xI x :: st) σ Q := x_wp_s (by decide) rfl
theorem wp_lld7 {v0 v1 v2 v3 v4 v5 v6 : x_V} {x : Int} : x_Wp d m ((3, a, 7, c, e, p) :: K) (v0 :: v1 :: v2 :: v3 :: v4 :: v5 :: v6 :: xJ x :: L) st σ Q ↔ x_Wp d m K (v0 :: v1 :: v2 :: v3 :: v4 :: v5 :: v6 :: xJ x :: L) (xJ x :: st) σ Q := x_wp_s (by decide) rfl
theorem wp_ald7 {v0 v1 v2 v3 v4 v5 v6 : x_V} {u v : Nat} : x_Wp d m ((4, a, 7, c, e, p) :: K) (v0 :: v1 :: v2 :: v3 :: v4 :: v5 :: v6 :: xR u v :: L) st σ Q ↔ x_Wp d m K (v0 :: v1 :: v2 :: v3 :: v4 :: v5 :: v6 :: xR u v :: L) (xR u v :: st) σ Q := x_wp_s (by decide) rfl
theorem wp_ist7 {v0 v1 v2 v3 v4 v5 v6 : x_V} {w : x_V} {x : Int} : x_Wp d m ((5, a, 7, c, e, p) :: K) (v0 :: v1 :: v2 :: v3 :: v4 :: v5 :: v6 :: w :: L) (xI x :: st) σ Q ↔ x_Wp d m K (v0 :: v1 :: v2 :: v3 :: v4 :: v5 :: (x_clr v6) :: xI x :: L) st σ Q := x_wp_s (by decide) rfl
theorem wp_lst7 {v0 v1 v2 v3 v4 v5 v6 : x_V} {w w2 : x_V} {x : Int} : x_Wp d m ((6, a, 7, c, e, p) :: K) (v0 :: v1 :: v2 :: v3 :: v4 :: v5 :: v6 :: w :: w2 :: L) (xJ x :: st) σ Q ↔ x_Wp d m K (v0 :: v1 :: v2 :: v3 :: v4 :: v5 :: (x_clr v6) :: xJ x :: xU :: L) st σ Q := x_wp_s (by decide) rfl
theorem wp_ast7 {v0 v1 v2 v3 v4 v5 v6 : x_V} {w : x_V} {u v : Nat} : x_Wp d m ((7, a, 7, c, e, p) :: K) (v0 :: v1 :: v2 :: v3 :: v4 :: v5 :: v6 :: w :: L) (xR u v :: st) σ Q ↔ x_Wp d m K (v0 :: v1 :: v2 :: v3 :: v4 :: v5 :: (x_clr v6) :: xR u v :: L) st σ Q := x_wp_s (by decide) rfl
theorem wp_inc7 {v0 v1 v2 v3 v4 v5 v6 : x_V} {x : Int} : x_Wp d m ((8, a, 7, c, e, p) :: K) (v0 :: v1 :: v2 :: v3 :: v4 :: v5 :: v6 :: xI x :: L) st σ Q ↔ x_Wp d m K (v0 :: v1 :: v2 :: v3 :: v4 :: v5 :: (x_clr v6) :: xI (x + a) :: L) st σ Q := x_wp_s (by decide) rfl
theorem wp_ild8 {v0 v1 v2 v3 v4 v5 v6 v7 : x_V} {x : Int} : x_Wp d m ((2, a, 8, c, e, p) :: K) (v0 :: v1 :: v2 :: v3 :: v4 :: v5 :: v6 :: v7 :: xI x :: L) st σ Q ↔ x_Wp d m K (v0 :: v1 :: v2 :: v3 :: v4 :: v5 :: v6 :: v7 :: xI x :: L) (xI x :: st) σ Q := x_wp_s (by decide) rfl
theorem wp_lld8 {v0 v1 v2 v3 v4 v5 v6 v7 : x_V} {x : Int} : x_Wp d m ((3, a, 8, c, e, p) :: K) (v0 :: v1 :: v2 :: v3 :: v4 :: v5 :: v6 :: v7 :: xJ x :: L) st σ Q ↔ x_Wp d m K (v0 :: v1 :: v2 :: v3 :: v4 :: v5 :: v6 :: v7 :: xJ x :: L) (xJ x :: st) σ Q := x_wp_s (by decide) rfl
theorem wp_ald8 {v0 v1 v2 v3 v4 v5 v6 v7 : x_V} {u v : Nat} : x_Wp d m ((4, a, 8, c, e, p) :: K) (v0 :: v1 :: v2 :: v3 :: v4 :: v5 :: v6 :: v7 :: xR u v :: L) st σ Q ↔ x_Wp d m K (v0 :: v1 :: v2 :: v3 :: v4 :: v5 :: v6 :: v7 :: xR u v :: L) (xR u v :: st) σ Q := x_wp_s (by decide) rfl
theorem wp_ist8 {v0 v1 v2 v3 v4 v5 v6 v7 : x_V} {w : x_V} {x : Int} : x_Wp d m ((5, a, 8, c, e, p) :: K) (v0 :: v1 :: v2 :: v3 :: v4 :: v5 :: v6 :: v7 :: w :: L) (xI x :: st) σ Q ↔ x_Wp d m K (v0 :: v1 :: v2 :: v3 :: v4 :: v5 :: v6 :: (x_clr v7) :: xI x :: L) st σ Q := x_wp_s (by decide) rfl
theorem wp_lst8 {v0 v1 v2 v3 v4 v5 v6 v7 : x_V} {w w2 : x_V} {x : Int} : x_Wp d m ((6, a, 8, c, e, p) :: K) (v0 :: v1 :: v2 :: v3 :: v4 :: v5 :: v6 :: v7 :: w :: w2 :: L) (xJ x :: st) σ Q ↔ x_Wp d m K (v0 :: v1 :: v2 :: v3 :: v4 :: v5 :: v6 :: (x_clr v7) :: xJ x :: xU :: L) st σ Q := x_wp_s (by decide) rfl
theorem wp_ast8 {v0 v1 v2 v3 v4 v5 v6 v7 : x_V} {w : x_V} {u v : Nat} : x_Wp d m ((7, a, 8, c, e, p) :: K) (v0 :: v1 :: v2 :: v3 :: v4 :: v5 :: v6 :: v7 :: w :: L) (xR u v :: st) σ Q ↔ x_Wp d m K (v0 :: v1 :: v2 :: v3 :: v4 :: v5 :: v6 :: (x_clr v7) :: xR u v :: L) st σ Q := x_wp_s (by decide) rfl
theorem wp_inc8 {v0 v1 v2 v3 v4 v5 v6 v7 : x_V} {x : Int} : x_Wp d m ((8, a, 8, c, e, p) :: K) (v0 :: v1 :: v2 :: v3 :: v4 :: v5 :: v6 :: v7 :: xI x :: L) st σ Q ↔ x_Wp d m K (v0 :: v1 :: v2 :: v3 :: v4 :: v5 :: v6 :: (x_clr v7) :: xI (x + a) :: L) st σ Q := x_wp_s (by decide) rfl
theorem wp_ild9 {v0 v1 v2 v3 v4 v5 v6 v7 v8 : x_V} {x : Int} : x_Wp d m ((2, a, 9, c, e, p) :: K) (v0 :: v1 :: v2 :: v3 :: v4 :: v5 :: v6 :: v7 :: v8 :: xI x :: L) st σ Q ↔ x_Wp d m K (v0 :: v1 :: v2 :: v3 :: v4 :: v5 :: v6 :: v7 :: v8 :: xI x :: L) (xI x :: st) σ Q := x_wp_s (by decide) rfl
theorem wp_lld9 {v0 v1 v2 v3 v4 v5 v6 v7 v8 : x_V} {x : Int} : x_Wp d m ((3, a, 9, c, e, p) :: K) (v0 :: v1 :: v2 :: v3 :: v4 :: v5 :: v6 :: v7 :: v8 :: xJ x :: L) st σ Q ↔ x_Wp d m K (v0 :: v1 :: v2 :: v3 :: v4 :: v5 :: v6 :: v7 :: v8 :: xJ x :: L) (xJ x :: st) σ Q := x_wp_s (by decide) rfl
theorem wp_ald9 {v0 v1 v2 v3 v4 v5 v6 v7 v8 : x_V} {u v : Nat} : x_Wp d m ((4, a, 9, c, e, p) :: K) (v0 :: v1 :: v2 :: v3 :: v4 :: v5 :: v6 :: v7 :: v8 :: xR u v :: L) st σ Q ↔ x_Wp d m K (v0 :: v1 :: v2 :: v3 :: v4 :: v5 :: v6 :: v7 :: v8 :: xR u v :: L) (xR u v :: st) σ Q := x_wp_s (by decide) rfl
theorem wp_ist9 {v0 v1 v2 v3 v4 v5 v6 v7 v8 : x_V} {w : x_V} {x : Int} : x_Wp d m ((5, a, 9, c, e, p) :: K) (v0 :: v1 :: v2 :: v3 :: v4 :: v5 :: v6 :: v7 :: v8 :: w :: L) (xI x :: st) σ Q ↔ x_Wp d m K (v0 :: v1 :: v2 :: v3 :: v4 :: v5 :: v6 :: v7 :: (x_clr v8) :: xI x :: L) st σ Q := x_wp_s (by decide) rfl
theorem wp_lst9 {v0 v1 v2 v3 v4 v5 v6 v7 v8 : x_V} {w w2 : x_V} {x : Int} : x_Wp d m ((6, a, 9, c, e, p) :: K) (v0 :: v1 :: v2 :: v3 :: v4 :: v5 :: v6 :: v7 :: v8 :: w :: w2 :: L) (xJ x :: st) σ Q ↔ x_Wp d m K (v0 :: v1 :: v2 :: v3 :: v4 :: v5 :: v6 :: v7 :: (x_clr v8) :: xJ x :: xU :: L) st σ Q := x_wp_s (by decide) rfl
theorem wp_ast9 {v0 v1 v2 v3 v4 v5 v6 v7 v8 : x_V} {w : x_V} {u v : Nat} : x_Wp d m ((7, a, 9, c, e, p) :: K) (v0 :: v1 :: v2 :: v3 :: v4 :: v5 :: v6 :: v7 :: v8 :: w :: L) (xR u v :: st) σ Q ↔ x_Wp d m K (v0 :: v1 :: v2 :: v3 :: v4 :: v5 :: v6 :: v7 :: (x_clr v8) :: xR u v :: L) st σ Q := x_wp_s (by decide) rfl
theorem wp_inc9 {v0 v1 v2 v3 v4 v5 v6 v7 v8 : x_V} {x : Int} : x_Wp d m ((8, a, 9, c, e, p) :: K) (v0 :: v1 :: v2 :: v3 :: v4 :: v5 :: v6 :: v7 :: v8 :: xI x :: L) st σ Q ↔ x_Wp d m K (v0 :: v1 :: v2 :: v3 :: v4 :: v5 :: v6 :: v7 :: (x_clr v8) :: xI (x + a) :: L) st σ Q := x_wp_s (by decide) rfl
theorem wp_ild10 {v0 v1 v2 v3 v4 v5 v6 v7 v8 v9 : x_V} {x : Int} : x_Wp d m ((2, a, 10, c, e, p) :: K) (v0 :: v1 :: v2 :: v3 :: v4 :: v5 :: v6 :: v7 :: v8 :: v9 :: xI x :: L) st σ Q ↔ x_Wp d m K (v0 :: v1 :: v2 :: v3 :: v4 :: v5 :: v6 :: v7 :: v8 :: v9 :: xI x :: L) (xI x :: st) σ Q := x_wp_s (by decide) rfl
theorem wp_lld10 {v0 v1 v2 v3 v4 v5 v6 v7 v8 v9 : x_V} {x : Int} : x_Wp d m ((3, a, 10, c, e, p) :: K) (v0 :: v1 :: v2 :: v3 :: v4 :: v5 :: v6 :: v7 :: v8 :: v9 :: xJ x :: L) st σ Q ↔ x_Wp d m K (v0 :: v1 :: v2 :: v3 :: v4 :: v5 :: v6 :: v7 :: v8 :: v9 :: xJ x :: L) (xJ x :: st) σ Q := x_wp_s (by decide) rfl
theorem wp_ald10 {v0 v1 v2 v3 v4 v5 v6 v7 v8 v9 : x_V} {u v : Nat} : x_Wp d m ((4, a, 10, c, e, p) :: K) (v0 :: v1 :: v2 :: v3 :: v4 :: v5 :: v6 :: v7 :: v8 :: v9 :: xR u v :: L) st σ Q ↔ x_Wp d m K (v0 :: v1 :: v2 :: v3 :: v4 :: v5 :: v6 :: v7 :: v8 :: v9 :: xR u v :: L) (xR u v :: st) σ Q := x_wp_s (by decide) rfl
theorem wp_ist10 {v0 v1 v2 v3 v4 v5 v6 v7 v8 v9 : x_V} {w : x_V} {x : Int} : x_Wp d m ((5, a, 10, c, e, p) :: K) (v0 :: v1 :: v2 :: v3 :: v4 :: v5 :: v6 :: v7 :: v8 :: v9 :: w :: L) (xI x :: st) σ Q ↔ x_Wp d m K (v0 :: v1 :: v2 :: v3 :: v4 :: v5 :: v6 :: v7 :: v8 :: (x_clr v9) :: xI x :: L) st σ Q := x_wp_s (by decide) rfl
theorem wp_lst10 {v0 v1 v2 v3 v4 v5 v6 v7 v8 v9 : x_V} {w w2 : x_V} {x : Int} : x_Wp d m ((6, a, 10, c, e, p) :: K) (v0 :: v1 :: v2 :: v3 :: v4 :: v5 :: v6 :: v7 :: v8 :: v9 :: w :: w2 :: L) (xJ x :: st) σ Q ↔ x_Wp d m K (v0 :: v1 :: v2 :: v3 :: v4 :: v5 :: v6 :: v7 :: v8 :: (x_clr v9) :: xJ x :: xU :: L) st σ Q := x_wp_s (by decide) rfl
theorem wp_ast10 {v0 v1 v2 v3 v4 v5 v6 v7 v8 v9 : x_V} {w : x_V} {u v : Nat} : x_Wp d m ((7, a, 10, c, e, p) :: K) (v0 :: v1 :: v2 :: v3 :: v4 :: v5 :: v6 :: v7 :: v8 :: v9 :: w :: L) (xR u v :: st) σ Q ↔ x_Wp d m K (v0 :: v1 :: v2 :: v3 :: v4 :: v5 :: v6 :: v7 :: v8 :: (x_clr v9) :: xR u v :: L) st σ Q := x_wp_s (by decide) rfl
theorem wp_inc10 {v0 v1 v2 v3 v4 v5 v6 v7 v8 v9 : x_V} {x : Int} : x_Wp d m ((8, a, 10, c, e, p) :: K) (v0 :: v1 :: v2 :: v3 :: v4 :: v5 :: v6 :: v7 :: v8 :: v9 :: xI x :: L) st σ Q ↔ x_Wp d m K (v0 :: v1 :: v2 :: v3 :: v4 :: v5 :: v6 :: v7 :: v8 :: (x_clr v9) :: xI (x + a) :: L) st σ Q := x_wp_s (by decide) rfl
theorem wp_ild11 {v0 v1 v2 v3 v4 v5 v6 v7 v8 v9 v10 : x_V} {x : Int} : x_Wp d m ((2, a, 11, c, e, p) :: K) (v0 :: v1 :: v2 :: v3 :: v4 :: v5 :: v6 :: v7 :: v8 :: v9 :: v10 :: xI x :: L) st σ Q ↔ x_Wp d m K (v0 :: v1 :: v2 :: v3 :: v4 :: v5 :: v6 :: v7 :: v8 :: v9 :: v10 :: xI x :: L) (xI x :: st) σ Q := x_wp_s (by decide) rfl
theorem wp_lld11 {v0 v1 v2 v3 v4 v5 v6 v7 v8 v9 v10 : x_V} {x : Int} : x_Wp d m ((3, a, 11, c, e, p) :: K) (v0 :: v1 :: v2 :: v3 :: v4 :: v5 :: v6 :: v7 :: v8 :: v9 :: v10 :: xJ x :: L) st σ Q ↔ x_Wp d m K (v0 :: v1 :: v2 :: v3 :: v4 :: v5 :: v6 :: v7 :: v8 :: v9 :: v10 :: xJ x :: L) (xJ x :: st) σ Q := x_wp_s (by decide) rfl
theorem wp_ald11 {v0 v1 v2 v3 v4 v5 v6 v7 v8 v9 v10 : x_V} {u v : Nat} : x_Wp d m ((4, a, 11, c, e, p) :: K) (v0 :: v1 :: v2 :: v3 :: v4 :: v5 :: v6 :: v7 :: v8 :: v9 :: v10 :: xR u v :: L) st σ Q ↔ x_Wp d m K (v0 :: v1 :: v2 :: v3 :: v4 :: v5 :: v6 :: v7 :: v8 :: v9 :: v10 :: xR u v :: L) (xR u v :: st) σ Q := x_wp_s (by decide) rfl
theorem wp_ist11 {v0 v1 v2 v3 v4 v5 v6 v7 v8 v9 v10 : x_V} {w : x_V} {x : Int} : x_Wp d m ((5, a, 11, c, e, p) :: K) (v0 :: v1 :: v2 :: v3 :: v4 :: v5 :: v6 :: v7 :: v8 :: v9 :: v10 :: w :: L) (xI x :: st) σ Q ↔ x_Wp d m K (v0 :: v1 :: v2 :: v3 :: v4 :: v5 :: v6 :: v7 :: v8 :: v9 :: (x_clr v10) :: xI x :: L) st σ Q := x_wp_s (by decide) rfl
theorem wp_lst11 {v0 v1 v2 v3 v4 v5 v6 v7 v8 v9 v10 : x_V} {w w2 : x_V} {x : Int} : x_Wp d m ((6, a, 11, c, e, p) :: K) (v0 :: v1 :: v2 :: v3 :: v4 :: v5 :: v6 :: v7 :: v8 :: v9 :: v10 :: w :: w2 :: L) (xJ x :: st) σ Q ↔ x_Wp d m K (v0 :: v1 :: v2 :: v3 :: v4 :: v5 :: v6 :: v7 :: v8 :: v9 :: (x_clr v10) :: xJ x :: xU :: L) st σ Q := x_wp_s (by decide) rfl
theorem wp_ast11 {v0 v1 v2 v3 v4 v5 v6 v7 v8 v9 v10 : x_V} {w : x_V} {u v : Nat} : x_Wp d m ((7, a, 11, c, e, p) :: K) (v0 :: v1 :: v2 :: v3 :: v4 :: v5 :: v6 :: v7 :: v8 :: v9 :: v10 :: w :: L) (xR u v :: st) σ Q ↔ x_Wp d m K (v0 :: v1 :: v2 :: v3 :: v4 :: v5 :: v6 :: v7 :: v8 :: v9 :: (x_clr v10) :: xR u v :: L) st σ Q := x_wp_s (by decide) rfl
theorem wp_inc11 {v0 v1 v2 v3 v4 v5 v6 v7 v8 v9 v10 : x_V} {x : Int} : x_Wp d m ((8, a, 11, c, e, p) :: K) (v0 :: v1 :: v2 :: v3 :: v4 :: v5 :: v6 :: v7 :: v8 :: v9 :: v10 :: xI x :: L) st σ Q ↔ x_Wp d m K (v0 :: v1 :: v2 :: v3 :: v4 :: v5 :: v6 :: v7 :: v8 :: v9 :: (x_clr v10) :: xI (x + a) :: L) st σ Q := x_wp_s (by decide) rfl
theorem wp_ild12 {v0 v1 v2 v3 v4 v5 v6 v7 v8 v9 v10 v11 : x_V} {x : Int} : x_Wp d m ((2, a, 12, c, e, p) :: K) (v0 :: v1 :: v2 :: v3 :: v4 :: v5 :: v6 :: v7 :: v8 :: v9 :: v10 :: v11 :: xI x :: L) st σ Q ↔ x_Wp d m K (v0 :: v1 :: v2 :: v3 :: v4 :: v5 :: v6 :: v7 :: v8 :: v9 :: v10 :: v11 :: xI x :: L) (xI x :: st) σ Q := x_wp_s (by decide) rfl
theorem wp_lld12 {v0 v1 v2 v3 v4 v5 v6 v7 v8 v9 v10 v11 : x_V} {x : Int} : x_Wp d m ((3, a, 12, c, e, p) :: K) (v0 :: v1 :: v2 :: v3 :: v4 :: v5 :: v6 :: v7 :: v8 :: v9 :: v10 :: v11 :: xJ x :: L) st σ Q ↔ x_Wp d m K (v0 :: v1 :: v2 :: v3 :: v4 :: v5 :: v6 :: v7 :: v8 :: v9 :: v10 :: v11 :: xJ x :: L) (xJ x :: st) σ Q := x_wp_s (by decide) rfl
theorem wp_ald12 {v0 v1 v2 v3 v4 v5 v6 v7 v8 v9 v10 v11 : x_V} {u v : Nat} : x_Wp d m ((4, a, 12, c, e, p) :: K) (v0 :: v1 :: v2 :: v3 :: v4 :: v5 :: v6 :: v7 :: v8 :: v9 :: v10 :: v11 :: xR u v :: L) st σ Q ↔ x_Wp d m K (v0 :: v1 :: v2 :: v3 :: v4 :: v5 :: v6 :: v7 :: v8 :: v9 :: v10 :: v11 :: xR u v :: L) (xR u v :: st) σ Q := x_wp_s (by decide) rfl
theorem wp_ist12 {v0 v1 v2 v3 v4 v5 v6 v7 v8 v9 v10 v11 : x_V} {w : x_V} {x : Int} : x_Wp d m ((5, a, 12, c, e, p) :: K) (v0 :: v1 :: v2 :: v3 :: v4 :: v5 :: v6 :: v7 :: v8 :: v9 :: v10 :: v11 :: w :: L) (xI x :: st) σ Q ↔ x_Wp d m K (v0 :: v1 :: v2 :: v3 :: v4 :: v5 :: v6 :: v7 :: v8 :: v9 :: v10 :: (x_clr v11) :: xI x :: L) st σ Q := x_wp_s (by decide) rfl
theorem wp_lst12 {v0 v1 v2 v3 v4 v5 v6 v7 v8 v9 v10 v11 : x_V} {w w2 : x_V} {x : Int} : x_Wp d m ((6, a, 12, c, e, p) :: K) (v0 :: v1 :: v2 :: v3 :: v4 :: v5 :: v6 :: v7 :: v8 :: v9 :: v10 :: v11 :: w :: w2 :: L) (xJ x :: st) σ Q ↔ x_Wp d m K (v0 :: v1 :: v2 :: v3 :: v4 :: v5 :: v6 :: v7 :: v8 :: v9 :: v10 :: (x_clr v11) :: xJ x :: xU :: L) st σ Q := x_wp_s (by decide) rfl
theorem wp_ast12 {v0 v1 v2 v3 v4 v5 v6 v7 v8 v9 v10 v11 : x_V} {w : x_V} {u v : Nat} : x_Wp d m ((7, a, 12, c, e, p) :: K) (v0 :: v1 :: v2 :: v3 :: v4 :: v5 :: v6 :: v7 :: v8 :: v9 :: v10 :: v11 :: w :: L) (xR u v :: st) σ Q ↔ x_Wp d m K (v0 :: v1 :: v2 :: v3 :: v4 :: v5 :: v6 :: v7 :: v8 :: v9 :: v10 :: (x_clr v11) :: xR u v :: L) st σ Q := x_wp_s (by decide) rfl
theorem wp_inc12 {v0 v1 v2 v3 v4 v5 v6 v7 v8 v9 v10 v11 : x_V} {x : Int} : x_Wp d m ((8, a, 12, c, e, p) :: K) (v0 :: v1 :: v2 :: v3 :: v4 :: v5 :: v6 :: v7 :: v8 :: v9 :: v10 :: v11 :: xI x :: L) st σ Q ↔ x_Wp d m K (v0 :: v1 :: v2 :: v3 :: v4 :: v5 :: v6 :: v7 :: v8 :: v9 :: v10 :: (x_clr v11) :: xI (x + a) :: L) st σ Q := x_wp_s (by decide) rfl
theorem wp_ild13 {v0 v1 v2 v3 v4 v5 v6 v7 v8 v9 v10 v11 v12 : x_V} {x : Int} : x_Wp d m ((2, a, 13, c, e, p) :: K) (v0 :: v1 :: v2 :: v3 :: v4 :: v5 :: v6 :: v7 :: v8 :: v9 :: v10 :: v11 :: v12 :: xI x :: L) st σ Q ↔ x_Wp d m K (v0 :: v1 :: v2 :: v3 :: v4 :: v5 :: v6 :: v7 :: v8 :: v9 :: v10 :: v11 :: v12 :: xI x :: L) (xI x :: st) σ Q := x_wp_s (by decide) rfl
theorem wp_lld13 {v0 v1 v2 v3 v4 v5 v6 v7 v8 v9 v10 v11 v12 : x_V} {x : Int} : x_Wp d m ((3, a, 13, c, e, p) :: K) (v0 :: v1 :: v2 :: v3 :: v4 :: v5 :: v6 :: v7 :: v8 :: v9 :: v10 :: v11 :: v12 :: xJ x :: L) st σ Q ↔ x_Wp d m K (v0 :: v1 :: v2 :: v3 :: v4 :: v5 :: v6 :: v7 :: v8 :: v9 :: v10 :: v11 :: v12 :: xJ x :: L) (xJ x :: st) σ Q := x_wp_s (by decide) rfl
theorem wp_ald13 {v0 v1 v2 v3 v4 v5 v6 v7 v8 v9 v10 v11 v12 : x_V} {u v : Nat} : x_Wp d m ((4, a, 13, c, e, p) :: K) (v0 :: v1 :: v2 :: v3 :: v4 :: v5 :: v6 :: v7 :: v8 :: v9 :: v10 :: v11 :: v12 :: xR u v :: L) st σ Q ↔ x_Wp d m K (v0 :: v1 :: v2 :: v3 :: v4 :: v5 :: v6 :: v7 :: v8 :: v9 :: v10 :: v11 :: v12 :: xR u v :: L) (xR u v :: st) σ Q := x_wp_s (by decide) rfl
theorem wp_ist13 {v0 v1 v2 v3 v4 v5 v6 v7 v8 v9 v10 v11 v12 : x_V} {w : x_V} {x : Int} : x_Wp d m ((5, a, 13, c, e, p) :: K) (v0 :: v1 :: v2 :: v3 :: v4 :: v5 :: v6 :: v7 :: v8 :: v9 :: v10 :: v11 :: v12 :: w :: L) (xI x :: st) σ Q ↔ x_Wp d m K (v0 :: v1 :: v2 :: v3 :: v4 :: v5 :: v6 :: v7 :: v8 :: v9 :: v10 :: v11 :: (x_clr v12) :: xI x :: L) st σ Q := x_wp_s (by decide) rfl
theorem wp_lst13 {v0 v1 v2 v3 v4 v5 v6 v7 v8 v9 v10 v11 v12 : x_V} {w w2 : x_V} {x : Int} : x_Wp d m ((6, a, 13, c, e, p) :: K) (v0 :: v1 :: v2 :: v3 :: v4 :: v5 :: v6 :: v7 :: v8 :: v9 :: v10 :: v11 :: v12 :: w :: w2 :: L) (xJ x :: st) σ Q ↔ x_Wp d m K (v0 :: v1 :: v2 :: v3 :: v4 :: v5 :: v6 :: v7 :: v8 :: v9 :: v10 :: v11 :: (x_clr v12) :: xJ x :: xU :: L) st σ Q := x_wp_s (by decide) rfl
theorem wp_ast13 {v0 v1 v2 v3 v4 v5 v6 v7 v8 v9 v10 v11 v12 : x_V} {w : x_V} {u v : Nat} : x_Wp d m ((7, a, 13, c, e, p) :: K) (v0 :: v1 :: v2 :: v3 :: v4 :: v5 :: v6 :: v7 :: v8 :: v9 :: v10 :: v11 :: v12 :: w :: L) (xR u v :: st) σ Q ↔ x_Wp d m K (v0 :: v1 :: v2 :: v3 :: v4 :: v5 :: v6 :: v7 :: v8 :: v9 :: v10 :: v11 :: (x_clr v12) :: xR u v :: L) st σ Q := x_wp_s (by decide) rfl
theorem wp_inc13 {v0 v1 v2 v3 v4 v5 v6 v7 v8 v9 v10 v11 v12 : x_V} {x : Int} : x_Wp d m ((8, a, 13, c, e, p) :: K) (v0 :: v1 :: v2 :: v3 :: v4 :: v5 :: v6 :: v7 :: v8 :: v9 :: v10 :: v11 :: v12 :: xI x :: L) st σ Q ↔ x_Wp d m K (v0 :: v1 :: v2 :: v3 :: v4 :: v5 :: v6 :: v7 :: v8 :: v9 :: v10 :: v11 :: (x_clr v12) :: xI (x + a) :: L) st σ Q := x_wp_s (by decide) rfl
theorem wp_ild14 {v0 v1 v2 v3 v4 v5 v6 v7 v8 v9 v10 v11 v12 v13 : x_V} {x : Int} : x_Wp d m ((2, a, 14, c, e, p) :: K) (v0 :: v1 :: v2 :: v3 :: v4 :: v5 :: v6 :: v7 :: v8 :: v9 :: v10 :: v11 :: v12 :: v13 :: xI x :: L) st σ Q ↔ x_Wp d m K (v0 :: v1 :: v2 :: v3 :: v4 :: v5 :: v6 :: v7 :: v8 :: v9 :: v10 :: v11 :: v12 :: v13 :: xI x :: L) (xI x :: st) σ Q := x_wp_s (by decide) rfl
theorem wp_lld14 {v0 v1 v2 v3 v4 v5 v6 v7 v8 v9 v10 v11 v12 v13 : x_V} {x : Int} : x_Wp d m ((3, a, 14, c, e, p) :: K) (v0 :: v1 :: v2 :: v3 :: v4 :: v5 :: v6 :: v7 :: v8 :: v9 :: v10 :: v11 :: v12 :: v13 :: xJ x :: L) st σ Q ↔ x_Wp d m K (v0 :: v1 :: v2 :: v3 :: v4 :: v5 :: v6 :: v7 :: v8 :: v9 :: v10 :: v11 :: v12 :: v13 :: xJ x :: L) (xJ x :: st) σ Q := x_wp_s (by decide) rfl
theorem wp_ald14 {v0 v1 v2 v3 v4 v5 v6 v7 v8 v9 v10 v11 v12 v13 : x_V} {u v : Nat} : x_Wp d m ((4, a, 14, c, e, p) :: K) (v0 :: v1 :: v2 :: v3 :: v4 :: v5 :: v6 :: v7 :: v8 :: v9 :: v10 :: v11 :: v12 :: v13 :: xR u v :: L) st σ Q ↔ x_Wp d m K (v0 :: v1 :: v2 :: v3 :: v4 :: v5 :: v6 :: v7 :: v8 :: v9 :: v10 :: v11 :: v12 :: v13 :: xR u v :: L) (xR u v :: st) σ Q := x_wp_s (by decide) rfl
theorem wp_ist14 {v0 v1 v2 v3 v4 v5 v6 v7 v8 v9 v10 v11 v12 v13 : x_V} {w : x_V} {x : Int} : x_Wp d m ((5, a, 14, c, e, p) :: K) (v0 :: v1 :: v2 :: v3 :: v4 :: v5 :: v6 :: v7 :: v8 :: v9 :: v10 :: v11 :: v12 :: v13 :: w :: L) (xI x :: st) σ Q ↔ x_Wp d m K (v0 :: v1 :: v2 :: v3 :: v4 :: v5 :: v6 :: v7 :: v8 :: v9 :: v10 :: v11 :: v12 :: (x_clr v13) :: xI x :: L) st σ Q := x_wp_s (by decide) rfl
theorem wp_lst14 {v0 v1 v2 v3 v4 v5 v6 v7 v8 v9 v10 v11 v12 v13 : x_V} {w w2 : x_V} {x : Int} : x_Wp d m ((6, a, 14, c, e, p) :: K) (v0 :: v1 :: v2 :: v3 :: v4 :: v5 :: v6 :: v7 :: v8 :: v9 :: v10 :: v11 :: v12 :: v13 :: w :: w2 :: L) (xJ x :: st) σ Q ↔ x_Wp d m K (v0 :: v1 :: v2 :: v3 :: v4 :: v5 :: v6 :: v7 :: v8 :: v9 :: v10 :: v11 :: v12 :: (x_clr v13) :: xJ x :: xU :: L) st σ Q := x_wp_s (by decide) rfl
theorem wp_ast14 {v0 v1 v2 v3 v4 v5 v6 v7 v8 v9 v10 v11 v12 v13 : x_V} {w : x_V} {u v : Nat} : x_Wp d m ((7, a, 14, c, e, p) :: K) (v0 :: v1 :: v2 :: v3 :: v4 :: v5 :: v6 :: v7 :: v8 :: v9 :: v10 :: v11 :: v12 :: v13 :: w :: L) (xR u v :: st) σ Q ↔ x_Wp d m K (v0 :: v1 :: v2 :: v3 :: v4 :: v5 :: v6 :: v7 :: v8 :: v9 :: v10 :: v11 :: v12 :: (x_clr v13) :: xR u v :: L) st σ Q := x_wp_s (by decide) rfl
theorem wp_inc14 {v0 v1 v2 v3 v4 v5 v6 v7 v8 v9 v10 v11 v12 v13 : x_V} {x : Int} : x_Wp d m ((8, a, 14, c, e, p) :: K) (v0 :: v1 :: v2 :: v3 :: v4 :: v5 :: v6 :: v7 :: v8 :: v9 :: v10 :: v11 :: v12 :: v13 :: xI x :: L) st σ Q ↔ x_Wp d m K (v0 :: v1 :: v2 :: v3 :: v4 :: v5 :: v6 :: v7 :: v8 :: v9 :: v10 :: v11 :: v12 :: (x_clr v13) :: xI (x + a) :: L) st σ Q := x_wp_s (by decide) rfl
end XWP2

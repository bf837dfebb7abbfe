/-! bounds of the tables' values -/
def g_b (k : Int) : Int := if k = 0 then 600000000000000000 else if k = 1 then 500000000000000 else if k = 2 then 400000000000 else if k = 3 then 300000000 else 200000
theorem gb_pos {k : Int} : 200000 ≤ g_b k ∧ g_b k ≤ 600000000000000000 := by
  unfold g_b
  split
  · omega
  · split
    · omega
    · split
      · omega
      · split <;> omega
theorem gb_s {k : Int} (h : 0 ≤ k ∧ k ≤ 3) : 30000 * x_pay k + 1000 * g_b (k + 1) ≤ g_b k ∧ 30000 + g_b (k + 1) ≤ g_b k ∧ 1000 * (30000 * x_pay (k + 1) + g_b (k + 1)) ≤ g_b k := by
  have : k = 0 ∨ k = 1 ∨ k = 2 ∨ k = 3 := by omega
  rcases this with rfl | rfl | rfl | rfl <;> decide
theorem gb_e {k : Int} (h : 0 ≤ k ∧ k ≤ 4) : 30000 * x_pay k ≤ g_b k := by
  have : k = 0 ∨ k = 1 ∨ k = 2 ∨ k = 3 ∨ k = 4 := by omega
  rcases this with rfl | rfl | rfl | rfl | rfl <;> decide
def t_bd (mk : Int) (w T : Int → Int) (f : Int) : Prop := ∀ s, 0 ≤ s → s < 42 → T (42 * f + s) = mk ∨ (-(g_b (w_of w f 6)) ≤ T (42 * f + s) ∧ T (42 * f + s) ≤ g_b (w_of w f 6))
section TB
variable {w L T : Int → Int} {mk c E Wd f st wd b t s x : Int}
theorem sl_iff (hw : wf w) (h0 : 0 ≤ f) (h1 : f < w 0) (hs : 0 ≤ st ∧ st ≤ 20) (hd : 0 ≤ wd ∧ wd ≤ 1) (hb : 0 ≤ b ∧ b ≤ 1) : s_law w Wd f st wd b (st + x - w_of w f 5) ↔ (p_law w f st wd x b ∧ (b = 1 → w_of w f 6 ≤ Wd)) := by
  have o := wf_f hw h0 h1
  unfold wf_one at o
  unfold s_law p_law
  generalize p_room w (p_or wd b) = r
  omega
theorem sl_b (hw : wf w) (h0 : 0 ≤ f) (h1 : f < w 0) (hs : 0 ≤ st ∧ st ≤ 20) (h : s_law w Wd f st wd b t) : (0 ≤ b ∧ b ≤ 1) ∧ (0 ≤ t ∧ t ≤ 20) ∧ (-20 ≤ t + w_of w f 5 - st ∧ t + w_of w f 5 - st ≤ w_of w f 3) := by
  have o := wf_f hw h0 h1
  unfold wf_one at o
  have r := room_b hw (l := p_or wd b)
  unfold s_law at h
  omega
theorem rsum_b (hw : wf w) (h0 : 0 ≤ f) (h1 : f < w 0) (hT : ∀ i, 0 ≤ i → i < w_of w f 7 → t_bd mk w T (w_of w f (8 + i))) (s0 : 0 ≤ s) (s1 : s < 42) : ∀ n : Nat, (n : Int) ≤ w_of w f 7 → (∀ i : Int, 0 ≤ i → i < n → ¬ T (42 * w_of w f (8 + i) + s) = mk) → -(n * (200 * g_b (w_of w f 6 + 1))) ≤ r_sum w T f s n ∧ r_sum w T f s n ≤ n * (200 * g_b (w_of w f 6 + 1)) := by
  intro n
  induction n with
  | zero => intro _ _; show -(((0 : Nat) : Int) * (200 * g_b (w_of w f 6 + 1))) ≤ 0 ∧ (0 : Int) ≤ ((0 : Nat) : Int) * (200 * g_b (w_of w f 6 + 1)); omega
  | succ n ih =>
    intro hn hd
    have i := ih (by omega) (fun i p q => hd i p (by omega))
    have kk := wf_k hw (i := (n : Int)) h0 h1 (by omega) (by omega)
    have ok := wf_f hw (f := w_of w f (8 + n)) (by omega) (by omega)
    unfold wf_one at ok
    have v := (hT n (by omega) (by omega) s s0 s1).resolve_left (hd n (by omega) (by omega))
    rw [kk.2.2.2] at v
    have gp := gb_pos (k := w_of w f 6 + 1)
    have m := mulb (a := T (42 * w_of w f (8 + n) + s)) (b := w_of w (w_of w f (8 + n)) 1) (A := g_b (w_of w f 6 + 1)) (B := 200) v (by omega)
    rw [Int.mul_comm (T (42 * w_of w f (8 + n) + s))] at m
    have e : r_sum w T f s (n + 1) = r_sum w T f s n + w_of w (w_of w f (8 + n)) 1 * T (42 * w_of w f (8 + n) + s) := rfl
    have e2 : ((n + 1 : Nat) : Int) * (200 * g_b (w_of w f 6 + 1)) = n * (200 * g_b (w_of w f 6 + 1)) + g_b (w_of w f 6 + 1) * 200 := by
      rw [show ((n + 1 : Nat) : Int) = (n : Int) + 1 by omega, Int.add_mul]
      omega
    rw [e, e2]
    omega
theorem rmax_b (hw : wf w) (h0 : 0 ≤ f) (h1 : f < w 0) (hT : ∀ i, 0 ≤ i → i < w_of w f 7 → t_bd mk w T (w_of w f (8 + i))) (s0 : 0 ≤ s) (s1 : s < 42) : ∀ n : Nat, (n : Int) ≤ w_of w f 7 → (∀ i : Int, 0 ≤ i → i < n → ¬ T (42 * w_of w f (8 + i) + s) = mk) → (n = 0 ∧ r_max w T f s n = (-9223372036854775808)) ∨ (-(g_b (w_of w f 6 + 1)) ≤ r_max w T f s n ∧ r_max w T f s n ≤ g_b (w_of w f 6 + 1)) := by
  intro n
  induction n with
  | zero => intro _ _; exact Or.inl ⟨rfl, rfl⟩
  | succ n ih =>
    intro hn hd
    have i := ih (by omega) (fun i p q => hd i p (by omega))
    have kk := wf_k hw (i := (n : Int)) h0 h1 (by omega) (by omega)
    have v := (hT n (by omega) (by omega) s s0 s1).resolve_left (hd n (by omega) (by omega))
    rw [kk.2.2.2] at v
    have gp := gb_pos (k := w_of w f 6 + 1)
    have e : r_max w T f s (n + 1) = max (r_max w T f s n) (T (42 * w_of w f (8 + n) + s)) := rfl
    rw [e]
    rcases i with ⟨_, i⟩ | i
    · rw [i]
      omega
    · omega
theorem dead_not (h : ¬ r_dead mk w T f s) : ∀ i : Int, 0 ≤ i → i < w_of w f 7 → ¬ T (42 * w_of w f (8 + i) + s) = mk := fun i a b e => h ⟨i, a, b, e⟩
theorem vof_b (hw : wf w) (h0 : 0 ≤ f) (h1 : f < w 0) (hs : 0 ≤ st ∧ st ≤ 20) (hd : 0 ≤ wd ∧ wd ≤ 1) (hT : ∀ i, 0 ≤ i → i < w_of w f 7 → t_bd mk w T (w_of w f (8 + i))) (hL : c = 2 → p_end w E f → -170000 ≤ L f ∧ L f ≤ 170000) (hc : 0 ≤ c ∧ c ≤ 3) (hl : s_law w Wd f st wd b t) (hr : r_ok mk E w T f (21 * p_or wd b + t)) : -(g_b (w_of w f 6)) ≤ v_of c E w L T f st wd b t ∧ v_of c E w L T f st wd b t ≤ g_b (w_of w f 6) := by
  obtain ⟨lb, lt, lx⟩ := sl_b hw h0 h1 hs hl
  have o := wf_f hw h0 h1
  unfold wf_one at o
  have cb := cost_b hw (E := E) (x := t + w_of w f 5 - st) (b := b) (t := t) h0 h1 (by omega) lb lt
  have po := p_or_01 (a := wd) (b := b)
  have pb := pay_b (m := w_of w f 6)
  have gp := gb_pos (k := w_of w f 6)
  have ge := gb_e (k := w_of w f 6) (by omega)
  have mc := mulb (a := p_cost w E f (t + w_of w f 5 - st) b t) (b := x_pay (w_of w f 6)) (A := 30000) (B := x_pay (w_of w f 6)) cb (by omega)
  rw [Int.mul_comm (p_cost w E f (t + w_of w f 5 - st) b t)] at mc
  unfold v_of v_sc r_of
  by_cases ce : p_end w E f
  · rw [if_pos ce]
    by_cases c0 : c = 0
    · rw [if_pos c0, if_neg (by omega)]
      omega
    · rw [if_neg c0, Int.one_mul]
      by_cases c2 : c = 2
      · rw [if_pos c2]
        have := hL c2 ce
        omega
      · rw [if_neg c2]
        omega
  · rw [if_neg ce]
    have hk : 0 < w_of w f 7 := by
      by_cases z : w_of w f 7 = 0
      · exact absurd (Or.inl z) ce
      · omega
    have k0 := wf_k hw (i := 0) h0 h1 (by omega) hk
    have ok := wf_f hw (f := w_of w f (8 + 0)) (by omega) (by omega)
    unfold wf_one at ok
    have gs := gb_s (k := w_of w f 6) (by omega)
    have hd' := dead_not (hr.resolve_left ce)
    have g1 := gb_pos (k := w_of w f 6 + 1)
    by_cases c0 : c = 0
    · rw [if_pos c0, if_pos c0]
      have rb := rsum_b hw h0 h1 hT (s := 21 * p_or wd b + t) (by omega) (by omega) (w_of w f 7).toNat (by omega) (fun i p q => hd' i p (by omega))
      have m5 := mulb (a := ((w_of w f 7).toNat : Int)) (b := 200 * g_b (w_of w f 6 + 1)) (A := 5) (B := 200 * g_b (w_of w f 6 + 1)) (by omega) (by omega)
      omega
    · rw [if_neg c0, if_neg c0, Int.one_mul]
      have rb := rmax_b hw h0 h1 hT (s := 21 * p_or wd b + t) (by omega) (by omega) (w_of w f 7).toNat (by omega) (fun i p q => hd' i p (by omega))
      rcases rb with ⟨z, _⟩ | z
      · omega
      · omega
theorem vmx_b {v : Int} (h : -(g_b s) ≤ v ∧ v ≤ g_b s) : -(g_b s) ≤ v_mx c v ∧ v_mx c v ≤ g_b s := by
  have := gb_pos (k := s)
  unfold v_mx
  split <;> omega
end TB

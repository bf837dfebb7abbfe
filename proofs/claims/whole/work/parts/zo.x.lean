theorem psS_f {b : Int → Int} {n : Int} {x : PS} (h : ¬ x.1 = 0) : psS b n x = x := if_pos h
theorem psN_f {b : Int → Int} {n lo hi : Int} {x : PS} (h : ¬ x.1 = 0) : psN b n lo hi x = x := if_pos h
theorem psT_f {b : Int → Int} {n lo hi : Int} {s : List Int} {x : PS} (h : ¬ x.1 = 0) : psT b n s lo hi x = x := by
  unfold psT
  have e : psW b n s x = x := if_pos h
  rw [e]
  exact if_pos h
theorem psS_c {b : Int → Int} {n : Int} {x : PS} (h : (psS b n x).1 = 0) : x.1 = 0 := by
  by_cases c : x.1 = 0
  · exact c
  · rw [psS_f c] at h
    exact h
theorem ne13' {a c : Int} : ¬ ((3, a, c) : PS).1 = 0 := fun z => by (have : (3 : Int) = 0 := z; omega)
theorem tlO_c {td : Int → Int} {m k f p : Int} : ((tlO td m k f p).1 = 0 → ¬ 0 < m ∧ ¬ td k = 1 ∧ tlO td m k f p = (0, -1, p)) ∧ (¬ (tlO td m k f p).1 = 0 → (0 < m ∧ tlO td m k f p = (1, f, p)) ∨ (¬ 0 < m ∧ td k = 1 ∧ tlO td m k f p = (3, f, p))) := by
  unfold tlO
  by_cases c1 : 0 < m
  · rw [if_pos c1]
    exact ⟨fun z => absurd z ne11', fun _ => Or.inl ⟨c1, rfl⟩⟩
  · rw [if_neg c1]
    by_cases c2 : td k = 1
    · rw [if_pos c2]
      exact ⟨fun z => absurd z ne13', fun _ => Or.inr ⟨c1, c2, rfl⟩⟩
    · rw [if_neg c2]
      exact ⟨fun _ => ⟨c1, c2, rfl⟩, fun z => absurd rfl z⟩
theorem dW_up {fr : Int → Int} {ix v : Int} (h : dW fr) (hm : fr 0 = 0) (hx : 1 ≤ ix ∧ ix ≤ 6) (hv : 0 ≤ v ∧ ((ix ≤ 3 ∧ v ≤ 20) ∨ (ix = 4 ∧ v ≤ 999) ∨ (5 ≤ ix ∧ v ≤ 99))) : dW (w_up fr ix v) ∧ w_up fr ix v 0 = 0 := by
  obtain ⟨hd, hz, hr⟩ := h
  have e0 : w_up fr ix v 0 = 0 := (up_ne (by omega)).trans hm
  have h0 := (hr.resolve_right (fun z => by have := z.1.1.1; omega)).2
  refine ⟨⟨?_, fun i hi => (up_ne (by omega)).trans (hz i hi), Or.inl ⟨e0, (up_ne (by omega)).trans h0.1, fun k k0 k1 => (up_ne (by omega)).trans (h0.2 k k0 k1)⟩⟩, e0⟩
  unfold dHd at hd ⊢
  have q : ∀ i, w_up fr ix v i = v ∧ i = ix ∨ w_up fr ix v i = fr i ∧ ¬ i = ix := by
    intro i
    by_cases z : i = ix
    · exact Or.inl ⟨by rw [z]; exact up_eq, z⟩
    · exact Or.inr ⟨up_ne z, z⟩
  rcases q 1 with a | a <;> rcases q 2 with c | c <;> rcases q 3 with d | d <;> rcases q 4 with e | e <;> rcases q 5 with f | f <;> rcases q 6 with g | g <;> omega
theorem mir_up {σ : x_S} {fr : Int → Int} {ix v : Int} (h : mir σ 0 fr) (hm : fr 0 = 0) (hx : 1 ≤ ix ∧ ix ≤ 6) : mir (x_st σ 6 0 (ix - 1) v) 0 (w_up fr ix v) := by
  have e0 : w_up fr ix v 0 = 0 := (up_ne (by omega)).trans hm
  have hh := h.1
  have q : ∀ i, 1 ≤ i → i ≤ 6 → σ 6 0 (i - 1) = fr i → x_st σ 6 0 (ix - 1) v 6 0 (i - 1) = w_up fr ix v i := by
    intro i i0 i1 hi
    by_cases z : i = ix
    · rw [z, x_rd_eq, up_eq]
    · rw [x_rd_ne (by omega), up_ne z]
      exact hi
  refine ⟨⟨q 1 (by omega) (by omega) hh.1, q 2 (by omega) (by omega) hh.2.1, q 3 (by omega) (by omega) hh.2.2.1, q 4 (by omega) (by omega) hh.2.2.2.1, q 5 (by omega) (by omega) hh.2.2.2.2.1, q 6 (by omega) (by omega) hh.2.2.2.2.2.1, ?_⟩, fun g g0 g1 => ?_⟩
  · rw [x_rd_ne (by omega), e0, ← hm]
    exact hh.2.2.2.2.2.2
  · rw [e0] at g1
    omega
theorem td_up {td : Int → Int} {k : Int} (h : tdW td) : tdW (w_up td k 1) := by
  intro q q0 q1
  by_cases z : q = k
  · rw [z, up_eq]
    omega
  · rw [up_ne z]
    exact h q q0 q1
theorem rk9_d {σ σ' : x_S} (h : rk9 σ σ') : x_eqo dfS σ σ' := eqo_mono (by unfold dfS; simp) h.1
theorem rkp_o {σ σ' : x_S} (h : rkp σ σ') {c : Nat} (hc : 6 ≤ c) : σ' c 0 = σ c 0 := h.1 c 0 (by simp; omega)
theorem rk9_o {σ σ' : x_S} (h : rk9 σ σ') {c : Nat} (hc : 6 ≤ c) : σ' c 0 = σ c 0 := h.1 c 0 (by simp; omega)
theorem m0_of {m : Int} (h : ¬ 0 < m) (hm : 0 ≤ m ∧ m ≤ 40) : m = 0 := by omega
theorem lt_no {g : Int} {P : Prop} (a : 0 < g) (c : g < 0) : P := by omega
theorem fv_r {ix hi v : Int} (h : (ix ≤ 3 ∧ hi ≤ 20) ∨ (5 ≤ ix ∧ hi ≤ 99)) (hv : 0 ≤ v ∧ v ≤ hi) : 0 ≤ v ∧ ((ix ≤ 3 ∧ v ≤ 20) ∨ (ix = 4 ∧ v ≤ 999) ∨ (5 ≤ ix ∧ v ≤ 99)) := by omega
/-! one of the five lines of one number -/
theorem h_five {σ : x_S} {b : Int → Int} {n A k ix hi bit : Int} {j : Nat} {fr td wo : Int → Int} (h : CS σ b n (0, -1, tA b n A)) (h7 : σ 3 0 7 = tF b n A) (hD : DR σ fr td wo) (hW : dW fr) (ht : tdW td) (hf : fiv k ix hi j) (hk5 : fivW b n A k) (hw : wrd b n A j) (hb : 1 ≤ bit ∧ bit ≤ 16) (ha : x_and (tbv td (fr 0)) bit = if td k = 1 then bit else 0) (ho : td k = 0 → x_or (tbv td (fr 0)) bit = tbv (w_up td k 1) (fr 0)) : ∃ σ1 σ2 v σ4, (∀ (d : Nat) (Q : Option x_V → x_S → Prop), x_Sp (d + 1) 32 [xR 3 0, xI bit] σ Q ↔ Q none σ1) ∧ (∀ (d : Nat) (Q : Option x_V → x_S → Prop), x_Sp (d + 2) 34 [xR 3 0, xI 0, xI hi] σ1 Q ↔ Q (some (xI v)) σ2) ∧ (∀ (d : Nat) (Q : Option x_V → x_S → Prop), x_Sp (d + 2) 39 [xR 3 0] (x_st σ2 6 0 (ix - 1) v) Q ↔ Q none σ4) ∧ x_eqo dfS σ σ4 ∧ ∃ x' fr' td' wo', LN b n A fr td wo x' fr' td' wo' ∧ CS σ4 b n x' ∧ (x'.1 = 0 → DR σ4 fr' td' wo' ∧ dW fr' ∧ tdW td') := by
  obtain ⟨hM, h9, h5⟩ := id hD
  have hh : (0 ≤ k ∧ k ≤ 4) ∧ (1 ≤ ix ∧ ix ≤ 6) ∧ (0 ≤ hi ∧ hi ≤ 100000) ∧ ((ix ≤ 3 ∧ hi ≤ 20) ∨ (5 ≤ ix ∧ hi ≤ 99)) := by
    rcases hf with ⟨rfl, rfl, rfl, _⟩ | ⟨rfl, rfl, rfl, _⟩ | ⟨rfl, rfl, rfl, _⟩ | ⟨rfl, rfl, rfl, _⟩ <;> (clear ha ho; omega)
  obtain ⟨kr, hh⟩ := hh
  have tkr := ht k kr.1 kr.2
  have tkr2 : td k = 0 ∨ td k = 1 := by (clear ha ho; omega)
  obtain ⟨tk1, tk2, _⟩ := tb_k (m := fr 0) ht
  obtain ⟨r1, σ1, ⟨hr1, rk1, c1, b1⟩, ev1⟩ := x_ex (h_tell h h7 h9 tkr2 tk1 tk2 ha ho hb)
  subst hr1
  clear ha ho tk2
  obtain ⟨r2, σ2, ⟨rk2, c2, v, hr2, vb, hv, _⟩, ev2⟩ := x_ex (h_num (lo := 0) (hi := hi) (by omega) hh.2.1 c1)
  subst hr2
  have c3 : CS (x_st σ2 6 0 (ix - 1) v) b n (psN b n 0 hi (tlO td (fr 0) k (tF b n A) (tA b n A))) := CS_e c2 (x_st_o (by omega)) (x_st_o (by omega))
  obtain ⟨r4, σ4, ⟨hr4, rk4, c4⟩, ev4⟩ := x_ex (h_dS c3)
  subst hr4
  have eo : x_eqo dfS σ σ4 := eqo_trans (rk9_d rk1) (eqo_trans (rkp_d rk2) (eqo_trans (eqo_st (by unfold dfS; simp) eqo_refl) (rkp_d rk4)))
  refine ⟨σ1, σ2, v, σ4, ev1, ev2, ev4, eo, ?_⟩
  by_cases y : (tlO td (fr 0) k (tF b n A) (tA b n A)).1 = 0
  · obtain ⟨y1, y2, y3⟩ := tlO_c.1 y
    have m0 : fr 0 = 0 := m0_of y1 (dW_m hW)
    rw [y3] at c4 c2
    refine ⟨_, w_up fr ix (psV b n (0, -1, tA b n A)), w_up td k 1, wo, Or.inr (Or.inl ⟨k, ix, hi, j, hf, hw, m0, tkr2.resolve_right y2, rfl, rfl, rfl, rfl⟩), c4, fun z => ?_⟩
    have z1 := psN_c (psS_c z)
    have ev' : v = psV b n (0, -1, tA b n A) := by
      have := hv y
      rw [y3] at this
      exact this z1.2.1
    have dw := dW_up (ix := ix) (v := v) hW m0 hh.1 (fv_r hh.2.2 (by rw [ev']; exact z1.2.2))
    have hM2 : mir σ2 0 fr := mir_eq hM (fun c q1 q2 => by rw [rkp_o rk2 q1, rk9_o rk1 q1])
    have hM3 := mir_up (v := v) hM2 m0 hh.1
    rw [ev'] at dw hM3
    refine ⟨⟨mir_eq hM3 (fun c q1 q2 => by rw [rkp_o rk4 q1, ev']), ?_, fun g g0 g1 => ?_⟩, dw.1, td_up ht⟩
    · rw [rk4.2 9 (by decide), x_st_o (by decide), rk2.2 9 (by decide), b1 y, dw.2, m0]
    · rw [dw.2] at g1
      exact lt_no g0 g1
  · rw [psN_f y, psS_f y] at c4
    rcases tlO_c.2 y with ⟨y1, y2⟩ | ⟨y1, y2, y3⟩
    · rw [y2] at c4
      exact ⟨_, fr, td, wo, Or.inl ⟨1, rfl, Or.inl ⟨rfl, Or.inl ⟨k, hk5, y1⟩⟩⟩, c4, fun z => absurd z ne11'⟩
    · rw [y3] at c4
      have mb := dW_m hW
      exact ⟨_, fr, td, wo, Or.inl ⟨3, rfl, Or.inr ⟨rfl, Or.inl ⟨k, hk5, m0_of y1 mb, y2⟩⟩⟩, c4, fun z => absurd z ne13'⟩
/-! the line of two numbers -/
theorem h_wide {σ : x_S} {b : Int → Int} {n A : Int} {fr td wo : Int → Int} (h : CS σ b n (0, -1, tA b n A)) (h7 : σ 3 0 7 = tF b n A) (hD : DR σ fr td wo) (hW : dW fr) (ht : tdW td) (hw : wrd b n A 2) : ∃ σ1 σ2 v σ3 σ5 v2 σ6, (∀ (d : Nat) (Q : Option x_V → x_S → Prop), x_Sp (d + 1) 32 [xR 3 0, xI 4] σ Q ↔ Q none σ1) ∧ (∀ (d : Nat) (Q : Option x_V → x_S → Prop), x_Sp (d + 2) 34 [xR 3 0, xI 0, xI 20] σ1 Q ↔ Q (some (xI v)) σ2) ∧ (∀ (d : Nat) (Q : Option x_V → x_S → Prop), x_Sp (d + 5) 35 [xR 3 0, xR 101 3] (x_st σ2 6 0 2 v) Q ↔ Q none σ3) ∧ (∀ (d : Nat) (Q : Option x_V → x_S → Prop), x_Sp (d + 2) 34 [xR 3 0, xI 0, xI 999] σ3 Q ↔ Q (some (xI v2)) σ5) ∧ (∀ (d : Nat) (Q : Option x_V → x_S → Prop), x_Sp (d + 2) 39 [xR 3 0] (x_st σ5 6 0 3 v2) Q ↔ Q none σ6) ∧ x_eqo dfS σ σ6 ∧ ∃ x' fr' td' wo', LN b n A fr td wo x' fr' td' wo' ∧ CS σ6 b n x' ∧ (x'.1 = 0 → DR σ6 fr' td' wo' ∧ dW fr' ∧ tdW td') := by
  obtain ⟨hM, h9, h5⟩ := id hD
  have tkr := ht 2 (by omega) (by omega)
  have tkr2 : td 2 = 0 ∨ td 2 = 1 := by omega
  obtain ⟨tk1, tk2, _, _, tk5, _⟩ := tb_k (m := fr 0) ht
  obtain ⟨r1, σ1, ⟨hr1, rk1, c1, b1⟩, ev1⟩ := x_ex (h_tell (k := 2) (bit := 4) h h7 h9 tkr2 tk1 tk2 tk5.1 tk5.2 (by decide))
  subst hr1
  clear tk2 tk5
  obtain ⟨r2, σ2, ⟨rk2, c2, v, hr2, vb, hv, _⟩, ev2⟩ := x_ex (h_num (lo := 0) (hi := 20) (by omega) (by omega) c1)
  subst hr2
  have c3 : CS (x_st σ2 6 0 2 v) b n (psN b n 0 20 (tlO td (fr 0) 2 (tF b n A) (tA b n A))) := CS_e c2 (x_st_o (by omega)) (x_st_o (by omega))
  obtain ⟨σ3, σ5, v2, ev3, ev5, rk5, c5, vb2, hv2⟩ := h_ct (j := 3) (lo := 0) (hi := 999) (by omega) (by omega) (by omega) c3
  have c6 : CS (x_st σ5 6 0 3 v2) b n (psT b n (xst 3) 0 999 (psN b n 0 20 (tlO td (fr 0) 2 (tF b n A) (tA b n A)))) := CS_e c5 (x_st_o (by omega)) (x_st_o (by omega))
  obtain ⟨r7, σ6, ⟨hr7, rk7, c7⟩, ev7⟩ := x_ex (h_dS c6)
  subst hr7
  have eo : x_eqo dfS σ σ6 := eqo_trans (rk9_d rk1) (eqo_trans (rkp_d rk2) (eqo_trans (eqo_st (by unfold dfS; simp) eqo_refl) (eqo_trans (rkp_d rk5) (eqo_trans (eqo_st (by unfold dfS; simp) eqo_refl) (rkp_d rk7)))))
  refine ⟨σ1, σ2, v, σ3, σ5, v2, σ6, ev1, ev2, ev3, ev5, ev7, eo, ?_⟩
  by_cases y : (tlO td (fr 0) 2 (tF b n A) (tA b n A)).1 = 0
  · obtain ⟨y1, y2, y3⟩ := tlO_c.1 y
    have m0 : fr 0 = 0 := m0_of y1 (dW_m hW)
    rw [y3] at c7 hv2
    refine ⟨_, w_up (w_up fr 3 (psV b n (0, -1, tA b n A))) 4 (psU b n (xst 3) (psN b n 0 20 (0, -1, tA b n A))), w_up td 2 1, wo, Or.inr (Or.inr (Or.inl ⟨hw, m0, tkr2.resolve_right y2, rfl, rfl, rfl, rfl⟩)), c7, fun z => ?_⟩
    have z0 := psS_c z
    have z2 := psT_c z0
    have z1 := psN_c z2.1
    have ev' : v = psV b n (0, -1, tA b n A) := by
      have := hv y
      rw [y3] at this
      exact this z1.2.1
    have ev2' := hv2 z0
    have r1 := z1.2.2
    have r2 := z2.2.2.2
    rw [← ev'] at r1 ⊢
    rw [← ev2'] at r2 ⊢
    have dw := dW_up (ix := 3) (v := v) hW m0 (by decide) ⟨r1.1, Or.inl ⟨by decide, r1.2⟩⟩
    have dw2 := dW_up (ix := 4) (v := v2) dw.1 dw.2 (by decide) ⟨r2.1, Or.inr (Or.inl ⟨rfl, r2.2⟩)⟩
    have hM2 : mir σ2 0 fr := mir_eq hM (fun c q1 q2 => by rw [rkp_o rk2 q1, rk9_o rk1 q1])
    have hM3 := mir_up (ix := 3) (v := v) hM2 m0 (by decide)
    have hM5 : mir σ5 0 (w_up fr 3 v) := mir_eq hM3 (fun c q1 q2 => by rw [rkp_o rk5 q1]; rfl)
    have hM6 := mir_up (ix := 4) (v := v2) hM5 dw.2 (by decide)
    refine ⟨⟨mir_eq hM6 (fun c q1 q2 => by rw [rkp_o rk7 q1]; rfl), ?_, fun g g0 g1 => ?_⟩, dw2.1, td_up ht⟩
    · rw [rk7.2 9 (by decide), x_st_o (by decide), rk5.2 9 (by decide), x_st_o (by decide), rk2.2 9 (by decide), b1 y, dw2.2, m0]
    · rw [dw2.2] at g1
      exact lt_no g0 g1
  · rw [psN_f y, psT_f y, psS_f y] at c7
    have k5 : fivW b n A 2 := Or.inr (Or.inr (Or.inl ⟨rfl, hw⟩))
    rcases tlO_c.2 y with ⟨y1, y2⟩ | ⟨y1, y2, y3⟩
    · rw [y2] at c7
      exact ⟨_, fr, td, wo, Or.inl ⟨1, rfl, Or.inl ⟨rfl, Or.inl ⟨2, k5, y1⟩⟩⟩, c7, fun z => absurd z ne11'⟩
    · rw [y3] at c7
      have mb := dW_m hW
      exact ⟨_, fr, td, wo, Or.inl ⟨3, rfl, Or.inr ⟨rfl, Or.inl ⟨2, k5, m0_of y1 mb, y2⟩⟩⟩, c7, fun z => absurd z ne13'⟩

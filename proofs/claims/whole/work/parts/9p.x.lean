/-! plans taken from the tables -/
def tkc (w X B : Int → Int) : Nat → Int
  | 0 => 0
  | n + 1 => tkc w X B n + (if w (536 + 2 * n) = X n ∧ w (536 + 2 * n + 1) = B n then 0 else 1)
theorem tkc_cg {w X B X' B' : Int → Int} : ∀ n : Nat, (∀ g : Int, 0 ≤ g → g < n → X' g = X g ∧ B' g = B g) → tkc w X' B' n = tkc w X B n := by
  intro n
  induction n with
  | zero => intro _; rfl
  | succ n ih =>
    intro h
    have a := h n (by omega) (by omega)
    show tkc w X' B' n + (if w (536 + 2 * n) = X' n ∧ w (536 + 2 * n + 1) = B' n then 0 else 1) = tkc w X B n + (if w (536 + 2 * n) = X n ∧ w (536 + 2 * n + 1) = B n then 0 else 1)
    rw [ih (fun g g0 g1 => h g g0 (by omega)), a.1, a.2]
theorem tkc_s {w X B : Int → Int} {f : Int} (h : 0 ≤ f) : tkc w X B (f + 1).toNat = tkc w X B f.toNat + (if w (536 + 2 * f) = X f ∧ w (536 + 2 * f + 1) = B f then 0 else 1) := by
  have e : (f.toNat : Int) = f := Int.toNat_of_nonneg h
  rw [show (f + 1).toNat = f.toNat + 1 by omega]
  show tkc w X B f.toNat + (if w (536 + 2 * (f.toNat : Int)) = X f.toNat ∧ w (536 + 2 * (f.toNat : Int) + 1) = B f.toNat then 0 else 1) = _
  rw [e]
theorem tkc_0 {w X B : Int → Int} : ∀ n : Nat, (∀ g : Int, 0 ≤ g → g < n → X g = w (536 + 2 * g) ∧ B g = w (536 + 2 * g + 1)) → tkc w X B n = 0 := by
  intro n
  induction n with
  | zero => intro _; rfl
  | succ n ih =>
    intro h
    have a := h n (by omega) (by omega)
    show tkc w X B n + (if w (536 + 2 * n) = X n ∧ w (536 + 2 * n + 1) = B n then 0 else 1) = 0
    rw [ih (fun g g0 g1 => h g g0 (by omega)), if_pos ⟨a.1.symm, a.2.symm⟩]
    rfl
theorem tkc_b {w X B : Int → Int} : ∀ n : Nat, 0 ≤ tkc w X B n ∧ tkc w X B n ≤ n := by
  intro n
  induction n with
  | zero => exact ⟨Int.le_refl 0, Int.le_refl 0⟩
  | succ n ih =>
    show 0 ≤ tkc w X B n + (if w (536 + 2 * n) = X n ∧ w (536 + 2 * n + 1) = B n then 0 else 1) ∧ tkc w X B n + (if w (536 + 2 * n) = X n ∧ w (536 + 2 * n + 1) = B n then 0 else 1) ≤ ((n + 1 : Nat) : Int)
    split <;> omega
def wpl (w X B : Int → Int) (i : Int) : Int := if i < 536 then w i else if (i - 536) % 2 = 0 then X ((i - 536) / 2) else B ((i - 536) / 2)
theorem wpl_ex (w X B : Int → Int) : ∃ v : Int → Int, (∀ i, i < 536 → v i = w i) ∧ (∀ g, 0 ≤ g → v (536 + 2 * g) = X g ∧ v (536 + 2 * g + 1) = B g) := by
  refine ⟨wpl w X B, fun i h => if_pos h, fun g h => ⟨?_, ?_⟩⟩
  · unfold wpl
    rw [if_neg (by omega), if_pos (by omega), show (536 + 2 * g - 536) / 2 = g by omega]
  · unfold wpl
    rw [if_neg (by omega), if_neg (by omega), show (536 + 2 * g + 1 - 536) / 2 = g by omega]
theorem wpl_tq {w v : Int → Int} (h : ∀ i, i < 536 → v i = w i) : tq w v := ⟨fun i _ b => h i (by omega), fun i _ b => h i b⟩
theorem wpl_n {w v : Int → Int} (hw : wf w) (hn : wn w) (h : ∀ i, i < 536 → v i = w i) : wn v := by
  have a := wf_h hw
  unfold wf_hdr at a
  unfold wn at hn ⊢
  rw [h 8 (by omega), h 9 (by omega), h 10 (by omega), h 11 (by omega), h 12 (by omega), h 0 (by omega), tq_of (wpl_tq h) (by omega) (by omega) (by omega) (by omega)]
  exact hn
theorem tq_zst {w w' : Int → Int} {f : Int} (e : tq w w') (hw : wf w) (h0 : 0 ≤ f) (h1 : f < w 0) (mk c E Wd : Int) (L T : Int → Int) (st wd b t u : Int) : zst mk c E Wd w' L T f st wd b t u ↔ zst mk c E Wd w L T f st wd b t u := by
  have a := wf_h hw
  unfold wf_hdr at a
  have o := wf_f hw h0 h1
  unfold wf_one at o
  have hr : ∀ s, r_of c E w' L T f s = r_of c E w L T f s := by
    intro s
    unfold r_of p_end
    rw [tq_of e h0 (by omega) (by omega) (by omega), tq_of e h0 (by omega) (by omega) (by omega), tq_rsum e hw h0 h1 T s _ (by omega), tq_rmax e hw h0 h1 T s _ (by omega)]
  have hk : ∀ s, r_ok mk E w' T f s ↔ r_ok mk E w T f s := by
    intro s
    unfold r_ok p_end
    rw [tq_of e h0 (by omega) (by omega) (by omega), tq_of e h0 (by omega) (by omega) (by omega), tq_dead e hw h0 h1]
  have hv : v_of c E w' L T f st wd b t = v_of c E w L T f st wd b t := by
    unfold v_of v_sc
    rw [hr, tq_cost e h0 (by omega), tq_of e h0 (by omega) (by omega) (by omega), tq_of e h0 (by omega) (by omega) (by omega)]
  unfold zst
  rw [hk, hv, tq_law e h0 (by omega)]
theorem tq_beh {w w' : Int → Int} {f : Int} (e : tq w w') (h0 : 0 ≤ f) (h1 : f < 40) (s x b : Int) : p_beh w' f s x b = p_beh w f s x b := by
  unfold p_beh
  by_cases c : (0 ≤ b ∧ b ≤ 1) ∧ p_law w f (s % 21) (s / 21) x b
  · rw [if_pos c, if_pos ⟨c.1, (tq_plaw e h0 h1 _ _ _ _).mpr c.2⟩, tq_of e h0 h1 (by omega) (by omega)]
  · rw [if_neg c, if_neg (fun z => c ⟨z.1, (tq_plaw e h0 h1 _ _ _ _).mp z.2⟩)]
/-! what the class's walk holds at a fork whose step was taken -/
def tkC (c : Int) (w L2 T2 : Int → Int) (σ : x_S) (g : Int) : Prop :=
  (σ 34 0 g = 1 ∧ σ 35 0 g = 1) ∧ (0 ≤ σ 36 0 g ∧ σ 36 0 g ≤ 20) ∧ (0 ≤ σ 37 0 g ∧ σ 37 0 g ≤ 1) ∧ ((g = w 8 → σ 36 0 g = w 9 ∧ σ 37 0 g = w 10) ∧ (¬ g = w 8 → σ 36 0 g = σ 38 0 (w_of w g 0) ∧ σ 37 0 g = σ 39 0 (w_of w g 0))) ∧ (∃ u, fL (zst 9223372036854775807 c 5 4 w L2 T2 g (σ 36 0 g) (σ 37 0 g)) (σ 22 1 g) (σ 38 0 g) u) ∧ σ 21 1 g = σ 38 0 g + w_of w g 5 - σ 36 0 g ∧ σ 39 0 g = p_or (σ 37 0 g) (σ 22 1 g) ∧ (-(30000 * (w_of w g 6 + 1)) ≤ σ 40 0 g ∧ σ 40 0 g ≤ 30000 * (w_of w g 6 + 1)) ∧ (-(30000 * (w_of w g 6 + 1)) ≤ σ 41 0 g ∧ σ 41 0 g ≤ 30000 * (w_of w g 6 + 1))
theorem tkC_cg' {c : Int} {w L2 T2 : Int → Int} {σ σ' : x_S} {g : Int} (h : tkC c w L2 T2 σ g) (e : ∀ k, 34 ≤ k → k ≤ 41 → σ' k 0 g = σ k 0 g) (e2 : ¬ g = w 8 → ∀ k, 34 ≤ k → k ≤ 41 → σ' k 0 (w_of w g 0) = σ k 0 (w_of w g 0)) (e3 : σ' 21 1 g = σ 21 1 g) (e4 : σ' 22 1 g = σ 22 1 g) : tkC c w L2 T2 σ' g := by
  unfold tkC at h ⊢
  rw [e 34 (by omega) (by omega), e 35 (by omega) (by omega), e 36 (by omega) (by omega), e 37 (by omega) (by omega), e 38 (by omega) (by omega), e 39 (by omega) (by omega), e 40 (by omega) (by omega), e 41 (by omega) (by omega), e3, e4]
  refine ⟨h.1, h.2.1, h.2.2.1, ⟨h.2.2.2.1.1, fun z => ?_⟩, h.2.2.2.2⟩
  rw [e2 z 38 (by omega) (by omega), e2 z 39 (by omega) (by omega)]
  exact h.2.2.2.1.2 z
def tkS (j : Nat) : List (Nat × Nat) := [(21, 1), (22, 1), (24, j), (27, j), (34, 0), (35, 0), (36, 0), (37, 0), (38, 0), (39, 0), (40, 0), (41, 0)]
def tkI (σ1 : x_S) (c : Int) (w L2 T2 : Int → Int) (j : Nat) (f : Int) (σ : x_S) : Prop := x_eqo (tkS j) σ1 σ ∧ (∀ k, ¬ (7 ≤ k ∧ k ≤ 9) → σ 24 j k = σ1 24 j k) ∧ (∀ g, w 8 ≤ g → g < f → p_fr w (w 8) g → tkC c w L2 T2 σ g) ∧ (∀ g, 0 ≤ g → g < w 0 → ¬ (p_fr w (w 8) g ∧ g < f) → σ 21 1 g = w (536 + 2 * g) ∧ σ 22 1 g = w (536 + 2 * g + 1))
theorem tkC_q {c : Int} {w L2 T2 : Int → Int} {σ : x_S} {g : Int} (hw : wf w) (h0 : 0 ≤ g) (h1 : g < w 0) (h : tkC c w L2 T2 σ g) : (-20 ≤ σ 21 1 g ∧ σ 21 1 g ≤ 20) ∧ (0 ≤ σ 22 1 g ∧ σ 22 1 g ≤ 1) ∧ (0 ≤ σ 38 0 g ∧ σ 38 0 g ≤ 20) ∧ s_law w 4 g (σ 36 0 g) (σ 37 0 g) (σ 22 1 g) (σ 38 0 g) := by
  obtain ⟨_, h2, _, _, ⟨u, hu⟩, h5, _⟩ := h
  have sb := sl_b hw h0 h1 h2 hu.1.1.1
  have o := wf_f hw h0 h1
  unfold wf_one at o
  rw [h5]
  exact ⟨by omega, sb.1, sb.2.1, hu.1.1.1⟩
theorem tkI_q {σ1 σ : x_S} {c : Int} {w L2 T2 : Int → Int} {j : Nat} {f : Int} (hw : wf w) (hn : wn w) (hq : wq w) (h : tkI σ1 c w L2 T2 j f σ) : ∀ g, 0 ≤ g → g < w 0 → (-20 ≤ σ 21 1 g ∧ σ 21 1 g ≤ 20) ∧ (0 ≤ σ 22 1 g ∧ σ 22 1 g ≤ 1) := by
  intro g g0 g1
  by_cases cg : p_fr w (w 8) g ∧ g < f
  · have ge : w 8 ≤ g := by
      by_cases q : g < w 8
      · exact absurd cg.1 (fr_lt q)
      · omega
    have t := tkC_q hw g0 g1 (h.2.2.1 g ge cg.2 cg.1)
    exact ⟨t.1, t.2.1⟩
  · obtain ⟨a, b⟩ := h.2.2.2 g g0 g1 cg
    rw [a, b]
    exact (hq g g0 g1).2
section OTK
variable {L : Int} {S0 : Int → Int}
set_option maxHeartbeats 8000000 in
theorem h_takeL {σ1 : x_S} {w : Int → Int} {j : Nat} {c : Int} {Q : Option x_V → x_S → Prop} (hh : iN L S0 σ1) (h51 : σ1 51 0 = w) (hj : j < 3) (hc : c = j) (ct : cT c w (σ1 25 j) (σ1 26 j)) (al : ¬ σ1 25 j (42 * w 8 + (21 * w 10 + w 9)) = 9223372036854775807)
    (hQ : ∀ σ2, tkI σ1 c w (σ1 26 j) (σ1 25 j) j (w 0) σ2 → Q (some (xI (tkc w (σ2 21 1) (σ2 22 1) (w 0).toNat))) σ2) : x_Wp 999 129 (x_blk 129 3) [xR 0 0, xI c, xR 24 j, xI 0, xI (w 8), xU] [] σ1 Q := by
  obtain ⟨w', h51', hw, h100, hn, hq, hM, hS⟩ := iN_w hh
  have ew : w' = w := h51'.symm.trans h51
  subst ew
  have a := wf_h hw
  unfold wf_hdr at a
  obtain ⟨n8, n9, n10, _⟩ := id hn
  have fj := iF_j hh.2.2.1 hj
  have start : tkI σ1 c w' (σ1 26 j) (σ1 25 j) j (w' 8) σ1 := by
    refine ⟨eqo_refl, fun _ _ => rfl, fun g p q _ => by omega, fun g g0 g1 _ => ?_⟩
    exact hS.2 g g0 g1
  have c0 : tkc w' (σ1 21 1) (σ1 22 1) (w' 8).toNat = 0 := tkc_0 _ (fun g g0 g1 => hS.2 g g0 (by omega))
  rw [← c0]
  refine x_lpK (α := x_S × x_V) (fun f q => tkI σ1 c w' (σ1 26 j) (σ1 25 j) j f q.1) (fun f q => x_Wp 999 129 (x_blk 129 3) [xR 0 0, xI c, xR 24 j, xI (tkc w' (q.1 21 1) (q.1 22 1) f.toNat), xI f, q.2] [] q.1 Q) (lo := w' 8) (hi := w' 0) (by omega) (a0 := (σ1, xU)) start ?_ ?_
  · intro f ⟨σ, u5⟩ f0 f1 hJ K
    simp only at hJ K ⊢
    have fnn : 0 ≤ f := by omega
    obtain ⟨je, jk, jc, jp⟩ := id hJ
    have jq := tkI_q hw hn hq hJ
    have o := wf_f hw (f := f) (by omega) f1
    unfold wf_one at o
    have hMf : mir σ 1 w' := mir_eq hM (fun c q1 q2 => je c 1 (by unfold tkS; simp; omega))
    have h20 : σ 20 1 = σ1 20 1 := je 20 1 (by unfold tkS; simp)
    have s20 : σ 20 1 3 = w' 8 := by rw [h20]; exact hS.1.1
    have cb := tkc_b (w := w') (X := σ 21 1) (B := σ 22 1) f.toNat
    by_cases fr : p_fr w' (w' 8) f
    · -- the walk comes to f
      obtain ⟨W0, W0l, W0p⟩ := wpl_ex w' (σ 21 1) (σ 22 1)
      have t0 := wpl_tq W0l
      have hS0 : mis σ 1 W0 := by
        refine ⟨?_, fun g g0 _ => ⟨(W0p g g0).1.symm, (W0p g g0).2.symm⟩⟩
        rw [W0l 8 (by omega), W0l 9 (by omega), W0l 10 (by omega), W0l 11 (by omega), W0l 12 (by omega), h20]
        exact hS.1
      have ou : w_of W0 f 0 = w_of w' f 0 := tq_of t0 (by omega) (by omega) (by omega) (by omega)
      have par : ¬ f = w' 8 → tkC c w' (σ1 26 j) (σ1 25 j) σ (w_of w' f 0) ∧ (w' 8 ≤ w_of w' f 0 ∧ w_of w' f 0 < f) ∧ p_fr w' (w' 8) (w_of w' f 0) := by
        intro z
        have u := fr_par hw n8.1 fr z f1
        exact ⟨jc _ u.2.2.2 u.2.2.1 u.1, ⟨u.2.2.2, u.2.2.1⟩, u.1⟩
      obtain ⟨r, σa, ⟨hr, ea, ga, ca, va, ra, _⟩, eva⟩ := x_ex (h_enter (σ := σ) (f := f) (w := W0) (tq_mir t0 hw hMf) hS0 (tq_wf t0 hw) (wpl_n hw hn W0l) (by omega) (by rw [W0l 0 (by omega)]; exact f1) (fun z => by
        rw [W0l 8 (by omega)] at z
        rw [ou]
        have p := (par (by omega)).1
        have pq := tkC_q hw (by have := (par (by omega)).2.1; omega) (by have := (par (by omega)).2.1; omega) p
        refine ⟨Or.inr p.1.2, fun _ => ⟨pq.2.2.1, ?_⟩⟩
        rw [p.2.2.2.2.2.2.1]
        exact p_or_01))
      rw [W0l 8 (by omega), W0l 9 (by omega), W0l 10 (by omega), ou] at va
      rw [W0l 8 (by omega), ou] at ra
      -- its state there
      have st0 : σa 34 0 f = 1 ∧ (f = w' 8 → σa 36 0 f = w' 9 ∧ σa 37 0 f = w' 10) ∧ (¬ f = w' 8 → σa 36 0 f = σ 38 0 (w_of w' f 0) ∧ σa 37 0 f = σ 39 0 (w_of w' f 0)) := by
        by_cases z : f = w' 8
        · rw [if_pos z] at va
          have c1 : σa 34 0 f = 1 := by
            by_cases q : σa 34 0 f = 1
            · exact q
            · unfold cC at va
              rw [if_neg q] at va
              omega
          unfold cC at va
          rw [if_pos c1] at va
          have rr := ra c1
          exact ⟨c1, fun _ => by omega, fun y => absurd z y⟩
        · have pp := par z
          have p := pp.1
          have pq := tkC_q hw (by omega) (by omega) p
          have e39 := p.2.2.2.2.2.2.1
          have po := p_or_01 (a := σ 37 0 (w_of w' f 0)) (b := σ 22 1 (w_of w' f 0))
          rw [if_neg z, if_pos (by omega)] at va
          have ev : cV σ (w_of w' f 0) = 21 * σ 39 0 (w_of w' f 0) + σ 38 0 (w_of w' f 0) := if_pos p.1.2
          rw [ev] at va
          have c1 : σa 34 0 f = 1 := by
            by_cases q : σa 34 0 f = 1
            · exact q
            · unfold cC at va
              rw [if_neg q] at va
              omega
          unfold cC at va
          rw [if_pos c1] at va
          have rr := ra c1
          exact ⟨c1, fun y => absurd y z, fun _ => by omega⟩
      obtain ⟨c34, stA, stB⟩ := st0
      have rr := ra c34
      obtain ⟨st, hst⟩ : ∃ st, st = σa 36 0 f := ⟨_, rfl⟩
      obtain ⟨wd, hwd⟩ : ∃ wd, wd = σa 37 0 f := ⟨_, rfl⟩
      rw [← hst, ← hwd] at rr stA stB
      -- something is left there
      have alive : ¬ σ1 25 j (42 * f + (21 * wd + st)) = 9223372036854775807 := by
        by_cases z : f = w' 8
        · rw [(stA z).1, (stA z).2, z]
          exact al
        · have pp := par z
          obtain ⟨_, _, _, _, ⟨u, hu⟩, _, e39, _⟩ := pp.1
          have u0 := wf_u hw (f := f) (by omega) f1
          obtain ⟨i, i0, i1, i2⟩ := wf_p hw (f := f) (by omega) f1
          have of := wf_f hw (f := w_of w' f 0) (by omega) (by omega)
          unfold wf_one at of
          have nd := hu.1.1.2.resolve_left (fun y => by
            have : w_of w' (w_of w' f 0) 7 = 0 ∨ 5 ≤ w_of w' (w_of w' f 0) 6 := y
            omega)
          intro y
          refine nd ⟨i, i0, i1, ?_⟩
          rw [i2, (stB z).1, (stB z).2, e39] at *
          exact y
      have eja : x_eqo (tkS j) σ1 σa := eqo_trans je (eqo_mono (by unfold tkS; simp) ea)
      have hMa : mir σa 1 w' := mir_eq hM (fun c q1 q2 => eja c 1 (by unfold tkS; simp; omega))
      have e25 : σa 25 j = σ1 25 j := eja 25 j (by unfold tkS; simp)
      have e26 : σa 26 j = σ1 26 j := eja 26 j (by unfold tkS; simp)
      have k24 : ∀ k, ¬ (7 ≤ k ∧ k ≤ 9) → σa 24 j k = σ1 24 j k := fun k hk => by rw [ea 24 j (by simp)]; exact jk k hk
      obtain ⟨r2, σb, ⟨eb, kb, pick, low, hr2, hp⟩, evb⟩ := x_ex (h_chooseT (σ := σa) (j := j) (w := w') (T := σ1 25 j) (L := σ1 26 j) (c := c) (E := 5) (Wd := 4) (f := f) (st := st) (wd := wd) hMa (by omega) hw (by omega) f1 (by rw [k24 3 (by omega), hc]; exact fj.2.2) (by omega) (by rw [k24 1 (by omega)]; exact fj.1) (by omega) (by rw [k24 2 (by omega)]; exact fj.2.1) (by omega) e25 e26 rr.1 rr.2.1 (fun _ => cT_k hw hn ct f0 f1 fr) (cT_L hw hn ct f0 f1 fr))
      have step : ∃ b0 t0, pick = b0 * 21 + t0 ∧ fL (zst 9223372036854775807 c 5 4 w' (σ1 26 j) (σ1 25 j) f st wd) b0 t0 low := by
        rcases hp with ⟨_, z⟩ | z
        · exfalso
          rcases (ct.1 f f0 f1 fr).1 st wd rr.1.1 rr.1.2 rr.2.1.1 rr.2.1.2 with ⟨y, _⟩ | ⟨y, _⟩
          · exact alive y
          · obtain ⟨b, t, y2⟩ := zst_val.mpr y
            exact z _ _ _ y2
        · exact z
      obtain ⟨b0, t0', hpick, hfl⟩ := step
      have sb := sl_b hw (by omega) f1 rr.1 hfl.1.1.1
      have pm : (b0 * 21 + t0') % 21 = t0' := by omega
      have pd : (b0 * 21 + t0') / 21 = b0 := by omega
      have np : ¬ b0 * 21 + t0' = -1 := by omega
      have hpb : 0 ≤ b0 * 21 + t0' ∧ b0 * 21 + t0' < 42 := by omega
      subst hr
      subst hr2
      subst hpick
      obtain ⟨X, hX⟩ : ∃ X, X = t0' + w_of w' f 5 - st := ⟨_, rfl⟩
      have hMb : mir σb 1 w' := mir_eq hMa (fun c q1 q2 => eb c 1 (by simp; omega))
      have s20b : σb 20 1 3 = w' 8 := by rw [eb 20 1 (by simp), ea 20 1 (by simp)]; exact s20
      have stb : σb 36 0 f = st := by rw [eb 36 0 (by simp), hst]
      have sta : σa 36 0 f = st := hst.symm
      have wda : σa 37 0 f = wd := hwd.symm
      have pl := jp f (by omega) f1 (fun z => by omega)
      have plX : σb 21 1 f = w' (536 + 2 * f) := by rw [eb 21 1 (by simp), ea 21 1 (by simp)]; exact pl.1
      have plB : σb 22 1 f = w' (536 + 2 * f + 1) := by rw [eb 22 1 (by simp), ea 22 1 (by simp)]; exact pl.2
      have qf := hq f (by omega) f1
      generalize hPx : w' (536 + 2 * f) = px at plX qf
      generalize hPb : w' (536 + 2 * f + 1) = pb at plB qf
      -- the step is written
      generalize hσd : x_st (x_st σb 21 1 f X) 22 1 f b0 = σd
      have ed : x_eqo [(21, 1), (22, 1)] σb σd := by
        subst hσd
        exact eqo_st (by simp) (eqo_st (by simp) eqo_refl)
      have dX : ∀ g, σd 21 1 g = if g = f then X else σ 21 1 g := by
        intro g
        subst hσd
        by_cases z : g = f
        · rw [if_pos z, z]; simp (disch := omega) only [x_st_o, x_rd_ne, x_rd_eq, s_fl_o, s_fl_in, s_fl_out, x_cp_o, x_cp_in, x_cp_out]
        · rw [if_neg z]
          have : σb 21 1 g = σ 21 1 g := by rw [eb 21 1 (by simp), ea 21 1 (by simp)]
          rw [← this]
          simp (disch := omega) only [x_st_o, x_rd_ne, x_rd_eq, s_fl_o, s_fl_in, s_fl_out, x_cp_o, x_cp_in, x_cp_out]
      have dB : ∀ g, σd 22 1 g = if g = f then b0 else σ 22 1 g := by
        intro g
        subst hσd
        by_cases z : g = f
        · rw [if_pos z, z]; simp (disch := omega) only [x_st_o, x_rd_ne, x_rd_eq, s_fl_o, s_fl_in, s_fl_out, x_cp_o, x_cp_in, x_cp_out]
        · rw [if_neg z]
          have : σb 22 1 g = σ 22 1 g := by rw [eb 22 1 (by simp), ea 22 1 (by simp)]
          rw [← this]
          simp (disch := omega) only [x_st_o, x_rd_ne, x_rd_eq, s_fl_o, s_fl_in, s_fl_out, x_cp_o, x_cp_in, x_cp_out]
      obtain ⟨W1, W1l, W1p⟩ := wpl_ex w' (σd 21 1) (σd 22 1)
      have t1 := wpl_tq W1l
      have ejd : x_eqo (tkS j) σ1 σd := eqo_trans eja (eqo_trans (eqo_mono (by unfold tkS; simp) eb) (eqo_mono (by unfold tkS; simp) ed))
      have hMd : mir σd 1 w' := mir_eq hM (fun c q1 q2 => ejd c 1 (by unfold tkS; simp; omega))
      have hSd : mis σd 1 W1 := by
        refine ⟨?_, fun g g0 _ => ⟨(W1p g g0).1.symm, (W1p g g0).2.symm⟩⟩
        rw [W1l 8 (by omega), W1l 9 (by omega), W1l 10 (by omega), W1l 11 (by omega), W1l 12 (by omega), ejd 20 1 (by unfold tkS; simp)]
        exact hS.1
      have hqd : wq W1 := by
        intro g g0 g1
        rw [W1l 0 (by omega)] at g1
        rw [tq_of t1 g0 (by omega) (by omega) (by omega), (W1p g g0).1, (W1p g g0).2, dX, dB]
        refine ⟨(hq g g0 g1).1, ?_⟩
        by_cases z : g = f
        · rw [if_pos z, if_pos z]
          exact ⟨by omega, by omega⟩
        · rw [if_neg z, if_neg z]
          exact jq g g0 g1
      have wx : W1 (536 + 2 * f) = X := by rw [(W1p f (by omega)).1, dX, if_pos rfl]
      have wb : W1 (536 + 2 * f + 1) = b0 := by rw [(W1p f (by omega)).2, dB, if_pos rfl]
      have d0 : ∀ k g, σd k 0 g = σb k 0 g := fun k g => by rw [ed k 0 (by simp)]
      have d34 : σd 34 0 f = 1 := by rw [d0, eb 34 0 (by simp)]; exact c34
      have d36 : σd 36 0 f = st := by rw [d0]; exact stb
      have d37 : σd 37 0 f = wd := by rw [d0, eb 37 0 (by simp)]; exact wda
      have tot : (-(30000 * w_of w' f 6) ≤ σa 40 0 f ∧ σa 40 0 f ≤ 30000 * w_of w' f 6) ∧ (-(30000 * w_of w' f 6) ≤ σa 41 0 f ∧ σa 41 0 f ≤ 30000 * w_of w' f 6) := by
        rw [rr.2.2.1, rr.2.2.2]
        by_cases z : f = w' 8
        · rw [if_pos z, if_pos z]
          omega
        · rw [if_neg z, if_neg z]
          have pp := par z
          have u0 := wf_u hw (f := f) (by omega) f1
          have q1 := pp.1.2.2.2.2.2.2.2.1
          have q2 := pp.1.2.2.2.2.2.2.2.2
          rw [← u0.2.2] at q1 q2
          exact ⟨q1, q2⟩
      have d40 : σd 40 0 f = σa 40 0 f := by rw [d0, eb 40 0 (by simp)]
      have d41 : σd 41 0 f = σa 41 0 f := by rw [d0, eb 41 0 (by simp)]
      obtain ⟨r3, σe, ⟨hr3, ee, ge, ce, ve, re, _⟩, eve⟩ := x_ex (h_leave (σ := σd) (f := f) (w := W1) (tq_mir t1 hw hMd) hSd (tq_wf t1 hw) hqd (by omega) (by rw [W1l 0 (by omega)]; exact f1) (Or.inr d34) (fun _ => by
        rw [d36, d37, d40, d41]
        exact ⟨rr.1, rr.2.1, by omega, by omega⟩))
      subst hr3
      have law := (sl_iff (x := X) hw (by omega) f1 rr.1 rr.2.1 sb.1).mp (by rw [hX, show st + (t0' + w_of w' f 5 - st) - w_of w' f 5 = t0' by omega]; exact hfl.1.1.1)
      have po := p_or_01 (a := wd) (b := b0)
      have vv : cV σe f = 21 * p_or wd b0 + t0' := by
        rw [ve, wx, wb, tq_beh t1 (by omega) (by omega)]
        have ec : cC σd f = 21 * wd + st := by
          unfold cC
          rw [if_pos d34, d36, d37]
        rw [ec, if_neg (by omega)]
        unfold p_beh
        rw [show (21 * wd + st) % 21 = st by omega, show (21 * wd + st) / 21 = wd by omega, if_pos ⟨sb.1, law.1⟩]
        omega
      have c35 : σe 35 0 f = 1 := by
        by_cases q : σe 35 0 f = 1
        · exact q
        · unfold cV at vv
          rw [if_neg q] at vv
          omega
      have re2 := re c35
      have e38 : σe 38 0 f = t0' ∧ σe 39 0 f = p_or wd b0 := by
        unfold cV at vv
        rw [if_pos c35] at vv
        omega
      have cst := cost_b hw (E := 5) (f := f) (x := X) (b := b0) (t := t0') (by omega) f1 (by omega) sb.1 sb.2.1
      have e40 : σe 40 0 f = σa 40 0 f + p_cost w' 5 f X b0 t0' := by
        rw [re2.2.2.1, wx, wb, tq_cost t1 (by omega) (by omega), vv, d40, show (21 * p_or wd b0 + t0') % 21 = t0' by omega]
      have e41 := re2.2.2.2
      rw [d41] at e41
      have goal : tkI σ1 c w' (σ1 26 j) (σ1 25 j) j (f + 1) σe := by
        refine ⟨eqo_trans ejd (eqo_mono (by unfold tkS; simp) ee), fun k hk => ?_, fun g g0 g1 gf => ?_, fun g g0 g1 gn => ?_⟩
        · rw [ee 24 j (by simp), ed 24 j (by simp), kb k hk]
          exact k24 k hk
        · by_cases z : g = f
          · subst z
            unfold tkC
            rw [c35, e38.1, e38.2, e40, show σe 34 0 g = 1 by rw [ee 34 0 (by simp)]; exact d34, show σe 36 0 g = st by rw [ee 36 0 (by simp)]; exact d36, show σe 37 0 g = wd by rw [ee 37 0 (by simp)]; exact d37, show σe 21 1 g = X by rw [ee 21 1 (by simp), dX, if_pos rfl], show σe 22 1 g = b0 by rw [ee 22 1 (by simp), dB, if_pos rfl]]
            refine ⟨⟨rfl, rfl⟩, rr.1, rr.2.1, ⟨stA, fun y => ?_⟩, ⟨low, hfl⟩, hX, rfl, by omega, by omega⟩
            have ne : ¬ w_of w' g 0 = g := by have := (par y).2.1; omega
            have keep : ∀ k, σe k 0 (w_of w' g 0) = σ k 0 (w_of w' g 0) ∨ k = 24 ∨ k = 27 := by
              intro k
              by_cases q : k = 24 ∨ k = 27
              · exact Or.inr q
              · refine Or.inl ?_
                rw [ge k _ ne, d0, eb k 0 (by simp; omega), ga k _ ne]
            have k38 := (keep 38).resolve_right (by omega)
            have k39 := (keep 39).resolve_right (by omega)
            rw [k38, k39]
            exact stB y
          · refine tkC_cg' (jc g g0 (by omega) gf) (fun k q1 q2 => ?_) (fun y k q1 q2 => ?_) ?_ ?_
            · rw [ge k _ z, d0, eb k 0 (by simp; omega), ga k _ z]
            · have ne : ¬ w_of w' g 0 = f := by
                have u := fr_par hw n8.1 gf y (by omega)
                omega
              rw [ge k _ ne, d0, eb k 0 (by simp; omega), ga k _ ne]
            · rw [ee 21 1 (by simp), dX, if_neg z]
            · rw [ee 22 1 (by simp), dB, if_neg z]
        · have z : ¬ g = f := fun y => gn ⟨by rw [y]; exact fr, by omega⟩
          rw [ee 21 1 (by simp), dX, if_neg z, ee 22 1 (by simp), dB, if_neg z]
          exact jp g g0 g1 (fun y => gn ⟨y.1, by omega⟩)
      have cnt : tkc w' (σe 21 1) (σe 22 1) (f + 1).toNat = tkc w' (σ 21 1) (σ 22 1) f.toNat + (if px = X ∧ pb = b0 then 0 else 1) := by
        rw [tkc_s (by omega), ee 21 1 (by simp), ee 22 1 (by simp), dX, dB, if_pos rfl, if_pos rfl, hPx, hPb]
        rw [tkc_cg (X := σ 21 1) (B := σ 22 1) f.toNat (fun g g0 g1 => by
          have z : ¬ g = f := fun y => by
            rw [y, Int.toNat_of_nonneg fnn] at g1
            exact absurd g1 (Int.lt_irrefl _)
          rw [dX, dB, if_neg z, if_neg z]
          exact ⟨rfl, rfl⟩)]
      have K2 := K (σe, xI (b0 * 21 + t0')) goal
      simp only at K2
      rw [cnt] at K2
      generalize tkc w' (σ 21 1) (σ 22 1) f.toNat = n at K2 cb
      rw [bk_129_3]
      simp (disch := first | omega | (simp only [x_wtI, x_wtJ, x_wtR, x_wtN]; omega) | assumption | (simp (disch := omega) only [x_st_o, x_rd_ne]; first | assumption | omega) | (apply mir_eq; assumption; (intro c h1 h2; simp (disch := omega) only [x_st_o])) | (apply mis_eq; assumption; (intro c h1 h2; simp (disch := omega) only [x_st_o])) | rfl) only [bk_129_0, bk_129_1, bk_129_2, bk_129_6, wp_ild1, wk_103, wp_ifne, wp_ic, wp_iret mz_129, wp_ald0, wk_104, wp_lc, wp_lcmp, wk_105, wp_ast2, wp_ist3, wr_0_2, wp_geti kd_20, wp_ist4, wp_fall, wp_ild4, wr_20_0, wp_geti kd_6, wp_icge, wk_65, wp_ifeq, wr_0_9, wk_79, wp_ald2, wr_33_3, wl_36, wl_37, wp_cald, wr_33_4, wk_12, wp_ist5, wp_ild5, wp_iceq, wk_130, wp_inc3, wk_81, wp_inc4, wp_goto, wp_ild3, x_clr_I, x_clr_J, x_clr_R, x_clr_U, ct_some, ct_none, lc_lt, lc_ge, lc_gt, lc_le, lc_eq, lc_r, xI_inj, xJ_inj, Option.some.injEq, eq_self, bi_r, bi_0, bi_1, bi_n, Classical.not_not, and_true, true_and, ite_true, ite_false, ↓reduceIte, ↓x_andl, z_le, z_nle, z_lt, z_nlt, z_eq, z_neq, if_pos, if_neg, x_andl, false_and, and_false, or_true, true_or, or_false, false_or, not_true, not_false_iff, x_rd_eq, x_rd_ne, x_st_o, Int.cast_ofNat_Int, Int.ofNat_zero, Int.ofNat_one, not_true_eq_false, not_false_eq_true, if_true, if_false, ite_self, and_self, Int.ofNat_eq_natCast, Int.tdiv_eq_ediv_of_nonneg, Int.tmod_eq_emod_of_nonneg, x_bm32, mi_size hMf, s20, k_isFrom hMf hw, bi_t fr]
      refine (eva 997 _).mpr ?_
      simp (disch := first | omega | (simp only [x_wtI, x_wtJ, x_wtR, x_wtN]; omega) | assumption | (simp (disch := omega) only [x_st_o, x_rd_ne]; first | assumption | omega) | (apply mir_eq; assumption; (intro c h1 h2; simp (disch := omega) only [x_st_o])) | (apply mis_eq; assumption; (intro c h1 h2; simp (disch := omega) only [x_st_o])) | rfl) only [bk_129_0, bk_129_1, bk_129_2, bk_129_6, wp_ild1, wk_103, wp_ifne, wp_ic, wp_iret mz_129, wp_ald0, wk_104, wp_lc, wp_lcmp, wk_105, wp_ast2, wp_ist3, wr_0_2, wp_geti kd_20, wp_ist4, wp_fall, wp_ild4, wr_20_0, wp_geti kd_6, wp_icge, wk_65, wp_ifeq, wr_0_9, wk_79, wp_ald2, wr_33_3, wl_36, wl_37, wp_cald, wr_33_4, wk_12, wp_ist5, wp_ild5, wp_iceq, wk_130, wp_inc3, wk_81, wp_inc4, wp_goto, wp_ild3, x_clr_I, x_clr_J, x_clr_R, x_clr_U, ct_some, ct_none, lc_lt, lc_ge, lc_gt, lc_le, lc_eq, lc_r, xI_inj, xJ_inj, Option.some.injEq, eq_self, bi_r, bi_0, bi_1, bi_n, Classical.not_not, and_true, true_and, ite_true, ite_false, ↓reduceIte, ↓x_andl, z_le, z_nle, z_lt, z_nlt, z_eq, z_neq, if_pos, if_neg, x_andl, false_and, and_false, or_true, true_or, or_false, false_or, not_true, not_false_iff, x_rd_eq, x_rd_ne, x_st_o, Int.cast_ofNat_Int, Int.ofNat_zero, Int.ofNat_one, not_true_eq_false, not_false_eq_true, if_true, if_false, ite_self, and_self, Int.ofNat_eq_natCast, Int.tdiv_eq_ediv_of_nonneg, Int.tmod_eq_emod_of_nonneg, x_bm32, sta, wda]
      refine (evb 994 _).mpr ?_
      by_cases cx : px = X
      · by_cases cb0 : pb = b0
        · rw [if_pos ⟨cx, cb0⟩, Int.add_zero] at K2
          simp (disch := first | omega | (simp only [x_wtI, x_wtJ, x_wtR, x_wtN]; omega) | assumption | (simp (disch := omega) only [x_st_o, x_rd_ne]; first | assumption | omega) | (apply mir_eq; assumption; (intro c h1 h2; simp (disch := omega) only [x_st_o])) | (apply mis_eq; assumption; (intro c h1 h2; simp (disch := omega) only [x_st_o])) | rfl) only [bk_129_0, bk_129_1, bk_129_2, bk_129_4, bk_129_5, bk_129_6, wp_ild1, wk_103, wp_ifne, wp_ic, wp_iret mz_129, wp_ald0, wk_104, wp_lc, wp_lcmp, wk_105, wp_ast2, wp_ist3, wr_0_2, wp_geti kd_20, wp_ist4, wp_fall, wp_ild4, wr_20_0, wp_geti kd_6, wp_icge, wk_65, wp_ifeq, wr_0_9, wk_79, wp_ald2, wr_33_3, wl_36, wl_37, wp_cald, wr_33_4, wk_12, wp_ist5, wp_ild5, wp_iceq, wk_130, wp_inc3, wk_81, wp_inc4, wp_goto, wp_ild3, bk_130_0, bk_130_1, bk_130_2, bk_130_3, wp_ild2, wp_irem, wk_69, wp_idiv, wr_20_1, wl_21, wl_22, wp_icne, wr_20_2, wp_ist6, ws_21, ws_22, wp_ild6, wp_zret0 mz_130, wp_zret1 mz_130, wp_zretb mz_130, wp_zret mz_130, x_clr_I, x_clr_J, x_clr_R, x_clr_U, ct_some, ct_none, lc_lt, lc_ge, lc_gt, lc_le, lc_eq, lc_r, xI_inj, xJ_inj, Option.some.injEq, eq_self, bi_r, bi_0, bi_1, bi_n, Classical.not_not, and_true, true_and, ite_true, ite_false, ↓reduceIte, ↓x_andl, z_le, z_nle, z_lt, z_nlt, z_eq, z_neq, if_pos, if_neg, x_andl, false_and, and_false, or_true, true_or, or_false, false_or, not_true, not_false_iff, x_rd_eq, x_rd_ne, x_st_o, Int.cast_ofNat_Int, Int.ofNat_zero, Int.ofNat_one, not_true_eq_false, not_false_eq_true, if_true, if_false, ite_self, and_self, Int.ofNat_eq_natCast, Int.tdiv_eq_ediv_of_nonneg, Int.tmod_eq_emod_of_nonneg, x_bm32, stb, sp_130, k_boughtFor hMb hw, pm, pd, ← hX, plX, plB, cx, cb0, hσd]
          refine (eve 996 _).mpr ?_
          simp (disch := first | omega | (simp only [x_wtI, x_wtJ, x_wtR, x_wtN]; omega) | assumption | (simp (disch := omega) only [x_st_o, x_rd_ne]; first | assumption | omega) | (apply mir_eq; assumption; (intro c h1 h2; simp (disch := omega) only [x_st_o])) | (apply mis_eq; assumption; (intro c h1 h2; simp (disch := omega) only [x_st_o])) | rfl) only [bk_129_0, bk_129_1, bk_129_2, bk_129_4, bk_129_5, bk_129_6, wp_ild1, wk_103, wp_ifne, wp_ic, wp_iret mz_129, wp_ald0, wk_104, wp_lc, wp_lcmp, wk_105, wp_ast2, wp_ist3, wr_0_2, wp_geti kd_20, wp_ist4, wp_fall, wp_ild4, wr_20_0, wp_geti kd_6, wp_icge, wk_65, wp_ifeq, wr_0_9, wk_79, wp_ald2, wr_33_3, wl_36, wl_37, wp_cald, wr_33_4, wk_12, wp_ist5, wp_ild5, wp_iceq, wk_130, wp_inc3, wk_81, wp_inc4, wp_goto, wp_ild3, x_clr_I, x_clr_J, x_clr_R, x_clr_U, ct_some, ct_none, lc_lt, lc_ge, lc_gt, lc_le, lc_eq, lc_r, xI_inj, xJ_inj, Option.some.injEq, eq_self, bi_r, bi_0, bi_1, bi_n, Classical.not_not, and_true, true_and, ite_true, ite_false, ↓reduceIte, ↓x_andl, z_le, z_nle, z_lt, z_nlt, z_eq, z_neq, if_pos, if_neg, x_andl, false_and, and_false, or_true, true_or, or_false, false_or, not_true, not_false_iff, x_rd_eq, x_rd_ne, x_st_o, Int.cast_ofNat_Int, Int.ofNat_zero, Int.ofNat_one, not_true_eq_false, not_false_eq_true, if_true, if_false, ite_self, and_self, Int.ofNat_eq_natCast, Int.tdiv_eq_ediv_of_nonneg, Int.tmod_eq_emod_of_nonneg, x_bm32]
          exact K2
        · rw [if_neg (fun z => cb0 z.2)] at K2
          simp (disch := first | omega | (simp only [x_wtI, x_wtJ, x_wtR, x_wtN]; omega) | assumption | (simp (disch := omega) only [x_st_o, x_rd_ne]; first | assumption | omega) | (apply mir_eq; assumption; (intro c h1 h2; simp (disch := omega) only [x_st_o])) | (apply mis_eq; assumption; (intro c h1 h2; simp (disch := omega) only [x_st_o])) | rfl) only [bk_129_0, bk_129_1, bk_129_2, bk_129_4, bk_129_5, bk_129_6, wp_ild1, wk_103, wp_ifne, wp_ic, wp_iret mz_129, wp_ald0, wk_104, wp_lc, wp_lcmp, wk_105, wp_ast2, wp_ist3, wr_0_2, wp_geti kd_20, wp_ist4, wp_fall, wp_ild4, wr_20_0, wp_geti kd_6, wp_icge, wk_65, wp_ifeq, wr_0_9, wk_79, wp_ald2, wr_33_3, wl_36, wl_37, wp_cald, wr_33_4, wk_12, wp_ist5, wp_ild5, wp_iceq, wk_130, wp_inc3, wk_81, wp_inc4, wp_goto, wp_ild3, bk_130_0, bk_130_1, bk_130_2, bk_130_3, wp_ild2, wp_irem, wk_69, wp_idiv, wr_20_1, wl_21, wl_22, wp_icne, wr_20_2, wp_ist6, ws_21, ws_22, wp_ild6, wp_zret0 mz_130, wp_zret1 mz_130, wp_zretb mz_130, wp_zret mz_130, x_clr_I, x_clr_J, x_clr_R, x_clr_U, ct_some, ct_none, lc_lt, lc_ge, lc_gt, lc_le, lc_eq, lc_r, xI_inj, xJ_inj, Option.some.injEq, eq_self, bi_r, bi_0, bi_1, bi_n, Classical.not_not, and_true, true_and, ite_true, ite_false, ↓reduceIte, ↓x_andl, z_le, z_nle, z_lt, z_nlt, z_eq, z_neq, if_pos, if_neg, x_andl, false_and, and_false, or_true, true_or, or_false, false_or, not_true, not_false_iff, x_rd_eq, x_rd_ne, x_st_o, Int.cast_ofNat_Int, Int.ofNat_zero, Int.ofNat_one, not_true_eq_false, not_false_eq_true, if_true, if_false, ite_self, and_self, Int.ofNat_eq_natCast, Int.tdiv_eq_ediv_of_nonneg, Int.tmod_eq_emod_of_nonneg, x_bm32, stb, sp_130, k_boughtFor hMb hw, pm, pd, ← hX, plX, plB, cx, hσd]
          refine (eve 996 _).mpr ?_
          simp (disch := first | omega | (simp only [x_wtI, x_wtJ, x_wtR, x_wtN]; omega) | assumption | (simp (disch := omega) only [x_st_o, x_rd_ne]; first | assumption | omega) | (apply mir_eq; assumption; (intro c h1 h2; simp (disch := omega) only [x_st_o])) | (apply mis_eq; assumption; (intro c h1 h2; simp (disch := omega) only [x_st_o])) | rfl) only [bk_129_0, bk_129_1, bk_129_2, bk_129_4, bk_129_5, bk_129_6, wp_ild1, wk_103, wp_ifne, wp_ic, wp_iret mz_129, wp_ald0, wk_104, wp_lc, wp_lcmp, wk_105, wp_ast2, wp_ist3, wr_0_2, wp_geti kd_20, wp_ist4, wp_fall, wp_ild4, wr_20_0, wp_geti kd_6, wp_icge, wk_65, wp_ifeq, wr_0_9, wk_79, wp_ald2, wr_33_3, wl_36, wl_37, wp_cald, wr_33_4, wk_12, wp_ist5, wp_ild5, wp_iceq, wk_130, wp_inc3, wk_81, wp_inc4, wp_goto, wp_ild3, x_clr_I, x_clr_J, x_clr_R, x_clr_U, ct_some, ct_none, lc_lt, lc_ge, lc_gt, lc_le, lc_eq, lc_r, xI_inj, xJ_inj, Option.some.injEq, eq_self, bi_r, bi_0, bi_1, bi_n, Classical.not_not, and_true, true_and, ite_true, ite_false, ↓reduceIte, ↓x_andl, z_le, z_nle, z_lt, z_nlt, z_eq, z_neq, if_pos, if_neg, x_andl, false_and, and_false, or_true, true_or, or_false, false_or, not_true, not_false_iff, x_rd_eq, x_rd_ne, x_st_o, Int.cast_ofNat_Int, Int.ofNat_zero, Int.ofNat_one, not_true_eq_false, not_false_eq_true, if_true, if_false, ite_self, and_self, Int.ofNat_eq_natCast, Int.tdiv_eq_ediv_of_nonneg, Int.tmod_eq_emod_of_nonneg, x_bm32]
          exact K2
      · rw [if_neg (fun z => cx z.1)] at K2
        simp (disch := first | omega | (simp only [x_wtI, x_wtJ, x_wtR, x_wtN]; omega) | assumption | (simp (disch := omega) only [x_st_o, x_rd_ne]; first | assumption | omega) | (apply mir_eq; assumption; (intro c h1 h2; simp (disch := omega) only [x_st_o])) | (apply mis_eq; assumption; (intro c h1 h2; simp (disch := omega) only [x_st_o])) | rfl) only [bk_129_0, bk_129_1, bk_129_2, bk_129_4, bk_129_5, bk_129_6, wp_ild1, wk_103, wp_ifne, wp_ic, wp_iret mz_129, wp_ald0, wk_104, wp_lc, wp_lcmp, wk_105, wp_ast2, wp_ist3, wr_0_2, wp_geti kd_20, wp_ist4, wp_fall, wp_ild4, wr_20_0, wp_geti kd_6, wp_icge, wk_65, wp_ifeq, wr_0_9, wk_79, wp_ald2, wr_33_3, wl_36, wl_37, wp_cald, wr_33_4, wk_12, wp_ist5, wp_ild5, wp_iceq, wk_130, wp_inc3, wk_81, wp_inc4, wp_goto, wp_ild3, bk_130_0, bk_130_1, bk_130_2, bk_130_3, wp_ild2, wp_irem, wk_69, wp_idiv, wr_20_1, wl_21, wl_22, wp_icne, wr_20_2, wp_ist6, ws_21, ws_22, wp_ild6, wp_zret0 mz_130, wp_zret1 mz_130, wp_zretb mz_130, wp_zret mz_130, x_clr_I, x_clr_J, x_clr_R, x_clr_U, ct_some, ct_none, lc_lt, lc_ge, lc_gt, lc_le, lc_eq, lc_r, xI_inj, xJ_inj, Option.some.injEq, eq_self, bi_r, bi_0, bi_1, bi_n, Classical.not_not, and_true, true_and, ite_true, ite_false, ↓reduceIte, ↓x_andl, z_le, z_nle, z_lt, z_nlt, z_eq, z_neq, if_pos, if_neg, x_andl, false_and, and_false, or_true, true_or, or_false, false_or, not_true, not_false_iff, x_rd_eq, x_rd_ne, x_st_o, Int.cast_ofNat_Int, Int.ofNat_zero, Int.ofNat_one, not_true_eq_false, not_false_eq_true, if_true, if_false, ite_self, and_self, Int.ofNat_eq_natCast, Int.tdiv_eq_ediv_of_nonneg, Int.tmod_eq_emod_of_nonneg, x_bm32, stb, sp_130, k_boughtFor hMb hw, pm, pd, ← hX, plX, plB, hσd]
        refine (eve 996 _).mpr ?_
        simp (disch := first | omega | (simp only [x_wtI, x_wtJ, x_wtR, x_wtN]; omega) | assumption | (simp (disch := omega) only [x_st_o, x_rd_ne]; first | assumption | omega) | (apply mir_eq; assumption; (intro c h1 h2; simp (disch := omega) only [x_st_o])) | (apply mis_eq; assumption; (intro c h1 h2; simp (disch := omega) only [x_st_o])) | rfl) only [bk_129_0, bk_129_1, bk_129_2, bk_129_4, bk_129_5, bk_129_6, wp_ild1, wk_103, wp_ifne, wp_ic, wp_iret mz_129, wp_ald0, wk_104, wp_lc, wp_lcmp, wk_105, wp_ast2, wp_ist3, wr_0_2, wp_geti kd_20, wp_ist4, wp_fall, wp_ild4, wr_20_0, wp_geti kd_6, wp_icge, wk_65, wp_ifeq, wr_0_9, wk_79, wp_ald2, wr_33_3, wl_36, wl_37, wp_cald, wr_33_4, wk_12, wp_ist5, wp_ild5, wp_iceq, wk_130, wp_inc3, wk_81, wp_inc4, wp_goto, wp_ild3, x_clr_I, x_clr_J, x_clr_R, x_clr_U, ct_some, ct_none, lc_lt, lc_ge, lc_gt, lc_le, lc_eq, lc_r, xI_inj, xJ_inj, Option.some.injEq, eq_self, bi_r, bi_0, bi_1, bi_n, Classical.not_not, and_true, true_and, ite_true, ite_false, ↓reduceIte, ↓x_andl, z_le, z_nle, z_lt, z_nlt, z_eq, z_neq, if_pos, if_neg, x_andl, false_and, and_false, or_true, true_or, or_false, false_or, not_true, not_false_iff, x_rd_eq, x_rd_ne, x_st_o, Int.cast_ofNat_Int, Int.ofNat_zero, Int.ofNat_one, not_true_eq_false, not_false_eq_true, if_true, if_false, ite_self, and_self, Int.ofNat_eq_natCast, Int.tdiv_eq_ediv_of_nonneg, Int.tmod_eq_emod_of_nonneg, x_bm32]
        exact K2
    · have pl := jp f (by omega) f1 (fun z => fr z.1)
      have K2 := K (σ, u5) ⟨je, jk, fun g g0 g1 gf => by
        by_cases z : g = f
        · exact absurd (by rw [← z]; exact gf) fr
        · exact jc g g0 (by omega) gf, fun g g0 g1 gn => jp g g0 g1 (fun y => gn ⟨y.1, by omega⟩)⟩
      simp only at K2
      rw [tkc_s (by omega), if_pos ⟨pl.1.symm, pl.2.symm⟩, Int.add_zero] at K2
      generalize tkc w' (σ 21 1) (σ 22 1) f.toNat = n at K2 cb
      rw [bk_129_3]
      simp (disch := first | omega | (simp only [x_wtI, x_wtJ, x_wtR, x_wtN]; omega) | assumption | (simp (disch := omega) only [x_st_o, x_rd_ne]; first | assumption | omega) | (apply mir_eq; assumption; (intro c h1 h2; simp (disch := omega) only [x_st_o])) | (apply mis_eq; assumption; (intro c h1 h2; simp (disch := omega) only [x_st_o])) | rfl) only [bk_129_0, bk_129_1, bk_129_2, bk_129_4, bk_129_5, bk_129_6, wp_ild1, wk_103, wp_ifne, wp_ic, wp_iret mz_129, wp_ald0, wk_104, wp_lc, wp_lcmp, wk_105, wp_ast2, wp_ist3, wr_0_2, wp_geti kd_20, wp_ist4, wp_fall, wp_ild4, wr_20_0, wp_geti kd_6, wp_icge, wk_65, wp_ifeq, wr_0_9, wk_79, wp_ald2, wr_33_3, wl_36, wl_37, wp_cald, wr_33_4, wk_12, wp_ist5, wp_ild5, wp_iceq, wk_130, wp_inc3, wk_81, wp_inc4, wp_goto, wp_ild3, x_clr_I, x_clr_J, x_clr_R, x_clr_U, ct_some, ct_none, lc_lt, lc_ge, lc_gt, lc_le, lc_eq, lc_r, xI_inj, xJ_inj, Option.some.injEq, eq_self, bi_r, bi_0, bi_1, bi_n, Classical.not_not, and_true, true_and, ite_true, ite_false, ↓reduceIte, ↓x_andl, z_le, z_nle, z_lt, z_nlt, z_eq, z_neq, if_pos, if_neg, x_andl, false_and, and_false, or_true, true_or, or_false, false_or, not_true, not_false_iff, x_rd_eq, x_rd_ne, x_st_o, Int.cast_ofNat_Int, Int.ofNat_zero, Int.ofNat_one, not_true_eq_false, not_false_eq_true, if_true, if_false, ite_self, and_self, Int.ofNat_eq_natCast, Int.tdiv_eq_ediv_of_nonneg, Int.tmod_eq_emod_of_nonneg, x_bm32, mi_size hMf, s20, k_isFrom hMf hw, bi_f fr]
      exact K2
  · intro ⟨σ, u5⟩ hJ
    simp only at hJ ⊢
    have hMf : mir σ 1 w' := mir_eq hM (fun c q1 q2 => hJ.1 c 1 (by unfold tkS; simp; omega))
    rw [bk_129_3]
    simp (disch := first | omega | (simp only [x_wtI, x_wtJ, x_wtR, x_wtN]; omega) | assumption | (simp (disch := omega) only [x_st_o, x_rd_ne]; first | assumption | omega) | (apply mir_eq; assumption; (intro c h1 h2; simp (disch := omega) only [x_st_o])) | (apply mis_eq; assumption; (intro c h1 h2; simp (disch := omega) only [x_st_o])) | rfl) only [bk_129_0, bk_129_1, bk_129_2, bk_129_4, bk_129_5, bk_129_6, wp_ild1, wk_103, wp_ifne, wp_ic, wp_iret mz_129, wp_ald0, wk_104, wp_lc, wp_lcmp, wk_105, wp_ast2, wp_ist3, wr_0_2, wp_geti kd_20, wp_ist4, wp_fall, wp_ild4, wr_20_0, wp_geti kd_6, wp_icge, wk_65, wp_ifeq, wr_0_9, wk_79, wp_ald2, wr_33_3, wl_36, wl_37, wp_cald, wr_33_4, wk_12, wp_ist5, wp_ild5, wp_iceq, wk_130, wp_inc3, wk_81, wp_inc4, wp_goto, wp_ild3, x_clr_I, x_clr_J, x_clr_R, x_clr_U, ct_some, ct_none, lc_lt, lc_ge, lc_gt, lc_le, lc_eq, lc_r, xI_inj, xJ_inj, Option.some.injEq, eq_self, bi_r, bi_0, bi_1, bi_n, Classical.not_not, and_true, true_and, ite_true, ite_false, ↓reduceIte, ↓x_andl, z_le, z_nle, z_lt, z_nlt, z_eq, z_neq, if_pos, if_neg, x_andl, false_and, and_false, or_true, true_or, or_false, false_or, not_true, not_false_iff, x_rd_eq, x_rd_ne, x_st_o, Int.cast_ofNat_Int, Int.ofNat_zero, Int.ofNat_one, not_true_eq_false, not_false_eq_true, if_true, if_false, ite_self, and_self, Int.ofNat_eq_natCast, Int.tdiv_eq_ediv_of_nonneg, Int.tmod_eq_emod_of_nonneg, x_bm32, mi_size hMf]
    exact hQ _ hJ
end OTK

/-! trials: tables of worlds that differ at one fork -/
theorem tabsU {w L L2 T T2 : Int → Int} (hw : wf w) (hn : wn w) (hG : gT 0 5 4 (-1) w L T (w 8)) (hC : ∀ f, w 8 < f → f < w 0 → p_fr w (w 8) f → g_row 9223372036854775807 0 5 4 w L2 T2 f) : ∀ f, w 8 < f → f < w 0 → p_fr w (w 8) f → ∀ st wd, 0 ≤ st → st ≤ 20 → 0 ≤ wd → wd ≤ 1 → tg (T (42 * f + (21 * wd + st))) (T2 (42 * f + (21 * wd + st))) := by
  have n8 := hn.1
  have key : ∀ n : Nat, ∀ f, w 0 - f ≤ n → w 8 < f → f < w 0 → p_fr w (w 8) f → ∀ st wd, 0 ≤ st → st ≤ 20 → 0 ≤ wd → wd ≤ 1 → tg (T (42 * f + (21 * wd + st))) (T2 (42 * f + (21 * wd + st))) := by
    intro n
    induction n with
    | zero => intro f p _ q; omega
    | succ n ih =>
      intro f hn2 f0 f1 fr st wd p q p2 q2
      have mC := hC f f0 f1 fr st wd p q p2 q2
      have mM := (gT_row hn (by omega) hG f (by omega) f1 fr).1 st wd p q p2 q2
      have same : ∀ u, s_val 9223372036854775807 0 5 4 w L2 T2 f st wd u ↔ s_val (-9223372036854775808) 0 5 4 w L T f st wd u := by
        intro u
        rw [← zst_val, ← zst_val]
        have ag := fun b t => zst_ag (c := 0) (E := 5) (Wd := 4) (L := L) (L2 := L2) (T := T) (T2 := T2) (st := st) (wd := wd) hw (by omega) f1 (fun ne b t l i i0 i1 => by
          have kk := wf_k hw (f := f) (i := i) (by omega) f1 i0 i1
          have sb := sl_b hw (by omega) f1 ⟨p, q⟩ l
          have po := p_or_01 (a := wd) (b := b)
          exact ih _ (by omega) (by omega) kk.2.1 (fr_kid hw n8.1 fr (by omega) f1 i0 i1) t (p_or wd b) (by omega) (by omega) (by omega) (by omega)) (fun _ _ _ _ z => by omega) b t u
        exact ⟨fun ⟨b, t, z⟩ => ⟨b, t, (ag b t).mpr z⟩, fun ⟨b, t, z⟩ => ⟨b, t, (ag b t).mp z⟩⟩
      rcases ml_tr mM (ml_cg mC same) with ⟨z1, z2, _⟩ | ⟨z1, ⟨b, t, l, r, e⟩, _⟩
      · exact Or.inl ⟨z1, z2⟩
      · have bd := zst_bd hw (by omega) f1 ⟨p, q⟩ ⟨p2, q2⟩ (fun i i0 i1 => by
          have kk := wf_k hw (f := f) (i := i) (by omega) f1 i0 i1
          exact (hG _ (by omega) (by omega)).1) (fun z => by omega) (by omega) ⟨⟨l, r⟩, e⟩
        have gp := gb_pos (k := w_of w f 6)
        exact Or.inr ⟨z1, by omega, by omega⟩
  exact fun f => key (w 0 - f).toNat f (by omega)
/-! worlds that differ in chances and prices alone -/
def ws (w W : Int → Int) : Prop := (∀ i, i < 16 → W i = w i) ∧ ∀ g k, 0 ≤ g → g < 40 → 0 ≤ k → k < 13 → ¬ k = 1 → ¬ k = 2 → w_of W g k = w_of w g k
section WS
variable {w W : Int → Int}
theorem ws_room (s : ws w W) (l : Int) : p_room W l = p_room w l := by
  unfold p_room
  rw [s.1 2 (by omega), s.1 3 (by omega)]
theorem ws_law (s : ws w W) {f Wd st wd b t : Int} (h0 : 0 ≤ f) (h1 : f < 40) : s_law W Wd f st wd b t ↔ s_law w Wd f st wd b t := by
  unfold s_law
  rw [ws_room s, s.2 f 6 h0 h1 (by omega) (by omega) (by omega) (by omega), s.2 f 3 h0 h1 (by omega) (by omega) (by omega) (by omega), s.2 f 5 h0 h1 (by omega) (by omega) (by omega) (by omega)]
theorem ws_end (s : ws w W) {E f : Int} (h0 : 0 ≤ f) (h1 : f < 40) : p_end W E f ↔ p_end w E f := by
  unfold p_end
  rw [s.2 f 6 h0 h1 (by omega) (by omega) (by omega) (by omega), s.2 f 7 h0 h1 (by omega) (by omega) (by omega) (by omega)]
theorem ws_n (hw : wf w) (hn : wn w) (s : ws w W) : wn W := by
  have a := wf_h hw
  unfold wf_hdr at a
  unfold wn at hn ⊢
  rw [s.1 8 (by omega), s.1 9 (by omega), s.1 10 (by omega), s.1 11 (by omega), s.1 12 (by omega), s.1 0 (by omega), s.2 (w 8) 6 (by omega) (by omega) (by omega) (by omega) (by omega) (by omega)]
  exact hn
theorem ws_fr (hw : wf w) (s : ws w W) {top f : Int} (ht : 0 ≤ top) (h0 : 0 ≤ f) (h1 : f < w 0) : p_fr W top f ↔ p_fr w top f := by
  have a := wf_h hw
  unfold wf_hdr at a
  have up : ∀ (n : Nat) (f : Int), 0 ≤ f → f < w 0 → p_up W top n f = p_up w top n f := by
    intro n
    induction n with
    | zero => intro f _ _; rfl
    | succ n ih =>
      intro f h0 h1
      show (if top < f then p_up W top n (w_of W f 0) else f) = (if top < f then p_up w top n (w_of w f 0) else f)
      by_cases c : top < f
      · have u := wf_u hw (f := f) (by omega) h1
        rw [if_pos c, if_pos c, s.2 f 0 h0 (by omega) (by omega) (by omega) (by omega) (by omega), ih _ (by omega) (by omega)]
      · rw [if_neg c, if_neg c]
  unfold p_fr
  rw [up 4 f h0 h1]
theorem ws_bd (s : ws w W) {mk f : Int} {T : Int → Int} (h0 : 0 ≤ f) (h1 : f < 40) : t_bd mk W T f ↔ t_bd mk w T f := by
  unfold t_bd
  rw [s.2 f 6 h0 h1 (by omega) (by omega) (by omega) (by omega)]
theorem mir_ws {σ σ' : x_S} (hw : wf w) (hM : mir σ 1 w) (s : ws w W) (e : ∀ c, 6 ≤ c → c ≤ 15 → ¬ c = 8 → ¬ c = 9 → σ' c 1 = σ c 1) (h8 : ∀ g, 0 ≤ g → g < w 0 → σ' 8 1 g = w_of W g 1) (h9 : ∀ g, 0 ≤ g → g < w 0 → σ' 9 1 g = w_of W g 2) : mir σ' 1 W := by
  have a := wf_h hw
  unfold wf_hdr at a
  refine ⟨?_, fun g g0 g1 => ?_⟩
  · rw [e 6 (by omega) (by omega) (by omega) (by omega), s.1 0 (by omega), s.1 1 (by omega), s.1 2 (by omega), s.1 3 (by omega), s.1 4 (by omega), s.1 5 (by omega), s.1 6 (by omega)]
    exact hM.1
  · rw [s.1 0 (by omega)] at g1
    have o := wf_f hw g0 g1
    unfold wf_one at o
    have m := hM.2 g g0 g1
    refine ⟨⟨?_, h8 g g0 g1, h9 g g0 g1, ?_, ?_, ?_, ?_, ?_⟩, fun i i0 i1 => ?_⟩
    · rw [e 7 (by omega) (by omega) (by omega) (by omega), s.2 g 0 g0 (by omega) (by omega) (by omega) (by omega) (by omega)]
      exact m.1.1
    · rw [e 10 (by omega) (by omega) (by omega) (by omega), s.2 g 3 g0 (by omega) (by omega) (by omega) (by omega) (by omega)]
      exact m.1.2.2.2.1
    · rw [e 11 (by omega) (by omega) (by omega) (by omega), s.2 g 4 g0 (by omega) (by omega) (by omega) (by omega) (by omega)]
      exact m.1.2.2.2.2.1
    · rw [e 12 (by omega) (by omega) (by omega) (by omega), s.2 g 5 g0 (by omega) (by omega) (by omega) (by omega) (by omega)]
      exact m.1.2.2.2.2.2.1
    · rw [e 13 (by omega) (by omega) (by omega) (by omega), s.2 g 6 g0 (by omega) (by omega) (by omega) (by omega) (by omega)]
      exact m.1.2.2.2.2.2.2.1
    · rw [e 14 (by omega) (by omega) (by omega) (by omega), s.2 g 7 g0 (by omega) (by omega) (by omega) (by omega) (by omega)]
      exact m.1.2.2.2.2.2.2.2
    · rw [s.2 g 7 g0 (by omega) (by omega) (by omega) (by omega) (by omega)] at i1
      rw [e 15 (by omega) (by omega) (by omega) (by omega), s.2 g (8 + i) g0 (by omega) (by omega) (by omega) (by omega) (by omega)]
      exact m.2 i i0 i1
/-! a fork whose price and whose kids' chances are as they were has the steps that it had -/
theorem zst_loc {g : Int} (hw : wf w) (s : ws w W) (h0 : 0 ≤ g) (h1 : g < w 0) (hp : w_of W g 2 = w_of w g 2) (hk : ∀ i, 0 ≤ i → i < w_of w g 7 → w_of W (w_of w g (8 + i)) 1 = w_of w (w_of w g (8 + i)) 1) (mk c E Wd : Int) (L T : Int → Int) (st wd b t u : Int) : zst mk c E Wd W L T g st wd b t u ↔ zst mk c E Wd w L T g st wd b t u := by
  have a := wf_h hw
  unfold wf_hdr at a
  have o := wf_f hw h0 h1
  unfold wf_one at o
  have e7 := s.2 g 7 h0 (by omega) (by omega) (by omega) (by omega) (by omega)
  have e6 := s.2 g 6 h0 (by omega) (by omega) (by omega) (by omega) (by omega)
  have e5 := s.2 g 5 h0 (by omega) (by omega) (by omega) (by omega) (by omega)
  have e4 := s.2 g 4 h0 (by omega) (by omega) (by omega) (by omega) (by omega)
  have ek : ∀ i, 0 ≤ i → i < w_of w g 7 → w_of W g (8 + i) = w_of w g (8 + i) := fun i i0 i1 => s.2 g (8 + i) h0 (by omega) (by omega) (by omega) (by omega) (by omega)
  have dead : ∀ s', r_dead mk W T g s' ↔ r_dead mk w T g s' := by
    intro s'
    unfold r_dead
    rw [e7]
    constructor
    · rintro ⟨i, i0, i1, z⟩
      exact ⟨i, i0, i1, by rw [← ek i i0 i1]; exact z⟩
    · rintro ⟨i, i0, i1, z⟩
      exact ⟨i, i0, i1, by rw [ek i i0 i1]; exact z⟩
  have rs : ∀ s' (n : Nat), (n : Int) ≤ w_of w g 7 → r_sum W T g s' n = r_sum w T g s' n := by
    intro s' n
    induction n with
    | zero => intro _; rfl
    | succ n ih =>
      intro hn
      show r_sum W T g s' n + w_of W (w_of W g (8 + n)) 1 * T (42 * w_of W g (8 + n) + s') = r_sum w T g s' n + w_of w (w_of w g (8 + n)) 1 * T (42 * w_of w g (8 + n) + s')
      rw [ih (by omega), ek n (by omega) (by omega), hk n (by omega) (by omega)]
  have rm : ∀ s' (n : Nat), (n : Int) ≤ w_of w g 7 → r_max W T g s' n = r_max w T g s' n := by
    intro s' n
    induction n with
    | zero => intro _; rfl
    | succ n ih =>
      intro hn
      show max (r_max W T g s' n) (T (42 * w_of W g (8 + n) + s')) = max (r_max w T g s' n) (T (42 * w_of w g (8 + n) + s'))
      rw [ih (by omega), ek n (by omega) (by omega)]
  have hr : ∀ s', r_of c E W L T g s' = r_of c E w L T g s' := by
    intro s'
    unfold r_of p_end
    rw [e6, e7, rs s' _ (by omega), rm s' _ (by omega)]
  have hk2 : ∀ s', r_ok mk E W T g s' ↔ r_ok mk E w T g s' := by
    intro s'
    unfold r_ok
    rw [ws_end s h0 (by omega), dead]
  have hc : p_cost W E g (t + w_of w g 5 - st) b t = p_cost w E g (t + w_of w g 5 - st) b t := by
    unfold p_cost p_trade p_end
    rw [hp, e4, e6, e7, s.1 4 (by omega), s.1 5 (by omega), s.1 6 (by omega)]
  have hv : v_of c E W L T g st wd b t = v_of c E w L T g st wd b t := by
    unfold v_of v_sc
    rw [hr, e5, e6, hc]
  unfold zst
  rw [hk2, hv, ws_law s h0 (by omega)]
theorem gr_loc {g mk c E Wd : Int} {L T : Int → Int} (hz : ∀ st wd b t u, zst mk c E Wd W L T g st wd b t u ↔ zst mk c E Wd w L T g st wd b t u) : g_row mk c E Wd W L T g ↔ g_row mk c E Wd w L T g := by
  have iff : ∀ st wd u, s_val mk c E Wd W L T g st wd u ↔ s_val mk c E Wd w L T g st wd u := by
    intro st wd u
    rw [← zst_val, ← zst_val]
    exact ⟨fun ⟨b, t, z⟩ => ⟨b, t, (hz st wd b t u).mp z⟩, fun ⟨b, t, z⟩ => ⟨b, t, (hz st wd b t u).mpr z⟩⟩
  unfold g_row
  constructor
  · intro h st wd p q p2 q2
    exact ml_cg (h st wd p q p2 q2) (fun u => iff st wd u)
  · intro h st wd p q p2 q2
    exact ml_cg (h st wd p q p2 q2) (fun u => (iff st wd u).symm)
theorem dead2 {L1 L2 T1 T2 : Int → Int} (hw : wf w) (hn : wn w) (hW : wf W) (s : ws w W) (h1 : ∀ f, w 8 < f → f < w 0 → p_fr w (w 8) f → g_row 9223372036854775807 0 5 4 w L1 T1 f) (h2 : ∀ f, w 8 < f → f < w 0 → p_fr w (w 8) f → g_row 9223372036854775807 0 5 4 W L2 T2 f ∧ t_bd 9223372036854775807 W T2 f) :
    ∀ f, w 8 < f → f < w 0 → p_fr w (w 8) f → ∀ st wd, 0 ≤ st → st ≤ 20 → 0 ≤ wd → wd ≤ 1 → ¬ T1 (42 * f + (21 * wd + st)) = 9223372036854775807 → ¬ T2 (42 * f + (21 * wd + st)) = 9223372036854775807 := by
  have n8 := hn.1
  have a := wf_h hw
  unfold wf_hdr at a
  have key : ∀ n : Nat, ∀ f, w 0 - f ≤ n → w 8 < f → f < w 0 → p_fr w (w 8) f → ∀ st wd, 0 ≤ st → st ≤ 20 → 0 ≤ wd → wd ≤ 1 → ¬ T1 (42 * f + (21 * wd + st)) = 9223372036854775807 → ¬ T2 (42 * f + (21 * wd + st)) = 9223372036854775807 := by
    intro n
    induction n with
    | zero => intro f p _ q; omega
    | succ n ih =>
      intro f hn2 f0 f1 fr st wd p q p2 q2 ha
      have e7 := s.2 f 7 (by omega) (by omega) (by omega) (by omega) (by omega) (by omega)
      have o := wf_f hw (f := f) (by omega) f1
      unfold wf_one at o
      have f1W : f < W 0 := by rw [s.1 0 (by omega)]; exact f1
      rcases h1 f f0 f1 fr st wd p q p2 q2 with ⟨z, _⟩ | ⟨⟨b, t, l, r, _⟩, _⟩
      · exact absurd z ha
      · have sb := sl_b hw (by omega) f1 ⟨p, q⟩ l
        have po := p_or_01 (a := wd) (b := b)
        have l2 : s_law W 4 f st wd b t := (ws_law s (by omega) (by omega)).mpr l
        have r2 : r_ok 9223372036854775807 5 W T2 f (21 * p_or wd b + t) := by
          rcases r with z | z
          · exact Or.inl ((ws_end s (by omega) (by omega)).mpr z)
          · refine Or.inr (fun ⟨i, i0, i1, e⟩ => ?_)
            rw [e7] at i1
            rw [s.2 f (8 + i) (by omega) (by omega) (by omega) (by omega) (by omega) (by omega)] at e
            have kk := wf_k hw (f := f) (i := i) (by omega) f1 i0 i1
            exact ih _ (by omega) (by omega) kk.2.1 (fr_kid hw n8.1 fr (by omega) f1 i0 i1) t (p_or wd b) (by omega) (by omega) (by omega) (by omega) (fun y => z ⟨i, i0, i1, y⟩) e
        rcases (h2 f f0 f1 fr).1 st wd p q p2 q2 with ⟨_, z⟩ | ⟨z, _⟩
        · exact absurd ⟨b, t, l2, r2, rfl⟩ (z _)
        · rw [← zst_val] at z
          obtain ⟨b', t', zz⟩ := z
          have bd := zst_bd hW (by omega) f1W ⟨p, q⟩ ⟨p2, q2⟩ (fun i i0 i1 => by
            rw [e7] at i1
            rw [s.2 f (8 + i) (by omega) (by omega) (by omega) (by omega) (by omega) (by omega)]
            have kk := wf_k hw (f := f) (i := i) (by omega) f1 i0 i1
            exact (h2 _ (by omega) kk.2.1 (fr_kid hw n8.1 fr (by omega) f1 i0 i1)).2) (fun y => by omega) (by omega) zz
          have gp := gb_pos (k := w_of W f 6)
          omega
  exact fun f => key (w 0 - f).toNat f (by omega)
end WS
/-! the first of the best steps now, as every table of the model's kind tells it -/
def pkw (W : Int → Int) (b t : Int) : Prop := ∀ T L' : Int → Int, gT 0 5 4 (-1) W L' T (W 8) → fL (zst (-9223372036854775808) 0 5 4 W L' T (W 8) (W 9) (W 10)) b t (T (42 * W 8 + (21 * W 10 + W 9)))
theorem pk_of {W L2 V : Int → Int} {b t u : Int} (hw : wf W) (hn : wn W) (hC : ∀ f, W 8 < f → f < W 0 → p_fr W (W 8) f → g_row 9223372036854775807 0 5 4 W L2 V f) (hf : fL (zst 9223372036854775807 0 5 4 W L2 V (W 8) (W 9) (W 10)) b t u) : pkw W b t := by
  obtain ⟨n8, n9, n10, _⟩ := id hn
  intro T L' gt
  have zn : ∀ b t u, zst (-9223372036854775808) 0 5 4 W L' T (W 8) (W 9) (W 10) b t u ↔ zst 9223372036854775807 0 5 4 W L2 V (W 8) (W 9) (W 10) b t u := by
    refine zst_ag hw n8.1 n8.2 ?_ (fun _ _ _ _ c2 => by omega)
    intro ne b t l i i0 i1
    have kk := wf_k hw (f := W 8) (i := i) n8.1 n8.2 i0 i1
    have sb := sl_b hw n8.1 n8.2 n9 l
    have po := p_or_01 (a := W 10) (b := b)
    exact tabsU hw hn gt hC _ kk.1 kk.2.1 (fr_kid hw n8.1 fr_self n8.1 n8.2 i0 i1) t (p_or (W 10) b) (by omega) (by omega) (by omega) (by omega)
  have fl := fL_cg hf (fun b t u => zn b t u)
  have ml := ml_cg ((gT_row hn (by omega) gt (W 8) (Int.le_refl _) n8.2 fr_self).1 (W 9) (W 10) n9.1 n9.2 n10.1 n10.2) (fun u => zst_val.symm)
  rw [ml_uniq ml (fL_ml fl)]
  exact fl
theorem fr_tr {w : Int → Int} (hw : wf w) {a b : Int} (ha : 0 ≤ a) (h : p_fr w a b) : ∀ n : Nat, ∀ c : Int, c < n → c < w 0 → p_fr w b c → p_fr w a c := by
  intro n
  have ab : a ≤ b := by
    by_cases q : b < a
    · exact absurd h (fr_lt q)
    · omega
  induction n with
  | zero =>
    intro c c0 _ hc
    exact absurd hc (fr_lt (by omega))
  | succ n ih =>
    intro c c0 c1 hc
    by_cases z : c = b
    · rw [z]
      exact h
    · have g := fr_gt hc z
      have u := wf_u hw (f := c) (by omega) c1
      rw [fr_up hw ha (by omega) c1]
      exact ih _ (by omega) (by omega) ((fr_up hw (by omega) g c1).mp hc)
/-! rows are filled anew from a fork up to now -/
theorem h_refillG {w : Int → Int} {G : (Int → Int) → Int → Prop} {D : Int → Prop} {top g0 c : Int} {L1 : Int → Int} (hw : wf w) (ht : 0 ≤ top) (h1 : g0 < w 0) (hfr : p_fr w top g0)
    (hF : ∀ (σ : x_S) (g : Int), mir σ 1 w → σ 24 3 1 = 4 → σ 24 3 2 = 5 → σ 24 3 3 = c → σ 26 3 = L1 → top < g → g < w 0 → p_fr w top g → p_fr w g g0 → (∀ h, top < h → h < w 0 → (D h ∨ p_fr w h g0) → ¬ p_fr w h g → G (σ 25 3) h) → x_Sp 4 2 [xR 24 3, xI g] σ (fun r σ' => r = none ∧ x_eqo [(24, 3), (25, 3), (27, 3), (28, 3)] σ σ' ∧ (∀ k, ¬ (7 ≤ k ∧ k ≤ 9) → σ' 24 3 k = σ 24 3 k) ∧ (∀ i, ¬ (42 * g ≤ i ∧ i < 42 * g + 42) → σ' 25 3 i = σ 25 3 i) ∧ G (σ' 25 3) g))
    (hcg : ∀ (T T' : Int → Int) h, top < h → h < w 0 → (∀ s, 0 ≤ s → s < 42 → T' (42 * h + s) = T (42 * h + s)) → k_eq w T T' h → G T h → G T' h)
    {σ : x_S} (hM : mir σ 1 w) (hWd : σ 24 3 1 = 4) (hE : σ 24 3 2 = 5) (hm : σ 24 3 3 = c) (hL : σ 26 3 = L1) (hr : ∀ h, top < h → h < w 0 → D h → ¬ p_fr w h g0 → G (σ 25 3) h) :
    x_Sp 5 139 [xR 0 0, xI g0, xI top] σ (fun r σ' => r = none ∧ x_eqo [(24, 3), (25, 3), (27, 3), (28, 3)] σ σ' ∧ (∀ k, ¬ (7 ≤ k ∧ k ≤ 9) → σ' 24 3 k = σ 24 3 k) ∧ (∀ i, (∀ h, top < h → p_fr w h g0 → ¬ (42 * h ≤ i ∧ i < 42 * h + 42)) → σ' 25 3 i = σ 25 3 i) ∧ ∀ h, top < h → h < w 0 → (D h ∨ p_fr w h g0) → G (σ' 25 3) h) := by
  have a := wf_h hw
  unfold wf_hdr at a
  have g00 : top ≤ g0 := by
    by_cases q : g0 < top
    · exact absurd hfr (fr_lt q)
    · omega
  have o0 := wf_f hw (f := g0) (by omega) h1
  unfold wf_one at o0
  refine x_gen (fun Q hQ => ?_)
  have fin : ∀ (σ' : x_S) (g : Int), ¬ top < g → p_fr w top g → x_eqo [(24, 3), (25, 3), (27, 3), (28, 3)] σ σ' → (∀ k, ¬ (7 ≤ k ∧ k ≤ 9) → σ' 24 3 k = σ 24 3 k) → (∀ i, (∀ h, top < h → p_fr w h g0 → ¬ (42 * h ≤ i ∧ i < 42 * h + 42)) → σ' 25 3 i = σ 25 3 i) → (∀ h, top < h → h < w 0 → (D h ∨ p_fr w h g0) → ¬ p_fr w h g → G (σ' 25 3) h) → Q none σ' := by
    intro σ' g gt gf e k o hG
    exact hQ _ _ ⟨rfl, e, k, o, fun h h0 h1 hd => hG h h0 h1 hd (fr_lt (by omega))⟩
  have key : ∀ n : Nat, ∀ (i g : Int) (σ' : x_S), w_of w g 6 = n → 0 ≤ i → i + w_of w g 6 = w_of w g0 6 → 0 ≤ g → g < w 0 → p_fr w top g → p_fr w g g0 → x_eqo [(24, 3), (25, 3), (27, 3), (28, 3)] σ σ' → (∀ k, ¬ (7 ≤ k ∧ k ≤ 9) → σ' 24 3 k = σ 24 3 k) → (∀ i, (∀ h, top < h → p_fr w h g0 → ¬ (42 * h ≤ i ∧ i < 42 * h + 42)) → σ' 25 3 i = σ 25 3 i) → (∀ h, top < h → h < w 0 → (D h ∨ p_fr w h g0) → ¬ p_fr w h g → G (σ' 25 3) h) → x_Wp 5 139 (x_blk 139 1) [xR 0 0, xI g0, xI top, xI g, xI i] [] σ' Q := by
    intro n
    induction n with
    | zero =>
      intro i g σ' gn i0 ig gz g1 gt gg e k o hG
      have gtop : ¬ top < g := by
        intro z
        have u := wf_u hw (f := g) (by omega) g1
        have ou := wf_f hw (f := w_of w g 0) (by omega) (by omega)
        unfold wf_one at ou
        omega
      have F := fin σ' g gtop gt e k o hG
      rw [bk_139_1]
      by_cases ci : i < 4
      · simp (disch := first | omega | (simp only [x_wtI, x_wtJ, x_wtR, x_wtN]; omega) | assumption | (simp (disch := omega) only [x_st_o, x_rd_ne]; first | assumption | omega) | (apply mir_eq; assumption; (intro c h1 h2; simp (disch := omega) only [x_st_o])) | (apply mis_eq; assumption; (intro c h1 h2; simp (disch := omega) only [x_st_o])) | rfl) only [bk_139_0, bk_139_2, wp_ild1, wp_ist3, wp_ic, wp_ist4, wp_fall, wp_ild4, wp_icge, wp_ild3, wp_ild2, wp_icle, wp_ald0, wr_0_7, wk_2, wr_0_2, wr_20_0, wr_6_7, wl_7, wp_cald, wp_inc4, wp_goto, wp_ret, x_clr_I, x_clr_J, x_clr_R, x_clr_U, ct_some, ct_none, lc_lt, lc_ge, lc_gt, lc_le, lc_eq, lc_r, xI_inj, xJ_inj, Option.some.injEq, eq_self, bi_r, bi_0, bi_1, bi_n, Classical.not_not, and_true, true_and, ite_true, ite_false, ↓reduceIte, ↓x_andl, z_le, z_nle, z_lt, z_nlt, z_eq, z_neq, if_pos, if_neg, x_andl, false_and, and_false, or_true, true_or, or_false, false_or, not_true, not_false_iff, x_rd_eq, x_rd_ne, x_st_o, Int.cast_ofNat_Int, Int.ofNat_zero, Int.ofNat_one, not_true_eq_false, not_false_eq_true, if_true, if_false, ite_self, and_self, Int.ofNat_eq_natCast, Int.tdiv_eq_ediv_of_nonneg, Int.tmod_eq_emod_of_nonneg, x_bm32]
        exact F
      · simp (disch := first | omega | (simp only [x_wtI, x_wtJ, x_wtR, x_wtN]; omega) | assumption | (simp (disch := omega) only [x_st_o, x_rd_ne]; first | assumption | omega) | (apply mir_eq; assumption; (intro c h1 h2; simp (disch := omega) only [x_st_o])) | (apply mis_eq; assumption; (intro c h1 h2; simp (disch := omega) only [x_st_o])) | rfl) only [bk_139_0, bk_139_2, wp_ild1, wp_ist3, wp_ic, wp_ist4, wp_fall, wp_ild4, wp_icge, wp_ild3, wp_ild2, wp_icle, wp_ald0, wr_0_7, wk_2, wr_0_2, wr_20_0, wr_6_7, wl_7, wp_cald, wp_inc4, wp_goto, wp_ret, x_clr_I, x_clr_J, x_clr_R, x_clr_U, ct_some, ct_none, lc_lt, lc_ge, lc_gt, lc_le, lc_eq, lc_r, xI_inj, xJ_inj, Option.some.injEq, eq_self, bi_r, bi_0, bi_1, bi_n, Classical.not_not, and_true, true_and, ite_true, ite_false, ↓reduceIte, ↓x_andl, z_le, z_nle, z_lt, z_nlt, z_eq, z_neq, if_pos, if_neg, x_andl, false_and, and_false, or_true, true_or, or_false, false_or, not_true, not_false_iff, x_rd_eq, x_rd_ne, x_st_o, Int.cast_ofNat_Int, Int.ofNat_zero, Int.ofNat_one, not_true_eq_false, not_false_eq_true, if_true, if_false, ite_self, and_self, Int.ofNat_eq_natCast, Int.tdiv_eq_ediv_of_nonneg, Int.tmod_eq_emod_of_nonneg, x_bm32]
        exact F
    | succ n ih =>
      intro i g σ' gn i0 ig gz g1 gt gg e k o hG
      by_cases ct : top < g
      · have ci : i < 4 := by omega
        have hM' : mir σ' 1 w := mir_eq hM (fun c q1 q2 => e c 1 (by simp))
        have u := wf_u hw (f := g) (by omega) g1
        have e26 : σ' 26 3 = L1 := by rw [e 26 3 (by simp)]; exact hL
        rw [bk_139_1]
        simp (disch := first | omega | (simp only [x_wtI, x_wtJ, x_wtR, x_wtN]; omega) | assumption | (simp (disch := omega) only [x_st_o, x_rd_ne]; first | assumption | omega) | (apply mir_eq; assumption; (intro c h1 h2; simp (disch := omega) only [x_st_o])) | (apply mis_eq; assumption; (intro c h1 h2; simp (disch := omega) only [x_st_o])) | rfl) only [bk_139_0, bk_139_2, wp_ild1, wp_ist3, wp_ic, wp_ist4, wp_fall, wp_ild4, wp_icge, wp_ild3, wp_ild2, wp_icle, wp_ald0, wr_0_7, wk_2, wr_0_2, wr_20_0, wr_6_7, wl_7, wp_cald, wp_inc4, wp_goto, wp_ret, x_clr_I, x_clr_J, x_clr_R, x_clr_U, ct_some, ct_none, lc_lt, lc_ge, lc_gt, lc_le, lc_eq, lc_r, xI_inj, xJ_inj, Option.some.injEq, eq_self, bi_r, bi_0, bi_1, bi_n, Classical.not_not, and_true, true_and, ite_true, ite_false, ↓reduceIte, ↓x_andl, z_le, z_nle, z_lt, z_nlt, z_eq, z_neq, if_pos, if_neg, x_andl, false_and, and_false, or_true, true_or, or_false, false_or, not_true, not_false_iff, x_rd_eq, x_rd_ne, x_st_o, Int.cast_ofNat_Int, Int.ofNat_zero, Int.ofNat_one, not_true_eq_false, not_false_eq_true, if_true, if_false, ite_self, and_self, Int.ofNat_eq_natCast, Int.tdiv_eq_ediv_of_nonneg, Int.tmod_eq_emod_of_nonneg, x_bm32]
        refine x_use (d := 0) (hF σ' g hM' (by rw [k 1 (by omega)]; exact hWd) (by rw [k 2 (by omega)]; exact hE) (by rw [k 3 (by omega)]; exact hm) e26 ct g1 gt gg hG) ?_
        rintro r σ2 ⟨rfl, e2, k2, o2, hg2⟩
        have hM2 : mir σ2 1 w := mir_eq hM' (fun c q1 q2 => e2 c 1 (by simp))
        have gu : p_fr w top (w_of w g 0) := (fr_up hw ht ct g1).mp gt
        have un : p_fr w (w_of w g 0) g := (fr_up hw u.1 u.2.1 g1).mpr fr_self
        have K := ih (i + 1) (w_of w g 0) σ2 (by omega) (by omega) (by omega) u.1 (by omega) gu (fr_tr hw u.1 un (g0 + 1).toNat g0 (by omega) h1 gg) (eqo_trans e e2) (fun q hq => by rw [k2 q hq]; exact k q hq) (fun q hq => by
          rw [o2 q (hq g ct gg)]
          exact o q hq) (fun h h0 h1 hd hn => by
          by_cases z : h = g
          · rw [z]
            exact hg2
          · have nf : ¬ p_fr w h g := by
              by_cases c1 : h < g
              · rw [fr_up hw (by omega) c1 g1]
                exact hn
              · exact fr_lt (by omega)
            refine hcg (σ' 25 3) (σ2 25 3) h h0 h1 (fun s s0 s1 => o2 _ (by omega)) (fun q q0 q1 s s0 s1 => o2 _ ?_) (hG h h0 h1 hd nf)
            have kk := wf_k hw (f := h) (i := q) (by omega) h1 q0 q1
            have ne : ¬ w_of w h (8 + q) = g := by
              intro y
              rw [y] at kk
              exact hn (by rw [kk.2.2.1]; exact fr_self)
            omega)
        simp (disch := first | omega | (simp only [x_wtI, x_wtJ, x_wtR, x_wtN]; omega) | assumption | (simp (disch := omega) only [x_st_o, x_rd_ne]; first | assumption | omega) | (apply mir_eq; assumption; (intro c h1 h2; simp (disch := omega) only [x_st_o])) | (apply mis_eq; assumption; (intro c h1 h2; simp (disch := omega) only [x_st_o])) | rfl) only [bk_139_0, bk_139_2, wp_ild1, wp_ist3, wp_ic, wp_ist4, wp_fall, wp_ild4, wp_icge, wp_ild3, wp_ild2, wp_icle, wp_ald0, wr_0_7, wk_2, wr_0_2, wr_20_0, wr_6_7, wl_7, wp_cald, wp_inc4, wp_goto, wp_ret, x_clr_I, x_clr_J, x_clr_R, x_clr_U, ct_some, ct_none, lc_lt, lc_ge, lc_gt, lc_le, lc_eq, lc_r, xI_inj, xJ_inj, Option.some.injEq, eq_self, bi_r, bi_0, bi_1, bi_n, Classical.not_not, and_true, true_and, ite_true, ite_false, ↓reduceIte, ↓x_andl, z_le, z_nle, z_lt, z_nlt, z_eq, z_neq, if_pos, if_neg, x_andl, false_and, and_false, or_true, true_or, or_false, false_or, not_true, not_false_iff, x_rd_eq, x_rd_ne, x_st_o, Int.cast_ofNat_Int, Int.ofNat_zero, Int.ofNat_one, not_true_eq_false, not_false_eq_true, if_true, if_false, ite_self, and_self, Int.ofNat_eq_natCast, Int.tdiv_eq_ediv_of_nonneg, Int.tmod_eq_emod_of_nonneg, x_bm32, mi_under hM2]
        exact K
      · have F := fin σ' g ct gt e k o hG
        rw [bk_139_1]
        by_cases ci : i < 4
        · simp (disch := first | omega | (simp only [x_wtI, x_wtJ, x_wtR, x_wtN]; omega) | assumption | (simp (disch := omega) only [x_st_o, x_rd_ne]; first | assumption | omega) | (apply mir_eq; assumption; (intro c h1 h2; simp (disch := omega) only [x_st_o])) | (apply mis_eq; assumption; (intro c h1 h2; simp (disch := omega) only [x_st_o])) | rfl) only [bk_139_0, bk_139_2, wp_ild1, wp_ist3, wp_ic, wp_ist4, wp_fall, wp_ild4, wp_icge, wp_ild3, wp_ild2, wp_icle, wp_ald0, wr_0_7, wk_2, wr_0_2, wr_20_0, wr_6_7, wl_7, wp_cald, wp_inc4, wp_goto, wp_ret, x_clr_I, x_clr_J, x_clr_R, x_clr_U, ct_some, ct_none, lc_lt, lc_ge, lc_gt, lc_le, lc_eq, lc_r, xI_inj, xJ_inj, Option.some.injEq, eq_self, bi_r, bi_0, bi_1, bi_n, Classical.not_not, and_true, true_and, ite_true, ite_false, ↓reduceIte, ↓x_andl, z_le, z_nle, z_lt, z_nlt, z_eq, z_neq, if_pos, if_neg, x_andl, false_and, and_false, or_true, true_or, or_false, false_or, not_true, not_false_iff, x_rd_eq, x_rd_ne, x_st_o, Int.cast_ofNat_Int, Int.ofNat_zero, Int.ofNat_one, not_true_eq_false, not_false_eq_true, if_true, if_false, ite_self, and_self, Int.ofNat_eq_natCast, Int.tdiv_eq_ediv_of_nonneg, Int.tmod_eq_emod_of_nonneg, x_bm32]
          exact F
        · simp (disch := first | omega | (simp only [x_wtI, x_wtJ, x_wtR, x_wtN]; omega) | assumption | (simp (disch := omega) only [x_st_o, x_rd_ne]; first | assumption | omega) | (apply mir_eq; assumption; (intro c h1 h2; simp (disch := omega) only [x_st_o])) | (apply mis_eq; assumption; (intro c h1 h2; simp (disch := omega) only [x_st_o])) | rfl) only [bk_139_0, bk_139_2, wp_ild1, wp_ist3, wp_ic, wp_ist4, wp_fall, wp_ild4, wp_icge, wp_ild3, wp_ild2, wp_icle, wp_ald0, wr_0_7, wk_2, wr_0_2, wr_20_0, wr_6_7, wl_7, wp_cald, wp_inc4, wp_goto, wp_ret, x_clr_I, x_clr_J, x_clr_R, x_clr_U, ct_some, ct_none, lc_lt, lc_ge, lc_gt, lc_le, lc_eq, lc_r, xI_inj, xJ_inj, Option.some.injEq, eq_self, bi_r, bi_0, bi_1, bi_n, Classical.not_not, and_true, true_and, ite_true, ite_false, ↓reduceIte, ↓x_andl, z_le, z_nle, z_lt, z_nlt, z_eq, z_neq, if_pos, if_neg, x_andl, false_and, and_false, or_true, true_or, or_false, false_or, not_true, not_false_iff, x_rd_eq, x_rd_ne, x_st_o, Int.cast_ofNat_Int, Int.ofNat_zero, Int.ofNat_one, not_true_eq_false, not_false_eq_true, if_true, if_false, ite_self, and_self, Int.ofNat_eq_natCast, Int.tdiv_eq_ediv_of_nonneg, Int.tmod_eq_emod_of_nonneg, x_bm32]
          exact F
  have K := key (w_of w g0 6).toNat 0 g0 σ (by omega) (by omega) (by omega) (by omega) h1 hfr fr_self eqo_refl (fun _ _ => rfl) (fun _ _ => rfl) (fun h h0 h1 hd hn => hr h h0 h1 (hd.resolve_right hn) hn)
  simp (disch := first | omega | (simp only [x_wtI, x_wtJ, x_wtR, x_wtN]; omega) | assumption | (simp (disch := omega) only [x_st_o, x_rd_ne]; first | assumption | omega) | (apply mir_eq; assumption; (intro c h1 h2; simp (disch := omega) only [x_st_o])) | (apply mis_eq; assumption; (intro c h1 h2; simp (disch := omega) only [x_st_o])) | rfl) only [sp_139, bk_139_0, bk_139_2, wp_ild1, wp_ist3, wp_ic, wp_ist4, wp_fall, wp_ild4, wp_icge, wp_ild3, wp_ild2, wp_icle, wp_ald0, wr_0_7, wk_2, wr_0_2, wr_20_0, wr_6_7, wl_7, wp_cald, wp_inc4, wp_goto, wp_ret, x_clr_I, x_clr_J, x_clr_R, x_clr_U, ct_some, ct_none, lc_lt, lc_ge, lc_gt, lc_le, lc_eq, lc_r, xI_inj, xJ_inj, Option.some.injEq, eq_self, bi_r, bi_0, bi_1, bi_n, Classical.not_not, and_true, true_and, ite_true, ite_false, ↓reduceIte, ↓x_andl, z_le, z_nle, z_lt, z_nlt, z_eq, z_neq, if_pos, if_neg, x_andl, false_and, and_false, or_true, true_or, or_false, false_or, not_true, not_false_iff, x_rd_eq, x_rd_ne, x_st_o, Int.cast_ofNat_Int, Int.ofNat_zero, Int.ofNat_one, not_true_eq_false, not_false_eq_true, if_true, if_false, ite_self, and_self, Int.ofNat_eq_natCast, Int.tdiv_eq_ediv_of_nonneg, Int.tmod_eq_emod_of_nonneg, x_bm32]
  exact K

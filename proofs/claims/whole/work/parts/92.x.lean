/-! tables of the model and of the class tell the same -/
def tg (a b : Int) : Prop := (a = (-9223372036854775808) ∧ b = 9223372036854775807) ∨ (a = b ∧ ¬ a = (-9223372036854775808) ∧ ¬ b = 9223372036854775807)
def tgk (w T T2 : Int → Int) (f s : Int) : Prop := ∀ i, 0 ≤ i → i < w_of w f 7 → tg (T (42 * w_of w f (8 + i) + s)) (T2 (42 * w_of w f (8 + i) + s))
section TGK
variable {w T T2 L L2 : Int → Int} {f s c E Wd ea st wd : Int}
theorem tgk_dead (h : tgk w T T2 f s) : r_dead (-9223372036854775808) w T f s ↔ r_dead 9223372036854775807 w T2 f s := by
  unfold r_dead
  constructor
  · rintro ⟨i, i0, i1, e⟩
    refine ⟨i, i0, i1, ?_⟩
    rcases h i i0 i1 with ⟨_, z⟩ | ⟨_, z, _⟩
    · exact z
    · exact absurd e z
  · rintro ⟨i, i0, i1, e⟩
    refine ⟨i, i0, i1, ?_⟩
    rcases h i i0 i1 with ⟨z, _⟩ | ⟨_, _, z⟩
    · exact z
    · exact absurd e z
theorem tgk_v (h : tgk w T T2 f s) (hd : ¬ r_dead (-9223372036854775808) w T f s) {i : Int} (i0 : 0 ≤ i) (i1 : i < w_of w f 7) : T (42 * w_of w f (8 + i) + s) = T2 (42 * w_of w f (8 + i) + s) := by
  rcases h i i0 i1 with ⟨z, _⟩ | ⟨z, _⟩
  · exact absurd ⟨i, i0, i1, z⟩ hd
  · exact z
theorem tgk_sum (h : tgk w T T2 f s) (hd : ¬ r_dead (-9223372036854775808) w T f s) : ∀ n : Nat, (n : Int) ≤ w_of w f 7 → r_sum w T f s n = r_sum w T2 f s n
  | 0, _ => rfl
  | n + 1, hn => by
    unfold r_sum
    rw [tgk_sum h hd n (by omega), tgk_v h hd (i := n) (by omega) (by omega)]
theorem tgk_max (h : tgk w T T2 f s) (hd : ¬ r_dead (-9223372036854775808) w T f s) : ∀ n : Nat, (n : Int) ≤ w_of w f 7 → r_max w T f s n = r_max w T2 f s n
  | 0, _ => rfl
  | n + 1, hn => by
    unfold r_max
    rw [tgk_max h hd n (by omega), tgk_v h hd (i := n) (by omega) (by omega)]
theorem tgk_of (hw : wf w) (h0 : 0 ≤ f) (h1 : f < w 0) (ne : ¬ p_end w E f) (h : tgk w T T2 f s) (hd : ¬ r_dead (-9223372036854775808) w T f s) : r_of c E w L T f s = r_of c E w L2 T2 f s := by
  have o := wf_f hw h0 h1
  unfold wf_one at o
  unfold r_of
  rw [if_neg ne, if_neg ne, tgk_sum h hd _ (by omega), tgk_max h hd _ (by omega)]
end TGK
theorem zea_tg {w T T2 : Int → Int} {f i st wd b t u E : Int} (h : tg (T (42 * w_of w f (8 + i) + (21 * p_or wd b + t))) (T2 (42 * w_of w f (8 + i) + (21 * p_or wd b + t)))) : zea (-9223372036854775808) E w T f i st wd b t u ↔ zea 9223372036854775807 E w T2 f i st wd b t u := by
  unfold zea
  rcases h with ⟨a, b'⟩ | ⟨a, b', c⟩
  · rw [a, b']
    constructor
    · rintro ⟨⟨_, z⟩, _⟩
      exact absurd rfl z
    · rintro ⟨⟨_, z⟩, _⟩
      exact absurd rfl z
  · rw [← a] at c ⊢
    constructor
    · rintro ⟨⟨l, _⟩, e⟩
      exact ⟨⟨l, c⟩, e⟩
    · rintro ⟨⟨l, _⟩, e⟩
      exact ⟨⟨l, b'⟩, e⟩
theorem tabs {w L L2 T T2 : Int → Int} {c E Wd ea : Int} {Rc : Int → Int → Prop} (hw : wf w) (h8 : 0 ≤ w 8) (hc : 0 ≤ c ∧ c ≤ 3) (hG : gT c E Wd ea w L T (w 8))
    (hC : ∀ f, w 8 ≤ f → f < w 0 → p_fr w (w 8) f → w_of w f 6 ≤ E → ∀ st wd, 0 ≤ st → st ≤ 20 → 0 ≤ wd → wd ≤ 1 → q_at 9223372036854775807 c E Wd ea w L2 T2 f st wd (T2 (42 * f + (21 * wd + st))))
    (hR : ∀ f st wd b t i, w 8 ≤ f → f < w 0 → p_fr w (w 8) f → 0 ≤ st → st ≤ 20 → 0 ≤ wd → wd ≤ 1 → Rc f (21 * wd + st) → s_law w 4 f st wd b t → 0 ≤ i → i < w_of w f 7 → Rc (w_of w f (8 + i)) (21 * p_or wd b + t))
    (hL : ∀ f st wd b t, w 8 ≤ f → f < w 0 → p_fr w (w 8) f → 0 ≤ st → st ≤ 20 → 0 ≤ wd → wd ≤ 1 → Rc f (21 * wd + st) → p_end w E f → s_law w Wd f st wd b t → may c w L f ∧ (c = 2 → L2 f = L f ∧ -170000 ≤ L f ∧ L f ≤ 170000)) :
    ∀ f, w 8 ≤ f → f < w 0 → p_fr w (w 8) f → w_of w f 6 ≤ E → ∀ st wd, 0 ≤ st → st ≤ 20 → 0 ≤ wd → wd ≤ 1 → Rc f (21 * wd + st) → tg (T (42 * f + (21 * wd + st))) (T2 (42 * f + (21 * wd + st))) := by
  have key : ∀ n : Nat, ∀ f, w 0 - f ≤ n → w 8 ≤ f → f < w 0 → p_fr w (w 8) f → w_of w f 6 ≤ E → ∀ st wd, 0 ≤ st → st ≤ 20 → 0 ≤ wd → wd ≤ 1 → Rc f (21 * wd + st) → tg (T (42 * f + (21 * wd + st))) (T2 (42 * f + (21 * wd + st))) := by
    intro n
    induction n with
    | zero => intro f p _ q; omega
    | succ n ih =>
      intro f hn f0 f1 fr fE st wd p q p2 q2 rc
      have o := wf_f hw (f := f) (by omega) f1
      unfold wf_one at o
      have law4 : ∀ b t, s_law w Wd f st wd b t → s_law w 4 f st wd b t := fun b t h => ⟨h.1.elim Or.inl (fun z => Or.inr ⟨z.1, z.2.1, by omega⟩), h.2⟩
      have lb : ∀ W b t, s_law w W f st wd b t → 0 ≤ t ∧ t ≤ 20 ∧ 0 ≤ p_or wd b ∧ p_or wd b ≤ 1 := by
        intro W b t h
        have z := sl_b hw (by omega) f1 ⟨p, q⟩ h
        have po := p_or_01 (a := wd) (b := b)
        omega
      have kid : ¬ p_end w E f → ∀ W b t, s_law w W f st wd b t → s_law w 4 f st wd b t → tgk w T T2 f (21 * p_or wd b + t) := by
        intro ne W b t h h4 i i0 i1
        have kk := wf_k hw (f := f) (i := i) (by omega) f1 i0 i1
        have z := lb W b t h
        have nE : ¬ E ≤ w_of w f 6 := fun y => ne (Or.inr y)
        exact ih _ (by omega) (by omega) (by omega) (fr_kid hw h8 fr (by omega) f1 i0 i1) (by omega) t (p_or wd b) (by omega) (by omega) (by omega) (by omega) (hR f st wd b t i f0 f1 fr p q p2 q2 rc h4 i0 i1)
      obtain ⟨gB, gY, gN⟩ := hG f f0 f1
      have cC := hC f f0 f1 fr fE st wd p q p2 q2
      have hTk : ∀ i, 0 ≤ i → i < w_of w f 7 → t_bd (-9223372036854775808) w T (w_of w f (8 + i)) := by
        intro i i0 i1
        have kk := wf_k hw (f := f) (i := i) (by omega) f1 i0 i1
        exact (hG _ (by omega) (by omega)).1
      -- where the row is that of steps
      have norm : x_ml 9223372036854775807 (s_val 9223372036854775807 c E Wd w L2 T2 f st wd) (T2 (42 * f + (21 * wd + st))) → (may c w L f → x_ml (-9223372036854775808) (s_val (-9223372036854775808) c E Wd w L T f st wd) (T (42 * f + (21 * wd + st)))) → tg (T (42 * f + (21 * wd + st))) (T2 (42 * f + (21 * wd + st))) := by
        intro mC mM
        by_cases hm : may c w L f
        · have same : ∀ u, s_val 9223372036854775807 c E Wd w L2 T2 f st wd u ↔ s_val (-9223372036854775808) c E Wd w L T f st wd u := by
            intro u
            by_cases ce : p_end w E f
            · constructor
              · rintro ⟨b, t, l, _, e⟩
                refine ⟨b, t, l, Or.inl ce, ?_⟩
                rw [e]
                have z := hL f st wd b t f0 f1 fr p q p2 q2 rc ce l
                unfold v_of r_of
                simp only [if_pos ce]
                by_cases c2 : c = 2
                · rw [if_pos c2, if_pos c2, (z.2 c2).1]
                · rw [if_neg c2, if_neg c2]
              · rintro ⟨b, t, l, _, e⟩
                refine ⟨b, t, l, Or.inl ce, ?_⟩
                rw [e]
                have z := hL f st wd b t f0 f1 fr p q p2 q2 rc ce l
                unfold v_of r_of
                simp only [if_pos ce]
                by_cases c2 : c = 2
                · rw [if_pos c2, if_pos c2, (z.2 c2).1]
                · rw [if_neg c2, if_neg c2]
            · constructor
              · rintro ⟨b, t, l, r, e⟩
                have k := kid ce Wd b t l (law4 b t l)
                have nd : ¬ r_dead (-9223372036854775808) w T f (21 * p_or wd b + t) := fun z => (r.resolve_left ce) ((tgk_dead k).mp z)
                refine ⟨b, t, l, Or.inr nd, ?_⟩
                rw [e]
                unfold v_of
                rw [tgk_of (L := L) (L2 := L2) hw (by omega) f1 ce k nd]
              · rintro ⟨b, t, l, r, e⟩
                have k := kid ce Wd b t l (law4 b t l)
                have nd := r.resolve_left ce
                refine ⟨b, t, l, Or.inr (fun z => nd ((tgk_dead k).mpr z)), ?_⟩
                rw [e]
                unfold v_of
                rw [tgk_of (L := L) (L2 := L2) hw (by omega) f1 ce k nd]
          rcases ml_tr (mM hm) (ml_cg mC same) with ⟨z1, z2, _⟩ | ⟨z1, ⟨b, t, l, r, e⟩, _⟩
          · exact Or.inl ⟨z1, z2⟩
          · have bd := zst_bd hw (by omega) f1 ⟨p, q⟩ ⟨p2, q2⟩ hTk (fun y ce => ((hL f st wd b t f0 f1 fr p q p2 q2 rc ce l).2 y).2) hc ⟨⟨l, r⟩, e⟩
            have gp := gb_pos (k := w_of w f 6)
            exact Or.inr ⟨z1, by omega, by omega⟩
        · have kz : w_of w f 7 = 0 := by
            unfold may at hm
            omega
          have vN := gN (fun z => hm z.2) (21 * wd + st) (by omega) (by omega)
          refine Or.inl ⟨vN, ?_⟩
          rcases mC with ⟨z, _⟩ | ⟨⟨b, t, l, _⟩, _⟩
          · exact z
          · exact absurd (hL f st wd b t f0 f1 fr p q p2 q2 rc (Or.inl kz) l).1 hm
      by_cases sp : f = ea ∧ ¬ p_end w E f
      · have hm : may c w L f := Or.inr (Or.inl (by
          have : ¬ w_of w f 7 = 0 := fun z => sp.2 (Or.inl z)
          omega))
        have cM := gY ⟨fr, hm⟩ st wd p q p2 q2
        have eC := (cC.resolve_right (fun z => z.1 sp)).2
        have eM := (cM.resolve_right (fun z => z.1 sp)).2
        have same : ∀ i, 0 ≤ i → i < w_of w f 7 → ∀ u, (∃ b t, zea (-9223372036854775808) E w T f i st wd b t u) ↔ (∃ b t, zea 9223372036854775807 E w T2 f i st wd b t u) := by
          intro i i0 i1 u
          constructor
          · rintro ⟨b, t, z⟩
            exact ⟨b, t, (zea_tg (kid sp.2 4 b t z.1.1 z.1.1 i i0 i1)).mp z⟩
          · rintro ⟨b, t, z⟩
            exact ⟨b, t, (zea_tg (kid sp.2 4 b t z.1.1 z.1.1 i i0 i1)).mpr z⟩
        rcases eM with ⟨⟨i, i0, i1, em⟩, vM⟩ | ⟨l, lm, vM⟩
        · rcases eC with ⟨_, vC⟩ | ⟨l2, lm2, vC⟩
          · exact Or.inl ⟨vM, vC⟩
          · rcases (lm2 i i0 i1).1 with ⟨z, _⟩ | ⟨z, _⟩
            · exact absurd z (lm2 i i0 i1).2
            · exact absurd ((same i i0 i1 _).mpr z) (em _)
        · rcases eC with ⟨⟨i, i0, i1, em⟩, vC⟩ | ⟨l2, lm2, vC⟩
          · rcases (lm i i0 i1).1 with ⟨z, _⟩ | ⟨z, _⟩
            · exact absurd z (lm i i0 i1).2
            · exact absurd ((same i i0 i1 _).mp z) (em _)
          · have el : ∀ i, 0 ≤ i → i < w_of w f 7 → l2 i = l i := by
              intro i i0 i1
              rcases ml_tr (lm i i0 i1).1 (ml_cg (lm2 i i0 i1).1 (fun u => (same i i0 i1 u).symm)) with ⟨z, _⟩ | ⟨z, _⟩
              · exact absurd z (lm i i0 i1).2
              · exact z.symm
            have es := esum_cg (w := w) (f := f) (l := l) (l' := l2) (w_of w f 7).toNat (fun i i0 i1 => el i i0 (by omega))
            have lbd : ∀ i, 0 ≤ i → i < w_of w f 7 → -(30000 * x_pay (w_of w f 6 + 1) + g_b (w_of w f 6 + 1)) ≤ l i ∧ l i ≤ 30000 * x_pay (w_of w f 6 + 1) + g_b (w_of w f 6 + 1) := by
              intro i i0 i1
              rcases (lm i i0 i1).1 with ⟨z, _⟩ | ⟨⟨b, t, z⟩, _⟩
              · exact absurd z (lm i i0 i1).2
              · exact zea_bd hw (by omega) f1 ⟨p, q⟩ ⟨p2, q2⟩ i0 i1 (hTk i i0 i1) z
            have pb := pay_b (m := w_of w f 6 + 1)
            have gp := gb_pos (k := w_of w f 6 + 1)
            have gp0 := gb_pos (k := w_of w f 6)
            have k0 := wf_k hw (f := f) (i := 0) (by omega) f1 (by omega) (by
              have : ¬ w_of w f 7 = 0 := fun z => sp.2 (Or.inl z)
              omega)
            have ok := wf_f hw (f := w_of w f (8 + 0)) (by omega) (by omega)
            unfold wf_one at ok
            have gs := gb_s (k := w_of w f 6) (by omega)
            have eb := esum_b hw (by omega) f1 (by omega) lbd (w_of w f 7).toNat (by omega)
            have m5 := mulb (a := ((w_of w f 7).toNat : Int)) (b := 200 * (30000 * x_pay (w_of w f 6 + 1) + g_b (w_of w f 6 + 1))) (A := 5) (B := 200 * (30000 * x_pay (w_of w f 6 + 1) + g_b (w_of w f 6 + 1))) (by omega) (by omega)
            rw [vM, vC, es]
            exact Or.inr ⟨rfl, by omega, by omega⟩
      · have eC := (cC.resolve_left (fun z => sp z.1)).2
        exact norm eC (fun hm => ((gY ⟨fr, hm⟩ st wd p q p2 q2).resolve_left (fun z => sp z.1)).2)
  exact fun f => key (w 0 - f).toNat f (by omega)

theorem x_kF_n : x_nms[x_kF.1]? = none := List.getElem?_eq_none (Nat.le_refl _)
theorem x_kF_p : x_puts[x_kF.2]? = none := List.getElem?_eq_none (Nat.le_refl _)
def x_fx (f : x_F) : Prop := ∀ (a : Int) (b c e : Nat) (L st : List x_V) (σ : x_S) (L' st' : List x_V) (k' : x_K) (σ' : x_S), f a b c e L st x_kF σ = some (L', st', k', σ') → k' = x_kF
theorem f_ic : x_fx o_ic := by
  intro a b c e L st σ L' st' k' σ' h
  unfold o_ic at h
  repeat' split at h
  all_goals first | (cases h; done) | (cases h; rfl)
theorem f_lc : x_fx o_lc := by
  intro a b c e L st σ L' st' k' σ' h
  unfold o_lc at h
  repeat' split at h
  all_goals first | (cases h; done) | (cases h; rfl)
theorem f_ild : x_fx o_ild := by
  intro a b c e L st σ L' st' k' σ' h
  unfold o_ild at h
  repeat' split at h
  all_goals first | (cases h; done) | (cases h; rfl)
theorem f_lld : x_fx o_lld := by
  intro a b c e L st σ L' st' k' σ' h
  unfold o_lld at h
  repeat' split at h
  all_goals first | (cases h; done) | (cases h; rfl)
theorem f_ald : x_fx o_ald := by
  intro a b c e L st σ L' st' k' σ' h
  unfold o_ald at h
  repeat' split at h
  all_goals first | (cases h; done) | (cases h; rfl)
theorem f_ist : x_fx o_ist := by
  intro a b c e L st σ L' st' k' σ' h
  unfold o_ist at h
  repeat' split at h
  all_goals first | (cases h; done) | (cases h; rfl)
theorem f_lst : x_fx o_lst := by
  intro a b c e L st σ L' st' k' σ' h
  unfold o_lst at h
  repeat' split at h
  all_goals first | (cases h; done) | (cases h; rfl)
theorem f_ast : x_fx o_ast := by
  intro a b c e L st σ L' st' k' σ' h
  unfold o_ast at h
  repeat' split at h
  all_goals first | (cases h; done) | (cases h; rfl)
theorem f_inc : x_fx o_inc := by
  intro a b c e L st σ L' st' k' σ' h
  unfold o_inc at h
  repeat' split at h
  all_goals first | (cases h; done) | (cases h; rfl)
theorem f_iadd : x_fx o_iadd := by
  intro a b c e L st σ L' st' k' σ' h
  unfold o_iadd o_i2 at h
  repeat' split at h
  all_goals first | (cases h; done) | (cases h; rfl)
theorem f_isub : x_fx o_isub := by
  intro a b c e L st σ L' st' k' σ' h
  unfold o_isub o_i2 at h
  repeat' split at h
  all_goals first | (cases h; done) | (cases h; rfl)
theorem f_imul : x_fx o_imul := by
  intro a b c e L st σ L' st' k' σ' h
  unfold o_imul o_i2 at h
  repeat' split at h
  all_goals first | (cases h; done) | (cases h; rfl)
theorem f_idiv : x_fx o_idiv := by
  intro a b c e L st σ L' st' k' σ' h
  unfold o_idiv at h
  repeat' split at h
  all_goals first | (cases h; done) | (cases h; rfl)
theorem f_irem : x_fx o_irem := by
  intro a b c e L st σ L' st' k' σ' h
  unfold o_irem at h
  repeat' split at h
  all_goals first | (cases h; done) | (cases h; rfl)
theorem f_ineg : x_fx o_ineg := by
  intro a b c e L st σ L' st' k' σ' h
  unfold o_ineg at h
  repeat' split at h
  all_goals first | (cases h; done) | (cases h; rfl)
theorem f_iand : x_fx o_iand := by
  intro a b c e L st σ L' st' k' σ' h
  unfold o_iand o_i2 at h
  repeat' split at h
  all_goals first | (cases h; done) | (cases h; rfl)
theorem f_ior : x_fx o_ior := by
  intro a b c e L st σ L' st' k' σ' h
  unfold o_ior o_i2 at h
  repeat' split at h
  all_goals first | (cases h; done) | (cases h; rfl)
theorem f_ishl : x_fx o_ishl := by
  intro a b c e L st σ L' st' k' σ' h
  unfold o_ishl o_i2 at h
  repeat' split at h
  all_goals first | (cases h; done) | (cases h; rfl)
theorem f_ishr : x_fx o_ishr := by
  intro a b c e L st σ L' st' k' σ' h
  unfold o_ishr o_i2 at h
  repeat' split at h
  all_goals first | (cases h; done) | (cases h; rfl)
theorem f_iushr : x_fx o_iushr := by
  intro a b c e L st σ L' st' k' σ' h
  unfold o_iushr o_i2 at h
  repeat' split at h
  all_goals first | (cases h; done) | (cases h; rfl)
theorem f_ladd : x_fx o_ladd := by
  intro a b c e L st σ L' st' k' σ' h
  unfold o_ladd o_l2 at h
  repeat' split at h
  all_goals first | (cases h; done) | (cases h; rfl)
theorem f_lsub : x_fx o_lsub := by
  intro a b c e L st σ L' st' k' σ' h
  unfold o_lsub o_l2 at h
  repeat' split at h
  all_goals first | (cases h; done) | (cases h; rfl)
theorem f_lmul : x_fx o_lmul := by
  intro a b c e L st σ L' st' k' σ' h
  unfold o_lmul o_l2 at h
  repeat' split at h
  all_goals first | (cases h; done) | (cases h; rfl)
theorem f_ldiv : x_fx o_ldiv := by
  intro a b c e L st σ L' st' k' σ' h
  unfold o_ldiv at h
  repeat' split at h
  all_goals first | (cases h; done) | (cases h; rfl)
theorem f_lneg : x_fx o_lneg := by
  intro a b c e L st σ L' st' k' σ' h
  unfold o_lneg at h
  repeat' split at h
  all_goals first | (cases h; done) | (cases h; rfl)
theorem f_land : x_fx o_land := by
  intro a b c e L st σ L' st' k' σ' h
  unfold o_land o_l2 at h
  repeat' split at h
  all_goals first | (cases h; done) | (cases h; rfl)
theorem f_lor : x_fx o_lor := by
  intro a b c e L st σ L' st' k' σ' h
  unfold o_lor o_l2 at h
  repeat' split at h
  all_goals first | (cases h; done) | (cases h; rfl)
theorem f_lshl : x_fx o_lshl := by
  intro a b c e L st σ L' st' k' σ' h
  unfold o_lshl o_lsh at h
  repeat' split at h
  all_goals first | (cases h; done) | (cases h; rfl)
theorem f_lshr : x_fx o_lshr := by
  intro a b c e L st σ L' st' k' σ' h
  unfold o_lshr o_lsh at h
  repeat' split at h
  all_goals first | (cases h; done) | (cases h; rfl)
theorem f_i2l : x_fx o_i2l := by
  intro a b c e L st σ L' st' k' σ' h
  unfold o_i2l at h
  repeat' split at h
  all_goals first | (cases h; done) | (cases h; rfl)
theorem f_l2i : x_fx o_l2i := by
  intro a b c e L st σ L' st' k' σ' h
  unfold o_l2i at h
  repeat' split at h
  all_goals first | (cases h; done) | (cases h; rfl)
theorem f_i2b : x_fx o_i2b := by
  intro a b c e L st σ L' st' k' σ' h
  unfold o_i2b at h
  repeat' split at h
  all_goals first | (cases h; done) | (cases h; rfl)
theorem f_i2s : x_fx o_i2s := by
  intro a b c e L st σ L' st' k' σ' h
  unfold o_i2s at h
  repeat' split at h
  all_goals first | (cases h; done) | (cases h; rfl)
theorem f_i2c : x_fx o_i2c := by
  intro a b c e L st σ L' st' k' σ' h
  unfold o_i2c at h
  repeat' split at h
  all_goals first | (cases h; done) | (cases h; rfl)
theorem f_lcmp : x_fx o_lcmp := by
  intro a b c e L st σ L' st' k' σ' h
  unfold o_lcmp at h
  repeat' split at h
  all_goals first | (cases h; done) | (cases h; rfl)
theorem f_dup : x_fx o_dup := by
  intro a b c e L st σ L' st' k' σ' h
  unfold o_dup at h
  repeat' split at h
  all_goals first | (cases h; done) | (cases h; rfl)
theorem f_dup2 : x_fx o_dup2 := by
  intro a b c e L st σ L' st' k' σ' h
  unfold o_dup2 at h
  repeat' split at h
  all_goals first | (cases h; done) | (cases h; rfl)
theorem f_pop : x_fx o_pop := by
  intro a b c e L st σ L' st' k' σ' h
  unfold o_pop at h
  repeat' split at h
  all_goals first | (cases h; done) | (cases h; rfl)
theorem f_pop2 : x_fx o_pop2 := by
  intro a b c e L st σ L' st' k' σ' h
  unfold o_pop2 at h
  repeat' split at h
  all_goals first | (cases h; done) | (cases h; rfl)
theorem f_geti : x_fx o_geti := by
  intro a b c e L st σ L' st' k' σ' h
  unfold o_geti at h
  repeat' split at h
  all_goals first | (cases h; done) | (cases h; rfl)
theorem f_getj : x_fx o_getj := by
  intro a b c e L st σ L' st' k' σ' h
  unfold o_getj at h
  repeat' split at h
  all_goals first | (cases h; done) | (cases h; rfl)
theorem f_getr : x_fx o_getr := by
  intro a b c e L st σ L' st' k' σ' h
  unfold o_getr at h
  repeat' split at h
  all_goals first | (cases h; done) | (cases h; rfl)
theorem f_puti : x_fx o_puti := by
  intro a b c e L st σ L' st' k' σ' h
  unfold o_puti at h
  repeat' split at h
  all_goals first | (cases h; done) | (cases h; rfl)
theorem f_putj : x_fx o_putj := by
  intro a b c e L st σ L' st' k' σ' h
  unfold o_putj at h
  repeat' split at h
  all_goals first | (cases h; done) | (cases h; rfl)
theorem f_putr : x_fx o_putr := by
  intro a b c e L st σ L' st' k' σ' h
  unfold o_putr at h
  simp only [x_kF_n, x_kF_p] at h
  repeat' split at h
  all_goals first | (cases h; done) | (cases h; rfl) | simp_all
theorem f_putz : x_fx o_putz := by
  intro a b c e L st σ L' st' k' σ' h
  unfold o_putz at h
  repeat' split at h
  all_goals first | (cases h; done) | (cases h; rfl)
theorem f_iald : x_fx o_iald := by
  intro a b c e L st σ L' st' k' σ' h
  unfold o_iald at h
  repeat' split at h
  all_goals first | (cases h; done) | (cases h; rfl)
theorem f_lald : x_fx o_lald := by
  intro a b c e L st σ L' st' k' σ' h
  unfold o_lald at h
  repeat' split at h
  all_goals first | (cases h; done) | (cases h; rfl)
theorem f_bald : x_fx o_bald := by
  intro a b c e L st σ L' st' k' σ' h
  unfold o_bald at h
  repeat' split at h
  all_goals first | (cases h; done) | (cases h; rfl)
theorem f_aald : x_fx o_aald := by
  intro a b c e L st σ L' st' k' σ' h
  unfold o_aald at h
  repeat' split at h
  all_goals first | (cases h; done) | (cases h; rfl)
theorem f_iast : x_fx o_iast := by
  intro a b c e L st σ L' st' k' σ' h
  unfold o_iast at h
  repeat' split at h
  all_goals first | (cases h; done) | (cases h; rfl)
theorem f_last : x_fx o_last := by
  intro a b c e L st σ L' st' k' σ' h
  unfold o_last at h
  repeat' split at h
  all_goals first | (cases h; done) | (cases h; rfl)
theorem f_bast : x_fx o_bast := by
  intro a b c e L st σ L' st' k' σ' h
  unfold o_bast at h
  repeat' split at h
  all_goals first | (cases h; done) | (cases h; rfl)
theorem f_aast : x_fx o_aast := by
  intro a b c e L st σ L' st' k' σ' h
  unfold o_aast at h
  simp only [x_kF_n, x_kF_p] at h
  repeat' split at h
  all_goals first | (cases h; done) | (cases h; rfl) | simp_all
theorem f_alen : x_fx o_alen := by
  intro a b c e L st σ L' st' k' σ' h
  unfold o_alen at h
  repeat' split at h
  all_goals first | (cases h; done) | (cases h; rfl)
theorem f_newa : x_fx o_newa := by
  intro a b c e L st σ L' st' k' σ' h
  unfold o_newa at h
  simp only [x_kF_n, x_kF_p] at h
  repeat' split at h
  all_goals first | (cases h; done) | (cases h; rfl) | simp_all
theorem f_anew : x_fx o_anew := by
  intro a b c e L st σ L' st' k' σ' h
  unfold o_anew at h
  simp only [x_kF_n, x_kF_p] at h
  repeat' split at h
  all_goals first | (cases h; done) | (cases h; rfl) | simp_all
theorem f_new : x_fx o_new := by
  intro a b c e L st σ L' st' k' σ' h
  unfold o_new at h
  simp only [x_kF_n, x_kF_p] at h
  repeat' split at h
  all_goals first | (cases h; done) | (cases h; rfl) | simp_all
theorem f_obji : x_fx o_obji := by
  intro a b c e L st σ L' st' k' σ' h
  unfold o_obji at h
  repeat' split at h
  all_goals first | (cases h; done) | (cases h; rfl)
theorem f_acpy : x_fx o_acpy := by
  intro a b c e L st σ L' st' k' σ' h
  unfold o_acpy at h
  repeat' split at h
  all_goals first | (cases h; done) | (cases h; rfl)
theorem f_gets : x_fx o_gets := by
  intro a b c e L st σ L' st' k' σ' h
  unfold o_gets at h
  repeat' split at h
  all_goals first | (cases h; done) | (cases h; rfl)
theorem f_lds : x_fx o_lds := by
  intro a b c e L st σ L' st' k' σ' h
  unfold o_lds at h
  repeat' split at h
  all_goals first | (cases h; done) | (cases h; rfl)
theorem f_sval : x_fx o_sval := by
  intro a b c e L st σ L' st' k' σ' h
  unfold o_sval at h
  repeat' split at h
  all_goals first | (cases h; done) | (cases h; rfl)
theorem f_scod : x_fx o_scod := by
  intro a b c e L st σ L' st' k' σ' h
  unfold o_scod at h
  repeat' split at h
  all_goals first | (cases h; done) | (cases h; rfl)
theorem x_fx_cons {f : x_F} {F : List x_F} (h : x_fx f) (ht : ∀ i, i < F.length → x_fx (F.getD i o_no)) : ∀ i, i < (f :: F).length → x_fx ((f :: F).getD i o_no) := by
  intro i hi
  cases i with
  | zero => exact h
  | succ i => exact ht i (by simpa using hi)
theorem x_fx_nil : ∀ i, i < ([] : List x_F).length → x_fx (([] : List x_F).getD i o_no) := fun i hi => absurd hi (Nat.not_lt_zero i)
theorem x_fx_all : ∀ i, i < 64 → x_fx (x_sx i) := x_fx_cons f_ic (x_fx_cons f_lc (x_fx_cons f_ild (x_fx_cons f_lld (x_fx_cons f_ald (x_fx_cons f_ist (x_fx_cons f_lst (x_fx_cons f_ast (x_fx_cons f_inc (x_fx_cons f_iadd (x_fx_cons f_isub (x_fx_cons f_imul (x_fx_cons f_idiv (x_fx_cons f_irem (x_fx_cons f_ineg (x_fx_cons f_iand (x_fx_cons f_ior (x_fx_cons f_ishl (x_fx_cons f_ishr (x_fx_cons f_iushr (x_fx_cons f_ladd (x_fx_cons f_lsub (x_fx_cons f_lmul (x_fx_cons f_ldiv (x_fx_cons f_lneg (x_fx_cons f_land (x_fx_cons f_lor (x_fx_cons f_lshl (x_fx_cons f_lshr (x_fx_cons f_i2l (x_fx_cons f_l2i (x_fx_cons f_i2b (x_fx_cons f_i2s (x_fx_cons f_i2c (x_fx_cons f_lcmp (x_fx_cons f_dup (x_fx_cons f_dup2 (x_fx_cons f_pop (x_fx_cons f_pop2 (x_fx_cons f_geti (x_fx_cons f_getj (x_fx_cons f_getr (x_fx_cons f_puti (x_fx_cons f_putj (x_fx_cons f_putr (x_fx_cons f_putz (x_fx_cons f_iald (x_fx_cons f_lald (x_fx_cons f_bald (x_fx_cons f_aald (x_fx_cons f_iast (x_fx_cons f_last (x_fx_cons f_bast (x_fx_cons f_aast (x_fx_cons f_alen (x_fx_cons f_newa (x_fx_cons f_anew (x_fx_cons f_new (x_fx_cons f_obji (x_fx_cons f_acpy (x_fx_cons f_gets (x_fx_cons f_lds (x_fx_cons f_sval (x_fx_cons f_scod x_fx_nil)))))))))))))))))))))))))))))))))))))))))))))))))))))))))))))))
theorem x_run_kF : ∀ (n d m : Nat) (K : List x_I) (L st : List x_V) (σ : x_S) (r : Option x_V) (kE : x_K) (σE : x_S), x_run n d m K L st x_kF σ = some (r, kE, σE) → kE = x_kF := by
  intro n
  induction n with
  | zero => intro d m K L st σ r kE σE h; simp [x_run] at h
  | succ n ih =>
    intro d m K L st σ r kE σE h
    match K with
    | [] => simp [x_run] at h
    | (op, a, b, c, e, p) :: K =>
      rw [x_run] at h
      split at h
      · rename_i hop
        split at h
        · rename_i L' st' k' σ' hs
          have hk := x_fx_all op hop _ _ _ _ _ _ _ _ _ _ _ hs
          subst hk
          exact ih _ _ _ _ _ _ _ _ _ h
        · cases h
      · split at h
        · split at h
          · exact ih _ _ _ _ _ _ _ _ _ h
          · exact ih _ _ _ _ _ _ _ _ _ h
          · cases h
        · split at h
          · split at h
            · cases h; rfl
            · cases h
          · split at h
            · split at h
              · split at h
                · rename_i h1
                  have hk := ih _ _ _ _ _ _ _ _ _ h1
                  subst hk
                  exact ih _ _ _ _ _ _ _ _ _ h
                · cases h
              · cases h
            · cases h
section XCL
variable {d m : Nat} {K : List x_I} {L st : List x_V} {σ : x_S} {Q : Option x_V → x_S → Prop} {a : Int} {b c e p : Nat}
theorem x_wp_call {op : Nat} {as st' : List x_V} (h1 : ¬ op < 64) (h2 : ¬ op < 80) (h3 : ¬ op < 84) (hp : x_pop c st [] = some (as, st')) (hc : x_cok op b as st' = true) : x_Wp (d + 1) m ((op, a, b, c, e, p) :: K) L st σ Q ↔ x_Sp d b as σ (x_ct (d + 1) m K L st' Q) := by
  constructor
  · rintro ⟨n, r, σ2, hr, hq⟩
    cases n with
    | zero => simp [x_run] at hr
    | succ n =>
      rw [x_run, if_neg h1, if_neg h2, if_neg h3, hp] at hr
      simp only at hr
      rw [if_pos ⟨Nat.succ_pos d, hc⟩] at hr
      split at hr
      · rename_i r1 k1 σ1 h1
        have hk := x_run_kF _ _ _ _ _ _ _ _ _ _ h1
        subst hk
        exact ⟨n, r1, σ1, h1, n, r, σ2, hr, hq⟩
      · cases hr
  · intro h
    refine x_wp_c h1 h2 h3 ?_
    rw [hp]
    exact ⟨⟨Nat.succ_pos d, hc⟩, h⟩
theorem x_sp_of {as : List x_V} {r : Option x_V} {σ' : x_S} (h : x_Sp d m as σ (fun r2 σ2 => r2 = r ∧ σ2 = σ')) : x_Sp d m as σ Q ↔ Q r σ' := by
  obtain ⟨n, r1, σ1, h1, rfl, rfl⟩ := h
  constructor
  · rintro ⟨n2, r2, σ2, h2, hq⟩
    have e1 := x_run_up h1 (Nat.le_max_left n n2)
    have e2 := x_run_up h2 (Nat.le_max_right n n2)
    rw [e1] at e2
    cases e2
    exact hq
  · intro hq
    exact ⟨n, _, _, h1, hq⟩
theorem ct_some {v : x_V} : x_ct d m K L st Q (some v) σ ↔ x_Wp d m K L (v :: st) σ Q := Iff.rfl
theorem ct_none : x_ct d m K L st Q none σ ↔ x_Wp d m K L st σ Q := Iff.rfl
theorem lc_lt {x y : Int} : x_lcmp x y < 0 ↔ x < y := by simp only [x_lcmp]; (repeat' split) <;> omega
theorem lc_ge {x y : Int} : 0 ≤ x_lcmp x y ↔ y ≤ x := by simp only [x_lcmp]; (repeat' split) <;> omega
theorem lc_gt {x y : Int} : 0 < x_lcmp x y ↔ y < x := by simp only [x_lcmp]; (repeat' split) <;> omega
theorem lc_le {x y : Int} : x_lcmp x y ≤ 0 ↔ x ≤ y := by simp only [x_lcmp]; (repeat' split) <;> omega
theorem lc_eq {x y : Int} : x_lcmp x y = 0 ↔ x = y := by simp only [x_lcmp]; (repeat' split) <;> omega
theorem lc_r {x y : Int} : (-2147483648 ≤ x_lcmp x y ∧ x_lcmp x y ≤ 2147483647) ↔ True := by
  refine iff_true_intro ?_
  simp only [x_lcmp]
  (repeat' split) <;> omega
def x_bi (q : Prop) [Decidable q] : Int := if q then 1 else 0
theorem bi_r {q : Prop} [Decidable q] : (-2147483648 ≤ x_bi q ∧ x_bi q ≤ 2147483647) ↔ True := by
  refine iff_true_intro ?_
  unfold x_bi
  split <;> omega
theorem bi_0 {q : Prop} [Decidable q] : x_bi q = 0 ↔ ¬ q := by unfold x_bi; split <;> simp [*]
theorem bi_n {q : Prop} [Decidable q] : ¬ x_bi q = 0 ↔ q := by unfold x_bi; split <;> simp [*]
theorem bi_1 {q : Prop} [Decidable q] : x_bi q = 1 ↔ q := by unfold x_bi; split <;> simp [*]
theorem bi_01 {q : Prop} [Decidable q] : x_bi q = 0 ∨ x_bi q = 1 := by unfold x_bi; split <;> simp
theorem bi_b {q : Prop} [Decidable q] : 0 ≤ x_bi q ∧ x_bi q ≤ 1 := by unfold x_bi; split <;> omega
theorem xI_inj {x y : Int} : (xI x = xI y) ↔ x = y := ⟨fun h => by cases h; rfl, fun h => by rw [h]⟩
theorem xJ_inj {x y : Int} : (xJ x = xJ y) ↔ x = y := ⟨fun h => by cases h; rfl, fun h => by rw [h]⟩
theorem wp_zret0 (h : x_mZ m = 1) : x_Wp d m ((80, a, b, c, e, p) :: K) L [xI 0] σ Q ↔ Q (some (xI 0)) σ := wp_zret h (Or.inl rfl)
theorem wp_zret1 (h : x_mZ m = 1) : x_Wp d m ((80, a, b, c, e, p) :: K) L [xI 1] σ Q ↔ Q (some (xI 1)) σ := wp_zret h (Or.inr rfl)
theorem wc_84_0 (hc : x_cok 84 b [] st = true) : x_Wp (d + 1) m ((84, a, b, 0, e, p) :: K) L (st) σ Q ↔ x_Sp d b [] σ (x_ct (d + 1) m K L st Q) := x_wp_call (by decide) (by decide) (by decide) rfl hc
theorem wc_84_1 {v0 : x_V} (hc : x_cok 84 b [v0] st = true) : x_Wp (d + 1) m ((84, a, b, 1, e, p) :: K) L (v0 :: st) σ Q ↔ x_Sp d b [v0] σ (x_ct (d + 1) m K L st Q) := x_wp_call (by decide) (by decide) (by decide) rfl hc
theorem wc_84_2 {v0 v1 : x_V} (hc : x_cok 84 b [v0, v1] st = true) : x_Wp (d + 1) m ((84, a, b, 2, e, p) :: K) L (v1 :: v0 :: st) σ Q ↔ x_Sp d b [v0, v1] σ (x_ct (d + 1) m K L st Q) := x_wp_call (by decide) (by decide) (by decide) rfl hc
theorem wc_84_3 {v0 v1 v2 : x_V} (hc : x_cok 84 b [v0, v1, v2] st = true) : x_Wp (d + 1) m ((84, a, b, 3, e, p) :: K) L (v2 :: v1 :: v0 :: st) σ Q ↔ x_Sp d b [v0, v1, v2] σ (x_ct (d + 1) m K L st Q) := x_wp_call (by decide) (by decide) (by decide) rfl hc
theorem wc_84_4 {v0 v1 v2 v3 : x_V} (hc : x_cok 84 b [v0, v1, v2, v3] st = true) : x_Wp (d + 1) m ((84, a, b, 4, e, p) :: K) L (v3 :: v2 :: v1 :: v0 :: st) σ Q ↔ x_Sp d b [v0, v1, v2, v3] σ (x_ct (d + 1) m K L st Q) := x_wp_call (by decide) (by decide) (by decide) rfl hc
theorem wc_84_5 {v0 v1 v2 v3 v4 : x_V} (hc : x_cok 84 b [v0, v1, v2, v3, v4] st = true) : x_Wp (d + 1) m ((84, a, b, 5, e, p) :: K) L (v4 :: v3 :: v2 :: v1 :: v0 :: st) σ Q ↔ x_Sp d b [v0, v1, v2, v3, v4] σ (x_ct (d + 1) m K L st Q) := x_wp_call (by decide) (by decide) (by decide) rfl hc
theorem wc_84_6 {v0 v1 v2 v3 v4 v5 : x_V} (hc : x_cok 84 b [v0, v1, v2, v3, v4, v5] st = true) : x_Wp (d + 1) m ((84, a, b, 6, e, p) :: K) L (v5 :: v4 :: v3 :: v2 :: v1 :: v0 :: st) σ Q ↔ x_Sp d b [v0, v1, v2, v3, v4, v5] σ (x_ct (d + 1) m K L st Q) := x_wp_call (by decide) (by decide) (by decide) rfl hc
theorem wc_85_0 (hc : x_cok 85 b [] st = true) : x_Wp (d + 1) m ((85, a, b, 0, e, p) :: K) L (st) σ Q ↔ x_Sp d b [] σ (x_ct (d + 1) m K L st Q) := x_wp_call (by decide) (by decide) (by decide) rfl hc
theorem wc_85_1 {v0 : x_V} (hc : x_cok 85 b [v0] st = true) : x_Wp (d + 1) m ((85, a, b, 1, e, p) :: K) L (v0 :: st) σ Q ↔ x_Sp d b [v0] σ (x_ct (d + 1) m K L st Q) := x_wp_call (by decide) (by decide) (by decide) rfl hc
theorem wc_85_2 {v0 v1 : x_V} (hc : x_cok 85 b [v0, v1] st = true) : x_Wp (d + 1) m ((85, a, b, 2, e, p) :: K) L (v1 :: v0 :: st) σ Q ↔ x_Sp d b [v0, v1] σ (x_ct (d + 1) m K L st Q) := x_wp_call (by decide) (by decide) (by decide) rfl hc
theorem wc_85_3 {v0 v1 v2 : x_V} (hc : x_cok 85 b [v0, v1, v2] st = true) : x_Wp (d + 1) m ((85, a, b, 3, e, p) :: K) L (v2 :: v1 :: v0 :: st) σ Q ↔ x_Sp d b [v0, v1, v2] σ (x_ct (d + 1) m K L st Q) := x_wp_call (by decide) (by decide) (by decide) rfl hc
theorem wc_85_4 {v0 v1 v2 v3 : x_V} (hc : x_cok 85 b [v0, v1, v2, v3] st = true) : x_Wp (d + 1) m ((85, a, b, 4, e, p) :: K) L (v3 :: v2 :: v1 :: v0 :: st) σ Q ↔ x_Sp d b [v0, v1, v2, v3] σ (x_ct (d + 1) m K L st Q) := x_wp_call (by decide) (by decide) (by decide) rfl hc
theorem wc_85_5 {v0 v1 v2 v3 v4 : x_V} (hc : x_cok 85 b [v0, v1, v2, v3, v4] st = true) : x_Wp (d + 1) m ((85, a, b, 5, e, p) :: K) L (v4 :: v3 :: v2 :: v1 :: v0 :: st) σ Q ↔ x_Sp d b [v0, v1, v2, v3, v4] σ (x_ct (d + 1) m K L st Q) := x_wp_call (by decide) (by decide) (by decide) rfl hc
theorem wc_85_6 {v0 v1 v2 v3 v4 v5 : x_V} (hc : x_cok 85 b [v0, v1, v2, v3, v4, v5] st = true) : x_Wp (d + 1) m ((85, a, b, 6, e, p) :: K) L (v5 :: v4 :: v3 :: v2 :: v1 :: v0 :: st) σ Q ↔ x_Sp d b [v0, v1, v2, v3, v4, v5] σ (x_ct (d + 1) m K L st Q) := x_wp_call (by decide) (by decide) (by decide) rfl hc
end XCL

def x_mn (f : x_F) : Prop := ∀ (a : Int) (b c e : Nat) (L st : List x_V) (k : x_K) (σ : x_S) (L' st' : List x_V) (k' : x_K) (σ' : x_S), f a b c e L st k σ = some (L', st', k', σ') → k.1 ≤ k'.1
theorem n_ic : x_mn o_ic := by
  intro a b c e L st k σ L' st' k' σ' h
  unfold o_ic at h
  repeat' split at h
  all_goals first | (cases h; done) | (cases h; exact Nat.le_refl _) | (cases h; exact Nat.le_succ _)
theorem n_lc : x_mn o_lc := by
  intro a b c e L st k σ L' st' k' σ' h
  unfold o_lc at h
  repeat' split at h
  all_goals first | (cases h; done) | (cases h; exact Nat.le_refl _) | (cases h; exact Nat.le_succ _)
theorem n_ild : x_mn o_ild := by
  intro a b c e L st k σ L' st' k' σ' h
  unfold o_ild at h
  repeat' split at h
  all_goals first | (cases h; done) | (cases h; exact Nat.le_refl _) | (cases h; exact Nat.le_succ _)
theorem n_lld : x_mn o_lld := by
  intro a b c e L st k σ L' st' k' σ' h
  unfold o_lld at h
  repeat' split at h
  all_goals first | (cases h; done) | (cases h; exact Nat.le_refl _) | (cases h; exact Nat.le_succ _)
theorem n_ald : x_mn o_ald := by
  intro a b c e L st k σ L' st' k' σ' h
  unfold o_ald at h
  repeat' split at h
  all_goals first | (cases h; done) | (cases h; exact Nat.le_refl _) | (cases h; exact Nat.le_succ _)
theorem n_ist : x_mn o_ist := by
  intro a b c e L st k σ L' st' k' σ' h
  unfold o_ist at h
  repeat' split at h
  all_goals first | (cases h; done) | (cases h; exact Nat.le_refl _) | (cases h; exact Nat.le_succ _)
theorem n_lst : x_mn o_lst := by
  intro a b c e L st k σ L' st' k' σ' h
  unfold o_lst at h
  repeat' split at h
  all_goals first | (cases h; done) | (cases h; exact Nat.le_refl _) | (cases h; exact Nat.le_succ _)
theorem n_ast : x_mn o_ast := by
  intro a b c e L st k σ L' st' k' σ' h
  unfold o_ast at h
  repeat' split at h
  all_goals first | (cases h; done) | (cases h; exact Nat.le_refl _) | (cases h; exact Nat.le_succ _)
theorem n_inc : x_mn o_inc := by
  intro a b c e L st k σ L' st' k' σ' h
  unfold o_inc at h
  repeat' split at h
  all_goals first | (cases h; done) | (cases h; exact Nat.le_refl _) | (cases h; exact Nat.le_succ _)
theorem n_iadd : x_mn o_iadd := by
  intro a b c e L st k σ L' st' k' σ' h
  unfold o_iadd o_i2 at h
  repeat' split at h
  all_goals first | (cases h; done) | (cases h; exact Nat.le_refl _) | (cases h; exact Nat.le_succ _)
theorem n_isub : x_mn o_isub := by
  intro a b c e L st k σ L' st' k' σ' h
  unfold o_isub o_i2 at h
  repeat' split at h
  all_goals first | (cases h; done) | (cases h; exact Nat.le_refl _) | (cases h; exact Nat.le_succ _)
theorem n_imul : x_mn o_imul := by
  intro a b c e L st k σ L' st' k' σ' h
  unfold o_imul o_i2 at h
  repeat' split at h
  all_goals first | (cases h; done) | (cases h; exact Nat.le_refl _) | (cases h; exact Nat.le_succ _)
theorem n_idiv : x_mn o_idiv := by
  intro a b c e L st k σ L' st' k' σ' h
  unfold o_idiv at h
  repeat' split at h
  all_goals first | (cases h; done) | (cases h; exact Nat.le_refl _) | (cases h; exact Nat.le_succ _)
theorem n_irem : x_mn o_irem := by
  intro a b c e L st k σ L' st' k' σ' h
  unfold o_irem at h
  repeat' split at h
  all_goals first | (cases h; done) | (cases h; exact Nat.le_refl _) | (cases h; exact Nat.le_succ _)
theorem n_ineg : x_mn o_ineg := by
  intro a b c e L st k σ L' st' k' σ' h
  unfold o_ineg at h
  repeat' split at h
  all_goals first | (cases h; done) | (cases h; exact Nat.le_refl _) | (cases h; exact Nat.le_succ _)
theorem n_iand : x_mn o_iand := by
  intro a b c e L st k σ L' st' k' σ' h
  unfold o_iand o_i2 at h
  repeat' split at h
  all_goals first | (cases h; done) | (cases h; exact Nat.le_refl _) | (cases h; exact Nat.le_succ _)
theorem n_ior : x_mn o_ior := by
  intro a b c e L st k σ L' st' k' σ' h
  unfold o_ior o_i2 at h
  repeat' split at h
  all_goals first | (cases h; done) | (cases h; exact Nat.le_refl _) | (cases h; exact Nat.le_succ _)
theorem n_ishl : x_mn o_ishl := by
  intro a b c e L st k σ L' st' k' σ' h
  unfold o_ishl o_i2 at h
  repeat' split at h
  all_goals first | (cases h; done) | (cases h; exact Nat.le_refl _) | (cases h; exact Nat.le_succ _)
theorem n_ishr : x_mn o_ishr := by
  intro a b c e L st k σ L' st' k' σ' h
  unfold o_ishr o_i2 at h
  repeat' split at h
  all_goals first | (cases h; done) | (cases h; exact Nat.le_refl _) | (cases h; exact Nat.le_succ _)
theorem n_iushr : x_mn o_iushr := by
  intro a b c e L st k σ L' st' k' σ' h
  unfold o_iushr o_i2 at h
  repeat' split at h
  all_goals first | (cases h; done) | (cases h; exact Nat.le_refl _) | (cases h; exact Nat.le_succ _)
theorem n_ladd : x_mn o_ladd := by
  intro a b c e L st k σ L' st' k' σ' h
  unfold o_ladd o_l2 at h
  repeat' split at h
  all_goals first | (cases h; done) | (cases h; exact Nat.le_refl _) | (cases h; exact Nat.le_succ _)
theorem n_lsub : x_mn o_lsub := by
  intro a b c e L st k σ L' st' k' σ' h
  unfold o_lsub o_l2 at h
  repeat' split at h
  all_goals first | (cases h; done) | (cases h; exact Nat.le_refl _) | (cases h; exact Nat.le_succ _)
theorem n_lmul : x_mn o_lmul := by
  intro a b c e L st k σ L' st' k' σ' h
  unfold o_lmul o_l2 at h
  repeat' split at h
  all_goals first | (cases h; done) | (cases h; exact Nat.le_refl _) | (cases h; exact Nat.le_succ _)
theorem n_ldiv : x_mn o_ldiv := by
  intro a b c e L st k σ L' st' k' σ' h
  unfold o_ldiv at h
  repeat' split at h
  all_goals first | (cases h; done) | (cases h; exact Nat.le_refl _) | (cases h; exact Nat.le_succ _)
theorem n_lneg : x_mn o_lneg := by
  intro a b c e L st k σ L' st' k' σ' h
  unfold o_lneg at h
  repeat' split at h
  all_goals first | (cases h; done) | (cases h; exact Nat.le_refl _) | (cases h; exact Nat.le_succ _)
theorem n_land : x_mn o_land := by
  intro a b c e L st k σ L' st' k' σ' h
  unfold o_land o_l2 at h
  repeat' split at h
  all_goals first | (cases h; done) | (cases h; exact Nat.le_refl _) | (cases h; exact Nat.le_succ _)
theorem n_lor : x_mn o_lor := by
  intro a b c e L st k σ L' st' k' σ' h
  unfold o_lor o_l2 at h
  repeat' split at h
  all_goals first | (cases h; done) | (cases h; exact Nat.le_refl _) | (cases h; exact Nat.le_succ _)
theorem n_lshl : x_mn o_lshl := by
  intro a b c e L st k σ L' st' k' σ' h
  unfold o_lshl o_lsh at h
  repeat' split at h
  all_goals first | (cases h; done) | (cases h; exact Nat.le_refl _) | (cases h; exact Nat.le_succ _)
theorem n_lshr : x_mn o_lshr := by
  intro a b c e L st k σ L' st' k' σ' h
  unfold o_lshr o_lsh at h
  repeat' split at h
  all_goals first | (cases h; done) | (cases h; exact Nat.le_refl _) | (cases h; exact Nat.le_succ _)
theorem n_i2l : x_mn o_i2l := by
  intro a b c e L st k σ L' st' k' σ' h
  unfold o_i2l at h
  repeat' split at h
  all_goals first | (cases h; done) | (cases h; exact Nat.le_refl _) | (cases h; exact Nat.le_succ _)
theorem n_l2i : x_mn o_l2i := by
  intro a b c e L st k σ L' st' k' σ' h
  unfold o_l2i at h
  repeat' split at h
  all_goals first | (cases h; done) | (cases h; exact Nat.le_refl _) | (cases h; exact Nat.le_succ _)
theorem n_i2b : x_mn o_i2b := by
  intro a b c e L st k σ L' st' k' σ' h
  unfold o_i2b at h
  repeat' split at h
  all_goals first | (cases h; done) | (cases h; exact Nat.le_refl _) | (cases h; exact Nat.le_succ _)
theorem n_i2s : x_mn o_i2s := by
  intro a b c e L st k σ L' st' k' σ' h
  unfold o_i2s at h
  repeat' split at h
  all_goals first | (cases h; done) | (cases h; exact Nat.le_refl _) | (cases h; exact Nat.le_succ _)
theorem n_i2c : x_mn o_i2c := by
  intro a b c e L st k σ L' st' k' σ' h
  unfold o_i2c at h
  repeat' split at h
  all_goals first | (cases h; done) | (cases h; exact Nat.le_refl _) | (cases h; exact Nat.le_succ _)
theorem n_lcmp : x_mn o_lcmp := by
  intro a b c e L st k σ L' st' k' σ' h
  unfold o_lcmp at h
  repeat' split at h
  all_goals first | (cases h; done) | (cases h; exact Nat.le_refl _) | (cases h; exact Nat.le_succ _)
theorem n_dup : x_mn o_dup := by
  intro a b c e L st k σ L' st' k' σ' h
  unfold o_dup at h
  repeat' split at h
  all_goals first | (cases h; done) | (cases h; exact Nat.le_refl _) | (cases h; exact Nat.le_succ _)
theorem n_dup2 : x_mn o_dup2 := by
  intro a b c e L st k σ L' st' k' σ' h
  unfold o_dup2 at h
  repeat' split at h
  all_goals first | (cases h; done) | (cases h; exact Nat.le_refl _) | (cases h; exact Nat.le_succ _)
theorem n_pop : x_mn o_pop := by
  intro a b c e L st k σ L' st' k' σ' h
  unfold o_pop at h
  repeat' split at h
  all_goals first | (cases h; done) | (cases h; exact Nat.le_refl _) | (cases h; exact Nat.le_succ _)
theorem n_pop2 : x_mn o_pop2 := by
  intro a b c e L st k σ L' st' k' σ' h
  unfold o_pop2 at h
  repeat' split at h
  all_goals first | (cases h; done) | (cases h; exact Nat.le_refl _) | (cases h; exact Nat.le_succ _)
theorem n_geti : x_mn o_geti := by
  intro a b c e L st k σ L' st' k' σ' h
  unfold o_geti at h
  repeat' split at h
  all_goals first | (cases h; done) | (cases h; exact Nat.le_refl _) | (cases h; exact Nat.le_succ _)
theorem n_getj : x_mn o_getj := by
  intro a b c e L st k σ L' st' k' σ' h
  unfold o_getj at h
  repeat' split at h
  all_goals first | (cases h; done) | (cases h; exact Nat.le_refl _) | (cases h; exact Nat.le_succ _)
theorem n_getr : x_mn o_getr := by
  intro a b c e L st k σ L' st' k' σ' h
  unfold o_getr at h
  repeat' split at h
  all_goals first | (cases h; done) | (cases h; exact Nat.le_refl _) | (cases h; exact Nat.le_succ _)
theorem n_puti : x_mn o_puti := by
  intro a b c e L st k σ L' st' k' σ' h
  unfold o_puti at h
  repeat' split at h
  all_goals first | (cases h; done) | (cases h; exact Nat.le_refl _) | (cases h; exact Nat.le_succ _)
theorem n_putj : x_mn o_putj := by
  intro a b c e L st k σ L' st' k' σ' h
  unfold o_putj at h
  repeat' split at h
  all_goals first | (cases h; done) | (cases h; exact Nat.le_refl _) | (cases h; exact Nat.le_succ _)
theorem n_putr : x_mn o_putr := by
  intro a b c e L st k σ L' st' k' σ' h
  unfold o_putr at h
  repeat' split at h
  all_goals first | (cases h; done) | (cases h; exact Nat.le_refl _) | (cases h; exact Nat.le_succ _)
theorem n_putz : x_mn o_putz := by
  intro a b c e L st k σ L' st' k' σ' h
  unfold o_putz at h
  repeat' split at h
  all_goals first | (cases h; done) | (cases h; exact Nat.le_refl _) | (cases h; exact Nat.le_succ _)
theorem n_iald : x_mn o_iald := by
  intro a b c e L st k σ L' st' k' σ' h
  unfold o_iald at h
  repeat' split at h
  all_goals first | (cases h; done) | (cases h; exact Nat.le_refl _) | (cases h; exact Nat.le_succ _)
theorem n_lald : x_mn o_lald := by
  intro a b c e L st k σ L' st' k' σ' h
  unfold o_lald at h
  repeat' split at h
  all_goals first | (cases h; done) | (cases h; exact Nat.le_refl _) | (cases h; exact Nat.le_succ _)
theorem n_bald : x_mn o_bald := by
  intro a b c e L st k σ L' st' k' σ' h
  unfold o_bald at h
  repeat' split at h
  all_goals first | (cases h; done) | (cases h; exact Nat.le_refl _) | (cases h; exact Nat.le_succ _)
theorem n_aald : x_mn o_aald := by
  intro a b c e L st k σ L' st' k' σ' h
  unfold o_aald at h
  repeat' split at h
  all_goals first | (cases h; done) | (cases h; exact Nat.le_refl _) | (cases h; exact Nat.le_succ _)
theorem n_iast : x_mn o_iast := by
  intro a b c e L st k σ L' st' k' σ' h
  unfold o_iast at h
  repeat' split at h
  all_goals first | (cases h; done) | (cases h; exact Nat.le_refl _) | (cases h; exact Nat.le_succ _)
theorem n_last : x_mn o_last := by
  intro a b c e L st k σ L' st' k' σ' h
  unfold o_last at h
  repeat' split at h
  all_goals first | (cases h; done) | (cases h; exact Nat.le_refl _) | (cases h; exact Nat.le_succ _)
theorem n_bast : x_mn o_bast := by
  intro a b c e L st k σ L' st' k' σ' h
  unfold o_bast at h
  repeat' split at h
  all_goals first | (cases h; done) | (cases h; exact Nat.le_refl _) | (cases h; exact Nat.le_succ _)
theorem n_aast : x_mn o_aast := by
  intro a b c e L st k σ L' st' k' σ' h
  unfold o_aast at h
  repeat' split at h
  all_goals first | (cases h; done) | (cases h; exact Nat.le_refl _) | (cases h; exact Nat.le_succ _)
theorem n_alen : x_mn o_alen := by
  intro a b c e L st k σ L' st' k' σ' h
  unfold o_alen at h
  repeat' split at h
  all_goals first | (cases h; done) | (cases h; exact Nat.le_refl _) | (cases h; exact Nat.le_succ _)
theorem n_newa : x_mn o_newa := by
  intro a b c e L st k σ L' st' k' σ' h
  unfold o_newa at h
  repeat' split at h
  all_goals first | (cases h; done) | (cases h; exact Nat.le_refl _) | (cases h; exact Nat.le_succ _)
theorem n_anew : x_mn o_anew := by
  intro a b c e L st k σ L' st' k' σ' h
  unfold o_anew at h
  repeat' split at h
  all_goals first | (cases h; done) | (cases h; exact Nat.le_refl _) | (cases h; exact Nat.le_succ _)
theorem n_new : x_mn o_new := by
  intro a b c e L st k σ L' st' k' σ' h
  unfold o_new at h
  repeat' split at h
  all_goals first | (cases h; done) | (cases h; exact Nat.le_refl _) | (cases h; exact Nat.le_succ _)
theorem n_obji : x_mn o_obji := by
  intro a b c e L st k σ L' st' k' σ' h
  unfold o_obji at h
  repeat' split at h
  all_goals first | (cases h; done) | (cases h; exact Nat.le_refl _) | (cases h; exact Nat.le_succ _)
theorem n_acpy : x_mn o_acpy := by
  intro a b c e L st k σ L' st' k' σ' h
  unfold o_acpy at h
  repeat' split at h
  all_goals first | (cases h; done) | (cases h; exact Nat.le_refl _) | (cases h; exact Nat.le_succ _)
theorem n_gets : x_mn o_gets := by
  intro a b c e L st k σ L' st' k' σ' h
  unfold o_gets at h
  repeat' split at h
  all_goals first | (cases h; done) | (cases h; exact Nat.le_refl _) | (cases h; exact Nat.le_succ _)
theorem n_lds : x_mn o_lds := by
  intro a b c e L st k σ L' st' k' σ' h
  unfold o_lds at h
  repeat' split at h
  all_goals first | (cases h; done) | (cases h; exact Nat.le_refl _) | (cases h; exact Nat.le_succ _)
theorem n_sval : x_mn o_sval := by
  intro a b c e L st k σ L' st' k' σ' h
  unfold o_sval at h
  repeat' split at h
  all_goals first | (cases h; done) | (cases h; exact Nat.le_refl _) | (cases h; exact Nat.le_succ _)
theorem n_scod : x_mn o_scod := by
  intro a b c e L st k σ L' st' k' σ' h
  unfold o_scod at h
  repeat' split at h
  all_goals first | (cases h; done) | (cases h; exact Nat.le_refl _) | (cases h; exact Nat.le_succ _)
theorem x_mn_cons {f : x_F} {F : List x_F} (h : x_mn f) (ht : ∀ i, i < F.length → x_mn (F.getD i o_no)) : ∀ i, i < (f :: F).length → x_mn ((f :: F).getD i o_no) := by
  intro i hi
  cases i with
  | zero => exact h
  | succ i => exact ht i (by simpa using hi)
theorem x_mn_nil : ∀ i, i < ([] : List x_F).length → x_mn (([] : List x_F).getD i o_no) := fun i hi => absurd hi (Nat.not_lt_zero i)
theorem x_mn_all : ∀ i, i < 64 → x_mn (x_sx i) := x_mn_cons n_ic (x_mn_cons n_lc (x_mn_cons n_ild (x_mn_cons n_lld (x_mn_cons n_ald (x_mn_cons n_ist (x_mn_cons n_lst (x_mn_cons n_ast (x_mn_cons n_inc (x_mn_cons n_iadd (x_mn_cons n_isub (x_mn_cons n_imul (x_mn_cons n_idiv (x_mn_cons n_irem (x_mn_cons n_ineg (x_mn_cons n_iand (x_mn_cons n_ior (x_mn_cons n_ishl (x_mn_cons n_ishr (x_mn_cons n_iushr (x_mn_cons n_ladd (x_mn_cons n_lsub (x_mn_cons n_lmul (x_mn_cons n_ldiv (x_mn_cons n_lneg (x_mn_cons n_land (x_mn_cons n_lor (x_mn_cons n_lshl (x_mn_cons n_lshr (x_mn_cons n_i2l (x_mn_cons n_l2i (x_mn_cons n_i2b (x_mn_cons n_i2s (x_mn_cons n_i2c (x_mn_cons n_lcmp (x_mn_cons n_dup (x_mn_cons n_dup2 (x_mn_cons n_pop (x_mn_cons n_pop2 (x_mn_cons n_geti (x_mn_cons n_getj (x_mn_cons n_getr (x_mn_cons n_puti (x_mn_cons n_putj (x_mn_cons n_putr (x_mn_cons n_putz (x_mn_cons n_iald (x_mn_cons n_lald (x_mn_cons n_bald (x_mn_cons n_aald (x_mn_cons n_iast (x_mn_cons n_last (x_mn_cons n_bast (x_mn_cons n_aast (x_mn_cons n_alen (x_mn_cons n_newa (x_mn_cons n_anew (x_mn_cons n_new (x_mn_cons n_obji (x_mn_cons n_acpy (x_mn_cons n_gets (x_mn_cons n_lds (x_mn_cons n_sval (x_mn_cons n_scod x_mn_nil)))))))))))))))))))))))))))))))))))))))))))))))))))))))))))))))
theorem x_run_mono : ∀ (n d m : Nat) (K : List x_I) (L st : List x_V) (k : x_K) (σ : x_S) (r : Option x_V) (kE : x_K) (σE : x_S), x_run n d m K L st k σ = some (r, kE, σE) → k.1 ≤ kE.1 := by
  intro n
  induction n with
  | zero => intro d m K L st k σ r kE σE h; simp [x_run] at h
  | succ n ih =>
    intro d m K L st k σ r kE σE h
    match K with
    | [] => simp [x_run] at h
    | (op, a, b, c, e, p) :: K =>
      rw [x_run] at h
      split at h
      · rename_i hop
        split at h
        · rename_i L' st' k' σ' hs
          exact Nat.le_trans (x_mn_all op hop _ _ _ _ _ _ _ _ _ _ _ _ hs) (ih _ _ _ _ _ _ _ _ _ _ h)
        · cases h
      · split at h
        · split at h
          · exact ih _ _ _ _ _ _ _ _ _ _ h
          · exact ih _ _ _ _ _ _ _ _ _ _ h
          · cases h
        · split at h
          · split at h
            · cases h; exact Nat.le_refl _
            · cases h
          · split at h
            · split at h
              · split at h
                · rename_i h1
                  exact Nat.le_trans (ih _ _ _ _ _ _ _ _ _ _ h1) (ih _ _ _ _ _ _ _ _ _ _ h)
                · cases h
              · cases h
            · cases h
/-! branches -/
theorem x_tg_ok (m p b : Nat) : (p : Int) + x_tg m p b = (x_bpc m b : Int) := by unfold x_tg; omega
noncomputable def x_SB (op : Nat) : Prop :=
  ∀ (p : Program) (l : Launch) (e : Env) (R : Room) (s : State) (mi : MethodId) (args : Array Value) (below : List Frame) (meth : Method) (c : Code) (Q : State → Prop) (D : va_G) (dA : Nat → ClassId) (A : Nat → Prop) (X : x_X) (α0 : Nat → Nat → Nat) (k0 : x_K) (m d pc : Nat) (b cc : Nat) (L st : List x_V) (k : x_K) (σ : x_S) (t : Option Nat) (st' : List x_V),
    x_C p R s mi args meth c D dA A X m d → x_br op b st = some (t, st') → x_kb m op b cc pc = true →
    (∀ t', t = some t' → x_G p l e R s mi args below meth c Q D dA A X α0 k0 m (x_bpc m t') L st' k σ) → (t = none → x_G p l e R s mi args below meth c Q D dA A X α0 k0 m (pc + 3) L st' k σ) → x_G p l e R s mi args below meth c Q D dA A X α0 k0 m pc L st k σ
theorem b_64 : x_SB 64 := by
  intro p l e R s mi args below meth c Q D dA A X α0 k0 m d pc b cc L st k σ t st' C h hk hT hF H locs ls α hW hL hov hos hls
  obtain ⟨hx, hb, hml, hown, hts, hK, hE, hA, hin, hfr, hlo⟩ := C
  unfold x_br at h
  simp only at h
  split at h
  · rename_i x st0
    split at h
    · rename_i hc
      cases h
      have heq : Int32.ofInt x = 0 ↔ x = 0 := by rw [← x_n_0, x_n_eq hc x_b32_0]
      obtain ⟨-, hos1⟩ := x_ovs_cons.mp hos
      exact lv_if_eq hx hb (x_dec hk) (x_tg_ok m pc b) (fun z => hT b (if_pos (decide_eq_true (heq.mp z))) H locs ls α hW hL hov hos1 hls) (fun z => hF (if_neg (by simpa using fun w => z (heq.mpr w))) H locs ls α hW hL hov hos1 hls)
    · cases h
  · cases h
theorem b_65 : x_SB 65 := by
  intro p l e R s mi args below meth c Q D dA A X α0 k0 m d pc b cc L st k σ t st' C h hk hT hF H locs ls α hW hL hov hos hls
  obtain ⟨hx, hb, hml, hown, hts, hK, hE, hA, hin, hfr, hlo⟩ := C
  unfold x_br at h
  simp only at h
  split at h
  · rename_i x st0
    split at h
    · rename_i hc
      cases h
      have heq : Int32.ofInt x = 0 ↔ x = 0 := by rw [← x_n_0, x_n_eq hc x_b32_0]
      obtain ⟨-, hos1⟩ := x_ovs_cons.mp hos
      exact lv_if_ne hx hb (x_dec hk) (x_tg_ok m pc b) (fun z => hT b (if_pos (by simpa using fun w => z (heq.mpr w))) H locs ls α hW hL hov hos1 hls) (fun z => hF (if_neg (by simpa using heq.mp z)) H locs ls α hW hL hov hos1 hls)
    · cases h
  · cases h
theorem b_66 : x_SB 66 := by
  intro p l e R s mi args below meth c Q D dA A X α0 k0 m d pc b cc L st k σ t st' C h hk hT hF H locs ls α hW hL hov hos hls
  obtain ⟨hx, hb, hml, hown, hts, hK, hE, hA, hin, hfr, hlo⟩ := C
  unfold x_br at h
  simp only at h
  split at h
  · rename_i x st0
    split at h
    · rename_i hc
      cases h
      have heq : Int32.ofInt x < 0 ↔ x < 0 := by rw [← x_n_0, x_n_lt hc x_b32_0]
      obtain ⟨-, hos1⟩ := x_ovs_cons.mp hos
      exact lv_if_lt hx hb (x_dec hk) (x_tg_ok m pc b) (fun z => hT b (if_pos (decide_eq_true (heq.mp z))) H locs ls α hW hL hov hos1 hls) (fun z => hF (if_neg (by simpa using fun w => z (heq.mpr w))) H locs ls α hW hL hov hos1 hls)
    · cases h
  · cases h
theorem b_67 : x_SB 67 := by
  intro p l e R s mi args below meth c Q D dA A X α0 k0 m d pc b cc L st k σ t st' C h hk hT hF H locs ls α hW hL hov hos hls
  obtain ⟨hx, hb, hml, hown, hts, hK, hE, hA, hin, hfr, hlo⟩ := C
  unfold x_br at h
  simp only at h
  split at h
  · rename_i x st0
    split at h
    · rename_i hc
      cases h
      have heq : 0 ≤ Int32.ofInt x ↔ 0 ≤ x := by rw [← x_n_0, x_n_le x_b32_0 hc]
      obtain ⟨-, hos1⟩ := x_ovs_cons.mp hos
      exact lv_if_ge hx hb (x_dec hk) (x_tg_ok m pc b) (fun z => hT b (if_pos (decide_eq_true (heq.mp z))) H locs ls α hW hL hov hos1 hls) (fun z => hF (if_neg (by simpa using fun w => z (heq.mpr w))) H locs ls α hW hL hov hos1 hls)
    · cases h
  · cases h
theorem b_68 : x_SB 68 := by
  intro p l e R s mi args below meth c Q D dA A X α0 k0 m d pc b cc L st k σ t st' C h hk hT hF H locs ls α hW hL hov hos hls
  obtain ⟨hx, hb, hml, hown, hts, hK, hE, hA, hin, hfr, hlo⟩ := C
  unfold x_br at h
  simp only at h
  split at h
  · rename_i x st0
    split at h
    · rename_i hc
      cases h
      have heq : 0 < Int32.ofInt x ↔ 0 < x := by rw [← x_n_0, x_n_lt x_b32_0 hc]
      obtain ⟨-, hos1⟩ := x_ovs_cons.mp hos
      exact lv_if_gt hx hb (x_dec hk) (x_tg_ok m pc b) (fun z => hT b (if_pos (decide_eq_true (heq.mp z))) H locs ls α hW hL hov hos1 hls) (fun z => hF (if_neg (by simpa using fun w => z (heq.mpr w))) H locs ls α hW hL hov hos1 hls)
    · cases h
  · cases h
theorem b_69 : x_SB 69 := by
  intro p l e R s mi args below meth c Q D dA A X α0 k0 m d pc b cc L st k σ t st' C h hk hT hF H locs ls α hW hL hov hos hls
  obtain ⟨hx, hb, hml, hown, hts, hK, hE, hA, hin, hfr, hlo⟩ := C
  unfold x_br at h
  simp only at h
  split at h
  · rename_i x st0
    split at h
    · rename_i hc
      cases h
      have heq : Int32.ofInt x ≤ 0 ↔ x ≤ 0 := by rw [← x_n_0, x_n_le hc x_b32_0]
      obtain ⟨-, hos1⟩ := x_ovs_cons.mp hos
      exact lv_if_le hx hb (x_dec hk) (x_tg_ok m pc b) (fun z => hT b (if_pos (decide_eq_true (heq.mp z))) H locs ls α hW hL hov hos1 hls) (fun z => hF (if_neg (by simpa using fun w => z (heq.mpr w))) H locs ls α hW hL hov hos1 hls)
    · cases h
  · cases h
theorem b_72 : x_SB 72 := by
  intro p l e R s mi args below meth c Q D dA A X α0 k0 m d pc b cc L st k σ t st' C h hk hT hF H locs ls α hW hL hov hos hls
  obtain ⟨hx, hb, hml, hown, hts, hK, hE, hA, hin, hfr, hlo⟩ := C
  unfold x_br at h
  simp only at h
  split at h
  · rename_i y x st0
    split at h
    · rename_i hc
      rw [Bool.and_eq_true] at hc
      cases h
      have heq : Int32.ofInt x < Int32.ofInt y ↔ x < y := x_n_lt hc.1 hc.2
      obtain ⟨-, hos1⟩ := x_ovs_cons.mp hos
      obtain ⟨-, hos2⟩ := x_ovs_cons.mp hos1
      exact lv_icmp_lt hx hb (x_dec hk) (x_tg_ok m pc b) (fun z => hT b (if_pos (decide_eq_true (heq.mp z))) H locs ls α hW hL hov hos2 hls) (fun z => hF (if_neg (by simpa using fun w => z (heq.mpr w))) H locs ls α hW hL hov hos2 hls)
    · cases h
  · cases h
theorem b_73 : x_SB 73 := by
  intro p l e R s mi args below meth c Q D dA A X α0 k0 m d pc b cc L st k σ t st' C h hk hT hF H locs ls α hW hL hov hos hls
  obtain ⟨hx, hb, hml, hown, hts, hK, hE, hA, hin, hfr, hlo⟩ := C
  unfold x_br at h
  simp only at h
  split at h
  · rename_i y x st0
    split at h
    · rename_i hc
      rw [Bool.and_eq_true] at hc
      cases h
      have heq : Int32.ofInt y ≤ Int32.ofInt x ↔ y ≤ x := x_n_le hc.2 hc.1
      obtain ⟨-, hos1⟩ := x_ovs_cons.mp hos
      obtain ⟨-, hos2⟩ := x_ovs_cons.mp hos1
      exact lv_icmp_ge hx hb (x_dec hk) (x_tg_ok m pc b) (fun z => hT b (if_pos (decide_eq_true (heq.mp z))) H locs ls α hW hL hov hos2 hls) (fun z => hF (if_neg (by simpa using fun w => z (heq.mpr w))) H locs ls α hW hL hov hos2 hls)
    · cases h
  · cases h
theorem b_74 : x_SB 74 := by
  intro p l e R s mi args below meth c Q D dA A X α0 k0 m d pc b cc L st k σ t st' C h hk hT hF H locs ls α hW hL hov hos hls
  obtain ⟨hx, hb, hml, hown, hts, hK, hE, hA, hin, hfr, hlo⟩ := C
  unfold x_br at h
  simp only at h
  split at h
  · rename_i y x st0
    split at h
    · rename_i hc
      rw [Bool.and_eq_true] at hc
      cases h
      have heq : Int32.ofInt y < Int32.ofInt x ↔ y < x := x_n_lt hc.2 hc.1
      obtain ⟨-, hos1⟩ := x_ovs_cons.mp hos
      obtain ⟨-, hos2⟩ := x_ovs_cons.mp hos1
      exact lv_icmp_gt hx hb (x_dec hk) (x_tg_ok m pc b) (fun z => hT b (if_pos (decide_eq_true (heq.mp z))) H locs ls α hW hL hov hos2 hls) (fun z => hF (if_neg (by simpa using fun w => z (heq.mpr w))) H locs ls α hW hL hov hos2 hls)
    · cases h
  · cases h
theorem b_75 : x_SB 75 := by
  intro p l e R s mi args below meth c Q D dA A X α0 k0 m d pc b cc L st k σ t st' C h hk hT hF H locs ls α hW hL hov hos hls
  obtain ⟨hx, hb, hml, hown, hts, hK, hE, hA, hin, hfr, hlo⟩ := C
  unfold x_br at h
  simp only at h
  split at h
  · rename_i y x st0
    split at h
    · rename_i hc
      rw [Bool.and_eq_true] at hc
      cases h
      have heq : Int32.ofInt x ≤ Int32.ofInt y ↔ x ≤ y := x_n_le hc.1 hc.2
      obtain ⟨-, hos1⟩ := x_ovs_cons.mp hos
      obtain ⟨-, hos2⟩ := x_ovs_cons.mp hos1
      exact lv_icmp_le hx hb (x_dec hk) (x_tg_ok m pc b) (fun z => hT b (if_pos (decide_eq_true (heq.mp z))) H locs ls α hW hL hov hos2 hls) (fun z => hF (if_neg (by simpa using fun w => z (heq.mpr w))) H locs ls α hW hL hov hos2 hls)
    · cases h
  · cases h
theorem b_70 : x_SB 70 := by
  intro p l e R s mi args below meth c Q D dA A X α0 k0 m d pc b cc L st k σ t st' C h hk hT hF H locs ls α hW hL hov hos hls
  obtain ⟨hx, hb, hml, hown, hts, hK, hE, hA, hin, hfr, hlo⟩ := C
  unfold x_br at h
  simp only at h
  split at h
  · rename_i y x st0
    split at h
    · rename_i hc
      rw [Bool.or_eq_true, Bool.and_eq_true] at hc
      cases h
      have heq : Int32.ofInt x = Int32.ofInt y ↔ x = y := by
        rcases hc with hc | hc
        · have hc := of_decide_eq_true hc
          subst hc
          exact ⟨fun _ => rfl, fun _ => rfl⟩
        · exact x_n_eq hc.1 hc.2
      obtain ⟨-, hos1⟩ := x_ovs_cons.mp hos
      obtain ⟨-, hos2⟩ := x_ovs_cons.mp hos1
      exact lv_icmp_eq hx hb (x_dec hk) (x_tg_ok m pc b) (fun z => hT b (if_pos (decide_eq_true (heq.mp z))) H locs ls α hW hL hov hos2 hls) (fun z => hF (if_neg (by simpa using fun w => z (heq.mpr w))) H locs ls α hW hL hov hos2 hls)
    · cases h
  · cases h
theorem b_71 : x_SB 71 := by
  intro p l e R s mi args below meth c Q D dA A X α0 k0 m d pc b cc L st k σ t st' C h hk hT hF H locs ls α hW hL hov hos hls
  obtain ⟨hx, hb, hml, hown, hts, hK, hE, hA, hin, hfr, hlo⟩ := C
  unfold x_br at h
  simp only at h
  split at h
  · rename_i y x st0
    split at h
    · rename_i hc
      rw [Bool.or_eq_true, Bool.and_eq_true] at hc
      cases h
      have heq : Int32.ofInt x = Int32.ofInt y ↔ x = y := by
        rcases hc with hc | hc
        · have hc := of_decide_eq_true hc
          subst hc
          exact ⟨fun _ => rfl, fun _ => rfl⟩
        · exact x_n_eq hc.1 hc.2
      obtain ⟨-, hos1⟩ := x_ovs_cons.mp hos
      obtain ⟨-, hos2⟩ := x_ovs_cons.mp hos1
      exact lv_icmp_ne hx hb (x_dec hk) (x_tg_ok m pc b) (fun z => hT b (if_pos (by simpa using fun w => z (heq.mpr w))) H locs ls α hW hL hov hos2 hls) (fun z => hF (if_neg (by simpa using heq.mp z)) H locs ls α hW hL hov hos2 hls)
    · cases h
  · cases h
theorem b_76 : x_SB 76 := by
  intro p l e R s mi args below meth c Q D dA A X α0 k0 m d pc b cc L st k σ t st' C h hk hT hF H locs ls α hW hL hov hos hls
  obtain ⟨hx, hb, hml, hown, hts, hK, hE, hA, hin, hfr, hlo⟩ := C
  unfold x_br at h
  simp only at h
  cases h
  exact lv_goto hx hb (x_dec hk) (x_tg_ok m pc b) (hT b rfl H locs ls α hW hL hov hos hls)
theorem b_77 : x_SB 77 := by
  intro p l e R s mi args below meth c Q D dA A X α0 k0 m d pc b cc L st k σ t st' C h hk hT hF H locs ls α hW hL hov hos hls
  obtain ⟨hx, hb, hml, hown, hts, hK, hE, hA, hin, hfr, hlo⟩ := C
  unfold x_br at h
  simp only at h
  cases h
  have hk : x_bpc m b = pc := of_decide_eq_true hk
  have := hT b rfl H locs ls α hW hL hov hos hls
  rw [hk] at this
  exact this
theorem b_78 : x_SB 78 := by
  intro p l e R s mi args below meth c Q D dA A X α0 k0 m d pc b cc L st k σ t st' C h hk hT hF H locs ls α hW hL hov hos hls
  obtain ⟨hx, hb, hml, hown, hts, hK, hE, hA, hin, hfr, hlo⟩ := C
  unfold x_br at h
  simp only at h
  split at h
  · rename_i x st0
    split at h
    · rename_i hc
      cases h
      obtain ⟨-, hos1⟩ := x_ovs_cons.mp hos
      unfold x_kb at hk
      simp only at hk
      have hw := hT _ rfl H locs ls α hW hL hov hos1 hls
      generalize x_tsw.getD b (0, 0, []) = w at hk hw
      have ht : (Int32.ofInt x).toInt = x := x_toI hc
      by_cases hr : w.1 ≤ x ∧ x < w.1 + (w.2.2.length : Int)
      · rw [if_pos hr] at hw
        have hlt : (x - w.1).toNat < w.2.2.length := by omega
        refine lv_tableIn hx hb (x_dec hk) (by rw [ht]; omega) (by rw [ht]; omega) (off := x_tg m pc (w.2.2.getD (x - w.1).toNat 0)) ?_ (x_tg_ok m pc _) hw
        rw [ht]
        simp [hlt]
      · rw [if_neg hr] at hw
        exact lv_tableOut hx hb (x_dec hk) (by rw [ht]; omega) (x_tg_ok m pc _) hw
    · cases h
  · cases h
theorem x_lsw_off (g : Nat → Int) (d : Nat) (x : Int) (w : List (Int × Nat)) : Op.lookupswitch.offset (w.map (fun q => (q.1, g q.2))) (g d) x = g (((w.find? (fun q => decide (q.1 = x))).map (·.2)).getD d) := by
  induction w with
  | nil => rfl
  | cons q w ih =>
    rw [List.map_cons, Op.lookupswitch.offset, List.find?_cons]
    by_cases hq : q.1 = x
    · simp [hq]
    · have hq2 : ¬ x = q.1 := fun z => hq z.symm
      simp only [hq, decide_false]
      rw [← ih]
      simp [hq, hq2]
theorem b_79 : x_SB 79 := by
  intro p l e R s mi args below meth c Q D dA A X α0 k0 m d pc b cc L st k σ t st' C h hk hT hF H locs ls α hW hL hov hos hls
  obtain ⟨hx, hb, hml, hown, hts, hK, hE, hA, hin, hfr, hlo⟩ := C
  unfold x_br at h
  simp only at h
  split at h
  · rename_i x st0
    split at h
    · rename_i hc
      cases h
      obtain ⟨-, hos1⟩ := x_ovs_cons.mp hos
      unfold x_kb at hk
      simp only at hk
      have hw := hT _ rfl H locs ls α hW hL hov hos1 hls
      generalize x_lsw.getD b (0, []) = w at hk hw
      rw [Bool.and_eq_true] at hk
      have ht : (Int32.ofInt x).toInt = x := x_toI hc
      refine lv_lookup hx hb (x_dec hk.1) ?_ (off := x_tg m pc (((w.2.find? (fun q => decide (q.1 = x))).map (·.2)).getD w.1)) ?_ (x_tg_ok m pc _) hw
      · have h2 := hk.2
        simp only [List.all_eq_true] at h2 ⊢
        intro z hz
        simp only [← List.map_drop, List.zip_map, List.mem_map] at hz
        obtain ⟨y, hy, rfl⟩ := hz
        simpa using h2 y hy
      · rw [ht]
        exact x_lsw_off (x_tg m pc) w.1 x w.2
    · cases h
  · cases h
theorem x_sb_all : ∀ op, 64 ≤ op → op < 80 → x_SB op := by
  intro op h1 h2
  have : op = 64 ∨ op = 65 ∨ op = 66 ∨ op = 67 ∨ op = 68 ∨ op = 69 ∨ op = 70 ∨ op = 71 ∨ op = 72 ∨ op = 73 ∨ op = 74 ∨ op = 75 ∨ op = 76 ∨ op = 77 ∨ op = 78 ∨ op = 79 := by omega
  rcases this with rfl | rfl | rfl | rfl | rfl | rfl | rfl | rfl | rfl | rfl | rfl | rfl | rfl | rfl | rfl | rfl
  · exact b_64
  · exact b_65
  · exact b_66
  · exact b_67
  · exact b_68
  · exact b_69
  · exact b_70
  · exact b_71
  · exact b_72
  · exact b_73
  · exact b_74
  · exact b_75
  · exact b_76
  · exact b_77
  · exact b_78
  · exact b_79

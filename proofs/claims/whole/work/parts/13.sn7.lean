theorem s_obji : x_SND 58 o_obji k_obji := by
  intro p l e R s mi args below meth c Q D dA A X α0 k0 m d pc a b cc ee L st k σ L' st' k' σ' C h hk hR hG H locs ls α hW hL hov hos hls
  obtain ⟨hx, hb, hml, hown, hts, hK, hE, hA, hin, hfr, hlo⟩ := C
  unfold o_obji at h
  split at h
  · rename_i v w st0
    split at h
    · rename_i hc
      obtain ⟨hc, hwt⟩ := hc
      cases h
      unfold k_obji at hk
      rw [Bool.and_eq_true] at hk
      obtain ⟨h1, h2⟩ := hk
      obtain ⟨-, hos1⟩ := x_ovs_cons.mp hos
      have hcv : x_cv X α (Sum.inr (Sum.inr (Sum.inl (v, w)))) = .ref (α v w) := x_cv_r X α w hc
      rw [List.map_cons, hcv]
      have hrm := lv_room (m := mi) (pc := pc) (ls := ls) (rest := Value.ref (α v w) :: List.map (x_cv X α) st') (st := List.map (x_cv X α) st') (by rw [x_wt_eq]; exact hwt)
      exact W.objInit hx hb hown (hts _ (x_tb_TB h2 rfl)) (hts _ (x_tb_TB x_tb_119 rfl)) (hts _ (x_tb_TB x_tb_120 rfl)) rfl (by rw [hml]; exact hls.1) rfl (x_dec h1) (by omega) (by omega) (hG H locs ls α hW hL hov hos1 hls)
    · cases h
  · cases h
theorem x_cp_ne {σ : x_S} {c j c2 j2 c' j' : Nat} {i i2 n : Int} (h : (c', j') ≠ (c2, j2)) (i' : Int) : x_cp σ c j i c2 j2 i2 n c' j' i' = σ c' j' i' := by
  simp only [x_cp]
  rw [if_neg]
  rintro ⟨rfl, rfl, -⟩
  exact h rfl
theorem x_cp_fun {τ : Type} {g : Int → τ} {σ : x_S} {c j c2 j2 : Nat} {sp dp n : Int} (h1 : 0 ≤ sp) (h2 : 0 ≤ dp) (h3 : 0 ≤ n) :
    va_cpy (fun i : Nat => g (σ c j i)) (fun i : Nat => g (σ c2 j2 i)) sp.toNat dp.toNat n.toNat = fun i : Nat => g (x_cp σ c j sp c2 j2 dp n c2 j2 i) := by
  funext i
  simp only [va_cpy, x_cp, true_and]
  by_cases hc : dp.toNat ≤ i ∧ i < dp.toNat + n.toNat
  · have hc2 : dp ≤ (i : Int) ∧ (i : Int) < dp + n := by omega
    rw [if_pos hc, if_pos hc2]
    have : ((sp.toNat + (i - dp.toNat) : Nat) : Int) = sp + ((i : Int) - dp) := by omega
    rw [this]
  · have hc2 : ¬ (dp ≤ (i : Int) ∧ (i : Int) < dp + n) := by omega
    rw [if_neg hc, if_neg hc2]
theorem x_In_cp {X : x_X} {k : x_K} {σ : x_S} {c j c2 j2 : Nat} {i i2 n : Int} (h : c2 < 100) (hI : x_In X k σ) : x_In X k (x_cp σ c j i c2 j2 i2 n) := by
  have hz : ∀ j' i', x_cp σ c j i c2 j2 i2 n 100 j' i' = σ 100 j' i' := fun j' i' => x_cp_ne (fun z => by have := congrArg Prod.fst z; simp at this; omega) i'
  refine ⟨hI.1, hI.2.1, ?_, fun n hn => ?_⟩
  · rw [hz]; exact hI.2.2.1
  · rw [hz]; exact hI.2.2.2 n hn
theorem x_nfw : nativeFrameWords "java/lang/System" "arraycopy" 5 + 11 ≤ 40 := by decide +kernel
theorem x_n_nn {i : Int} (h0 : 0 ≤ i) (hn : i ≤ 2000) : ¬ Int32.ofInt i < 0 ∧ (Int32.ofInt i).toNatClampNeg = i.toNat := by
  have e : (Int32.ofInt i).toInt = i := x_toI (x_b32_iff.mpr ⟨by omega, by omega⟩)
  refine ⟨?_, ?_⟩
  · rw [Int32.lt_iff_toInt_lt, e]
    exact Int.not_lt.mpr h0
  · rw [Int32.toNatClampNeg, e]
theorem s_acpy : x_SND 59 o_acpy k_acpy := by
  intro p l e R s mi args below meth c Q D dA A X α0 k0 m d pc a b cc ee L st k σ L' st' k' σ' C h hk hR hG H locs ls α hW hL hov hos hls
  obtain ⟨hx, hb, hml, hown, hts, hK, hE, hA, hin, hfr, hlo⟩ := C
  unfold o_acpy at h
  split at h
  · rename_i n dp c2 j2 sp v w st0
    split at h
    · rename_i hc
      obtain ⟨hkd, hkd2, h3, h2, h1, h4, h5, hwt⟩ := hc
      cases h
      unfold k_acpy at hk
      rw [Bool.and_eq_true] at hk
      obtain ⟨hd, hl⟩ := hk
      obtain ⟨-, hos1⟩ := x_ovs_cons.mp hos
      obtain ⟨-, hos2⟩ := x_ovs_cons.mp hos1
      obtain ⟨hov2, hos3⟩ := x_ovs_cons.mp hos2
      obtain ⟨-, hos4⟩ := x_ovs_cons.mp hos3
      obtain ⟨hov1, hos5⟩ := x_ovs_cons.mp hos4
      obtain ⟨hm, hc⟩ := x_kd_a (by rcases hkd with h | h <;> rw [h] <;> decide) hov1
      obtain ⟨hm2, hc2⟩ := x_kd_a (by rw [hkd2]; rcases hkd with h | h <;> rw [h] <;> decide) hov2
      obtain ⟨q0, hq0, he⟩ := x_w_at (dA := dA) (α := α) (σ := σ) hm
      obtain ⟨q1, hq1, he1⟩ := x_w_at (dA := dA) (α := α) (σ := σ) hm2
      have s1 := x_kd_sz hm
      have s2 := x_kd_sz hm2
      obtain ⟨a1, b1⟩ := x_n_nn h1 (by omega)
      obtain ⟨a2, b2⟩ := x_n_nn h2 (by omega)
      obtain ⟨a3, b3⟩ := x_n_nn h3 (by omega)
      have hcv : x_cv X α (Sum.inr (Sum.inr (Sum.inl (v, w)))) = .ref (α v w) := x_cv_r X α w hc
      have hcv2 : x_cv X α (Sum.inr (Sum.inr (Sum.inl (c2, j2)))) = .ref (α c2 j2) := x_cv_r X α j2 hc2
      have hnf := x_nfw
      have hloc : ((List.map (x_cv X α) st').map fun v => v.category).sum + (nativeFrameWords "java/lang/System" "arraycopy" 5 + 11) ≤ R.locals := by
        rw [x_wt_eq]
        omega
      simp only [List.map_cons, hcv, hcv2]
      rcases hkd with hkd | hkd
      · rw [hkd] at hkd2
        rw [x_en_1 hkd] at he
        rw [x_en_1 hkd2] at he1
        refine va_copyi hx hb (by rw [hml]; exact hls.1.symm) hown (hts _ (x_tb_TB hl rfl)) (hts _ (x_tb_TB x_tb_715 rfl)) (hts _ (x_tb_TB x_tb_714 rfl)) (hts _ (x_tb_TB x_tb_111 rfl)) hK hW.1 hW.2.1 hW.2.2.1 q0 q1 0 0 he he1 rfl rfl rfl a1 a2 a3 (by rw [b1, b3]; omega) (by rw [b2, b3]; omega) (fun _ _ => rfl) (by omega) hloc (x_dec hd) (fun H1 locs1 hP1 hD1 hS1 => ?_)
        rw [b1, b2, b3, x_cp_fun (g := Int32.ofInt) h1 h2 h3, ← x_en_1 (dA := dA) (α := α) (k := k) (σ := x_cp σ v w sp c2 j2 dp n) hkd2, x_w_set rfl hq1 (fun c' j' hne => x_en_congr (x_cp_ne hne) (fun _ => rfl))] at hP1 hD1
        exact hG H1 locs1 ls α ⟨hP1, hD1, hS1, x_In_cp hc2 hW.2.2.2.1, hW.2.2.2.2.1, hW.2.2.2.2.2⟩ hL hov hos5 hls
      · rw [hkd] at hkd2
        rw [x_en_2 hkd] at he
        rw [x_en_2 hkd2] at he1
        refine va_copyl hx hb (by rw [hml]; exact hls.1.symm) hown (hts _ (x_tb_TB hl rfl)) (hts _ (x_tb_TB x_tb_715 rfl)) (hts _ (x_tb_TB x_tb_714 rfl)) (hts _ (x_tb_TB x_tb_111 rfl)) hK hW.1 hW.2.1 hW.2.2.1 q0 q1 1 1 he he1 rfl rfl rfl a1 a2 a3 (by rw [b1, b3]; omega) (by rw [b2, b3]; omega) (fun _ _ => rfl) (by omega) hloc (x_dec hd) (fun H1 locs1 hP1 hD1 hS1 => ?_)
        rw [b1, b2, b3, x_cp_fun (g := Int64.ofInt) h1 h2 h3, ← x_en_2 (dA := dA) (α := α) (k := k) (σ := x_cp σ v w sp c2 j2 dp n) hkd2, x_w_set rfl hq1 (fun c' j' hne => x_en_congr (x_cp_ne hne) (fun _ => rfl))] at hP1 hD1
        exact hG H1 locs1 ls α ⟨hP1, hD1, hS1, x_In_cp hc2 hW.2.2.2.1, hW.2.2.2.2.1, hW.2.2.2.2.2⟩ hL hov hos5 hls
    · cases h
  · cases h
theorem s_gets : x_SND 60 o_gets k_gets := by
  intro p l e R s mi args below meth c Q D dA A X α0 k0 m d pc a b cc ee L st k σ L' st' k' σ' C h hk hR hG H locs ls α hW hL hov hos hls
  obtain ⟨hx, hb, hml, hown, hts, hK, hE, hA, hin, hfr, hlo⟩ := C
  unfold o_gets at h
  unfold k_gets at hk
  rw [Bool.and_eq_true] at hk
  obtain ⟨hd, hl⟩ := hk
  obtain ⟨-, hZ0, -, hZ1, hZ2, -, hnst, -, -⟩ := hE
  split at h
  · cases h
    split at hl
    · exact va_gets hx hb hZ0 hW.2.2.1 hown (hts _ (x_tb_TB hl rfl)) (fun _ h9 => h9) (x_dec hd) (hG H locs ls α hW hL hov (x_ovs_cons.mpr ⟨Or.inr (by decide), hos⟩) hls)
    · exact va_getsN hx hb hZ0 hW.2.2.1 hown (va_Nw.use rfl (hnst _ (List.mem_filter.mpr ⟨x_tb_in hl, rfl⟩))) (fun _ h9 => h9) (x_dec hd) (hG H locs ls α hW hL hov (x_ovs_cons.mpr ⟨Or.inr (by decide), hos⟩) hls)
  · cases h
    split at hl
    · exact va_gets hx hb hZ1 hW.2.2.1 hown (hts _ (x_tb_TB hl rfl)) (fun _ h9 => h9) (x_dec hd) (hG H locs ls α hW hL hov (x_ovs_cons.mpr ⟨trivial, hos⟩) hls)
    · exact va_getsN hx hb hZ1 hW.2.2.1 hown (va_Nw.use rfl (hnst _ (List.mem_filter.mpr ⟨x_tb_in hl, rfl⟩))) (fun _ h9 => h9) (x_dec hd) (hG H locs ls α hW hL hov (x_ovs_cons.mpr ⟨trivial, hos⟩) hls)
  · cases h
    split at hl
    · exact va_gets hx hb hZ2 hW.2.2.1 hown (hts _ (x_tb_TB hl rfl)) (fun _ h9 => h9) (x_dec hd) (hG H locs ls α hW hL hov (x_ovs_cons.mpr ⟨Or.inr (by decide), hos⟩) hls)
    · exact va_getsN hx hb hZ2 hW.2.2.1 hown (va_Nw.use rfl (hnst _ (List.mem_filter.mpr ⟨x_tb_in hl, rfl⟩))) (fun _ h9 => h9) (x_dec hd) (hG H locs ls α hW hL hov (x_ovs_cons.mpr ⟨Or.inr (by decide), hos⟩) hls)
  · cases h
theorem s_lds : x_SND 61 o_lds k_lds := by
  intro p l e R s mi args below meth c Q D dA A X α0 k0 m d pc a b cc ee L st k σ L' st' k' σ' C h hk hR hG H locs ls α hW hL hov hos hls
  obtain ⟨hx, hb, hml, hown, hts, hK, hE, hA, hin, hfr, hlo⟩ := C
  unfold o_lds at h
  split at h
  · cases h
    unfold k_lds at hk
    simp only [Bool.and_eq_true] at hk
    obtain ⟨⟨⟨-, hd⟩, -⟩, hm⟩ := hk
    have hm := of_decide_eq_true hm
    obtain ⟨-, -, -, -, -, -, -, hR2, -⟩ := hE
    have hv : vk_R (x_ow m) cc (x_stx.getD b "") (X.1 b) s := hR2 (x_ow m, cc, b) hm
    have hw := hG H locs ls α hW hL hov (x_ovs_cons.mpr ⟨Or.inr (by decide), hos⟩) hls
    have hcv : x_cv X α (xR 101 b) = .ref (X.1 b) := rfl
    rw [List.map_cons, hcv] at hw
    exact va_ldcS hx hb hown hv (x_dec hd) hw
  · cases h
theorem s_sval : x_SND 62 o_sval k_sval := by
  intro p l e R s mi args below meth c Q D dA A X α0 k0 m d pc a b cc ee L st k σ L' st' k' σ' C h hk hR hG H locs ls α hW hL hov hos hls
  obtain ⟨hx, hb, hml, hown, hts, hK, hE, hA, hin, hfr, hlo⟩ := C
  unfold o_sval at h
  split at h
  · rename_i v w st0
    split at h
    · rename_i hc
      obtain ⟨rfl, hj⟩ := hc
      cases h
      unfold k_sval at hk
      rw [Bool.and_eq_true] at hk
      obtain ⟨hd, hl⟩ := hk
      obtain ⟨-, hos1⟩ := x_ovs_cons.mp hos
      exact vk_getf hx hb (hE.1 w hj).2.2.1 hW.2.2.1 hown (hts _ (x_tb_TB hl rfl)) (fun _ h9 => h9) (x_dec hd) (hG H locs ls α hW hL hov (x_ovs_cons.mpr ⟨Or.inr (by decide), hos1⟩) hls)
    · cases h
  · cases h
theorem s_scod : x_SND 63 o_scod k_scod := by
  intro p l e R s mi args below meth c Q D dA A X α0 k0 m d pc a b cc ee L st k σ L' st' k' σ' C h hk hR hG H locs ls α hW hL hov hos hls
  obtain ⟨hx, hb, hml, hown, hts, hK, hE, hA, hin, hfr, hlo⟩ := C
  unfold o_scod at h
  split at h
  · rename_i v w st0
    split at h
    · rename_i hc
      obtain ⟨rfl, hj⟩ := hc
      cases h
      unfold k_scod at hk
      rw [Bool.and_eq_true] at hk
      obtain ⟨hd, hl⟩ := hk
      obtain ⟨-, hos1⟩ := x_ovs_cons.mp hos
      exact vk_getf hx hb (hE.1 w hj).2.1 hW.2.2.1 hown (hts _ (x_tb_TB hl rfl)) (fun _ h9 => h9) (x_dec hd) (hG H locs ls α hW hL hov (x_ovs_cons.mpr ⟨trivial, hos1⟩) hls)
    · cases h
  · cases h
theorem x_sn_cons {n : Nat} {f : x_F} {g : x_B} {F : List x_F} {G : List x_B} (h : x_SND n f g) (ht : ∀ i, i < F.length → x_SND (n + 1 + i) (F.getD i o_no) (G.getD i x_nob)) : ∀ i, i < (f :: F).length → x_SND (n + i) ((f :: F).getD i o_no) ((g :: G).getD i x_nob) := by
  intro i hi
  cases i with
  | zero => exact h
  | succ i =>
    have := ht i (by simpa using hi)
    rw [show n + (i + 1) = n + 1 + i by omega]
    exact this
theorem x_sn_nil {n : Nat} : ∀ i, i < ([] : List x_F).length → x_SND (n + i) (([] : List x_F).getD i o_no) (([] : List x_B).getD i x_nob) := fun i hi => absurd hi (Nat.not_lt_zero i)
theorem x_sn_all : ∀ i, i < 64 → x_SND i (x_sx i) (x_oks.getD i x_nob) := by
  intro i hi
  have := (x_sn_cons s_ic (x_sn_cons s_lc (x_sn_cons s_ild (x_sn_cons s_lld (x_sn_cons s_ald (x_sn_cons s_ist (x_sn_cons s_lst (x_sn_cons s_ast (x_sn_cons s_inc (x_sn_cons s_iadd (x_sn_cons s_isub (x_sn_cons s_imul (x_sn_cons s_idiv (x_sn_cons s_irem (x_sn_cons s_ineg (x_sn_cons s_iand (x_sn_cons s_ior (x_sn_cons s_ishl (x_sn_cons s_ishr (x_sn_cons s_iushr (x_sn_cons s_ladd (x_sn_cons s_lsub (x_sn_cons s_lmul (x_sn_cons s_ldiv (x_sn_cons s_lneg (x_sn_cons s_land (x_sn_cons s_lor (x_sn_cons s_lshl (x_sn_cons s_lshr (x_sn_cons s_i2l (x_sn_cons s_l2i (x_sn_cons s_i2b (x_sn_cons s_i2s (x_sn_cons s_i2c (x_sn_cons s_lcmp (x_sn_cons s_dup (x_sn_cons s_dup2 (x_sn_cons s_pop (x_sn_cons s_pop2 (x_sn_cons s_geti (x_sn_cons s_getj (x_sn_cons s_getr (x_sn_cons s_puti (x_sn_cons s_putj (x_sn_cons s_putr (x_sn_cons s_putz (x_sn_cons s_iald (x_sn_cons s_lald (x_sn_cons s_bald (x_sn_cons s_aald (x_sn_cons s_iast (x_sn_cons s_last (x_sn_cons s_bast (x_sn_cons s_aast (x_sn_cons s_alen (x_sn_cons s_newa (x_sn_cons s_anew (x_sn_cons s_new (x_sn_cons s_obji (x_sn_cons s_acpy (x_sn_cons s_gets (x_sn_cons s_lds (x_sn_cons s_sval (x_sn_cons s_scod x_sn_nil)))))))))))))))))))))))))))))))))))))))))))))))))))))))))))))))) i hi
  rw [Nat.zero_add] at this
  exact this

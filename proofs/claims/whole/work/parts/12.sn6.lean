theorem x_flg_succ {k : x_K} {q : Nat × Nat × Nat} (h : x_puts[k.2]? = some q) {c f j : Nat} : x_flg (k.1, k.2 + 1) c f j = true ↔ x_flg k c f j = true ∨ (c, f, j) = q := by
  rw [x_flg_mem, x_flg_mem]
  simp only
  rw [List.take_add_one, h]
  simp
theorem x_flg_ne {k : x_K} {q : Nat × Nat × Nat} (h : x_puts[k.2]? = some q) {c f j : Nat} (hne : (c, f, j) ≠ q) : x_flg (k.1, k.2 + 1) c f j = x_flg k c f j := by
  have := x_flg_succ h (c := c) (f := f) (j := j)
  rw [Bool.eq_iff_iff, this]
  simp [hne]
theorem x_In_put {X : x_X} {k : x_K} {σ : x_S} {q : Nat × Nat × Nat} (h : x_puts[k.2]? = some q) (hI : x_In X k σ) (ht : x_tgt q ∈ x_nms.take k.1) (hq : (q.1, q.2.2) ∈ x_nms.take k.1) : x_In X (k.1, k.2 + 1) σ := by
  refine ⟨hI.1, fun z hz => ?_, hI.2.2⟩
  simp only at hz
  rw [List.take_add_one, h] at hz
  rcases List.mem_append.mp hz with hz | hz
  · exact hI.2.1 z hz
  · have : z = q := by simpa using hz
    rw [this]
    exact ⟨ht, hq⟩
theorem x_wt_eq {X : x_X} {α : Nat → Nat → Nat} (st : List x_V) : ((st.map (x_cv X α)).map fun v => v.category).sum = x_wt st := by
  induction st with
  | nil => rfl
  | cons v st ih =>
    rw [List.map_cons, List.map_cons, List.sum_cons, ih]
    rcases v with a | a | a
    · rw [x_cat1]; simp [x_wt]; omega
    · rw [x_cat2]; simp [x_wt]; omega
    · rw [x_cat3]; simp [x_wt]; omega
theorem x_isr_fit {t : FieldType} (h : x_isr t = true) (a : Nat) : narrow t (.ref a) = .ref a ∧ fits t (.ref a) = true := by
  unfold x_isr at h
  split at h
  · exact ⟨rfl, rfl⟩
  · exact ⟨rfl, rfl⟩
  · cases h
theorem x_fv_r {α : Nat → Nat → Nat} {k : x_K} {σ : x_S} {c j b f : Nat} (h : x_isr (x_fty b f) = true) : x_fv α k σ c j b f = if x_flg k c f j = true then .ref (α (x_rho c f j).1 (x_rho c f j).2) else .null := by
  unfold x_isr at h
  split at h <;> rename_i ht
  · simp only [x_fv, ht]
  · simp only [x_fv, ht]
  · cases h
theorem s_putr : x_SND 44 o_putr k_putr := by
  intro p l e R s mi args below meth c Q D dA A X α0 k0 m d pc a b cc ee L st k σ L' st' k' σ' C h hk hR hG H locs ls α hW hL hov hos hls
  obtain ⟨hx, hb, hml, hown, hts, hK, hE, hA, hin, hfr, hlo⟩ := C
  unfold o_putr at h
  split at h
  · split at h
    · rename_i c2 j2 v w st0 hc
      obtain ⟨hkd, hrho, hc2, hput⟩ := hc
      cases h
      unfold k_putr at hk
      simp only [Bool.and_eq_true] at hk
      obtain ⟨⟨⟨⟨⟨⟨⟨h1, h2⟩, h3⟩, h4⟩, h5⟩, h6⟩, h7⟩, h8⟩ := hk
      have h3 := of_decide_eq_true h3
      have h4 := of_decide_eq_true h4
      have h5 : x_isr (x_fty b cc) = true := h5
      have h6 := of_decide_eq_true h6
      have h7 := of_decide_eq_true h7
      have h8 := of_decide_eq_true h8
      obtain ⟨hov2, hos1⟩ := x_ovs_cons.mp hos
      obtain ⟨hov1, hos2⟩ := x_ovs_cons.mp hos1
      have hm2 : (c2, j2) ∈ x_nms.take k.1 := by
        rcases hov2 with h | h
        · exact h
        · omega
      obtain ⟨hm, hc⟩ := x_kd_c hkd hov1
      obtain ⟨q0, hq0, he⟩ := x_w_at (dA := dA) (α := α) (σ := σ) hm
      rw [x_en_o hkd] at he
      obtain ⟨hlay, -, -, hf, hnm⟩ := x_cfacts h4
      have hcv : x_cv X α (Sum.inr (Sum.inr (Sum.inl (v, w)))) = .ref (α v w) := x_cv_r X α w hc
      have hcv2 : x_cv X α (Sum.inr (Sum.inr (Sum.inl (c2, j2)))) = .ref (α c2 j2) := x_cv_r X α j2 hc2
      have hne23 : v ≠ 23 := fun z => by
        have h0 : (x_kd v).1 = 0 := congrArg Prod.fst hkd
        rw [z] at h0
        exact absurd h0 (by decide)
      have hfl : x_flg (k.1, k.2 + 1) v cc w = true := (x_flg_succ hput).mpr (Or.inr rfl)
      have hv : x_fv α (k.1, k.2 + 1) σ v w b cc = .ref (α c2 j2) := by
        rw [x_fv_r h5, if_pos hfl, hrho]
      have hset : (x_w dA α k σ).set q0 (α v w, .inr (b, ((List.range (x_clb b).2.2).map (x_fv α k σ v w b)).set cc (Value.ref (α c2 j2)))) = x_w dA α (k.1, k.2 + 1) σ := by
        rw [← hv, x_fs_set h3 (fun g hg => ?_), ← x_en_o (dA := dA) hkd]
        · exact x_w_set rfl hq0 (fun c' j' hne => x_en_congr (fun _ => rfl) (fun f => x_flg_ne hput (fun z => hne (by cases z; rfl))))
        · have := x_flg_ne hput (c := v) (f := g) (j := w) (fun z => hg (by cases z; rfl))
          simp only [x_fv, this]
      obtain ⟨f1, f2⟩ := x_isr_fit h5 (α c2 j2)
      rw [List.map_cons, List.map_cons, hcv, hcv2]
      refine va_putF (D := D) (ci := b) hx hb hts hlay (x_fty b) (fun f hf2 => (hf f hf2).2) hnm hown hK hW.1 hW.2.1 hW.2.2.1 q0 he (x_clb_at b h4) cc h3 (hts _ (x_tb_TB h2 rfl)) (fun x hx2 => by rw [(hf cc h3).1] at hx2; exact hx2) h6 (hin h7) h8 (ty := x_fty b cc) (hf cc h3).2 f1 f2 (by simpa using h3) (x_dec h1) (fun H1 locs1 hP1 hD1 hS1 => ?_)
      have hP1 : va_P D x_cl ((x_w dA α k σ).set q0 (α v w, .inr (b, ((List.range (x_clb b).2.2).map (x_fv α k σ v w b)).set cc (Value.ref (α c2 j2))))) H1 := hP1
      have hD1 : va_D A ((x_w dA α k σ).set q0 (α v w, .inr (b, ((List.range (x_clb b).2.2).map (x_fv α k σ v w b)).set cc (Value.ref (α c2 j2))))) := hD1
      rw [hset] at hP1 hD1
      exact hG H1 locs1 ls α ⟨hP1, hD1, hS1, x_In_put hput hW.2.2.2.1 (by simp only [x_tgt, hne23, if_false]; rw [hrho]; exact hm2) hm, hW.2.2.2.2.1, hW.2.2.2.2.2⟩ hL hov hos2 hls
    · cases h
  · cases h
theorem s_aast : x_SND 53 o_aast (x_is .aastore) := by
  intro p l e R s mi args below meth c Q D dA A X α0 k0 m d pc a b cc ee L st k σ L' st' k' σ' C h hk hR hG H locs ls α hW hL hov hos hls
  obtain ⟨hx, hb, hml, hown, hts, hK, hE, hA, hin, hfr, hlo⟩ := C
  unfold o_aast at h
  split at h
  · split at h
    · rename_i c2 j2 i v w st0 hc
      obtain ⟨rfl, rfl, h0, hn, rfl, rfl, hput⟩ := hc
      cases h
      obtain ⟨hov2, hos1⟩ := x_ovs_cons.mp hos
      obtain ⟨-, hos2⟩ := x_ovs_cons.mp hos1
      obtain ⟨hov1, hos3⟩ := x_ovs_cons.mp hos2
      obtain ⟨hm2, -⟩ := x_kd_c (b := 3) rfl hov2
      obtain ⟨hm, hc⟩ := x_kd_a (by decide) hov1
      obtain ⟨q0, hq0, he⟩ := x_w_at (dA := dA) (α := α) (σ := σ) hm
      obtain ⟨q2, hq2, he2⟩ := x_w_at (dA := dA) (α := α) (σ := σ) hm2
      rw [x_en_5 rfl] at he
      rw [x_en_o (b := 3) rfl] at he2
      obtain ⟨hix, hcl⟩ := x_n_ix (n := 3) h0 hn (by omega)
      have hcv : x_cv X α (Sum.inr (Sum.inr (Sum.inl (23, 0)))) = .ref (α 23 0) := rfl
      have hcv2 : x_cv X α (Sum.inr (Sum.inr (Sum.inl (20, i.toNat + 2)))) = .ref (α 20 (i.toNat + 2)) := rfl
      have hfun : va_up (fun n : Nat => if x_flg k 23 n 0 = true then some (α 20 (n + 2)) else none) i.toNat (some (α 20 (i.toNat + 2))) = fun n : Nat => if x_flg (k.1, k.2 + 1) 23 n 0 = true then some (α 20 (n + 2)) else none := by
        funext n
        simp only [va_up]
        by_cases en : n = i.toNat
        · subst en
          have := (x_flg_succ hput).mpr (Or.inr (rfl : (23, i.toNat, 0) = (23, i.toNat, 0)))
          rw [if_pos rfl, if_pos this]
        · have := x_flg_ne hput (c := 23) (f := n) (j := 0) (fun z => en (by cases z; rfl))
          rw [if_neg en, this]
      rw [List.map_cons, List.map_cons, List.map_cons, hcv, hcv2]
      refine va_astq hx hb hK hW.1 hW.2.1 hW.2.2.1 q0 4 q2 3 (r := x_clb 3) he rfl he2 rfl hix (x_dec hk) (fun H1 locs1 hP1 hD1 hS1 => ?_)
      have hset : (x_w dA α k σ).set q0 (α 23 0, x_en dA α (k.1, k.2 + 1) σ 23 0) = x_w dA α (k.1, k.2 + 1) σ :=
        x_w_set rfl hq0 (fun c' j' hne => x_en_congr (fun _ => rfl) (fun f => x_flg_ne (c := c') (f := f) (j := j') hput (fun z => hne (by cases z; rfl))))
      rw [hcl, hfun, ← x_en_5 (dA := dA) (α := α) (k := (k.1, k.2 + 1)) (σ := σ) (c := 23) (j := 0) rfl, hset] at hP1 hD1
      exact hG H1 locs1 ls α ⟨hP1, hD1, hS1, x_In_put hput hW.2.2.2.1 (by simp only [x_tgt, if_true]; exact hm2) hm, hW.2.2.2.2.1, hW.2.2.2.2.2⟩ hL hov hos3 hls
    · cases h
  · cases h
theorem x_In_new {X : x_X} {k : x_K} {σ : x_S} {c j : Nat} (h : x_nms[k.1]? = some (c, j)) (hc : c < 100) (hI : x_In X k σ) : x_In X (k.1 + 1, k.2) (x_zr σ c j) := by
  have hz : ∀ j' i', x_zr σ c j 100 j' i' = σ 100 j' i' := fun j' i' => x_zr_ne (fun z => by have := congrArg Prod.fst z; simp at this; omega) i'
  refine ⟨(List.getElem?_eq_some_iff.mp h).1, fun q hq => ⟨x_take_sub (Nat.le_succ _) (hI.2.1 q hq).1, x_take_sub (Nat.le_succ _) (hI.2.1 q hq).2⟩, ?_, fun n hn => ?_⟩
  · rw [hz]; exact hI.2.2.1
  · rw [hz]; exact hI.2.2.2 n hn
theorem x_new_mem {n c j : Nat} (h : x_nms[n]? = some (c, j)) : (c, j) ∈ x_nms.take (n + 1) := by
  rw [List.take_add_one, h]
  simp
theorem x_new_all {n c j : Nat} (h : x_nms[n]? = some (c, j)) : (c, j) ∈ x_nms := List.mem_of_getElem? h
theorem x_tb_240 : x_tb 240 (.arrayClass .int) = true := by decide +kernel
theorem x_tb_295 : x_tb 295 (.arrayClass .long) = true := by decide +kernel
theorem x_tb_276 : x_tb 276 (.arrayClass .byte) = true := by decide +kernel
theorem x_tb_467 : x_tb 467 (.arrayClass .boolean) = true := by decide +kernel
theorem x_tb_119 : x_tb 119 (.instanceMethod Lib.objectInit) = true := by decide +kernel
theorem x_tb_120 : x_tb 120 (.code Lib.objectInit ⟨#[0xb1]⟩ 1 none) = true := by decide +kernel
theorem x_tb_714 : x_tb 714 (.static arraycopyName) = true := by decide +kernel
theorem x_tb_715 : x_tb 715 (.native arraycopyName) = true := by decide +kernel
theorem x_tb_111 : x_tb 111 (.initialized "java/lang/System") = true := by decide +kernel
theorem s_newa : x_SND 55 o_newa k_newa := by
  intro p l e R s mi args below meth c Q D dA A X α0 k0 m d pc a b cc ee L st k σ L' st' k' σ' C h hk hR hG H locs ls α hW hL hov hos hls
  obtain ⟨hx, hb, hml, hown, hts, hK, hE, hA, hin, hfr, hlo⟩ := C
  unfold o_newa at h
  split at h
  · rename_i n st0
    split at h
    · rename_i v w hnm
      split at h
      · rename_i hc
        obtain ⟨hkd, h0, hb3⟩ := hc
        cases h
        unfold k_newa at hk
        rw [Bool.and_eq_true] at hk
        obtain ⟨h1, -⟩ := hk
        obtain ⟨-, hos1⟩ := x_ovs_cons.mp hos
        have hvm := x_new_all hnm
        have hvc := (x_nms_ok _ hvm).1
        have hsz : n.toNat ≤ 2000 := by have := x_kd_sz0 _ hvm; simp only [hkd] at this; exact this
        have hn32 : (Int32.ofInt n).toInt = n := x_toI (x_b32_iff.mpr ⟨by omega, by omega⟩)
        have hnn : ¬ Int32.ofInt n < 0 := by rw [Int32.lt_iff_toInt_lt, hn32]; exact Int.not_lt.mpr h0
        have hnN : (Int32.ofInt n).toNatClampNeg = n.toNat := by rw [Int32.toNatClampNeg, hn32]
        have hby : ∀ t, componentBytes t ≤ 8 → n.toNat * componentBytes t ≤ 536870912 := fun t ht => by
          have := Nat.mul_le_mul hsz ht
          omega
        have hag : ∀ q, ∀ z ∈ x_nms.take k.1, x_al α v w q z.1 z.2 = α z.1 z.2 := fun q z hz => x_al_ne (x_new_ne hnm hz)
        have hk01 := hW.2.2.2.2.2
        have hce : k.1 + 1 - k0.1 = k.1 - k0.1 + 1 := by omega
        have hcs : x_cs v = n.toNat := by simp only [x_cs, hkd]; rw [if_neg (by omega)]
        have hsl : x_sl (k.1 + 1) - x_sl k0.1 = x_sl k.1 - x_sl k0.1 + n.toNat := by
          have := x_sl_mono hk01
          rw [x_sl_succ hnm, hcs]
          omega
        simp only at hR
        have hR1 := hR.1
        have hR2 := hR.2
        rw [hce] at hR1
        rw [hsl] at hR2
        rw [List.map_cons]
        have hb4 : b = 0 ∨ b = 1 ∨ b = 2 ∨ b = 3 := by omega
        rcases hb4 with rfl | rfl | rfl | rfl
        · have hen : ∀ q, x_en dA (x_al α v w q) (k.1 + 1, k.2) (x_zr σ v w) v w = .inl (dA 0, n.toNat, .inl (fun _ => 0)) := fun q => by
            rw [x_en_1 (by rw [hkd]), hkd]
            simp only [x_zr, and_self, if_true]
            rfl
          refine va_newa (atype := .int) hx hb (hts _ (x_tb_TB x_tb_240 rfl)) (ty := .int) rfl hK hW.1 hW.2.1 hW.2.2.1 hA (a0 := (n.toNat, .inl (fun _ => 0))) (fun _ => rfl) hnn hnN (hby .int (by decide)) (by omega) (by omega) (x_dec h1) (fun q cA H1 hK1 hP1 hD1 hS1 => ?_)
          have hcA : cA = dA 0 := Option.some.inj ((hK1.2 5 (cA, .int) rfl).2.symm.trans (hK.2 0 (dA 0, .int) rfl).2)
          subst hcA
          rw [← hen q, ← x_w_new hnm hW.2.2.2.1] at hP1 hD1
          have hw := hG H1 locs ls (x_al α v w q) ⟨hP1, hD1, hS1, x_In_new hnm hvc hW.2.2.2.1, fun z hz => by rw [x_al_ne (x_new_ne hnm (x_take_sub hW.2.2.2.2.2 hz))]; exact hW.2.2.2.2.1 z hz, Nat.le_succ_of_le hW.2.2.2.2.2⟩ hL (fun z hz => x_ov_mono (Nat.le_succ _) (hov z hz)) (x_ovs_cons.mpr ⟨Or.inl (x_new_mem hnm), fun z hz => x_ov_mono (Nat.le_succ _) (hos1 z hz)⟩) (by rw [x_ll_ag (hag q) hov]; exact hls)
          rw [List.map_cons, x_cv_r X _ w hvc, x_al_eq, x_map_ag (hag q) hos1, hsl, hce] at hw
          exact hw
        · have hen : ∀ q, x_en dA (x_al α v w q) (k.1 + 1, k.2) (x_zr σ v w) v w = .inl (dA 1, n.toNat, .inr (.inl (fun _ => 0))) := fun q => by
            rw [x_en_2 (by rw [hkd]), hkd]
            simp only [x_zr, and_self, if_true]
            rfl
          refine va_newa (atype := .long) hx hb (hts _ (x_tb_TB x_tb_295 rfl)) (ty := .long) rfl hK hW.1 hW.2.1 hW.2.2.1 hA (a0 := (n.toNat, .inr (.inl (fun _ => 0)))) (fun _ => rfl) hnn hnN (hby .long (by decide)) (by omega) (by omega) (x_dec h1) (fun q cA H1 hK1 hP1 hD1 hS1 => ?_)
          have hcA : cA = dA 1 := Option.some.inj ((hK1.2 5 (cA, .long) rfl).2.symm.trans (hK.2 1 (dA 1, .long) rfl).2)
          subst hcA
          rw [← hen q, ← x_w_new hnm hW.2.2.2.1] at hP1 hD1
          have hw := hG H1 locs ls (x_al α v w q) ⟨hP1, hD1, hS1, x_In_new hnm hvc hW.2.2.2.1, fun z hz => by rw [x_al_ne (x_new_ne hnm (x_take_sub hW.2.2.2.2.2 hz))]; exact hW.2.2.2.2.1 z hz, Nat.le_succ_of_le hW.2.2.2.2.2⟩ hL (fun z hz => x_ov_mono (Nat.le_succ _) (hov z hz)) (x_ovs_cons.mpr ⟨Or.inl (x_new_mem hnm), fun z hz => x_ov_mono (Nat.le_succ _) (hos1 z hz)⟩) (by rw [x_ll_ag (hag q) hov]; exact hls)
          rw [List.map_cons, x_cv_r X _ w hvc, x_al_eq, x_map_ag (hag q) hos1, hsl, hce] at hw
          exact hw
        · have hen : ∀ q, x_en dA (x_al α v w q) (k.1 + 1, k.2) (x_zr σ v w) v w = .inl (dA 2, n.toNat, .inl (fun _ => 0)) := fun q => by
            rw [x_en_3 (by rw [hkd]), hkd]
            simp only [x_zr, and_self, if_true]
            rfl
          refine va_newa (atype := .byte) hx hb (hts _ (x_tb_TB x_tb_276 rfl)) (ty := .byte) rfl hK hW.1 hW.2.1 hW.2.2.1 hA (a0 := (n.toNat, .inl (fun _ => 0))) (fun _ => rfl) hnn hnN (hby .byte (by decide)) (by omega) (by omega) (x_dec h1) (fun q cA H1 hK1 hP1 hD1 hS1 => ?_)
          have hcA : cA = dA 2 := Option.some.inj ((hK1.2 5 (cA, .byte) rfl).2.symm.trans (hK.2 2 (dA 2, .byte) rfl).2)
          subst hcA
          rw [← hen q, ← x_w_new hnm hW.2.2.2.1] at hP1 hD1
          have hw := hG H1 locs ls (x_al α v w q) ⟨hP1, hD1, hS1, x_In_new hnm hvc hW.2.2.2.1, fun z hz => by rw [x_al_ne (x_new_ne hnm (x_take_sub hW.2.2.2.2.2 hz))]; exact hW.2.2.2.2.1 z hz, Nat.le_succ_of_le hW.2.2.2.2.2⟩ hL (fun z hz => x_ov_mono (Nat.le_succ _) (hov z hz)) (x_ovs_cons.mpr ⟨Or.inl (x_new_mem hnm), fun z hz => x_ov_mono (Nat.le_succ _) (hos1 z hz)⟩) (by rw [x_ll_ag (hag q) hov]; exact hls)
          rw [List.map_cons, x_cv_r X _ w hvc, x_al_eq, x_map_ag (hag q) hos1, hsl, hce] at hw
          exact hw
        · have hen : ∀ q, x_en dA (x_al α v w q) (k.1 + 1, k.2) (x_zr σ v w) v w = .inl (dA 3, n.toNat, .inl (fun _ => 0)) := fun q => by
            rw [x_en_4 (by rw [hkd]), hkd]
            simp only [x_zr, and_self, if_true]
            rfl
          refine va_newa (atype := .boolean) hx hb (hts _ (x_tb_TB x_tb_467 rfl)) (ty := .boolean) rfl hK hW.1 hW.2.1 hW.2.2.1 hA (a0 := (n.toNat, .inl (fun _ => 0))) (fun _ => rfl) hnn hnN (hby .boolean (by decide)) (by omega) (by omega) (x_dec h1) (fun q cA H1 hK1 hP1 hD1 hS1 => ?_)
          have hcA : cA = dA 3 := Option.some.inj ((hK1.2 5 (cA, .boolean) rfl).2.symm.trans (hK.2 3 (dA 3, .boolean) rfl).2)
          subst hcA
          rw [← hen q, ← x_w_new hnm hW.2.2.2.1] at hP1 hD1
          have hw := hG H1 locs ls (x_al α v w q) ⟨hP1, hD1, hS1, x_In_new hnm hvc hW.2.2.2.1, fun z hz => by rw [x_al_ne (x_new_ne hnm (x_take_sub hW.2.2.2.2.2 hz))]; exact hW.2.2.2.2.1 z hz, Nat.le_succ_of_le hW.2.2.2.2.2⟩ hL (fun z hz => x_ov_mono (Nat.le_succ _) (hov z hz)) (x_ovs_cons.mpr ⟨Or.inl (x_new_mem hnm), fun z hz => x_ov_mono (Nat.le_succ _) (hos1 z hz)⟩) (by rw [x_ll_ag (hag q) hov]; exact hls)
          rw [List.map_cons, x_cv_r X _ w hvc, x_al_eq, x_map_ag (hag q) hos1, hsl, hce] at hw
          exact hw
      · cases h
    · cases h
  · cases h
theorem s_anew : x_SND 56 o_anew k_anew := by
  intro p l e R s mi args below meth c Q D dA A X α0 k0 m d pc a b cc ee L st k σ L' st' k' σ' C h hk hR hG H locs ls α hW hL hov hos hls
  obtain ⟨hx, hb, hml, hown, hts, hK, hE, hA, hin, hfr, hlo⟩ := C
  unfold o_anew at h
  split at h
  · rename_i n st0
    split at h
    · rename_i v w hnm
      split at h
      · rename_i hc
        obtain ⟨hkd, h0, rfl⟩ := hc
        cases h
        unfold k_anew at hk
        rw [Bool.and_eq_true] at hk
        obtain ⟨h1, h2⟩ := hk
        obtain ⟨-, hos1⟩ := x_ovs_cons.mp hos
        have hvm := x_new_all hnm
        have hvc := (x_nms_ok _ hvm).1
        have hsz : n.toNat ≤ 2000 := by have := x_kd_sz0 _ hvm; simp only [hkd] at this; exact this
        have hn32 : (Int32.ofInt n).toInt = n := x_toI (x_b32_iff.mpr ⟨by omega, by omega⟩)
        have hnn : ¬ Int32.ofInt n < 0 := by rw [Int32.lt_iff_toInt_lt, hn32]; exact Int.not_lt.mpr h0
        have hnN : (Int32.ofInt n).toNatClampNeg = n.toNat := by rw [Int32.toNatClampNeg, hn32]
        have hag : ∀ q, ∀ z ∈ x_nms.take k.1, x_al α 23 w q z.1 z.2 = α z.1 z.2 := fun q z hz => x_al_ne (x_new_ne hnm hz)
        have hk01 := hW.2.2.2.2.2
        have hce : k.1 + 1 - k0.1 = k.1 - k0.1 + 1 := by omega
        have hcs : x_cs 23 = n.toNat := by simp only [x_cs, hkd]; rw [if_neg (by omega)]
        have hsl : x_sl (k.1 + 1) - x_sl k0.1 = x_sl k.1 - x_sl k0.1 + n.toNat := by
          have := x_sl_mono hk01
          rw [x_sl_succ hnm, hcs]
          omega
        simp only at hR
        have hR1 := hR.1
        have hR2 := hR.2
        rw [hce] at hR1
        rw [hsl] at hR2
        rw [List.map_cons]
        have hnf : ∀ f, x_flg (k.1 + 1, k.2) 23 f w = false := fun f => by
          rw [Bool.eq_false_iff]
          intro hg
          exact x_new_ne hnm (hW.2.2.2.1.2.1 _ (x_flg_mem.mp hg)).2 rfl
        have hen : ∀ q, x_en dA (x_al α 23 w q) (k.1 + 1, k.2) (x_zr σ 23 w) 23 w = .inl (dA 4, n.toNat, .inr (.inr (.inr (.inr (fun _ => none))))) := fun q => by
          rw [x_en_5 (by rw [hkd]), hkd]
          simp only [hnf]
          rfl
        obtain ⟨-, -, -, -, -, -, -, -, hao⟩ := hE
        refine va_newq hx hb hown (hts _ (x_tb_TB h2 rfl)) hao hK hW.1 hW.2.1 hW.2.2.1 hA hnn hnN (by omega) (by omega) (by omega) (x_dec h1) (fun q cA H1 hK1 hP1 hD1 hS1 => ?_)
        have hcA : cA = dA 4 := by
          obtain ⟨_, _, -, -, -, z1⟩ := (hK1.2 5 (cA, .object "LoftTree$Scene") rfl).2
          obtain ⟨_, _, -, -, -, z2⟩ := (hK.2 4 (dA 4, .object "LoftTree$Scene") rfl).2
          exact Option.some.inj (z1.symm.trans z2)
        subst hcA
        rw [← hen q, ← x_w_new hnm hW.2.2.2.1] at hP1 hD1
        have hw := hG H1 locs ls (x_al α 23 w q) ⟨hP1, hD1, hS1, x_In_new hnm hvc hW.2.2.2.1, fun z hz => by rw [x_al_ne (x_new_ne hnm (x_take_sub hW.2.2.2.2.2 hz))]; exact hW.2.2.2.2.1 z hz, Nat.le_succ_of_le hW.2.2.2.2.2⟩ hL (fun z hz => x_ov_mono (Nat.le_succ _) (hov z hz)) (x_ovs_cons.mpr ⟨Or.inl (x_new_mem hnm), fun z hz => x_ov_mono (Nat.le_succ _) (hos1 z hz)⟩) (by rw [x_ll_ag (hag q) hov]; exact hls)
        rw [List.map_cons, x_cv_r X _ w hvc, x_al_eq, x_map_ag (hag q) hos1, hsl, hce] at hw
        exact hw
      · cases h
    · cases h
  · cases h
theorem x_ftys : ∀ b, b < 10 → ∀ f, f < (x_clb b).2.2 → x_fty b f = .int ∨ x_fty b f = .boolean ∨ x_fty b f = .long ∨ x_isr (x_fty b f) = true := by decide +kernel
theorem s_new : x_SND 57 o_new k_new := by
  intro p l e R s mi args below meth c Q D dA A X α0 k0 m d pc a b cc ee L st k σ L' st' k' σ' C h hk hR hG H locs ls α hW hL hov hos hls
  obtain ⟨hx, hb, hml, hown, hts, hK, hE, hA, hin, hfr, hlo⟩ := C
  unfold o_new at h
  split at h
  · rename_i v w hnm
    split at h
    · rename_i hkd
      cases h
      unfold k_new at hk
      simp only [Bool.and_eq_true] at hk
      obtain ⟨⟨h1, h2⟩, h3⟩ := hk
      have h3 := of_decide_eq_true h3
      obtain ⟨hlay, hinst, hini, hf, hnm2⟩ := x_cfacts h3
      have hvm := x_new_all hnm
      have hvc := (x_nms_ok _ hvm).1
      have hag : ∀ q, ∀ z ∈ x_nms.take k.1, x_al α v w q z.1 z.2 = α z.1 z.2 := fun q z hz => x_al_ne (x_new_ne hnm hz)
      have hk01 := hW.2.2.2.2.2
      have hce : k.1 + 1 - k0.1 = k.1 - k0.1 + 1 := by omega
      have hcs : x_cs v = (x_clb b).2.2 := by simp only [x_cs, hkd, if_true, x_nf]
      have hsl : x_sl (k.1 + 1) - x_sl k0.1 = x_sl k.1 - x_sl k0.1 + (x_clb b).2.2 := by
        have := x_sl_mono hk01
        rw [x_sl_succ hnm, hcs]
        omega
      simp only at hR
      have hR1 := hR.1
      have hR2 := hR.2
      rw [hce] at hR1
      rw [hsl] at hR2
      have hnf : ∀ f, x_flg (k.1 + 1, k.2) v f w = false := fun f => by
        rw [Bool.eq_false_iff]
        intro hg
        exact x_new_ne hnm (hW.2.2.2.1.2.1 _ (x_flg_mem.mp hg)).2 rfl
      have hdef : ∀ q f, x_fv (x_al α v w q) (k.1 + 1, k.2) (x_zr σ v w) v w b f = defaultValue (x_fty b f) ∨ ¬ f < (x_clb b).2.2 := fun q f => by
        by_cases hff : f < (x_clb b).2.2
        · left
          have hty : x_fty b f = .int ∨ x_fty b f = .boolean ∨ x_fty b f = .long ∨ x_isr (x_fty b f) = true := x_ftys b h3 f hff
          rcases hty with ht | ht | ht | ht
          · simp only [x_fv, ht, x_zr, and_self, if_true]; rfl
          · simp only [x_fv, ht, x_zr, and_self, if_true]; rfl
          · simp only [x_fv, ht, x_zr, and_self, if_true]; rfl
          · rw [x_fv_r ht, hnf]
            unfold x_isr at ht
            split at ht <;> rename_i hz
            · rw [hz]; rfl
            · rw [hz]; rfl
            · cases ht
        · exact Or.inr hff
      have hen : ∀ q, x_en dA (x_al α v w q) (k.1 + 1, k.2) (x_zr σ v w) v w = .inr (b, (List.range (x_clb b).2.2).map (fun f => defaultValue (x_fty b f))) := fun q => by
        rw [x_en_o hkd]
        congr 2
        refine List.map_congr_left (fun f hf2 => ?_)
        rcases hdef q f with h | h
        · exact h
        · exact absurd (List.mem_range.mp hf2) h
      refine va_new (D := D) (ci := b) hx hb hts hlay (x_fty b) (fun f hf2 => (hf f hf2).2) hown (hts _ (x_tb_TB h2 rfl)) (hts _ hinst) (hts _ hini) hK hW.1 hW.2.1 hW.2.2.1 hA (x_clb_at b h3) (fs := (List.range (x_clb b).2.2).map (fun f => defaultValue (x_fty b f))) (fun j hj => by simp [vp_V, hj]) (by omega) (by omega) (x_dec h1) (fun q H1 hP1 hD1 hS1 => ?_)
      rw [← hen q, ← x_w_new hnm hW.2.2.2.1] at hP1 hD1
      have hw := hG H1 locs ls (x_al α v w q) ⟨hP1, hD1, hS1, x_In_new hnm hvc hW.2.2.2.1, fun z hz => by rw [x_al_ne (x_new_ne hnm (x_take_sub hW.2.2.2.2.2 hz))]; exact hW.2.2.2.2.1 z hz, Nat.le_succ_of_le hW.2.2.2.2.2⟩ hL (fun z hz => x_ov_mono (Nat.le_succ _) (hov z hz)) (x_ovs_cons.mpr ⟨Or.inl (x_new_mem hnm), fun z hz => x_ov_mono (Nat.le_succ _) (hos z hz)⟩) (by rw [x_ll_ag (hag q) hov]; exact hls)
      rw [List.map_cons, x_cv_r X _ w hvc, x_al_eq, x_map_ag (hag q) hos, hsl, hce] at hw
      exact hw
    · cases h
  · cases h

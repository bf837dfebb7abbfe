theorem x_kd_sz0 : ∀ q ∈ x_nms, (x_kd q.1).2 ≤ 2000 := by decide +kernel
theorem x_kd_sz {c j n : Nat} (h : (c, j) ∈ x_nms.take n) : (x_kd c).2 ≤ 2000 := x_kd_sz0 _ (x_take_mem h)
theorem x_en_1 {dA : Nat → ClassId} {α : Nat → Nat → Nat} {k : x_K} {σ : x_S} {c j : Nat} (h : (x_kd c).1 = 1) : x_en dA α k σ c j = .inl (dA 0, (x_kd c).2, .inl (fun i => Int32.ofInt (σ c j i))) := by simp only [x_en, h]
theorem x_en_2 {dA : Nat → ClassId} {α : Nat → Nat → Nat} {k : x_K} {σ : x_S} {c j : Nat} (h : (x_kd c).1 = 2) : x_en dA α k σ c j = .inl (dA 1, (x_kd c).2, .inr (.inl (fun i => Int64.ofInt (σ c j i)))) := by simp only [x_en, h]
theorem x_en_3 {dA : Nat → ClassId} {α : Nat → Nat → Nat} {k : x_K} {σ : x_S} {c j : Nat} (h : (x_kd c).1 = 3) : x_en dA α k σ c j = .inl (dA 2, (x_kd c).2, .inl (fun i => Int32.ofInt (σ c j i))) := by simp only [x_en, h]
theorem x_en_4 {dA : Nat → ClassId} {α : Nat → Nat → Nat} {k : x_K} {σ : x_S} {c j : Nat} (h : (x_kd c).1 = 4) : x_en dA α k σ c j = .inl (dA 3, (x_kd c).2, .inl (fun i => Int32.ofInt (σ c j i))) := by simp only [x_en, h]
theorem x_en_5 {dA : Nat → ClassId} {α : Nat → Nat → Nat} {k : x_K} {σ : x_S} {c j : Nat} (h : (x_kd c).1 = 5) : x_en dA α k σ c j = .inl (dA 4, (x_kd c).2, .inr (.inr (.inr (.inr (fun i => if x_flg k c i j = true then some (α 20 (i + 2)) else none))))) := by simp only [x_en, h]
theorem x_upd {σ : x_S} {c j : Nat} {i v : Int} (h : 0 ≤ i) : upd (fun n : Nat => Int32.ofInt (σ c j n)) i.toNat (Int32.ofInt v) = fun n : Nat => Int32.ofInt (x_st σ c j i v c j n) := by
  funext n
  simp only [upd, x_st_eq]
  by_cases e : n = i.toNat
  · have e2 : (n : Int) = i := by omega
    rw [if_pos e, if_pos e2]
  · have e2 : ¬ (n : Int) = i := by omega
    rw [if_neg e, if_neg e2]
theorem x_updL {σ : x_S} {c j : Nat} {i v : Int} (h : 0 ≤ i) : vp_updL (fun n : Nat => Int64.ofInt (σ c j n)) i.toNat (Int64.ofInt v) = fun n : Nat => Int64.ofInt (x_st σ c j i v c j n) := by
  funext n
  simp only [vp_updL, x_st_eq]
  by_cases e : n = i.toNat
  · have e2 : (n : Int) = i := by omega
    rw [if_pos e, if_pos e2]
  · have e2 : ¬ (n : Int) = i := by omega
    rw [if_neg e, if_neg e2]
theorem s_iald : x_SND 46 o_iald (x_is .iaload) := by
  intro p l e R s mi args below meth c Q D dA A X α0 k0 m d pc a b cc ee L st k σ L' st' k' σ' C h hk hR hG H locs ls α hW hL hov hos hls
  obtain ⟨hx, hb, hml, hown, hts, hK, hE, hA, hin, hfr, hlo⟩ := C
  unfold o_iald at h
  split at h
  · rename_i i v w st0
    obtain ⟨-, hos1⟩ := x_ovs_cons.mp hos
    obtain ⟨hov1, hos2⟩ := x_ovs_cons.mp hos1
    split at h
    · rename_i hc
      cases h
      obtain ⟨hkd, h0, hn⟩ := hc
      obtain ⟨hm, hc⟩ := x_kd_a (by rw [hkd]; decide) hov1
      obtain ⟨q0, -, he⟩ := x_w_at (dA := dA) (α := α) (σ := σ) hm
      rw [x_en_1 hkd] at he
      obtain ⟨hix, hcl⟩ := x_n_ix h0 hn (by have := x_kd_sz hm; omega)
      have hcv : x_cv X α (Sum.inr (Sum.inr (Sum.inl (v, w)))) = .ref (α v w) := x_cv_r X α w hc
      rw [List.map_cons, List.map_cons, hcv]
      refine va_iald hx hb hK hW.1 q0 0 he rfl hix (x_dec hk) ?_
      rw [hcl]
      have hw := hG H locs ls α hW hL hov (x_ovs_cons.mpr ⟨trivial, hos2⟩) hls
      rw [List.map_cons, x_cv_i] at hw
      simp only [Int.toNat_of_nonneg h0]
      exact hw
    · split at h
      · rename_i hc
        cases h
        obtain ⟨rfl, rfl, h0, hn⟩ := hc
        obtain ⟨-, -, -, -, -, ⟨hX, hbl, hbA, h3072⟩, -⟩ := hE
        have hI := hW.2.2.2.1
        rw [hI.2.2.1] at hn
        obtain ⟨hix, hcl⟩ := x_n_ix h0 hn (by omega)
        have hcv : x_cv X α (Sum.inr (Sum.inr (Sum.inl (100, 0)))) = .ref X.2.2.2.2.1 := rfl
        rw [List.map_cons, List.map_cons, hcv]
        refine va_sld hx hb hX hbl hbA hW.2.2.1 hix (x_dec hk) ?_
        rw [hcl, ← hI.2.2.2 i.toNat (by omega), Int.toNat_of_nonneg h0]
        exact hG H locs ls α hW hL hov (x_ovs_cons.mpr ⟨trivial, hos2⟩) hls
      · cases h
  · cases h
theorem s_lald : x_SND 47 o_lald (x_is .laload) := by
  intro p l e R s mi args below meth c Q D dA A X α0 k0 m d pc a b cc ee L st k σ L' st' k' σ' C h hk hR hG H locs ls α hW hL hov hos hls
  obtain ⟨hx, hb, hml, hown, hts, hK, hE, hA, hin, hfr, hlo⟩ := C
  unfold o_lald at h
  split at h
  · rename_i i v w st0
    obtain ⟨-, hos1⟩ := x_ovs_cons.mp hos
    obtain ⟨hov1, hos2⟩ := x_ovs_cons.mp hos1
    split at h
    · rename_i hc
      cases h
      obtain ⟨hkd, h0, hn⟩ := hc
      obtain ⟨hm, hc⟩ := x_kd_a (by rw [hkd]; decide) hov1
      obtain ⟨q0, -, he⟩ := x_w_at (dA := dA) (α := α) (σ := σ) hm
      rw [x_en_2 hkd] at he
      obtain ⟨hix, hcl⟩ := x_n_ix h0 hn (by have := x_kd_sz hm; omega)
      have hcv : x_cv X α (Sum.inr (Sum.inr (Sum.inl (v, w)))) = .ref (α v w) := x_cv_r X α w hc
      rw [List.map_cons, List.map_cons, hcv]
      refine va_lald hx hb hK hW.1 q0 1 he rfl hix (x_dec hk) ?_
      rw [hcl]
      have hw := hG H locs ls α hW hL hov (x_ovs_cons.mpr ⟨trivial, hos2⟩) hls
      rw [List.map_cons, x_cv_j] at hw
      simp only [Int.toNat_of_nonneg h0]
      exact hw
    · split at h
      · rename_i hc
        cases h
        obtain ⟨rfl, h0, hn⟩ := hc
        obtain ⟨-, -, hT, -⟩ := hE
        obtain ⟨hix, hcl⟩ := x_n_ix (n := 5) h0 hn (by omega)
        have hcv : x_cv X α (Sum.inr (Sum.inr (Sum.inl (103, w)))) = .ref X.2.2.1 := rfl
        rw [List.map_cons, List.map_cons, hcv]
        refine va_tl hx hb hT hW.2.2.1 hix rfl (x_dec hk) ?_
        rw [hcl, Int.toNat_of_nonneg h0]
        exact hG H locs ls α hW hL hov (x_ovs_cons.mpr ⟨trivial, hos2⟩) hls
      · cases h
  · cases h
theorem x_sln_eq : ∀ j, j < 28 → (x_lns.getD j 0 : Int) = x_sln j ∧ x_lns.getD j 0 < 100 := by decide +kernel
theorem x_byt_eq : ∀ j, j < 28 → ∀ i, i < x_lns.getD j 0 → (x_byt.getD j []).getD i 0 = Int32.ofInt (x_chr j i) := by decide +kernel
theorem s_bald : x_SND 48 o_bald (x_is .baload) := by
  intro p l e R s mi args below meth c Q D dA A X α0 k0 m d pc a b cc ee L st k σ L' st' k' σ' C h hk hR hG H locs ls α hW hL hov hos hls
  obtain ⟨hx, hb, hml, hown, hts, hK, hE, hA, hin, hfr, hlo⟩ := C
  unfold o_bald at h
  split at h
  · rename_i i v w st0
    obtain ⟨-, hos1⟩ := x_ovs_cons.mp hos
    obtain ⟨hov1, hos2⟩ := x_ovs_cons.mp hos1
    split at h
    · rename_i hc
      cases h
      obtain ⟨hkd, h0, hn⟩ := hc
      obtain ⟨hm, hc⟩ := x_kd_a (by rcases hkd with h | h <;> rw [h] <;> decide) hov1
      obtain ⟨q0, -, he⟩ := x_w_at (dA := dA) (α := α) (σ := σ) hm
      obtain ⟨hix, hcl⟩ := x_n_ix h0 hn (by have := x_kd_sz hm; omega)
      have hcv : x_cv X α (Sum.inr (Sum.inr (Sum.inl (v, w)))) = .ref (α v w) := x_cv_r X α w hc
      have hw := hG H locs ls α hW hL hov (x_ovs_cons.mpr ⟨trivial, hos2⟩) hls
      rw [List.map_cons, x_cv_i] at hw
      rw [List.map_cons, List.map_cons, hcv]
      rcases hkd with hkd | hkd
      · rw [x_en_3 hkd] at he
        refine va_bald hx hb hK hW.1 q0 2 he rfl hix (x_dec hk) ?_
        rw [hcl]
        simp only [Int.toNat_of_nonneg h0]
        exact hw
      · rw [x_en_4 hkd] at he
        refine va_zald hx hb hK hW.1 q0 3 he rfl hix (x_dec hk) ?_
        rw [hcl]
        simp only [Int.toNat_of_nonneg h0]
        exact hw
    · split at h
      · rename_i hc
        cases h
        obtain ⟨rfl, hj, h0, hn⟩ := hc
        obtain ⟨hS, -⟩ := hE
        obtain ⟨e1, e2⟩ := x_sln_eq w hj
        rw [← e1] at hn
        obtain ⟨hix, hcl⟩ := x_n_ix h0 hn (by omega)
        have hcv : x_cv X α (Sum.inr (Sum.inr (Sum.inl (102, w)))) = .ref (X.2.1 w) := rfl
        rw [List.map_cons, List.map_cons, hcv]
        refine va_tb hx hb (hS w hj).2.2.2 hW.2.2.1 hix rfl (x_dec hk) ?_
        rw [hcl, x_byt_eq w hj i.toNat (by omega), Int.toNat_of_nonneg h0]
        exact hG H locs ls α hW hL hov (x_ovs_cons.mpr ⟨trivial, hos2⟩) hls
      · cases h
  · cases h
theorem s_aald : x_SND 49 o_aald (x_is .aaload) := by
  intro p l e R s mi args below meth c Q D dA A X α0 k0 m d pc a b cc ee L st k σ L' st' k' σ' C h hk hR hG H locs ls α hW hL hov hos hls
  obtain ⟨hx, hb, hml, hown, hts, hK, hE, hA, hin, hfr, hlo⟩ := C
  unfold o_aald at h
  split at h
  · rename_i i v w st0
    obtain ⟨-, hos1⟩ := x_ovs_cons.mp hos
    obtain ⟨hov1, hos2⟩ := x_ovs_cons.mp hos1
    split at h
    · rename_i hc
      cases h
      obtain ⟨rfl, rfl, h0, hn, hfl⟩ := hc
      obtain ⟨hm, hc⟩ := x_kd_a (by decide) hov1
      obtain ⟨q0, -, he⟩ := x_w_at (dA := dA) (α := α) (σ := σ) hm
      rw [x_en_5 rfl] at he
      obtain ⟨hix, hcl⟩ := x_n_ix (n := 3) h0 hn (by omega)
      have hcv : x_cv X α (Sum.inr (Sum.inr (Sum.inl (23, 0)))) = .ref (α 23 0) := rfl
      rw [List.map_cons, List.map_cons, hcv]
      refine va_aldq hx hb hK hW.1 q0 4 he rfl hix (x_dec hk) ?_
      rw [hcl]
      simp only [hfl, if_true]
      have ht := (hW.2.2.2.1.2.1 _ (x_flg_mem.mp hfl)).1
      simp only [x_tgt, if_true] at ht
      exact hG H locs ls α hW hL hov (x_ovs_cons.mpr ⟨Or.inl ht, hos2⟩) hls
    · cases h
  · cases h
theorem s_iast : x_SND 50 o_iast (x_is .iastore) := by
  intro p l e R s mi args below meth c Q D dA A X α0 k0 m d pc a b cc ee L st k σ L' st' k' σ' C h hk hR hG H locs ls α hW hL hov hos hls
  obtain ⟨hx, hb, hml, hown, hts, hK, hE, hA, hin, hfr, hlo⟩ := C
  unfold o_iast at h
  split at h
  · rename_i z i v w st0
    obtain ⟨-, hos1⟩ := x_ovs_cons.mp hos
    obtain ⟨-, hos2⟩ := x_ovs_cons.mp hos1
    obtain ⟨hov1, hos3⟩ := x_ovs_cons.mp hos2
    split at h
    · rename_i hc
      cases h
      obtain ⟨hkd, h0, hn⟩ := hc
      obtain ⟨hm, hc⟩ := x_kd_a (by rw [hkd]; decide) hov1
      obtain ⟨q0, hq0, he⟩ := x_w_at (dA := dA) (α := α) (σ := σ) hm
      rw [x_en_1 hkd] at he
      obtain ⟨hix, hcl⟩ := x_n_ix h0 hn (by have := x_kd_sz hm; omega)
      have hcv : x_cv X α (Sum.inr (Sum.inr (Sum.inl (v, w)))) = .ref (α v w) := x_cv_r X α w hc
      rw [List.map_cons, List.map_cons, List.map_cons, hcv]
      refine va_iast hx hb hK hW.1 hW.2.1 hW.2.2.1 q0 0 he rfl hix (x_dec hk) (fun H1 locs1 hP1 hD1 hS1 => ?_)
      rw [hcl, x_upd h0, ← x_en_1 (dA := dA) (α := α) (k := k) (σ := x_st σ v w i z) hkd, x_w_set rfl hq0 (fun c' j' hne => x_en_congr (x_st_ne hne) (fun _ => rfl))] at hP1 hD1
      exact hG H1 locs1 ls α ⟨hP1, hD1, hS1, x_In_st hc hW.2.2.2.1, hW.2.2.2.2.1, hW.2.2.2.2.2⟩ hL hov hos3 hls
    · cases h
  · cases h
theorem s_last : x_SND 51 o_last (x_is .lastore) := by
  intro p l e R s mi args below meth c Q D dA A X α0 k0 m d pc a b cc ee L st k σ L' st' k' σ' C h hk hR hG H locs ls α hW hL hov hos hls
  obtain ⟨hx, hb, hml, hown, hts, hK, hE, hA, hin, hfr, hlo⟩ := C
  unfold o_last at h
  split at h
  · rename_i z i v w st0
    obtain ⟨-, hos1⟩ := x_ovs_cons.mp hos
    obtain ⟨-, hos2⟩ := x_ovs_cons.mp hos1
    obtain ⟨hov1, hos3⟩ := x_ovs_cons.mp hos2
    split at h
    · rename_i hc
      cases h
      obtain ⟨hkd, h0, hn⟩ := hc
      obtain ⟨hm, hc⟩ := x_kd_a (by rw [hkd]; decide) hov1
      obtain ⟨q0, hq0, he⟩ := x_w_at (dA := dA) (α := α) (σ := σ) hm
      rw [x_en_2 hkd] at he
      obtain ⟨hix, hcl⟩ := x_n_ix h0 hn (by have := x_kd_sz hm; omega)
      have hcv : x_cv X α (Sum.inr (Sum.inr (Sum.inl (v, w)))) = .ref (α v w) := x_cv_r X α w hc
      rw [List.map_cons, List.map_cons, List.map_cons, hcv]
      refine va_last hx hb hK hW.1 hW.2.1 hW.2.2.1 q0 1 he rfl hix (x_dec hk) (fun H1 locs1 hP1 hD1 hS1 => ?_)
      rw [hcl, x_updL h0, ← x_en_2 (dA := dA) (α := α) (k := k) (σ := x_st σ v w i z) hkd, x_w_set rfl hq0 (fun c' j' hne => x_en_congr (x_st_ne hne) (fun _ => rfl))] at hP1 hD1
      exact hG H1 locs1 ls α ⟨hP1, hD1, hS1, x_In_st hc hW.2.2.2.1, hW.2.2.2.2.1, hW.2.2.2.2.2⟩ hL hov hos3 hls
    · cases h
  · cases h
theorem x_nar_b {v : Int} (h1 : -128 ≤ v) (h2 : v < 128) : vp_nar .byte (Int32.ofInt v) = Int32.ofInt v := by
  rw [vp_nar_byte, x_n_i2b]
  congr 1
  exact Int.bmod_eq_of_le (by omega) (by omega)
theorem x_nar_z {v : Int} (h : v = 0 ∨ v = 1) : vp_nar .boolean (Int32.ofInt v) = Int32.ofInt v := by
  rcases h with rfl | rfl <;> rfl
theorem s_bast : x_SND 52 o_bast (x_is .bastore) := by
  intro p l e R s mi args below meth c Q D dA A X α0 k0 m d pc a b cc ee L st k σ L' st' k' σ' C h hk hR hG H locs ls α hW hL hov hos hls
  obtain ⟨hx, hb, hml, hown, hts, hK, hE, hA, hin, hfr, hlo⟩ := C
  unfold o_bast at h
  split at h
  · rename_i z i v w st0
    obtain ⟨-, hos1⟩ := x_ovs_cons.mp hos
    obtain ⟨-, hos2⟩ := x_ovs_cons.mp hos1
    obtain ⟨hov1, hos3⟩ := x_ovs_cons.mp hos2
    split at h
    · rename_i hc
      cases h
      obtain ⟨hkd, h0, hn⟩ := hc
      obtain ⟨hm, hc⟩ := x_kd_a (by rcases hkd with h | h <;> rw [h.1] <;> decide) hov1
      obtain ⟨q0, hq0, he⟩ := x_w_at (dA := dA) (α := α) (σ := σ) hm
      obtain ⟨hix, hcl⟩ := x_n_ix h0 hn (by have := x_kd_sz hm; omega)
      have hcv : x_cv X α (Sum.inr (Sum.inr (Sum.inl (v, w)))) = .ref (α v w) := x_cv_r X α w hc
      rw [List.map_cons, List.map_cons, List.map_cons, hcv]
      rcases hkd with ⟨hkd, hz⟩ | ⟨hkd, hz⟩
      · rw [x_en_3 hkd] at he
        refine va_bast hx hb hK hW.1 hW.2.1 hW.2.2.1 q0 2 he rfl hix (x_dec hk) (fun H1 locs1 hP1 hD1 hS1 => ?_)
        rw [hcl, x_nar_b hz.1 hz.2, x_upd h0, ← x_en_3 (dA := dA) (α := α) (k := k) (σ := x_st σ v w i z) hkd, x_w_set rfl hq0 (fun c' j' hne => x_en_congr (x_st_ne hne) (fun _ => rfl))] at hP1 hD1
        exact hG H1 locs1 ls α ⟨hP1, hD1, hS1, x_In_st hc hW.2.2.2.1, hW.2.2.2.2.1, hW.2.2.2.2.2⟩ hL hov hos3 hls
      · rw [x_en_4 hkd] at he
        refine va_zast hx hb hK hW.1 hW.2.1 hW.2.2.1 q0 3 he rfl hix (x_dec hk) (fun H1 locs1 hP1 hD1 hS1 => ?_)
        rw [hcl, x_nar_z hz, x_upd h0, ← x_en_4 (dA := dA) (α := α) (k := k) (σ := x_st σ v w i z) hkd, x_w_set rfl hq0 (fun c' j' hne => x_en_congr (x_st_ne hne) (fun _ => rfl))] at hP1 hD1
        exact hG H1 locs1 ls α ⟨hP1, hD1, hS1, x_In_st hc hW.2.2.2.1, hW.2.2.2.2.1, hW.2.2.2.2.2⟩ hL hov hos3 hls
    · cases h
  · cases h
theorem s_alen : x_SND 54 o_alen (x_is .arraylength) := by
  intro p l e R s mi args below meth c Q D dA A X α0 k0 m d pc a b cc ee L st k σ L' st' k' σ' C h hk hR hG H locs ls α hW hL hov hos hls
  obtain ⟨hx, hb, hml, hown, hts, hK, hE, hA, hin, hfr, hlo⟩ := C
  unfold o_alen at h
  split at h
  · rename_i v w st0
    obtain ⟨hov1, hos1⟩ := x_ovs_cons.mp hos
    split at h
    · rename_i hc
      cases h
      obtain ⟨hm, hc2⟩ := x_kd_a hc hov1
      obtain ⟨q0, -, he⟩ := x_w_at (dA := dA) (α := α) (σ := σ) hm
      have hcv : x_cv X α (Sum.inr (Sum.inr (Sum.inl (v, w)))) = .ref (α v w) := x_cv_r X α w hc2
      rw [List.map_cons, hcv]
      have hw := hG H locs ls α hW hL hov (x_ovs_cons.mpr ⟨trivial, hos1⟩) hls
      rw [List.map_cons, x_cv_i] at hw
      have e1 : Int32.ofNat (x_kd v).2 = Int32.ofInt ((x_kd v).2 : Int) := Int32.ofInt_eq_ofNat.symm
      have h5 : (x_kd v).1 = 1 ∨ (x_kd v).1 = 2 ∨ (x_kd v).1 = 3 ∨ (x_kd v).1 = 4 ∨ (x_kd v).1 = 5 := by omega
      rcases h5 with h5 | h5 | h5 | h5 | h5
      · rw [x_en_1 h5] at he
        exact va_alen hx hb hK hW.1 q0 0 he rfl e1 (x_dec hk) hw
      · rw [x_en_2 h5] at he
        exact va_alen hx hb hK hW.1 q0 1 he rfl e1 (x_dec hk) hw
      · rw [x_en_3 h5] at he
        exact va_alen hx hb hK hW.1 q0 2 he rfl e1 (x_dec hk) hw
      · rw [x_en_4 h5] at he
        exact va_alen hx hb hK hW.1 q0 3 he rfl e1 (x_dec hk) hw
      · rw [x_en_5 h5] at he
        exact va_alen hx hb hK hW.1 q0 4 he rfl e1 (x_dec hk) hw
    · split at h
      · rename_i hc
        cases h
        obtain ⟨rfl, rfl⟩ := hc
        obtain ⟨-, -, -, -, -, ⟨hX, hbl, hbA, h3072⟩, -⟩ := hE
        have hcv : x_cv X α (Sum.inr (Sum.inr (Sum.inl (100, 0)))) = .ref X.2.2.2.2.1 := rfl
        rw [List.map_cons, hcv]
        refine va_slen hx hb hX hbl hbA hW.2.2.1 (x_dec hk) ?_
        have hw := hG H locs ls α hW hL hov (x_ovs_cons.mpr ⟨trivial, hos1⟩) hls
        rw [List.map_cons, x_cv_i, hW.2.2.2.1.2.2.1, Int32.ofInt_eq_ofNat] at hw
        exact hw
      · split at h
        · rename_i hc
          cases h
          obtain ⟨rfl, hj⟩ := hc
          obtain ⟨hS, -⟩ := hE
          obtain ⟨e1, e2⟩ := x_sln_eq w hj
          have hcv : x_cv X α (Sum.inr (Sum.inr (Sum.inl (102, w)))) = .ref (X.2.1 w) := rfl
          rw [List.map_cons, hcv]
          refine va_tlen hx hb (hS w hj).2.2.2 hW.2.2.1 (Int32.ofInt_eq_ofNat.symm) (x_dec hk) ?_
          rw [e1]
          exact hG H locs ls α hW hL hov (x_ovs_cons.mpr ⟨trivial, hos1⟩) hls
        · cases h
  · cases h

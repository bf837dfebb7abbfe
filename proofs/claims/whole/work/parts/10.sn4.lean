theorem x_clb_at : ∀ b, b < 10 → x_cl[b]? = some (x_clb b) := by
  intro b hb
  have : b = 0 ∨ b = 1 ∨ b = 2 ∨ b = 3 ∨ b = 4 ∨ b = 5 ∨ b = 6 ∨ b = 7 ∨ b = 8 ∨ b = 9 := by omega
  rcases this with rfl | rfl | rfl | rfl | rfl | rfl | rfl | rfl | rfl | rfl <;> rfl
def x_cls_ok (b : Nat) : Bool := decide ((u_ws (x_clb b).1 (x_clb b).2.1 (x_clb b).2.2).map some = ((x_cps.getD b (0, 0, [])).2.2.map (fun e => lw_tbl[e]?))) && (u_ws (x_clb b).1 (x_clb b).2.1 (x_clb b).2.2).all goodWord && x_tb (x_cps.getD b (0, 0, [])).1 (.instantiable (x_clb b).1 (x_clb b).2.2) && x_tb (x_cps.getD b (0, 0, [])).2.1 (.initialized (x_clb b).1) &&
  decide (∀ f, f < (x_clb b).2.2 → ((x_clb b).2.1 f).1 = (x_clb b).1 ∧ parseFieldDescriptor ((x_clb b).2.1 f).2.2.1 = some (x_fty b f)) && decide (∀ f, f < (x_clb b).2.2 → ∀ g, g < (x_clb b).2.2 → f ≠ g → ((x_clb b).2.1 f).2.1 ≠ ((x_clb b).2.1 g).2.1)
set_option maxRecDepth 100000 in
theorem x_cls_ok_0 : x_cls_ok 0 = true := by decide +kernel
set_option maxRecDepth 100000 in
theorem x_cls_ok_1 : x_cls_ok 1 = true := by decide +kernel
set_option maxRecDepth 100000 in
theorem x_cls_ok_2 : x_cls_ok 2 = true := by decide +kernel
set_option maxRecDepth 100000 in
theorem x_cls_ok_3 : x_cls_ok 3 = true := by decide +kernel
set_option maxRecDepth 100000 in
theorem x_cls_ok_4 : x_cls_ok 4 = true := by decide +kernel
set_option maxRecDepth 100000 in
theorem x_cls_ok_5 : x_cls_ok 5 = true := by decide +kernel
set_option maxRecDepth 100000 in
theorem x_cls_ok_6 : x_cls_ok 6 = true := by decide +kernel
set_option maxRecDepth 100000 in
theorem x_cls_ok_7 : x_cls_ok 7 = true := by decide +kernel
set_option maxRecDepth 100000 in
theorem x_cls_ok_8 : x_cls_ok 8 = true := by decide +kernel
set_option maxRecDepth 100000 in
theorem x_cls_ok_9 : x_cls_ok 9 = true := by decide +kernel
theorem x_cls_oks : ∀ b, b < 10 → x_cls_ok b = true := by
  intro b hb
  have : b = 0 ∨ b = 1 ∨ b = 2 ∨ b = 3 ∨ b = 4 ∨ b = 5 ∨ b = 6 ∨ b = 7 ∨ b = 8 ∨ b = 9 := by omega
  rcases this with rfl | rfl | rfl | rfl | rfl | rfl | rfl | rfl | rfl | rfl
  · exact x_cls_ok_0
  · exact x_cls_ok_1
  · exact x_cls_ok_2
  · exact x_cls_ok_3
  · exact x_cls_ok_4
  · exact x_cls_ok_5
  · exact x_cls_ok_6
  · exact x_cls_ok_7
  · exact x_cls_ok_8
  · exact x_cls_ok_9
theorem x_cfacts {b : Nat} (hb : b < 10) : (∀ w ∈ u_ws (x_clb b).1 (x_clb b).2.1 (x_clb b).2.2, w ∈ x_TB) ∧ Cond.instantiable (x_clb b).1 (x_clb b).2.2 ∈ x_TB ∧ Cond.initialized (x_clb b).1 ∈ x_TB ∧
    (∀ f, f < (x_clb b).2.2 → ((x_clb b).2.1 f).1 = (x_clb b).1 ∧ parseFieldDescriptor ((x_clb b).2.1 f).2.2.1 = some (x_fty b f)) ∧ (∀ f, f < (x_clb b).2.2 → ∀ g, g < (x_clb b).2.2 → f ≠ g → ((x_clb b).2.1 f).2.1 ≠ ((x_clb b).2.1 g).2.1) := by
  have h := x_cls_oks b hb
  unfold x_cls_ok at h
  simp only [Bool.and_eq_true] at h
  obtain ⟨⟨⟨⟨⟨h1, h2⟩, h3⟩, h4⟩, h5⟩, h6⟩ := h
  have h1 := of_decide_eq_true h1
  refine ⟨fun w hw => List.mem_filter.mpr ⟨?_, List.all_eq_true.mp h2 w hw⟩, x_tb_TB h3 rfl, x_tb_TB h4 rfl, of_decide_eq_true h5, of_decide_eq_true h6⟩
  have hm : some w ∈ (u_ws (x_clb b).1 (x_clb b).2.1 (x_clb b).2.2).map some := List.mem_map.mpr ⟨w, hw, rfl⟩
  rw [h1] at hm
  obtain ⟨e, -, he⟩ := List.mem_map.mp hm
  exact List.mem_of_getElem? he
theorem x_en_o {dA : Nat → ClassId} {α : Nat → Nat → Nat} {k : x_K} {σ : x_S} {c j b : Nat} (h : x_kd c = (0, b)) : x_en dA α k σ c j = .inr (b, (List.range (x_clb b).2.2).map (x_fv α k σ c j b)) := by
  simp only [x_en, h, x_nf]
theorem x_fs_at {α : Nat → Nat → Nat} {k : x_K} {σ : x_S} {c j b f n : Nat} (h : f < n) : ((List.range n).map (x_fv α k σ c j b))[f]? = some (x_fv α k σ c j b f) := by
  rw [List.getElem?_map, List.getElem?_range h]
  rfl
theorem x_fs_set {α : Nat → Nat → Nat} {k k' : x_K} {σ σ' : x_S} {c j b f n : Nat} (h : f < n) (ho : ∀ g, g ≠ f → x_fv α k' σ' c j b g = x_fv α k σ c j b g) :
    ((List.range n).map (x_fv α k σ c j b)).set f (x_fv α k' σ' c j b f) = (List.range n).map (x_fv α k' σ' c j b) := by
  apply List.ext_getElem?
  intro i
  by_cases e : i = f
  · subst e
    rw [List.getElem?_set_self (by simpa using h), x_fs_at h]
  · rw [List.getElem?_set_ne (Ne.symm e), List.getElem?_map, List.getElem?_map]
    cases hi : (List.range n)[i]? with
    | none => rfl
    | some g =>
      have hg : g = i := by
        obtain ⟨_, h2⟩ := List.getElem?_eq_some_iff.mp hi
        simpa using h2.symm
      subst hg
      simp only [Option.map_some]
      rw [ho g e]
theorem x_kd_c {c b : Nat} {k : x_K} {j : Nat} (h : x_kd c = (0, b)) (hv : x_ov k (xR c j)) : (c, j) ∈ x_nms.take k.1 ∧ c < 100 := by
  rcases hv with hv | hv
  · exact ⟨hv, (x_nms_ok _ (x_take_mem hv)).1⟩
  · exfalso
    have : c = 100 ∨ c = 101 ∨ c = 102 ∨ c = 103 ∨ c = 104 := by omega
    have h0 : (x_kd c).1 = 0 := congrArg Prod.fst h
    rcases this with rfl | rfl | rfl | rfl | rfl <;> exact absurd h0 (by decide)
theorem x_kd_a {c : Nat} {k : x_K} {j : Nat} (h : 1 ≤ (x_kd c).1 ∧ (x_kd c).1 ≤ 5) (hv : x_ov k (xR c j)) : (c, j) ∈ x_nms.take k.1 ∧ c < 100 := by
  rcases hv with hv | hv
  · exact ⟨hv, (x_nms_ok _ (x_take_mem hv)).1⟩
  · exfalso
    have : c = 100 ∨ c = 101 ∨ c = 102 ∨ c = 103 ∨ c = 104 := by omega
    rcases this with rfl | rfl | rfl | rfl | rfl <;> exact absurd h (by decide)
theorem x_st_100 {σ : x_S} {c j : Nat} {i v : Int} (h : c < 100) (j' : Nat) (i' : Int) : x_st σ c j i v 100 j' i' = σ 100 j' i' := x_st_ne (fun z => by have := congrArg Prod.fst z; simp at this; omega) i'
theorem x_In_st {X : x_X} {k : x_K} {σ : x_S} {c j : Nat} {i v : Int} (h : c < 100) (hI : x_In X k σ) : x_In X k (x_st σ c j i v) := by
  refine ⟨hI.1, hI.2.1, ?_, fun n hn => ?_⟩
  · rw [x_st_100 h]; exact hI.2.2.1
  · rw [x_st_100 h]; exact hI.2.2.2 n hn
theorem s_geti : x_SND 39 o_geti (x_kg 0) := by
  intro p l e R s mi args below meth c Q D dA A X α0 k0 m d pc a b cc ee L st k σ L' st' k' σ' C h hk hR hG H locs ls α hW hL hov hos hls
  obtain ⟨hx, hb, hml, hown, hts, hK, hE, hA, hin, hfr, hlo⟩ := C
  unfold o_geti at h
  split at h
  · split at h
    · rename_i v w st0 hkd
      cases h
      unfold x_kg at hk
      simp only [Bool.and_eq_true] at hk
      obtain ⟨⟨⟨⟨h1, h2⟩, h3⟩, h4⟩, h5⟩ := hk
      have h3 := of_decide_eq_true h3
      have h4 := of_decide_eq_true h4
      obtain ⟨hov1, hos⟩ := x_ovs_cons.mp hos
      obtain ⟨hm, hc⟩ := x_kd_c hkd hov1
      obtain ⟨q0, -, he⟩ := x_w_at (dA := dA) (α := α) (σ := σ) hm
      rw [x_en_o hkd] at he
      obtain ⟨hlay, -, -, hf, -⟩ := x_cfacts h4
      have hv : x_fv α k σ v w b cc = .int (Int32.ofInt (σ v w cc)) := by
        have ht := of_decide_eq_true h5
        rcases ht with ht | ht <;> simp only [x_fv, ht]
      have hcv : x_cv X α (Sum.inr (Sum.inr (Sum.inl (v, w)))) = .ref (α v w) := x_cv_r X α w hc
      rw [List.map_cons, hcv]
      refine va_get (D := D) (ci := b) hx hb hts hlay hown hK hW.1 q0 he (x_clb_at b h4) cc h3 (hts _ (x_tb_TB h2 rfl)) (fun x hx2 => by rw [(hf cc h3).1] at hx2; exact hx2) (x_fs_at h3) (x_dec h1) ?_
      rw [hv]
      exact hG H locs ls α hW hL hov (x_ovs_cons.mpr ⟨trivial, hos⟩) hls
    · cases h
  · cases h
theorem s_getj : x_SND 40 o_getj (x_kg 1) := by
  intro p l e R s mi args below meth c Q D dA A X α0 k0 m d pc a b cc ee L st k σ L' st' k' σ' C h hk hR hG H locs ls α hW hL hov hos hls
  obtain ⟨hx, hb, hml, hown, hts, hK, hE, hA, hin, hfr, hlo⟩ := C
  unfold o_getj at h
  split at h
  · split at h
    · rename_i v w st0 hkd
      cases h
      unfold x_kg at hk
      simp only [Bool.and_eq_true] at hk
      obtain ⟨⟨⟨⟨h1, h2⟩, h3⟩, h4⟩, h5⟩ := hk
      have h3 := of_decide_eq_true h3
      have h4 := of_decide_eq_true h4
      obtain ⟨hov1, hos⟩ := x_ovs_cons.mp hos
      obtain ⟨hm, hc⟩ := x_kd_c hkd hov1
      obtain ⟨q0, -, he⟩ := x_w_at (dA := dA) (α := α) (σ := σ) hm
      rw [x_en_o hkd] at he
      obtain ⟨hlay, -, -, hf, -⟩ := x_cfacts h4
      have hv : x_fv α k σ v w b cc = .long (Int64.ofInt (σ v w cc)) := by
        have ht := of_decide_eq_true h5
        simp only [x_fv, ht]
      have hcv : x_cv X α (Sum.inr (Sum.inr (Sum.inl (v, w)))) = .ref (α v w) := x_cv_r X α w hc
      rw [List.map_cons, hcv]
      refine va_get (D := D) (ci := b) hx hb hts hlay hown hK hW.1 q0 he (x_clb_at b h4) cc h3 (hts _ (x_tb_TB h2 rfl)) (fun x hx2 => by rw [(hf cc h3).1] at hx2; exact hx2) (x_fs_at h3) (x_dec h1) ?_
      rw [hv]
      exact hG H locs ls α hW hL hov (x_ovs_cons.mpr ⟨trivial, hos⟩) hls
    · cases h
  · cases h
theorem s_getr : x_SND 41 o_getr (x_kg 2) := by
  intro p l e R s mi args below meth c Q D dA A X α0 k0 m d pc a b cc ee L st k σ L' st' k' σ' C h hk hR hG H locs ls α hW hL hov hos hls
  obtain ⟨hx, hb, hml, hown, hts, hK, hE, hA, hin, hfr, hlo⟩ := C
  unfold o_getr at h
  split at h
  · split at h
    · rename_i v w st0 hkd
      obtain ⟨hkd, hfl⟩ := hkd
      cases h
      unfold x_kg at hk
      simp only [Bool.and_eq_true] at hk
      obtain ⟨⟨⟨⟨h1, h2⟩, h3⟩, h4⟩, h5⟩ := hk
      have h3 := of_decide_eq_true h3
      have h4 := of_decide_eq_true h4
      obtain ⟨hov1, hos⟩ := x_ovs_cons.mp hos
      obtain ⟨hm, hc⟩ := x_kd_c hkd hov1
      obtain ⟨q0, -, he⟩ := x_w_at (dA := dA) (α := α) (σ := σ) hm
      rw [x_en_o hkd] at he
      obtain ⟨hlay, -, -, hf, -⟩ := x_cfacts h4
      have hv : x_fv α k σ v w b cc = .ref (α (x_rho v cc w).1 (x_rho v cc w).2) := by
        simp only [x_fit, x_isr] at h5
        simp only [x_fv, hfl]
        split at h5 <;> rename_i ht
        · simp only [ht, if_true]
        · simp only [ht, if_true]
        · cases h5
      have hne23 : v ≠ 23 := fun z => by
        have h0 : (x_kd v).1 = 0 := congrArg Prod.fst hkd
        rw [z] at h0
        exact absurd h0 (by decide)
      have ht := (hW.2.2.2.1.2.1 _ (x_flg_mem.mp hfl)).1
      simp only [x_tgt, hne23, if_false] at ht
      have hcv : x_cv X α (Sum.inr (Sum.inr (Sum.inl (v, w)))) = .ref (α v w) := x_cv_r X α w hc
      rw [List.map_cons, hcv]
      refine va_get (D := D) (ci := b) hx hb hts hlay hown hK hW.1 q0 he (x_clb_at b h4) cc h3 (hts _ (x_tb_TB h2 rfl)) (fun x hx2 => by rw [(hf cc h3).1] at hx2; exact hx2) (x_fs_at h3) (x_dec h1) ?_
      rw [hv]
      have hw := hG H locs ls α hW hL hov (x_ovs_cons.mpr ⟨Or.inl ht, hos⟩) hls
      rw [List.map_cons, x_cv_r X α _ (x_nms_ok _ (x_take_mem ht)).1] at hw
      exact hw
    · cases h
  · cases h
theorem s_puti : x_SND 42 o_puti (x_kp 3) := by
  intro p l e R s mi args below meth c Q D dA A X α0 k0 m d pc a b cc ee L st k σ L' st' k' σ' C h hk hR hG H locs ls α hW hL hov hos hls
  obtain ⟨hx, hb, hml, hown, hts, hK, hE, hA, hin, hfr, hlo⟩ := C
  unfold o_puti at h
  split at h
  · split at h
    · rename_i z v w st0 hkd
      skip
      cases h
      unfold x_kp at hk
      simp only [Bool.and_eq_true] at hk
      obtain ⟨⟨⟨⟨⟨h1, h2⟩, h3⟩, h4⟩, h5⟩, h6⟩ := hk
      have h3 := of_decide_eq_true h3
      have h4 := of_decide_eq_true h4
      have h5 := of_decide_eq_true h5
      have h6 := of_decide_eq_true h6
      obtain ⟨-, hos⟩ := x_ovs_cons.mp hos
      obtain ⟨hov1, hos⟩ := x_ovs_cons.mp hos
      obtain ⟨hm, hc⟩ := x_kd_c hkd hov1
      obtain ⟨q0, hq0, he⟩ := x_w_at (dA := dA) (α := α) (σ := σ) hm
      rw [x_en_o hkd] at he
      obtain ⟨hlay, -, -, hf, hnm⟩ := x_cfacts h4
      have hcv : x_cv X α (Sum.inr (Sum.inr (Sum.inl (v, w)))) = .ref (α v w) := x_cv_r X α w hc
      have hv : x_fv α k (x_st σ v w cc z) v w b cc = Value.int (Int32.ofInt z) := by
        simp only [x_fv, h5, x_st_eq, if_true]
      have hset : (x_w dA α k σ).set q0 (α v w, .inr (b, ((List.range (x_clb b).2.2).map (x_fv α k σ v w b)).set cc (Value.int (Int32.ofInt z)))) = x_w dA α k (x_st σ v w cc z) := by
        rw [← hv, x_fs_set h3 (fun g hg => ?_), ← x_en_o (dA := dA) hkd]
        · exact x_w_set rfl hq0 (fun c' j' hne => x_en_congr (x_st_ne hne) (fun _ => rfl))
        · have hg2 : ¬ ((g : Int) = (cc : Int)) := by omega
          simp only [x_fv, x_st_eq, hg2, if_false]
      rw [List.map_cons, List.map_cons, hcv]
      refine va_put (D := D) (ci := b) hx hb hts hlay (x_fty b) (fun f hf2 => (hf f hf2).2) hnm hown hK hW.1 hW.2.1 hW.2.2.1 q0 he (x_clb_at b h4) cc h3 (hts _ (x_tb_TB h2 rfl)) (fun x hx2 => by rw [(hf cc h3).1] at hx2; exact hx2) h6 (ty := .int) (by rw [(hf cc h3).2, h5]) rfl rfl (by simpa using h3) (x_dec h1) (fun H1 locs1 hP1 hD1 hS1 => ?_)
      have hP1 : va_P D x_cl ((x_w dA α k σ).set q0 (α v w, .inr (b, ((List.range (x_clb b).2.2).map (x_fv α k σ v w b)).set cc (Value.int (Int32.ofInt z))))) H1 := hP1
      have hD1 : va_D A ((x_w dA α k σ).set q0 (α v w, .inr (b, ((List.range (x_clb b).2.2).map (x_fv α k σ v w b)).set cc (Value.int (Int32.ofInt z))))) := hD1
      rw [hset] at hP1 hD1
      exact hG H1 locs1 ls α ⟨hP1, hD1, hS1, x_In_st hc hW.2.2.2.1, hW.2.2.2.2.1, hW.2.2.2.2.2⟩ hL hov hos hls
    · cases h
  · cases h
theorem s_putj : x_SND 43 o_putj (x_kp 1) := by
  intro p l e R s mi args below meth c Q D dA A X α0 k0 m d pc a b cc ee L st k σ L' st' k' σ' C h hk hR hG H locs ls α hW hL hov hos hls
  obtain ⟨hx, hb, hml, hown, hts, hK, hE, hA, hin, hfr, hlo⟩ := C
  unfold o_putj at h
  split at h
  · split at h
    · rename_i z v w st0 hkd
      skip
      cases h
      unfold x_kp at hk
      simp only [Bool.and_eq_true] at hk
      obtain ⟨⟨⟨⟨⟨h1, h2⟩, h3⟩, h4⟩, h5⟩, h6⟩ := hk
      have h3 := of_decide_eq_true h3
      have h4 := of_decide_eq_true h4
      have h5 := of_decide_eq_true h5
      have h6 := of_decide_eq_true h6
      obtain ⟨-, hos⟩ := x_ovs_cons.mp hos
      obtain ⟨hov1, hos⟩ := x_ovs_cons.mp hos
      obtain ⟨hm, hc⟩ := x_kd_c hkd hov1
      obtain ⟨q0, hq0, he⟩ := x_w_at (dA := dA) (α := α) (σ := σ) hm
      rw [x_en_o hkd] at he
      obtain ⟨hlay, -, -, hf, hnm⟩ := x_cfacts h4
      have hcv : x_cv X α (Sum.inr (Sum.inr (Sum.inl (v, w)))) = .ref (α v w) := x_cv_r X α w hc
      have hv : x_fv α k (x_st σ v w cc z) v w b cc = Value.long (Int64.ofInt z) := by
        simp only [x_fv, h5, x_st_eq, if_true]
      have hset : (x_w dA α k σ).set q0 (α v w, .inr (b, ((List.range (x_clb b).2.2).map (x_fv α k σ v w b)).set cc (Value.long (Int64.ofInt z)))) = x_w dA α k (x_st σ v w cc z) := by
        rw [← hv, x_fs_set h3 (fun g hg => ?_), ← x_en_o (dA := dA) hkd]
        · exact x_w_set rfl hq0 (fun c' j' hne => x_en_congr (x_st_ne hne) (fun _ => rfl))
        · have hg2 : ¬ ((g : Int) = (cc : Int)) := by omega
          simp only [x_fv, x_st_eq, hg2, if_false]
      rw [List.map_cons, List.map_cons, hcv]
      refine va_put (D := D) (ci := b) hx hb hts hlay (x_fty b) (fun f hf2 => (hf f hf2).2) hnm hown hK hW.1 hW.2.1 hW.2.2.1 q0 he (x_clb_at b h4) cc h3 (hts _ (x_tb_TB h2 rfl)) (fun x hx2 => by rw [(hf cc h3).1] at hx2; exact hx2) h6 (ty := .long) (by rw [(hf cc h3).2, h5]) rfl rfl (by simpa using h3) (x_dec h1) (fun H1 locs1 hP1 hD1 hS1 => ?_)
      have hP1 : va_P D x_cl ((x_w dA α k σ).set q0 (α v w, .inr (b, ((List.range (x_clb b).2.2).map (x_fv α k σ v w b)).set cc (Value.long (Int64.ofInt z))))) H1 := hP1
      have hD1 : va_D A ((x_w dA α k σ).set q0 (α v w, .inr (b, ((List.range (x_clb b).2.2).map (x_fv α k σ v w b)).set cc (Value.long (Int64.ofInt z))))) := hD1
      rw [hset] at hP1 hD1
      exact hG H1 locs1 ls α ⟨hP1, hD1, hS1, x_In_st hc hW.2.2.2.1, hW.2.2.2.2.1, hW.2.2.2.2.2⟩ hL hov hos hls
    · cases h
  · cases h
theorem s_putz : x_SND 45 o_putz (x_kp 4) := by
  intro p l e R s mi args below meth c Q D dA A X α0 k0 m d pc a b cc ee L st k σ L' st' k' σ' C h hk hR hG H locs ls α hW hL hov hos hls
  obtain ⟨hx, hb, hml, hown, hts, hK, hE, hA, hin, hfr, hlo⟩ := C
  unfold o_putz at h
  split at h
  · split at h
    · rename_i z v w st0 hkd
      obtain ⟨hkd, hz⟩ := hkd
      cases h
      unfold x_kp at hk
      simp only [Bool.and_eq_true] at hk
      obtain ⟨⟨⟨⟨⟨h1, h2⟩, h3⟩, h4⟩, h5⟩, h6⟩ := hk
      have h3 := of_decide_eq_true h3
      have h4 := of_decide_eq_true h4
      have h5 := of_decide_eq_true h5
      have h6 := of_decide_eq_true h6
      obtain ⟨-, hos⟩ := x_ovs_cons.mp hos
      obtain ⟨hov1, hos⟩ := x_ovs_cons.mp hos
      obtain ⟨hm, hc⟩ := x_kd_c hkd hov1
      obtain ⟨q0, hq0, he⟩ := x_w_at (dA := dA) (α := α) (σ := σ) hm
      rw [x_en_o hkd] at he
      obtain ⟨hlay, -, -, hf, hnm⟩ := x_cfacts h4
      have hcv : x_cv X α (Sum.inr (Sum.inr (Sum.inl (v, w)))) = .ref (α v w) := x_cv_r X α w hc
      have hv : x_fv α k (x_st σ v w cc z) v w b cc = Value.int (Int32.ofInt z) := by
        simp only [x_fv, h5, x_st_eq, if_true]
      have hset : (x_w dA α k σ).set q0 (α v w, .inr (b, ((List.range (x_clb b).2.2).map (x_fv α k σ v w b)).set cc (Value.int (Int32.ofInt z)))) = x_w dA α k (x_st σ v w cc z) := by
        rw [← hv, x_fs_set h3 (fun g hg => ?_), ← x_en_o (dA := dA) hkd]
        · exact x_w_set rfl hq0 (fun c' j' hne => x_en_congr (x_st_ne hne) (fun _ => rfl))
        · have hg2 : ¬ ((g : Int) = (cc : Int)) := by omega
          simp only [x_fv, x_st_eq, hg2, if_false]
      rw [List.map_cons, List.map_cons, hcv]
      refine va_put (D := D) (ci := b) hx hb hts hlay (x_fty b) (fun f hf2 => (hf f hf2).2) hnm hown hK hW.1 hW.2.1 hW.2.2.1 q0 he (x_clb_at b h4) cc h3 (hts _ (x_tb_TB h2 rfl)) (fun x hx2 => by rw [(hf cc h3).1] at hx2; exact hx2) h6 (ty := .boolean) (by rw [(hf cc h3).2, h5]) (by rcases hz with rfl | rfl <;> rfl) (by rcases hz with rfl | rfl <;> rfl) (by simpa using h3) (x_dec h1) (fun H1 locs1 hP1 hD1 hS1 => ?_)
      have hP1 : va_P D x_cl ((x_w dA α k σ).set q0 (α v w, .inr (b, ((List.range (x_clb b).2.2).map (x_fv α k σ v w b)).set cc (Value.int (Int32.ofInt z))))) H1 := hP1
      have hD1 : va_D A ((x_w dA α k σ).set q0 (α v w, .inr (b, ((List.range (x_clb b).2.2).map (x_fv α k σ v w b)).set cc (Value.int (Int32.ofInt z))))) := hD1
      rw [hset] at hP1 hD1
      exact hG H1 locs1 ls α ⟨hP1, hD1, hS1, x_In_st hc hW.2.2.2.1, hW.2.2.2.2.1, hW.2.2.2.2.2⟩ hL hov hos hls
    · cases h
  · cases h

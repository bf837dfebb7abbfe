theorem x_f4_val {b : Nat} (h : b < 4) : ((x_f4 b : Fin 4) : Nat) = b := by
  simp only [x_f4, Fin.ofNat]
  omega
theorem x_tb_in {e : Nat} {w : Jvm.Cond} (h : x_tb e w = true) : w ∈ lw_tbl := List.mem_of_getElem? (of_decide_eq_true h)
theorem x_tb_TB {e : Nat} {w : Jvm.Cond} (h : x_tb e w = true) (hg : goodWord w = true) : w ∈ x_TB := List.mem_filter.mpr ⟨x_tb_in h, hg⟩
theorem x_ov_get {k : x_K} {L : List x_V} (h : x_ovs k L) {b : Nat} (hne : x_get L b ≠ xU) : x_ov k (x_get L b) := h _ (x_get_mem L b hne)
theorem x_ovs_set {k : x_K} {L : List x_V} (h : x_ovs k L) {b : Nat} {v : x_V} (hv : x_ov k v) : x_ovs k (x_set L b v) := fun w hw => by
  rcases x_set_mem L b v w hw with rfl | rfl | hw
  · exact hv
  · trivial
  · exact h w hw
theorem x_ovs_un {k : x_K} {L : List x_V} (h : x_ovs k L) {b : Nat} : x_ovs k (x_un1 L b) := fun w hw => by
  rcases x_un_mem L b w hw with rfl | hw
  · trivial
  · exact h w hw
theorem s_ic : x_SND 0 o_ic k_ic := by
  intro p l e R s mi args below meth c Q D dA A X α0 k0 m d pc a b cc ee L st k σ L' st' k' σ' C h hk hR hG H locs ls α hW hL hov hos hls
  obtain ⟨hx, hb, hml, hown, hts, hK, hE, hA, hin, hfr, hlo⟩ := C
  cases h
  unfold k_ic at hk
  split at hk
  · exact lv_iconst hx hb (x_dec hk) rfl (hG H locs ls α hW hL hov (x_ovs_cons.mpr ⟨trivial, hos⟩) hls)
  · rw [Bool.and_eq_true] at hk
    exact lv_bipush hx hb (x_dec hk.1) (of_decide_eq_true hk.2) (hG H locs ls α hW hL hov (x_ovs_cons.mpr ⟨trivial, hos⟩) hls)
  · rw [Bool.and_eq_true] at hk
    exact lv_sipush hx hb (x_dec hk.1) (of_decide_eq_true hk.2) (hG H locs ls α hW hL hov (x_ovs_cons.mpr ⟨trivial, hos⟩) hls)
  · rw [Bool.and_eq_true] at hk
    exact lv_ldc hx hb hown (hts _ (x_tb_TB hk.2 rfl)) (x_dec hk.1) (hG H locs ls α hW hL hov (x_ovs_cons.mpr ⟨trivial, hos⟩) hls)
  · rw [Bool.and_eq_true] at hk
    exact lv_ldcw hx hb hown (hts _ (x_tb_TB hk.2 rfl)) (x_dec hk.1) (hG H locs ls α hW hL hov (x_ovs_cons.mpr ⟨trivial, hos⟩) hls)
  · cases hk
theorem s_lc : x_SND 1 o_lc k_lc := by
  intro p l e R s mi args below meth c Q D dA A X α0 k0 m d pc a b cc ee L st k σ L' st' k' σ' C h hk hR hG H locs ls α hW hL hov hos hls
  obtain ⟨hx, hb, hml, hown, hts, hK, hE, hA, hin, hfr, hlo⟩ := C
  cases h
  unfold k_lc at hk
  split at hk
  · rw [Bool.or_eq_true, Bool.and_eq_true, Bool.and_eq_true] at hk
    rcases hk with ⟨h1, h2⟩ | ⟨h1, h2⟩
    · have h1 := of_decide_eq_true h1
      subst h1
      exact lv_lconst hx hb (x_dec h2) (by decide) (hG H locs ls α hW hL hov (x_ovs_cons.mpr ⟨trivial, hos⟩) hls)
    · have h1 := of_decide_eq_true h1
      subst h1
      exact lv_lconst hx hb (x_dec h2) (by decide) (hG H locs ls α hW hL hov (x_ovs_cons.mpr ⟨trivial, hos⟩) hls)
  · rw [Bool.and_eq_true] at hk
    exact lv_ldc2 hx hb hown (hts _ (x_tb_TB hk.2 rfl)) (x_dec hk.1) (hG H locs ls α hW hL hov (x_ovs_cons.mpr ⟨trivial, hos⟩) hls)
  · cases hk
theorem s_ild : x_SND 2 o_ild (x_kl .iload_n .iload 0) := by
  intro p l e R s mi args below meth c Q D dA A X α0 k0 m d pc a b cc ee L st k σ L' st' k' σ' C h hk hR hG H locs ls α hW hL hov hos hls
  obtain ⟨hx, hb, hml, hown, hts, hK, hE, hA, hin, hfr, hlo⟩ := C
  unfold o_ild at h
  split at h
  · rename_i v hv
    cases h
    have hne : x_get L b ≠ xU := by rw [hv]; intro z; cases z
    unfold x_kl at hk
    rw [Bool.and_eq_true] at hk
    obtain ⟨h1, h2⟩ := hk
    have h1 := of_decide_eq_true h1
    have hl := x_lh_at hls (by omega) hne
    rw [hv] at hl
    split at h2
    · rw [Bool.and_eq_true] at h2
      exact lv_iload_n hx hb (x_dec h2.2) (x_f4_val (of_decide_eq_true h2.1)) hl (hG H locs ls α hW hL hov (x_ovs_cons.mpr ⟨trivial, hos⟩) hls)
    · exact lv_iload hx hb (x_dec h2) hl (hG H locs ls α hW hL hov (x_ovs_cons.mpr ⟨trivial, hos⟩) hls)
    · cases h2
  · cases h
theorem s_lld : x_SND 3 o_lld (x_kl .lload_n .lload 1) := by
  intro p l e R s mi args below meth c Q D dA A X α0 k0 m d pc a b cc ee L st k σ L' st' k' σ' C h hk hR hG H locs ls α hW hL hov hos hls
  obtain ⟨hx, hb, hml, hown, hts, hK, hE, hA, hin, hfr, hlo⟩ := C
  unfold o_lld at h
  split at h
  · rename_i v hv
    cases h
    have hne : x_get L b ≠ xU := by rw [hv]; intro z; cases z
    unfold x_kl at hk
    rw [Bool.and_eq_true] at hk
    obtain ⟨h1, h2⟩ := hk
    have h1 := of_decide_eq_true h1
    have hl := x_lh_at hls (by omega) hne
    rw [hv] at hl
    split at h2
    · rw [Bool.and_eq_true] at h2
      exact lv_lload_n hx hb (x_dec h2.2) (x_f4_val (of_decide_eq_true h2.1)) hl (hG H locs ls α hW hL hov (x_ovs_cons.mpr ⟨trivial, hos⟩) hls)
    · exact lv_lload hx hb (x_dec h2) hl (hG H locs ls α hW hL hov (x_ovs_cons.mpr ⟨trivial, hos⟩) hls)
    · cases h2
  · cases h
theorem x_cv_ref {X : x_X} {α : Nat → Nat → Nat} {c j : Nat} (h : c ≠ 104) : (∃ a, x_cv X α (xR c j) = .ref a) ∨ 104 < c := by
  by_cases h1 : c < 100
  · exact Or.inl ⟨_, x_cv_r X α j h1⟩
  · by_cases h2 : c ≤ 103
    · left
      have : c = 100 ∨ c = 101 ∨ c = 102 ∨ c = 103 := by omega
      rcases this with rfl | rfl | rfl | rfl
      · exact ⟨_, rfl⟩
      · exact ⟨_, rfl⟩
      · exact ⟨_, rfl⟩
      · exact ⟨_, rfl⟩
    · right
      omega
theorem x_cv_any (X : x_X) (α : Nat → Nat → Nat) (c j : Nat) : (∃ a, x_cv X α (xR c j) = .ref a) ∨ x_cv X α (xR c j) = .null := by
  simp only [x_cv, xR]
  split
  · exact Or.inl ⟨_, rfl⟩
  · split
    · exact Or.inl ⟨_, rfl⟩
    · split
      · exact Or.inl ⟨_, rfl⟩
      · split
        · exact Or.inl ⟨_, rfl⟩
        · split
          · exact Or.inl ⟨_, rfl⟩
          · cases X.2.2.2.1 with
            | none => exact Or.inr rfl
            | some a => exact Or.inl ⟨a, rfl⟩
theorem s_ald : x_SND 4 o_ald (x_kl .aload_n .aload 0) := by
  intro p l e R s mi args below meth c Q D dA A X α0 k0 m d pc a b cc ee L st k σ L' st' k' σ' C h hk hR hG H locs ls α hW hL hov hos hls
  obtain ⟨hx, hb, hml, hown, hts, hK, hE, hA, hin, hfr, hlo⟩ := C
  unfold o_ald at h
  split at h
  · rename_i v w hv
    cases h
    have hne : x_get L b ≠ xU := by rw [hv]; intro z; cases z
    unfold x_kl at hk
    rw [Bool.and_eq_true] at hk
    obtain ⟨h1, h2⟩ := hk
    have h1 := of_decide_eq_true h1
    have hl := x_lh_at hls (by omega) hne
    have hov1 := x_ov_get hov hne
    rw [hv] at hl hov1
    have hv2 : x_cv X α (Sum.inr (Sum.inr (Sum.inl (v, w)))) = x_cv X α (xR v w) := rfl
    rw [hv2] at hl
    split at h2
    · rw [Bool.and_eq_true] at h2
      have hw := hG H locs ls α hW hL hov (x_ovs_cons.mpr ⟨hov1, hos⟩) hls
      rw [List.map_cons] at hw
      rcases x_cv_any X α v w with ⟨z, hz⟩ | hz
      · rw [hz] at hl hw
        exact lv_aload_n hx hb (x_dec h2.2) (x_f4_val (of_decide_eq_true h2.1)) hl hw
      · rw [hz] at hl hw
        exact lv_aload_nN hx hb (x_dec h2.2) (x_f4_val (of_decide_eq_true h2.1)) hl hw
    · have hw := hG H locs ls α hW hL hov (x_ovs_cons.mpr ⟨hov1, hos⟩) hls
      rw [List.map_cons] at hw
      rcases x_cv_any X α v w with ⟨z, hz⟩ | hz
      · rw [hz] at hl hw
        exact lv_aload hx hb (x_dec h2) hl hw
      · rw [hz] at hl hw
        exact lv_aloadN hx hb (x_dec h2) hl hw
    · cases h2
  · cases h
theorem s_ist : x_SND 5 o_ist (x_kl .istore_n .istore 0) := by
  intro p l e R s mi args below meth c Q D dA A X α0 k0 m d pc a b cc ee L st k σ L' st' k' σ' C h hk hR hG H locs ls α hW hL hov hos hls
  obtain ⟨hx, hb, hml, hown, hts, hK, hE, hA, hin, hfr, hlo⟩ := C
  unfold o_ist at h
  split at h
  · rename_i v st0
    cases h
    unfold x_kl at hk
    rw [Bool.and_eq_true] at hk
    obtain ⟨h1, h2⟩ := hk
    have h1 := of_decide_eq_true h1
    have hos := (x_ovs_cons.mp hos).2
    split at h2
    · rw [Bool.and_eq_true] at h2
      exact lv_istore_n hx hb (x_dec h2.2) (x_f4_val (of_decide_eq_true h2.1)) hls (by omega) rfl (fun ls' hl' => hG H locs ls' α hW (by rw [x_len_set]; exact hL) (x_ovs_set hov trivial) hos (x_lh_set1 (w := xI v) hL (by omega) hl'))
    · exact lv_istore hx hb (x_dec h2) hls (by omega) rfl (fun ls' hl' => hG H locs ls' α hW (by rw [x_len_set]; exact hL) (x_ovs_set hov trivial) hos (x_lh_set1 (w := xI v) hL (by omega) hl'))
    · cases h2
  · cases h
theorem s_lst : x_SND 6 o_lst (x_kl .lstore_n .lstore 1) := by
  intro p l e R s mi args below meth c Q D dA A X α0 k0 m d pc a b cc ee L st k σ L' st' k' σ' C h hk hR hG H locs ls α hW hL hov hos hls
  obtain ⟨hx, hb, hml, hown, hts, hK, hE, hA, hin, hfr, hlo⟩ := C
  unfold o_lst at h
  split at h
  · rename_i v st0
    cases h
    unfold x_kl at hk
    rw [Bool.and_eq_true] at hk
    obtain ⟨h1, h2⟩ := hk
    have h1 := of_decide_eq_true h1
    have hos := (x_ovs_cons.mp hos).2
    split at h2
    · rw [Bool.and_eq_true] at h2
      exact lv_lstore_n hx hb (x_dec h2.2) (x_f4_val (of_decide_eq_true h2.1)) hls (by omega) rfl (fun ls' hl' => hG H locs ls' α hW (by rw [x_len_un, x_len_set]; exact hL) (x_ovs_un (x_ovs_set (v := xJ v) hov trivial)) hos (x_lh_set2 (w := xJ v) hL (by omega) hl'))
    · exact lv_lstore hx hb (x_dec h2) hls (by omega) rfl (fun ls' hl' => hG H locs ls' α hW (by rw [x_len_un, x_len_set]; exact hL) (x_ovs_un (x_ovs_set (v := xJ v) hov trivial)) hos (x_lh_set2 (w := xJ v) hL (by omega) hl'))
    · cases h2
  · cases h
theorem s_ast : x_SND 7 o_ast (x_kl .astore_n .astore 0) := by
  intro p l e R s mi args below meth c Q D dA A X α0 k0 m d pc a b cc ee L st k σ L' st' k' σ' C h hk hR hG H locs ls α hW hL hov hos hls
  obtain ⟨hx, hb, hml, hown, hts, hK, hE, hA, hin, hfr, hlo⟩ := C
  unfold o_ast at h
  split at h
  · rename_i v w st0
    cases h
    unfold x_kl at hk
    rw [Bool.and_eq_true] at hk
    obtain ⟨h1, h2⟩ := hk
    have h1 := of_decide_eq_true h1
    obtain ⟨hov1, hos⟩ := x_ovs_cons.mp hos
    have hgo : ∀ ls', lv_has ls' (x_mL m) ((b, x_cv X α (xR v w)) :: (x_ll X α (x_mL m) L).filter (fun q => !(q.1 == b) && !(q.1 + 1 == b && q.2.category == 2))) → W p l e R s mi args below meth c H locs (k.1 - k0.1) (x_sl k.1 - x_sl k0.1) Q (F0 mi (pc + x_len 7 b cc) ls' (st'.map (x_cv X α))) :=
      fun ls' hl' => hG H locs ls' α hW (by rw [x_len_set]; exact hL) (x_ovs_set hov hov1) hos (x_lh_set1 (w := xR v w) hL (by omega) hl')
    rw [List.map_cons]
    have hv2 : x_cv X α (Sum.inr (Sum.inr (Sum.inl (v, w)))) = x_cv X α (xR v w) := rfl
    rw [hv2]
    split at h2
    · rw [Bool.and_eq_true] at h2
      rcases x_cv_any X α v w with ⟨z, hz⟩ | hz
      · rw [hz] at hgo ⊢
        exact lv_astore_n hx hb (x_dec h2.2) (x_f4_val (of_decide_eq_true h2.1)) hls (by omega) rfl hgo
      · rw [hz] at hgo ⊢
        exact lv_astore_nN hx hb (x_dec h2.2) (x_f4_val (of_decide_eq_true h2.1)) hls (by omega) rfl hgo
    · rcases x_cv_any X α v w with ⟨z, hz⟩ | hz
      · rw [hz] at hgo ⊢
        exact lv_astore hx hb (x_dec h2) hls (by omega) rfl hgo
      · rw [hz] at hgo ⊢
        exact lv_astoreN hx hb (x_dec h2) hls (by omega) rfl hgo
    · cases h2
  · cases h
theorem s_inc : x_SND 8 o_inc k_inc := by
  intro p l e R s mi args below meth c Q D dA A X α0 k0 m d pc a b cc ee L st k σ L' st' k' σ' C h hk hR hG H locs ls α hW hL hov hos hls
  obtain ⟨hx, hb, hml, hown, hts, hK, hE, hA, hin, hfr, hlo⟩ := C
  unfold o_inc at h
  split at h
  · rename_i v hv
    cases h
    have hne : x_get L b ≠ xU := by rw [hv]; intro z; cases z
    unfold k_inc at hk
    rw [Bool.and_eq_true] at hk
    obtain ⟨h1, h2⟩ := hk
    have h1 := of_decide_eq_true h1
    have hm : (b, x_cv X α (x_get L b)) ∈ x_ll X α (x_mL m) L := x_ll_mem.mpr ⟨h1, hne, rfl⟩
    rw [hv] at hm
    obtain ⟨q, hq⟩ := List.getElem?_of_mem hm
    exact lv_iinc hx hb (x_dec h2) hls hq (Int32.ofInt_add v a).symm h1 rfl (fun ls' hl' => hG H locs ls' α hW (by rw [x_len_set]; exact hL) (x_ovs_set hov trivial) hos (x_lh_set1 (w := xI (v + a)) hL (by omega) hl'))
  · cases h
theorem s_dup : x_SND 35 o_dup (x_is .dup) := by
  intro p l e R s mi args below meth c Q D dA A X α0 k0 m d pc a b cc ee L st k σ L' st' k' σ' C h hk hR hG H locs ls α hW hL hov hos hls
  obtain ⟨hx, hb, hml, hown, hts, hK, hE, hA, hin, hfr, hlo⟩ := C
  unfold o_dup at h
  split at h
  · cases h
    exact lv_dup hx hb (x_dec hk) rfl (hG H locs ls α hW hL hov (x_ovs_cons.mpr ⟨trivial, hos⟩) hls)
  · cases h
    have h1 := (x_ovs_cons.mp hos).1
    exact lv_dup hx hb (x_dec hk) (x_cat3 X α _) (hG H locs ls α hW hL hov (x_ovs_cons.mpr ⟨h1, hos⟩) hls)
  · cases h
theorem s_dup2 : x_SND 36 o_dup2 (x_is .dup2) := by
  intro p l e R s mi args below meth c Q D dA A X α0 k0 m d pc a b cc ee L st k σ L' st' k' σ' C h hk hR hG H locs ls α hW hL hov hos hls
  obtain ⟨hx, hb, hml, hown, hts, hK, hE, hA, hin, hfr, hlo⟩ := C
  unfold o_dup2 at h
  split at h
  · cases h
    have h1 := (x_ovs_cons.mp (x_ovs_cons.mp hos).2).1
    exact lv_dup2_11 hx hb (x_dec hk) rfl (x_cat3 X α _) (hG H locs ls α hW hL hov (x_ovs_cons.mpr ⟨trivial, x_ovs_cons.mpr ⟨h1, hos⟩⟩) hls)
  · cases h
theorem s_pop : x_SND 37 o_pop (x_is .pop) := by
  intro p l e R s mi args below meth c Q D dA A X α0 k0 m d pc a b cc ee L st k σ L' st' k' σ' C h hk hR hG H locs ls α hW hL hov hos hls
  obtain ⟨hx, hb, hml, hown, hts, hK, hE, hA, hin, hfr, hlo⟩ := C
  unfold o_pop at h
  split at h
  · cases h
    exact lv_pop hx hb (x_dec hk) rfl (hG H locs ls α hW hL hov (x_ovs_cons.mp hos).2 hls)
  · cases h
theorem s_pop2 : x_SND 38 o_pop2 (x_is .pop2) := by
  intro p l e R s mi args below meth c Q D dA A X α0 k0 m d pc a b cc ee L st k σ L' st' k' σ' C h hk hR hG H locs ls α hW hL hov hos hls
  obtain ⟨hx, hb, hml, hown, hts, hK, hE, hA, hin, hfr, hlo⟩ := C
  unfold o_pop2 at h
  split at h
  · cases h
    exact lv_pop2_2 hx hb (x_dec hk) rfl (hG H locs ls α hW hL hov (x_ovs_cons.mp hos).2 hls)
  · cases h

def x_Wk (d m : Nat) (K : List x_I) (L st : List x_V) (k : x_K) (σ : x_S) (Q : Option x_V → x_K → x_S → Prop) : Prop := ∃ (n : Nat) (r : Option x_V) (k' : x_K) (σ' : x_S), x_run n d m K L st k σ = some (r, k', σ') ∧ Q r k' σ'
section XWK
variable {d m : Nat} {K : List x_I} {L st : List x_V} {k : x_K} {σ : x_S} {Q : Option x_V → x_K → x_S → Prop} {a : Int} {b c e p : Nat}
theorem x_wk_s {op : Nat} {L' st' : List x_V} {k' : x_K} {σ' : x_S} (hop : op < 64) (h : x_sx op a b c e L st k σ = some (L', st', k', σ')) (H : x_Wk d m K L' st' k' σ' Q) : x_Wk d m ((op, a, b, c, e, p) :: K) L st k σ Q := by
  obtain ⟨n, r, k2, σ2, hr, hq⟩ := H
  refine ⟨n + 1, r, k2, σ2, ?_, hq⟩
  rw [x_run, if_pos hop, h]
  exact hr
theorem x_wk_bt {op t : Nat} {st' : List x_V} (hop : ¬ op < 64) (hop2 : op < 80) (h : x_br op b st = some (some t, st')) (H : x_Wk d m (x_blk m t) L st' k σ Q) : x_Wk d m ((op, a, b, c, e, p) :: K) L st k σ Q := by
  obtain ⟨n, r, k2, σ2, hr, hq⟩ := H
  refine ⟨n + 1, r, k2, σ2, ?_, hq⟩
  rw [x_run, if_neg hop, if_pos hop2, h]
  exact hr
theorem x_wk_bn {op : Nat} {st' : List x_V} (hop : ¬ op < 64) (hop2 : op < 80) (h : x_br op b st = some (none, st')) (H : x_Wk d m K L st' k σ Q) : x_Wk d m ((op, a, b, c, e, p) :: K) L st k σ Q := by
  obtain ⟨n, r, k2, σ2, hr, hq⟩ := H
  refine ⟨n + 1, r, k2, σ2, ?_, hq⟩
  rw [x_run, if_neg hop, if_pos hop2, h]
  exact hr
theorem x_wk_r {op : Nat} {r : Option x_V} (h1 : ¬ op < 64) (h2 : ¬ op < 80) (h3 : op < 84) (h : x_rt op (x_mZ m) st = some r) (hq : Q r k σ) : x_Wk d m ((op, a, b, c, e, p) :: K) L st k σ Q := by
  refine ⟨1, r, k, σ, ?_, hq⟩
  rw [x_run, if_neg h1, if_neg h2, if_pos h3, h]
theorem x_wk_c {op : Nat} {as st' : List x_V} (h1 : ¬ op < 64) (h2 : ¬ op < 80) (h3 : ¬ op < 84) (hp : x_pop c st [] = some (as, st')) (hc : x_cok op b as st' = true) (H : x_Wk d b (x_blk b 0) (x_ini b as) [] k σ (fun r k' σ' => x_Wk (d + 1) m K L (x_psh r st') k' σ' Q)) : x_Wk (d + 1) m ((op, a, b, c, e, p) :: K) L st k σ Q := by
  obtain ⟨n1, r1, k1, σ1, hr1, n2, r2, k2, σ2, hr2, hq⟩ := H
  refine ⟨max n1 n2 + 1, r2, k2, σ2, ?_, hq⟩
  rw [x_run, if_neg h1, if_neg h2, if_neg h3, hp]
  simp only
  rw [if_pos ⟨Nat.succ_pos _, hc⟩, show d + 1 - 1 = d from rfl, x_run_up hr1 (Nat.le_max_left _ _)]
  exact x_run_up hr2 (Nat.le_max_right _ _)
theorem x_wk_of {q : Option x_V → x_S → Prop} (h : x_Wp d m K L st σ q) (H : ∀ r σ', q r σ' → Q r x_kF σ') : x_Wk d m K L st x_kF σ Q := by
  obtain ⟨n, r, σ2, hr, hq⟩ := h
  exact ⟨n, r, x_kF, σ2, hr, H _ _ hq⟩
end XWK
theorem bk_57_0 : x_blk 57 0 = [(4, 0, 0, 0, 0, 0), (39, 30, 5, 6, 156, 1), (5, 0, 3, 0, 0, 4), (4, 0, 0, 0, 0, 5), (35, 0, 0, 0, 0, 6), (39, 30, 5, 6, 156, 7), (0, 1, 0, 0, 0, 10), (9, 0, 0, 0, 0, 11), (42, 30, 5, 6, 156, 12), (4, 0, 0, 0, 0, 15), (41, 33, 5, 7, 163, 16), (2, 0, 3, 0, 0, 19), (2, 0, 1, 0, 0, 20), (50, 0, 0, 0, 0, 21), (4, 0, 0, 0, 0, 22), (41, 37, 5, 8, 166, 23), (2, 0, 3, 0, 0, 26), (2, 0, 2, 0, 0, 27), (50, 0, 0, 0, 0, 28), (4, 0, 0, 0, 0, 29), (41, 40, 5, 9, 172, 30), (2, 0, 3, 0, 0, 33), (0, 0, 0, 0, 0, 34), (50, 0, 0, 0, 0, 35), (4, 0, 0, 0, 0, 36), (41, 43, 5, 10, 177, 37), (2, 0, 3, 0, 0, 40), (0, 0, 0, 0, 0, 41), (50, 0, 0, 0, 0, 42), (4, 0, 0, 0, 0, 43), (41, 46, 5, 11, 182, 44), (2, 0, 3, 0, 0, 47), (0, 0, 0, 0, 0, 48), (50, 0, 0, 0, 0, 49), (4, 0, 0, 0, 0, 50), (41, 49, 5, 12, 187, 51), (2, 0, 3, 0, 0, 54), (0, 0, 0, 0, 0, 55), (50, 0, 0, 0, 0, 56), (4, 0, 0, 0, 0, 57), (41, 55, 5, 14, 196, 58), (2, 0, 3, 0, 0, 61), (0, 0, 0, 0, 0, 62), (50, 0, 0, 0, 0, 63), (4, 0, 0, 0, 0, 64), (41, 52, 5, 13, 193, 65), (2, 0, 3, 0, 0, 68), (0, 0, 0, 0, 0, 69), (50, 0, 0, 0, 0, 70), (2, 0, 1, 0, 0, 71), (0, (-1), 0, 0, 0, 72), (70, 0, 1, 0, 116, 73), (4, 0, 0, 0, 0, 76), (41, 52, 5, 13, 193, 77), (2, 0, 3, 0, 0, 80), (4, 0, 0, 0, 0, 81), (41, 52, 5, 13, 193, 82), (2, 0, 1, 0, 0, 85), (46, 0, 0, 0, 0, 86), (0, 1, 0, 0, 0, 87), (9, 0, 0, 0, 0, 88), (50, 0, 0, 0, 0, 89), (4, 0, 0, 0, 0, 90), (41, 58, 5, 15, 203, 91), (2, 0, 1, 0, 0, 94), (0, 5, 0, 0, 0, 95), (11, 0, 0, 0, 0, 96), (4, 0, 0, 0, 0, 97), (41, 55, 5, 14, 196, 98), (2, 0, 1, 0, 0, 101), (46, 0, 0, 0, 0, 102), (9, 0, 0, 0, 0, 103), (2, 0, 3, 0, 0, 104), (50, 0, 0, 0, 0, 105), (4, 0, 0, 0, 0, 106), (41, 55, 5, 14, 196, 107), (2, 0, 1, 0, 0, 110), (36, 0, 0, 0, 0, 111), (46, 0, 0, 0, 0, 112), (0, 1, 0, 0, 0, 113), (9, 0, 0, 0, 0, 114), (50, 0, 0, 0, 0, 115), (77, 0, 1, 0, 0, 116)] := id rfl
theorem bk_57_1 : x_blk 57 1 = [(2, 0, 3, 0, 0, 116), (80, 0, 0, 0, 0, 117)] := id rfl
theorem mz_57 : x_mZ 57 = 0 := id rfl
theorem bk_56_0 : x_blk 56 0 = [(4, 0, 0, 0, 0, 0), (58, 3, 0, 0, 132, 1), (4, 0, 0, 0, 0, 4), (0, 0, 0, 0, 0, 5), (42, 9, 5, 0, 133, 6), (4, 0, 0, 0, 0, 9), (0, 0, 0, 0, 0, 10), (42, 15, 5, 1, 137, 11), (4, 0, 0, 0, 0, 14), (0, 0, 0, 0, 0, 15), (42, 18, 5, 2, 140, 16), (4, 0, 0, 0, 0, 19), (0, 0, 0, 0, 0, 20), (42, 21, 5, 3, 143, 21), (4, 0, 0, 0, 0, 24), (0, 0, 0, 0, 0, 25), (42, 24, 5, 4, 148, 26), (4, 0, 0, 0, 0, 29), (0, 0, 0, 0, 0, 30), (42, 27, 5, 5, 152, 31), (4, 0, 0, 0, 0, 34), (0, 0, 0, 0, 0, 35), (42, 30, 5, 6, 156, 36), (4, 0, 0, 0, 0, 39), (0, 40, 1, 0, 0, 40), (55, 0, 0, 0, 0, 42), (44, 33, 5, 7, 163, 44), (4, 0, 0, 0, 0, 47), (0, 40, 1, 0, 0, 48), (55, 0, 0, 0, 0, 50), (44, 37, 5, 8, 166, 52), (4, 0, 0, 0, 0, 55), (0, 40, 1, 0, 0, 56), (55, 0, 0, 0, 0, 58), (44, 40, 5, 9, 172, 60), (4, 0, 0, 0, 0, 63), (0, 40, 1, 0, 0, 64), (55, 0, 0, 0, 0, 66), (44, 43, 5, 10, 177, 68), (4, 0, 0, 0, 0, 71), (0, 40, 1, 0, 0, 72), (55, 0, 0, 0, 0, 74), (44, 46, 5, 11, 182, 76), (4, 0, 0, 0, 0, 79), (0, 40, 1, 0, 0, 80), (55, 0, 0, 0, 0, 82), (44, 49, 5, 12, 187, 84), (4, 0, 0, 0, 0, 87), (0, 40, 1, 0, 0, 88), (55, 0, 0, 0, 0, 90), (44, 52, 5, 13, 193, 92), (4, 0, 0, 0, 0, 95), (0, 40, 1, 0, 0, 96), (55, 0, 0, 0, 0, 98), (44, 55, 5, 14, 196, 100), (4, 0, 0, 0, 0, 103), (0, 200, 2, 0, 0, 104), (55, 0, 0, 0, 0, 107), (44, 58, 5, 15, 203, 109), (83, 0, 0, 0, 0, 112)] := id rfl
theorem mz_56 : x_mZ 56 = 9 := id rfl
def x_s0 (σ : x_S) : x_S := (x_zr (x_zr (x_zr (x_zr (x_zr (x_zr (x_zr (x_zr (x_zr (x_st (x_st (x_st (x_st (x_st (x_st (x_st σ 6 0 (0) (0)) 6 0 (1) (0)) 6 0 (2) (0)) 6 0 (3) (0)) 6 0 (4) (0)) 6 0 (5) (0)) 6 0 (6) (0)) 7 0) 8 0) 9 0) 10 0) 11 0) 12 0) 13 0) 14 0) 15 0)
theorem x_ci0 {d : Nat} {σ : x_S} {Q : Option x_V → x_K → x_S → Prop} (h : Q (none) (12, 9) (x_s0 σ)) : x_Wk (d + 0) 56 (x_blk 56 0) (x_ini 56 [xR 6 0]) [] (3, 0) σ Q := by
  rw [bk_56_0]
  refine x_wk_s (k' := (3, 0)) (by decide) rfl ?_
  refine x_wk_s (k' := (3, 0)) (by decide) rfl ?_
  refine x_wk_s (k' := (3, 0)) (by decide) rfl ?_
  refine x_wk_s (k' := (3, 0)) (by decide) rfl ?_
  refine x_wk_s (k' := (3, 0)) (by decide) rfl ?_
  refine x_wk_s (k' := (3, 0)) (by decide) rfl ?_
  refine x_wk_s (k' := (3, 0)) (by decide) rfl ?_
  refine x_wk_s (k' := (3, 0)) (by decide) rfl ?_
  refine x_wk_s (k' := (3, 0)) (by decide) rfl ?_
  refine x_wk_s (k' := (3, 0)) (by decide) rfl ?_
  refine x_wk_s (k' := (3, 0)) (by decide) rfl ?_
  refine x_wk_s (k' := (3, 0)) (by decide) rfl ?_
  refine x_wk_s (k' := (3, 0)) (by decide) rfl ?_
  refine x_wk_s (k' := (3, 0)) (by decide) rfl ?_
  refine x_wk_s (k' := (3, 0)) (by decide) rfl ?_
  refine x_wk_s (k' := (3, 0)) (by decide) rfl ?_
  refine x_wk_s (k' := (3, 0)) (by decide) rfl ?_
  refine x_wk_s (k' := (3, 0)) (by decide) rfl ?_
  refine x_wk_s (k' := (3, 0)) (by decide) rfl ?_
  refine x_wk_s (k' := (3, 0)) (by decide) rfl ?_
  refine x_wk_s (k' := (3, 0)) (by decide) rfl ?_
  refine x_wk_s (k' := (3, 0)) (by decide) rfl ?_
  refine x_wk_s (k' := (3, 0)) (by decide) rfl ?_
  refine x_wk_s (k' := (3, 0)) (by decide) rfl ?_
  refine x_wk_s (k' := (3, 0)) (by decide) rfl ?_
  refine x_wk_s (k' := (4, 0)) (by decide) rfl ?_
  refine x_wk_s (k' := (4, 1)) (by decide) rfl ?_
  refine x_wk_s (k' := (4, 1)) (by decide) rfl ?_
  refine x_wk_s (k' := (4, 1)) (by decide) rfl ?_
  refine x_wk_s (k' := (5, 1)) (by decide) rfl ?_
  refine x_wk_s (k' := (5, 2)) (by decide) rfl ?_
  refine x_wk_s (k' := (5, 2)) (by decide) rfl ?_
  refine x_wk_s (k' := (5, 2)) (by decide) rfl ?_
  refine x_wk_s (k' := (6, 2)) (by decide) rfl ?_
  refine x_wk_s (k' := (6, 3)) (by decide) rfl ?_
  refine x_wk_s (k' := (6, 3)) (by decide) rfl ?_
  refine x_wk_s (k' := (6, 3)) (by decide) rfl ?_
  refine x_wk_s (k' := (7, 3)) (by decide) rfl ?_
  refine x_wk_s (k' := (7, 4)) (by decide) rfl ?_
  refine x_wk_s (k' := (7, 4)) (by decide) rfl ?_
  refine x_wk_s (k' := (7, 4)) (by decide) rfl ?_
  refine x_wk_s (k' := (8, 4)) (by decide) rfl ?_
  refine x_wk_s (k' := (8, 5)) (by decide) rfl ?_
  refine x_wk_s (k' := (8, 5)) (by decide) rfl ?_
  refine x_wk_s (k' := (8, 5)) (by decide) rfl ?_
  refine x_wk_s (k' := (9, 5)) (by decide) rfl ?_
  refine x_wk_s (k' := (9, 6)) (by decide) rfl ?_
  refine x_wk_s (k' := (9, 6)) (by decide) rfl ?_
  refine x_wk_s (k' := (9, 6)) (by decide) rfl ?_
  refine x_wk_s (k' := (10, 6)) (by decide) rfl ?_
  refine x_wk_s (k' := (10, 7)) (by decide) rfl ?_
  refine x_wk_s (k' := (10, 7)) (by decide) rfl ?_
  refine x_wk_s (k' := (10, 7)) (by decide) rfl ?_
  refine x_wk_s (k' := (11, 7)) (by decide) rfl ?_
  refine x_wk_s (k' := (11, 8)) (by decide) rfl ?_
  refine x_wk_s (k' := (11, 8)) (by decide) rfl ?_
  refine x_wk_s (k' := (11, 8)) (by decide) rfl ?_
  refine x_wk_s (k' := (12, 8)) (by decide) rfl ?_
  refine x_wk_s (k' := (12, 9)) (by decide) rfl ?_
  refine x_wk_r (r := none) (by decide) (by decide) (by decide) rfl ?_
  exact h
theorem bk_24_0 : x_blk 24 0 = [(4, 0, 0, 0, 0, 0), (58, 3, 0, 0, 126, 1), (4, 0, 0, 0, 0, 4), (57, 9, 5, 0, 127, 5), (35, 0, 0, 0, 0, 8), (87, 11, 56, 1, 129, 9), (44, 12, 2, 0, 241, 12), (4, 0, 0, 0, 0, 15), (0, 0, 0, 0, 0, 16), (42, 18, 2, 1, 243, 17), (4, 0, 0, 0, 0, 20), (0, 0, 0, 0, 0, 21), (42, 22, 2, 2, 245, 22), (4, 0, 0, 0, 0, 25), (0, (-1), 0, 0, 0, 26), (42, 25, 2, 3, 247, 27), (4, 0, 0, 0, 0, 30), (0, 1800, 2, 0, 0, 31), (55, 0, 2, 0, 0, 34), (44, 28, 2, 4, 249, 36), (4, 0, 0, 0, 0, 39), (0, 40, 1, 0, 0, 40), (55, 0, 0, 0, 0, 42), (44, 32, 2, 5, 250, 44), (4, 0, 0, 0, 0, 47), (0, 0, 0, 0, 0, 48), (42, 36, 2, 6, 251, 49), (4, 0, 0, 0, 0, 52), (0, 0, 0, 0, 0, 53), (42, 39, 2, 7, 252, 54), (4, 0, 0, 0, 0, 57), (0, 0, 0, 0, 0, 58), (42, 42, 2, 8, 253, 59), (4, 0, 0, 0, 0, 62), (0, 0, 0, 0, 0, 63), (42, 45, 2, 9, 254, 64), (83, 0, 0, 0, 0, 67)] := id rfl
theorem mz_24 : x_mZ 24 = 9 := id rfl
def x_s1 (σ : x_S) : x_S := (x_st (x_st (x_st (x_st (x_zr (x_zr (x_st (x_st (x_st (x_s0 (x_zr σ 6 0)) 3 0 (1) (0)) 3 0 (2) (0)) 3 0 (3) (-1)) 4 0) 5 0) 3 0 (6) (0)) 3 0 (7) (0)) 3 0 (8) (0)) 3 0 (9) (0))
theorem x_ci1 {d : Nat} {σ : x_S} {Q : Option x_V → x_K → x_S → Prop} (h : Q (none) (14, 12) (x_s1 σ)) : x_Wk (d + 1) 24 (x_blk 24 0) (x_ini 24 [xR 3 0]) [] (2, 0) σ Q := by
  rw [bk_24_0]
  refine x_wk_s (k' := (2, 0)) (by decide) rfl ?_
  refine x_wk_s (k' := (2, 0)) (by decide) rfl ?_
  refine x_wk_s (k' := (2, 0)) (by decide) rfl ?_
  refine x_wk_s (k' := (3, 0)) (by decide) rfl ?_
  refine x_wk_s (k' := (3, 0)) (by decide) rfl ?_
  refine x_wk_c (by decide) (by decide) (by decide) rfl rfl (x_ci0 ?_)
  try simp only [x_psh]
  refine x_wk_s (k' := (12, 10)) (by decide) rfl ?_
  refine x_wk_s (k' := (12, 10)) (by decide) rfl ?_
  refine x_wk_s (k' := (12, 10)) (by decide) rfl ?_
  refine x_wk_s (k' := (12, 10)) (by decide) rfl ?_
  refine x_wk_s (k' := (12, 10)) (by decide) rfl ?_
  refine x_wk_s (k' := (12, 10)) (by decide) rfl ?_
  refine x_wk_s (k' := (12, 10)) (by decide) rfl ?_
  refine x_wk_s (k' := (12, 10)) (by decide) rfl ?_
  refine x_wk_s (k' := (12, 10)) (by decide) rfl ?_
  refine x_wk_s (k' := (12, 10)) (by decide) rfl ?_
  refine x_wk_s (k' := (12, 10)) (by decide) rfl ?_
  refine x_wk_s (k' := (12, 10)) (by decide) rfl ?_
  refine x_wk_s (k' := (13, 10)) (by decide) rfl ?_
  refine x_wk_s (k' := (13, 11)) (by decide) rfl ?_
  refine x_wk_s (k' := (13, 11)) (by decide) rfl ?_
  refine x_wk_s (k' := (13, 11)) (by decide) rfl ?_
  refine x_wk_s (k' := (14, 11)) (by decide) rfl ?_
  refine x_wk_s (k' := (14, 12)) (by decide) rfl ?_
  refine x_wk_s (k' := (14, 12)) (by decide) rfl ?_
  refine x_wk_s (k' := (14, 12)) (by decide) rfl ?_
  refine x_wk_s (k' := (14, 12)) (by decide) rfl ?_
  refine x_wk_s (k' := (14, 12)) (by decide) rfl ?_
  refine x_wk_s (k' := (14, 12)) (by decide) rfl ?_
  refine x_wk_s (k' := (14, 12)) (by decide) rfl ?_
  refine x_wk_s (k' := (14, 12)) (by decide) rfl ?_
  refine x_wk_s (k' := (14, 12)) (by decide) rfl ?_
  refine x_wk_s (k' := (14, 12)) (by decide) rfl ?_
  refine x_wk_s (k' := (14, 12)) (by decide) rfl ?_
  refine x_wk_s (k' := (14, 12)) (by decide) rfl ?_
  refine x_wk_s (k' := (14, 12)) (by decide) rfl ?_
  refine x_wk_r (r := none) (by decide) (by decide) (by decide) rfl ?_
  exact h
theorem bk_46_0 : x_blk 46 0 = [(4, 0, 0, 0, 0, 0), (58, 3, 0, 0, 282, 1), (4, 0, 0, 0, 0, 4), (0, 4, 0, 0, 0, 5), (55, 0, 0, 0, 0, 6), (35, 0, 0, 0, 0, 8), (0, 0, 0, 0, 0, 9), (0, (-1), 0, 0, 0, 10), (50, 0, 0, 0, 0, 11), (35, 0, 0, 0, 0, 12), (0, 1, 0, 0, 0, 13), (0, (-1), 0, 0, 0, 14), (50, 0, 0, 0, 0, 15), (35, 0, 0, 0, 0, 16), (0, 2, 0, 0, 0, 17), (0, (-1), 0, 0, 0, 18), (50, 0, 0, 0, 0, 19), (35, 0, 0, 0, 0, 20), (0, 3, 0, 0, 0, 21), (0, (-1), 0, 0, 0, 22), (50, 0, 0, 0, 0, 23), (44, 9, 4, 0, 283, 24), (4, 0, 0, 0, 0, 27), (0, 4, 0, 0, 0, 28), (55, 0, 0, 0, 0, 29), (44, 15, 4, 1, 285, 31), (4, 0, 0, 0, 0, 34), (0, 240, 2, 0, 0, 35), (55, 0, 1, 0, 0, 38), (44, 18, 4, 2, 287, 40), (83, 0, 0, 0, 0, 43)] := id rfl
theorem mz_46 : x_mZ 46 = 9 := id rfl
def x_s2 (σ : x_S) : x_S := (x_zr (x_zr (x_st (x_st (x_st (x_st (x_zr σ 17 0) 17 0 (0) (-1)) 17 0 (1) (-1)) 17 0 (2) (-1)) 17 0 (3) (-1)) 18 0) 19 0)
theorem x_ci2 {d : Nat} {σ : x_S} {Q : Option x_V → x_K → x_S → Prop} (h : Q (none) (18, 16) (x_s2 σ)) : x_Wk (d + 0) 46 (x_blk 46 0) (x_ini 46 [xR 16 0]) [] (15, 13) σ Q := by
  rw [bk_46_0]
  refine x_wk_s (k' := (15, 13)) (by decide) rfl ?_
  refine x_wk_s (k' := (15, 13)) (by decide) rfl ?_
  refine x_wk_s (k' := (15, 13)) (by decide) rfl ?_
  refine x_wk_s (k' := (15, 13)) (by decide) rfl ?_
  refine x_wk_s (k' := (16, 13)) (by decide) rfl ?_
  refine x_wk_s (k' := (16, 13)) (by decide) rfl ?_
  refine x_wk_s (k' := (16, 13)) (by decide) rfl ?_
  refine x_wk_s (k' := (16, 13)) (by decide) rfl ?_
  refine x_wk_s (k' := (16, 13)) (by decide) rfl ?_
  refine x_wk_s (k' := (16, 13)) (by decide) rfl ?_
  refine x_wk_s (k' := (16, 13)) (by decide) rfl ?_
  refine x_wk_s (k' := (16, 13)) (by decide) rfl ?_
  refine x_wk_s (k' := (16, 13)) (by decide) rfl ?_
  refine x_wk_s (k' := (16, 13)) (by decide) rfl ?_
  refine x_wk_s (k' := (16, 13)) (by decide) rfl ?_
  refine x_wk_s (k' := (16, 13)) (by decide) rfl ?_
  refine x_wk_s (k' := (16, 13)) (by decide) rfl ?_
  refine x_wk_s (k' := (16, 13)) (by decide) rfl ?_
  refine x_wk_s (k' := (16, 13)) (by decide) rfl ?_
  refine x_wk_s (k' := (16, 13)) (by decide) rfl ?_
  refine x_wk_s (k' := (16, 13)) (by decide) rfl ?_
  refine x_wk_s (k' := (16, 14)) (by decide) rfl ?_
  refine x_wk_s (k' := (16, 14)) (by decide) rfl ?_
  refine x_wk_s (k' := (16, 14)) (by decide) rfl ?_
  refine x_wk_s (k' := (17, 14)) (by decide) rfl ?_
  refine x_wk_s (k' := (17, 15)) (by decide) rfl ?_
  refine x_wk_s (k' := (17, 15)) (by decide) rfl ?_
  refine x_wk_s (k' := (17, 15)) (by decide) rfl ?_
  refine x_wk_s (k' := (18, 15)) (by decide) rfl ?_
  refine x_wk_s (k' := (18, 16)) (by decide) rfl ?_
  refine x_wk_r (r := none) (by decide) (by decide) (by decide) rfl ?_
  exact h
def x_s3 (σ : x_S) : x_S := (x_zr (x_zr (x_zr (x_zr (x_zr (x_zr (x_zr (x_zr (x_zr (x_st (x_st (x_st (x_st (x_st (x_st (x_st σ 6 1 (0) (0)) 6 1 (1) (0)) 6 1 (2) (0)) 6 1 (3) (0)) 6 1 (4) (0)) 6 1 (5) (0)) 6 1 (6) (0)) 7 1) 8 1) 9 1) 10 1) 11 1) 12 1) 13 1) 14 1) 15 1)
theorem x_ci3 {d : Nat} {σ : x_S} {Q : Option x_V → x_K → x_S → Prop} (h : Q (none) (29, 26) (x_s3 σ)) : x_Wk (d + 0) 56 (x_blk 56 0) (x_ini 56 [xR 6 1]) [] (20, 17) σ Q := by
  rw [bk_56_0]
  refine x_wk_s (k' := (20, 17)) (by decide) rfl ?_
  refine x_wk_s (k' := (20, 17)) (by decide) rfl ?_
  refine x_wk_s (k' := (20, 17)) (by decide) rfl ?_
  refine x_wk_s (k' := (20, 17)) (by decide) rfl ?_
  refine x_wk_s (k' := (20, 17)) (by decide) rfl ?_
  refine x_wk_s (k' := (20, 17)) (by decide) rfl ?_
  refine x_wk_s (k' := (20, 17)) (by decide) rfl ?_
  refine x_wk_s (k' := (20, 17)) (by decide) rfl ?_
  refine x_wk_s (k' := (20, 17)) (by decide) rfl ?_
  refine x_wk_s (k' := (20, 17)) (by decide) rfl ?_
  refine x_wk_s (k' := (20, 17)) (by decide) rfl ?_
  refine x_wk_s (k' := (20, 17)) (by decide) rfl ?_
  refine x_wk_s (k' := (20, 17)) (by decide) rfl ?_
  refine x_wk_s (k' := (20, 17)) (by decide) rfl ?_
  refine x_wk_s (k' := (20, 17)) (by decide) rfl ?_
  refine x_wk_s (k' := (20, 17)) (by decide) rfl ?_
  refine x_wk_s (k' := (20, 17)) (by decide) rfl ?_
  refine x_wk_s (k' := (20, 17)) (by decide) rfl ?_
  refine x_wk_s (k' := (20, 17)) (by decide) rfl ?_
  refine x_wk_s (k' := (20, 17)) (by decide) rfl ?_
  refine x_wk_s (k' := (20, 17)) (by decide) rfl ?_
  refine x_wk_s (k' := (20, 17)) (by decide) rfl ?_
  refine x_wk_s (k' := (20, 17)) (by decide) rfl ?_
  refine x_wk_s (k' := (20, 17)) (by decide) rfl ?_
  refine x_wk_s (k' := (20, 17)) (by decide) rfl ?_
  refine x_wk_s (k' := (21, 17)) (by decide) rfl ?_
  refine x_wk_s (k' := (21, 18)) (by decide) rfl ?_
  refine x_wk_s (k' := (21, 18)) (by decide) rfl ?_
  refine x_wk_s (k' := (21, 18)) (by decide) rfl ?_
  refine x_wk_s (k' := (22, 18)) (by decide) rfl ?_
  refine x_wk_s (k' := (22, 19)) (by decide) rfl ?_
  refine x_wk_s (k' := (22, 19)) (by decide) rfl ?_
  refine x_wk_s (k' := (22, 19)) (by decide) rfl ?_
  refine x_wk_s (k' := (23, 19)) (by decide) rfl ?_
  refine x_wk_s (k' := (23, 20)) (by decide) rfl ?_
  refine x_wk_s (k' := (23, 20)) (by decide) rfl ?_
  refine x_wk_s (k' := (23, 20)) (by decide) rfl ?_
  refine x_wk_s (k' := (24, 20)) (by decide) rfl ?_
  refine x_wk_s (k' := (24, 21)) (by decide) rfl ?_
  refine x_wk_s (k' := (24, 21)) (by decide) rfl ?_
  refine x_wk_s (k' := (24, 21)) (by decide) rfl ?_
  refine x_wk_s (k' := (25, 21)) (by decide) rfl ?_
  refine x_wk_s (k' := (25, 22)) (by decide) rfl ?_
  refine x_wk_s (k' := (25, 22)) (by decide) rfl ?_
  refine x_wk_s (k' := (25, 22)) (by decide) rfl ?_
  refine x_wk_s (k' := (26, 22)) (by decide) rfl ?_
  refine x_wk_s (k' := (26, 23)) (by decide) rfl ?_
  refine x_wk_s (k' := (26, 23)) (by decide) rfl ?_
  refine x_wk_s (k' := (26, 23)) (by decide) rfl ?_
  refine x_wk_s (k' := (27, 23)) (by decide) rfl ?_
  refine x_wk_s (k' := (27, 24)) (by decide) rfl ?_
  refine x_wk_s (k' := (27, 24)) (by decide) rfl ?_
  refine x_wk_s (k' := (27, 24)) (by decide) rfl ?_
  refine x_wk_s (k' := (28, 24)) (by decide) rfl ?_
  refine x_wk_s (k' := (28, 25)) (by decide) rfl ?_
  refine x_wk_s (k' := (28, 25)) (by decide) rfl ?_
  refine x_wk_s (k' := (28, 25)) (by decide) rfl ?_
  refine x_wk_s (k' := (29, 25)) (by decide) rfl ?_
  refine x_wk_s (k' := (29, 26)) (by decide) rfl ?_
  refine x_wk_r (r := none) (by decide) (by decide) (by decide) rfl ?_
  exact h
theorem bk_41_0 : x_blk 41 0 = [(4, 0, 0, 0, 0, 0), (58, 3, 0, 0, 301, 1), (4, 0, 0, 0, 0, 4), (57, 9, 5, 0, 302, 5), (35, 0, 0, 0, 0, 8), (87, 11, 56, 1, 303, 9), (44, 12, 3, 0, 308, 12), (4, 0, 0, 0, 0, 15), (0, 40, 1, 0, 0, 16), (55, 0, 0, 0, 0, 18), (44, 18, 3, 1, 311, 20), (4, 0, 0, 0, 0, 23), (0, 40, 1, 0, 0, 24), (55, 0, 0, 0, 0, 26), (44, 22, 3, 2, 314, 28), (4, 0, 0, 0, 0, 31), (0, 0, 0, 0, 0, 32), (42, 25, 3, 3, 317, 33), (4, 0, 0, 0, 0, 36), (0, 0, 0, 0, 0, 37), (42, 29, 3, 4, 320, 38), (4, 0, 0, 0, 0, 41), (0, 0, 0, 0, 0, 42), (42, 32, 3, 5, 323, 43), (4, 0, 0, 0, 0, 46), (0, 0, 0, 0, 0, 47), (42, 35, 3, 6, 326, 48), (4, 0, 0, 0, 0, 51), (0, 0, 0, 0, 0, 52), (42, 38, 3, 7, 328, 53), (4, 0, 0, 0, 0, 56), (0, 0, 0, 0, 0, 57), (45, 41, 3, 8, 330, 58), (4, 0, 0, 0, 0, 61), (41, 12, 3, 0, 308, 62), (0, (-1), 0, 0, 0, 65), (0, 0, 0, 0, 0, 66), (84, 45, 57, 3, 304, 67), (37, 0, 0, 0, 0, 70), (83, 0, 0, 0, 0, 71)] := id rfl
theorem mz_41 : x_mZ 41 = 9 := id rfl
def x_s5 (σ : x_S) : x_S := (x_st (x_st (x_st (x_st (x_st (x_st (x_st (x_st (x_st (x_st (x_st (x_st (x_st (x_st (x_st (x_zr (x_zr (x_s3 (x_zr σ 6 1)) 21 1) 22 1) 20 1 (3) (0)) 20 1 (4) (0)) 20 1 (5) (0)) 20 1 (6) (0)) 20 1 (7) (0)) 20 1 (8) (0)) 6 1 (6) (1)) 7 1 (0) (-1)) 8 1 (0) (0)) 9 1 (0) (0)) 10 1 (0) (0)) 11 1 (0) (0)) 12 1 (0) (0)) 14 1 (0) (0)) 13 1 (0) (0))
theorem x_ci5 {d : Nat} {σ : x_S} {Q : Option x_V → x_K → x_S → Prop} (h : Q (none) (31, 29) (x_s5 σ)) : x_Wk (d + 1) 41 (x_blk 41 0) (x_ini 41 [xR 20 1]) [] (19, 17) σ Q := by
  rw [bk_41_0]
  refine x_wk_s (k' := (19, 17)) (by decide) rfl ?_
  refine x_wk_s (k' := (19, 17)) (by decide) rfl ?_
  refine x_wk_s (k' := (19, 17)) (by decide) rfl ?_
  refine x_wk_s (k' := (20, 17)) (by decide) rfl ?_
  refine x_wk_s (k' := (20, 17)) (by decide) rfl ?_
  refine x_wk_c (by decide) (by decide) (by decide) rfl rfl (x_ci3 ?_)
  try simp only [x_psh]
  refine x_wk_s (k' := (29, 27)) (by decide) rfl ?_
  refine x_wk_s (k' := (29, 27)) (by decide) rfl ?_
  refine x_wk_s (k' := (29, 27)) (by decide) rfl ?_
  refine x_wk_s (k' := (30, 27)) (by decide) rfl ?_
  refine x_wk_s (k' := (30, 28)) (by decide) rfl ?_
  refine x_wk_s (k' := (30, 28)) (by decide) rfl ?_
  refine x_wk_s (k' := (30, 28)) (by decide) rfl ?_
  refine x_wk_s (k' := (31, 28)) (by decide) rfl ?_
  refine x_wk_s (k' := (31, 29)) (by decide) rfl ?_
  refine x_wk_s (k' := (31, 29)) (by decide) rfl ?_
  refine x_wk_s (k' := (31, 29)) (by decide) rfl ?_
  refine x_wk_s (k' := (31, 29)) (by decide) rfl ?_
  refine x_wk_s (k' := (31, 29)) (by decide) rfl ?_
  refine x_wk_s (k' := (31, 29)) (by decide) rfl ?_
  refine x_wk_s (k' := (31, 29)) (by decide) rfl ?_
  refine x_wk_s (k' := (31, 29)) (by decide) rfl ?_
  refine x_wk_s (k' := (31, 29)) (by decide) rfl ?_
  refine x_wk_s (k' := (31, 29)) (by decide) rfl ?_
  refine x_wk_s (k' := (31, 29)) (by decide) rfl ?_
  refine x_wk_s (k' := (31, 29)) (by decide) rfl ?_
  refine x_wk_s (k' := (31, 29)) (by decide) rfl ?_
  refine x_wk_s (k' := (31, 29)) (by decide) rfl ?_
  refine x_wk_s (k' := (31, 29)) (by decide) rfl ?_
  refine x_wk_s (k' := (31, 29)) (by decide) rfl ?_
  refine x_wk_s (k' := (31, 29)) (by decide) rfl ?_
  refine x_wk_s (k' := (31, 29)) (by decide) rfl ?_
  refine x_wk_s (k' := (31, 29)) (by decide) rfl ?_
  refine x_wk_s (k' := (31, 29)) (by decide) rfl ?_
  refine x_wk_s (k' := (31, 29)) (by decide) rfl ?_
  refine x_wk_s (k' := (31, 29)) (by decide) rfl ?_
  refine x_wk_s (k' := (31, 29)) (by decide) rfl ?_
  refine x_wk_c (by decide) (by decide) (by decide) rfl rfl ?_
  rw [bk_57_0]
  refine x_wk_s (k' := (31, 29)) (by decide) rfl ?_
  refine x_wk_s (k' := (31, 29)) (by decide) rfl ?_
  refine x_wk_s (k' := (31, 29)) (by decide) rfl ?_
  refine x_wk_s (k' := (31, 29)) (by decide) rfl ?_
  refine x_wk_s (k' := (31, 29)) (by decide) rfl ?_
  refine x_wk_s (k' := (31, 29)) (by decide) rfl ?_
  refine x_wk_s (k' := (31, 29)) (by decide) rfl ?_
  refine x_wk_s (k' := (31, 29)) (by decide) rfl ?_
  refine x_wk_s (k' := (31, 29)) (by decide) rfl ?_
  refine x_wk_s (k' := (31, 29)) (by decide) rfl ?_
  refine x_wk_s (k' := (31, 29)) (by decide) rfl ?_
  refine x_wk_s (k' := (31, 29)) (by decide) rfl ?_
  refine x_wk_s (k' := (31, 29)) (by decide) rfl ?_
  refine x_wk_s (k' := (31, 29)) (by decide) rfl ?_
  refine x_wk_s (k' := (31, 29)) (by decide) rfl ?_
  refine x_wk_s (k' := (31, 29)) (by decide) rfl ?_
  refine x_wk_s (k' := (31, 29)) (by decide) rfl ?_
  refine x_wk_s (k' := (31, 29)) (by decide) rfl ?_
  refine x_wk_s (k' := (31, 29)) (by decide) rfl ?_
  refine x_wk_s (k' := (31, 29)) (by decide) rfl ?_
  refine x_wk_s (k' := (31, 29)) (by decide) rfl ?_
  refine x_wk_s (k' := (31, 29)) (by decide) rfl ?_
  refine x_wk_s (k' := (31, 29)) (by decide) rfl ?_
  refine x_wk_s (k' := (31, 29)) (by decide) rfl ?_
  refine x_wk_s (k' := (31, 29)) (by decide) rfl ?_
  refine x_wk_s (k' := (31, 29)) (by decide) rfl ?_
  refine x_wk_s (k' := (31, 29)) (by decide) rfl ?_
  refine x_wk_s (k' := (31, 29)) (by decide) rfl ?_
  refine x_wk_s (k' := (31, 29)) (by decide) rfl ?_
  refine x_wk_s (k' := (31, 29)) (by decide) rfl ?_
  refine x_wk_s (k' := (31, 29)) (by decide) rfl ?_
  refine x_wk_s (k' := (31, 29)) (by decide) rfl ?_
  refine x_wk_s (k' := (31, 29)) (by decide) rfl ?_
  refine x_wk_s (k' := (31, 29)) (by decide) rfl ?_
  refine x_wk_s (k' := (31, 29)) (by decide) rfl ?_
  refine x_wk_s (k' := (31, 29)) (by decide) rfl ?_
  refine x_wk_s (k' := (31, 29)) (by decide) rfl ?_
  refine x_wk_s (k' := (31, 29)) (by decide) rfl ?_
  refine x_wk_s (k' := (31, 29)) (by decide) rfl ?_
  refine x_wk_s (k' := (31, 29)) (by decide) rfl ?_
  refine x_wk_s (k' := (31, 29)) (by decide) rfl ?_
  refine x_wk_s (k' := (31, 29)) (by decide) rfl ?_
  refine x_wk_s (k' := (31, 29)) (by decide) rfl ?_
  refine x_wk_s (k' := (31, 29)) (by decide) rfl ?_
  refine x_wk_s (k' := (31, 29)) (by decide) rfl ?_
  refine x_wk_s (k' := (31, 29)) (by decide) rfl ?_
  refine x_wk_s (k' := (31, 29)) (by decide) rfl ?_
  refine x_wk_s (k' := (31, 29)) (by decide) rfl ?_
  refine x_wk_s (k' := (31, 29)) (by decide) rfl ?_
  refine x_wk_s (k' := (31, 29)) (by decide) rfl ?_
  refine x_wk_s (k' := (31, 29)) (by decide) rfl ?_
  refine x_wk_bt (t := 1) (by decide) (by decide) rfl ?_
  rw [bk_57_1]
  refine x_wk_s (k' := (31, 29)) (by decide) rfl ?_
  refine x_wk_r (r := some (xI 0)) (by decide) (by decide) (by decide) rfl ?_
  refine x_wk_s (k' := (31, 29)) (by decide) rfl ?_
  refine x_wk_r (r := none) (by decide) (by decide) (by decide) rfl ?_
  exact h
theorem bk_0_0 : x_blk 0 0 = [(4, 0, 0, 0, 0, 0), (58, 3, 0, 0, 357, 1), (4, 0, 0, 0, 0, 4), (0, 4, 0, 0, 0, 5), (42, 9, 0, 1, 359, 6), (4, 0, 0, 0, 0, 9), (0, 5, 0, 0, 0, 10), (42, 15, 0, 2, 361, 11), (4, 0, 0, 0, 0, 14), (0, 1680, 2, 0, 0, 15), (55, 0, 1, 0, 0, 18), (44, 18, 0, 4, 364, 20), (4, 0, 0, 0, 0, 23), (0, 40, 1, 0, 0, 24), (55, 0, 1, 0, 0, 26), (44, 22, 0, 5, 365, 28), (4, 0, 0, 0, 0, 31), (0, 42, 1, 0, 0, 32), (55, 0, 1, 0, 0, 34), (44, 25, 0, 6, 366, 36), (4, 0, 0, 0, 0, 39), (1, 0, 0, 0, 0, 40), (43, 28, 0, 7, 367, 41), (4, 0, 0, 0, 0, 44), (1, 0, 0, 0, 0, 45), (43, 32, 0, 8, 368, 46), (4, 0, 0, 0, 0, 49), (1, 0, 0, 0, 0, 50), (43, 35, 0, 9, 369, 51), (4, 0, 0, 0, 0, 54), (0, 42, 1, 0, 0, 55), (55, 0, 1, 0, 0, 57), (44, 38, 0, 10, 370, 59), (4, 0, 0, 0, 0, 62), (4, 0, 1, 0, 0, 63), (44, 41, 0, 0, 358, 64), (4, 0, 0, 0, 0, 67), (2, 0, 2, 0, 0, 68), (42, 45, 0, 3, 363, 69), (83, 0, 0, 0, 0, 72)] := id rfl
theorem mz_0 : x_mZ 0 = 9 := id rfl
def x_s6 (σ : x_S) : x_S := (x_st (x_zr (x_st (x_st (x_st (x_zr (x_zr (x_zr (x_st (x_st σ 24 0 (1) (4)) 24 0 (2) (5)) 25 0) 26 0) 27 0) 24 0 (7) (0)) 24 0 (8) (0)) 24 0 (9) (0)) 28 0) 24 0 (3) (0))
theorem x_ci6 {d : Nat} {σ : x_S} {Q : Option x_V → x_K → x_S → Prop} (h : Q (none) (37, 36) (x_s6 σ)) : x_Wk (d + 0) 0 (x_blk 0 0) (x_ini 0 [xR 24 0, xR 6 1, xI (0)]) [] (33, 31) σ Q := by
  rw [bk_0_0]
  refine x_wk_s (k' := (33, 31)) (by decide) rfl ?_
  refine x_wk_s (k' := (33, 31)) (by decide) rfl ?_
  refine x_wk_s (k' := (33, 31)) (by decide) rfl ?_
  refine x_wk_s (k' := (33, 31)) (by decide) rfl ?_
  refine x_wk_s (k' := (33, 31)) (by decide) rfl ?_
  refine x_wk_s (k' := (33, 31)) (by decide) rfl ?_
  refine x_wk_s (k' := (33, 31)) (by decide) rfl ?_
  refine x_wk_s (k' := (33, 31)) (by decide) rfl ?_
  refine x_wk_s (k' := (33, 31)) (by decide) rfl ?_
  refine x_wk_s (k' := (33, 31)) (by decide) rfl ?_
  refine x_wk_s (k' := (34, 31)) (by decide) rfl ?_
  refine x_wk_s (k' := (34, 32)) (by decide) rfl ?_
  refine x_wk_s (k' := (34, 32)) (by decide) rfl ?_
  refine x_wk_s (k' := (34, 32)) (by decide) rfl ?_
  refine x_wk_s (k' := (35, 32)) (by decide) rfl ?_
  refine x_wk_s (k' := (35, 33)) (by decide) rfl ?_
  refine x_wk_s (k' := (35, 33)) (by decide) rfl ?_
  refine x_wk_s (k' := (35, 33)) (by decide) rfl ?_
  refine x_wk_s (k' := (36, 33)) (by decide) rfl ?_
  refine x_wk_s (k' := (36, 34)) (by decide) rfl ?_
  refine x_wk_s (k' := (36, 34)) (by decide) rfl ?_
  refine x_wk_s (k' := (36, 34)) (by decide) rfl ?_
  refine x_wk_s (k' := (36, 34)) (by decide) rfl ?_
  refine x_wk_s (k' := (36, 34)) (by decide) rfl ?_
  refine x_wk_s (k' := (36, 34)) (by decide) rfl ?_
  refine x_wk_s (k' := (36, 34)) (by decide) rfl ?_
  refine x_wk_s (k' := (36, 34)) (by decide) rfl ?_
  refine x_wk_s (k' := (36, 34)) (by decide) rfl ?_
  refine x_wk_s (k' := (36, 34)) (by decide) rfl ?_
  refine x_wk_s (k' := (36, 34)) (by decide) rfl ?_
  refine x_wk_s (k' := (36, 34)) (by decide) rfl ?_
  refine x_wk_s (k' := (37, 34)) (by decide) rfl ?_
  refine x_wk_s (k' := (37, 35)) (by decide) rfl ?_
  refine x_wk_s (k' := (37, 35)) (by decide) rfl ?_
  refine x_wk_s (k' := (37, 35)) (by decide) rfl ?_
  refine x_wk_s (k' := (37, 36)) (by decide) rfl ?_
  refine x_wk_s (k' := (37, 36)) (by decide) rfl ?_
  refine x_wk_s (k' := (37, 36)) (by decide) rfl ?_
  refine x_wk_s (k' := (37, 36)) (by decide) rfl ?_
  refine x_wk_r (r := none) (by decide) (by decide) (by decide) rfl ?_
  exact h
def x_s7 (σ : x_S) : x_S := (x_st (x_zr (x_st (x_st (x_st (x_zr (x_zr (x_zr (x_st (x_st σ 24 1 (1) (4)) 24 1 (2) (5)) 25 1) 26 1) 27 1) 24 1 (7) (0)) 24 1 (8) (0)) 24 1 (9) (0)) 28 1) 24 1 (3) (1))
theorem x_ci7 {d : Nat} {σ : x_S} {Q : Option x_V → x_K → x_S → Prop} (h : Q (none) (42, 42) (x_s7 σ)) : x_Wk (d + 0) 0 (x_blk 0 0) (x_ini 0 [xR 24 1, xR 6 1, xI (1)]) [] (38, 37) σ Q := by
  rw [bk_0_0]
  refine x_wk_s (k' := (38, 37)) (by decide) rfl ?_
  refine x_wk_s (k' := (38, 37)) (by decide) rfl ?_
  refine x_wk_s (k' := (38, 37)) (by decide) rfl ?_
  refine x_wk_s (k' := (38, 37)) (by decide) rfl ?_
  refine x_wk_s (k' := (38, 37)) (by decide) rfl ?_
  refine x_wk_s (k' := (38, 37)) (by decide) rfl ?_
  refine x_wk_s (k' := (38, 37)) (by decide) rfl ?_
  refine x_wk_s (k' := (38, 37)) (by decide) rfl ?_
  refine x_wk_s (k' := (38, 37)) (by decide) rfl ?_
  refine x_wk_s (k' := (38, 37)) (by decide) rfl ?_
  refine x_wk_s (k' := (39, 37)) (by decide) rfl ?_
  refine x_wk_s (k' := (39, 38)) (by decide) rfl ?_
  refine x_wk_s (k' := (39, 38)) (by decide) rfl ?_
  refine x_wk_s (k' := (39, 38)) (by decide) rfl ?_
  refine x_wk_s (k' := (40, 38)) (by decide) rfl ?_
  refine x_wk_s (k' := (40, 39)) (by decide) rfl ?_
  refine x_wk_s (k' := (40, 39)) (by decide) rfl ?_
  refine x_wk_s (k' := (40, 39)) (by decide) rfl ?_
  refine x_wk_s (k' := (41, 39)) (by decide) rfl ?_
  refine x_wk_s (k' := (41, 40)) (by decide) rfl ?_
  refine x_wk_s (k' := (41, 40)) (by decide) rfl ?_
  refine x_wk_s (k' := (41, 40)) (by decide) rfl ?_
  refine x_wk_s (k' := (41, 40)) (by decide) rfl ?_
  refine x_wk_s (k' := (41, 40)) (by decide) rfl ?_
  refine x_wk_s (k' := (41, 40)) (by decide) rfl ?_
  refine x_wk_s (k' := (41, 40)) (by decide) rfl ?_
  refine x_wk_s (k' := (41, 40)) (by decide) rfl ?_
  refine x_wk_s (k' := (41, 40)) (by decide) rfl ?_
  refine x_wk_s (k' := (41, 40)) (by decide) rfl ?_
  refine x_wk_s (k' := (41, 40)) (by decide) rfl ?_
  refine x_wk_s (k' := (41, 40)) (by decide) rfl ?_
  refine x_wk_s (k' := (42, 40)) (by decide) rfl ?_
  refine x_wk_s (k' := (42, 41)) (by decide) rfl ?_
  refine x_wk_s (k' := (42, 41)) (by decide) rfl ?_
  refine x_wk_s (k' := (42, 41)) (by decide) rfl ?_
  refine x_wk_s (k' := (42, 42)) (by decide) rfl ?_
  refine x_wk_s (k' := (42, 42)) (by decide) rfl ?_
  refine x_wk_s (k' := (42, 42)) (by decide) rfl ?_
  refine x_wk_s (k' := (42, 42)) (by decide) rfl ?_
  refine x_wk_r (r := none) (by decide) (by decide) (by decide) rfl ?_
  exact h
def x_s8 (σ : x_S) : x_S := (x_st (x_zr (x_st (x_st (x_st (x_zr (x_zr (x_zr (x_st (x_st σ 24 2 (1) (4)) 24 2 (2) (5)) 25 2) 26 2) 27 2) 24 2 (7) (0)) 24 2 (8) (0)) 24 2 (9) (0)) 28 2) 24 2 (3) (2))
theorem x_ci8 {d : Nat} {σ : x_S} {Q : Option x_V → x_K → x_S → Prop} (h : Q (none) (47, 48) (x_s8 σ)) : x_Wk (d + 0) 0 (x_blk 0 0) (x_ini 0 [xR 24 2, xR 6 1, xI (2)]) [] (43, 43) σ Q := by
  rw [bk_0_0]
  refine x_wk_s (k' := (43, 43)) (by decide) rfl ?_
  refine x_wk_s (k' := (43, 43)) (by decide) rfl ?_
  refine x_wk_s (k' := (43, 43)) (by decide) rfl ?_
  refine x_wk_s (k' := (43, 43)) (by decide) rfl ?_
  refine x_wk_s (k' := (43, 43)) (by decide) rfl ?_
  refine x_wk_s (k' := (43, 43)) (by decide) rfl ?_
  refine x_wk_s (k' := (43, 43)) (by decide) rfl ?_
  refine x_wk_s (k' := (43, 43)) (by decide) rfl ?_
  refine x_wk_s (k' := (43, 43)) (by decide) rfl ?_
  refine x_wk_s (k' := (43, 43)) (by decide) rfl ?_
  refine x_wk_s (k' := (44, 43)) (by decide) rfl ?_
  refine x_wk_s (k' := (44, 44)) (by decide) rfl ?_
  refine x_wk_s (k' := (44, 44)) (by decide) rfl ?_
  refine x_wk_s (k' := (44, 44)) (by decide) rfl ?_
  refine x_wk_s (k' := (45, 44)) (by decide) rfl ?_
  refine x_wk_s (k' := (45, 45)) (by decide) rfl ?_
  refine x_wk_s (k' := (45, 45)) (by decide) rfl ?_
  refine x_wk_s (k' := (45, 45)) (by decide) rfl ?_
  refine x_wk_s (k' := (46, 45)) (by decide) rfl ?_
  refine x_wk_s (k' := (46, 46)) (by decide) rfl ?_
  refine x_wk_s (k' := (46, 46)) (by decide) rfl ?_
  refine x_wk_s (k' := (46, 46)) (by decide) rfl ?_
  refine x_wk_s (k' := (46, 46)) (by decide) rfl ?_
  refine x_wk_s (k' := (46, 46)) (by decide) rfl ?_
  refine x_wk_s (k' := (46, 46)) (by decide) rfl ?_
  refine x_wk_s (k' := (46, 46)) (by decide) rfl ?_
  refine x_wk_s (k' := (46, 46)) (by decide) rfl ?_
  refine x_wk_s (k' := (46, 46)) (by decide) rfl ?_
  refine x_wk_s (k' := (46, 46)) (by decide) rfl ?_
  refine x_wk_s (k' := (46, 46)) (by decide) rfl ?_
  refine x_wk_s (k' := (46, 46)) (by decide) rfl ?_
  refine x_wk_s (k' := (47, 46)) (by decide) rfl ?_
  refine x_wk_s (k' := (47, 47)) (by decide) rfl ?_
  refine x_wk_s (k' := (47, 47)) (by decide) rfl ?_
  refine x_wk_s (k' := (47, 47)) (by decide) rfl ?_
  refine x_wk_s (k' := (47, 48)) (by decide) rfl ?_
  refine x_wk_s (k' := (47, 48)) (by decide) rfl ?_
  refine x_wk_s (k' := (47, 48)) (by decide) rfl ?_
  refine x_wk_s (k' := (47, 48)) (by decide) rfl ?_
  refine x_wk_r (r := none) (by decide) (by decide) (by decide) rfl ?_
  exact h
def x_s9 (σ : x_S) : x_S := (x_st (x_zr (x_st (x_st (x_st (x_zr (x_zr (x_zr (x_st (x_st σ 24 3 (1) (4)) 24 3 (2) (5)) 25 3) 26 3) 27 3) 24 3 (7) (0)) 24 3 (8) (0)) 24 3 (9) (0)) 28 3) 24 3 (3) (0))
theorem x_ci9 {d : Nat} {σ : x_S} {Q : Option x_V → x_K → x_S → Prop} (h : Q (none) (52, 54) (x_s9 σ)) : x_Wk (d + 0) 0 (x_blk 0 0) (x_ini 0 [xR 24 3, xR 6 1, xI (0)]) [] (48, 49) σ Q := by
  rw [bk_0_0]
  refine x_wk_s (k' := (48, 49)) (by decide) rfl ?_
  refine x_wk_s (k' := (48, 49)) (by decide) rfl ?_
  refine x_wk_s (k' := (48, 49)) (by decide) rfl ?_
  refine x_wk_s (k' := (48, 49)) (by decide) rfl ?_
  refine x_wk_s (k' := (48, 49)) (by decide) rfl ?_
  refine x_wk_s (k' := (48, 49)) (by decide) rfl ?_
  refine x_wk_s (k' := (48, 49)) (by decide) rfl ?_
  refine x_wk_s (k' := (48, 49)) (by decide) rfl ?_
  refine x_wk_s (k' := (48, 49)) (by decide) rfl ?_
  refine x_wk_s (k' := (48, 49)) (by decide) rfl ?_
  refine x_wk_s (k' := (49, 49)) (by decide) rfl ?_
  refine x_wk_s (k' := (49, 50)) (by decide) rfl ?_
  refine x_wk_s (k' := (49, 50)) (by decide) rfl ?_
  refine x_wk_s (k' := (49, 50)) (by decide) rfl ?_
  refine x_wk_s (k' := (50, 50)) (by decide) rfl ?_
  refine x_wk_s (k' := (50, 51)) (by decide) rfl ?_
  refine x_wk_s (k' := (50, 51)) (by decide) rfl ?_
  refine x_wk_s (k' := (50, 51)) (by decide) rfl ?_
  refine x_wk_s (k' := (51, 51)) (by decide) rfl ?_
  refine x_wk_s (k' := (51, 52)) (by decide) rfl ?_
  refine x_wk_s (k' := (51, 52)) (by decide) rfl ?_
  refine x_wk_s (k' := (51, 52)) (by decide) rfl ?_
  refine x_wk_s (k' := (51, 52)) (by decide) rfl ?_
  refine x_wk_s (k' := (51, 52)) (by decide) rfl ?_
  refine x_wk_s (k' := (51, 52)) (by decide) rfl ?_
  refine x_wk_s (k' := (51, 52)) (by decide) rfl ?_
  refine x_wk_s (k' := (51, 52)) (by decide) rfl ?_
  refine x_wk_s (k' := (51, 52)) (by decide) rfl ?_
  refine x_wk_s (k' := (51, 52)) (by decide) rfl ?_
  refine x_wk_s (k' := (51, 52)) (by decide) rfl ?_
  refine x_wk_s (k' := (51, 52)) (by decide) rfl ?_
  refine x_wk_s (k' := (52, 52)) (by decide) rfl ?_
  refine x_wk_s (k' := (52, 53)) (by decide) rfl ?_
  refine x_wk_s (k' := (52, 53)) (by decide) rfl ?_
  refine x_wk_s (k' := (52, 53)) (by decide) rfl ?_
  refine x_wk_s (k' := (52, 54)) (by decide) rfl ?_
  refine x_wk_s (k' := (52, 54)) (by decide) rfl ?_
  refine x_wk_s (k' := (52, 54)) (by decide) rfl ?_
  refine x_wk_s (k' := (52, 54)) (by decide) rfl ?_
  refine x_wk_r (r := none) (by decide) (by decide) (by decide) rfl ?_
  exact h
theorem bk_87_0 : x_blk 87 0 = [(4, 0, 0, 0, 0, 0), (58, 3, 0, 0, 399, 1), (4, 0, 0, 0, 0, 4), (0, 40, 1, 0, 0, 5), (55, 0, 1, 0, 0, 7), (44, 9, 7, 1, 401, 9), (4, 0, 0, 0, 0, 12), (0, 1680, 2, 0, 0, 13), (55, 0, 0, 0, 0, 16), (44, 15, 7, 2, 403, 18), (4, 0, 0, 0, 0, 21), (0, 42, 1, 0, 0, 22), (55, 0, 0, 0, 0, 24), (44, 19, 7, 3, 404, 26), (4, 0, 0, 0, 0, 29), (4, 0, 1, 0, 0, 30), (44, 22, 7, 0, 400, 31), (83, 0, 0, 0, 0, 34)] := id rfl
theorem mz_87 : x_mZ 87 = 9 := id rfl
def x_s10 (σ : x_S) : x_S := (x_zr (x_zr (x_zr σ 30 0) 31 0) 32 0)
theorem x_ci10 {d : Nat} {σ : x_S} {Q : Option x_V → x_K → x_S → Prop} (h : Q (none) (56, 59) (x_s10 σ)) : x_Wk (d + 0) 87 (x_blk 87 0) (x_ini 87 [xR 29 0, xR 6 1]) [] (53, 55) σ Q := by
  rw [bk_87_0]
  refine x_wk_s (k' := (53, 55)) (by decide) rfl ?_
  refine x_wk_s (k' := (53, 55)) (by decide) rfl ?_
  refine x_wk_s (k' := (53, 55)) (by decide) rfl ?_
  refine x_wk_s (k' := (53, 55)) (by decide) rfl ?_
  refine x_wk_s (k' := (54, 55)) (by decide) rfl ?_
  refine x_wk_s (k' := (54, 56)) (by decide) rfl ?_
  refine x_wk_s (k' := (54, 56)) (by decide) rfl ?_
  refine x_wk_s (k' := (54, 56)) (by decide) rfl ?_
  refine x_wk_s (k' := (55, 56)) (by decide) rfl ?_
  refine x_wk_s (k' := (55, 57)) (by decide) rfl ?_
  refine x_wk_s (k' := (55, 57)) (by decide) rfl ?_
  refine x_wk_s (k' := (55, 57)) (by decide) rfl ?_
  refine x_wk_s (k' := (56, 57)) (by decide) rfl ?_
  refine x_wk_s (k' := (56, 58)) (by decide) rfl ?_
  refine x_wk_s (k' := (56, 58)) (by decide) rfl ?_
  refine x_wk_s (k' := (56, 58)) (by decide) rfl ?_
  refine x_wk_s (k' := (56, 59)) (by decide) rfl ?_
  refine x_wk_r (r := none) (by decide) (by decide) (by decide) rfl ?_
  exact h
theorem bk_76_0 : x_blk 76 0 = [(4, 0, 0, 0, 0, 0), (58, 3, 0, 0, 419, 1), (4, 0, 0, 0, 0, 4), (0, 40, 1, 0, 0, 5), (55, 0, 3, 0, 0, 7), (44, 9, 6, 1, 421, 9), (4, 0, 0, 0, 0, 12), (0, 40, 1, 0, 0, 13), (55, 0, 3, 0, 0, 15), (44, 15, 6, 2, 423, 17), (4, 0, 0, 0, 0, 20), (0, 40, 1, 0, 0, 21), (55, 0, 0, 0, 0, 23), (44, 18, 6, 3, 425, 25), (4, 0, 0, 0, 0, 28), (0, 40, 1, 0, 0, 29), (55, 0, 0, 0, 0, 31), (44, 22, 6, 4, 427, 33), (4, 0, 0, 0, 0, 36), (0, 40, 1, 0, 0, 37), (55, 0, 0, 0, 0, 39), (44, 25, 6, 5, 429, 41), (4, 0, 0, 0, 0, 44), (0, 40, 1, 0, 0, 45), (55, 0, 0, 0, 0, 47), (44, 28, 6, 6, 431, 49), (4, 0, 0, 0, 0, 52), (0, 40, 1, 0, 0, 53), (55, 0, 0, 0, 0, 55), (44, 31, 6, 7, 433, 57), (4, 0, 0, 0, 0, 60), (0, 40, 1, 0, 0, 61), (55, 0, 0, 0, 0, 63), (44, 34, 6, 8, 435, 65), (4, 0, 0, 0, 0, 68), (0, 40, 1, 0, 0, 69), (55, 0, 1, 0, 0, 71), (44, 37, 6, 9, 437, 73), (4, 0, 0, 0, 0, 76), (0, (-1), 0, 0, 0, 77), (42, 41, 6, 10, 439, 78), (4, 0, 0, 0, 0, 81), (0, 40, 1, 0, 0, 82), (55, 0, 3, 0, 0, 84), (44, 45, 6, 11, 441, 86), (4, 0, 0, 0, 0, 89), (4, 0, 1, 0, 0, 90), (44, 48, 6, 0, 420, 91), (83, 0, 0, 0, 0, 94)] := id rfl
theorem mz_76 : x_mZ 76 = 9 := id rfl
def x_s11 (σ : x_S) : x_S := (x_zr (x_st (x_zr (x_zr (x_zr (x_zr (x_zr (x_zr (x_zr (x_zr (x_zr σ 34 0) 35 0) 36 0) 37 0) 38 0) 39 0) 40 0) 41 0) 42 0) 33 0 (10) (-1)) 43 0)
theorem x_ci11 {d : Nat} {σ : x_S} {Q : Option x_V → x_K → x_S → Prop} (h : Q (none) (67, 71) (x_s11 σ)) : x_Wk (d + 0) 76 (x_blk 76 0) (x_ini 76 [xR 33 0, xR 20 1]) [] (57, 60) σ Q := by
  rw [bk_76_0]
  refine x_wk_s (k' := (57, 60)) (by decide) rfl ?_
  refine x_wk_s (k' := (57, 60)) (by decide) rfl ?_
  refine x_wk_s (k' := (57, 60)) (by decide) rfl ?_
  refine x_wk_s (k' := (57, 60)) (by decide) rfl ?_
  refine x_wk_s (k' := (58, 60)) (by decide) rfl ?_
  refine x_wk_s (k' := (58, 61)) (by decide) rfl ?_
  refine x_wk_s (k' := (58, 61)) (by decide) rfl ?_
  refine x_wk_s (k' := (58, 61)) (by decide) rfl ?_
  refine x_wk_s (k' := (59, 61)) (by decide) rfl ?_
  refine x_wk_s (k' := (59, 62)) (by decide) rfl ?_
  refine x_wk_s (k' := (59, 62)) (by decide) rfl ?_
  refine x_wk_s (k' := (59, 62)) (by decide) rfl ?_
  refine x_wk_s (k' := (60, 62)) (by decide) rfl ?_
  refine x_wk_s (k' := (60, 63)) (by decide) rfl ?_
  refine x_wk_s (k' := (60, 63)) (by decide) rfl ?_
  refine x_wk_s (k' := (60, 63)) (by decide) rfl ?_
  refine x_wk_s (k' := (61, 63)) (by decide) rfl ?_
  refine x_wk_s (k' := (61, 64)) (by decide) rfl ?_
  refine x_wk_s (k' := (61, 64)) (by decide) rfl ?_
  refine x_wk_s (k' := (61, 64)) (by decide) rfl ?_
  refine x_wk_s (k' := (62, 64)) (by decide) rfl ?_
  refine x_wk_s (k' := (62, 65)) (by decide) rfl ?_
  refine x_wk_s (k' := (62, 65)) (by decide) rfl ?_
  refine x_wk_s (k' := (62, 65)) (by decide) rfl ?_
  refine x_wk_s (k' := (63, 65)) (by decide) rfl ?_
  refine x_wk_s (k' := (63, 66)) (by decide) rfl ?_
  refine x_wk_s (k' := (63, 66)) (by decide) rfl ?_
  refine x_wk_s (k' := (63, 66)) (by decide) rfl ?_
  refine x_wk_s (k' := (64, 66)) (by decide) rfl ?_
  refine x_wk_s (k' := (64, 67)) (by decide) rfl ?_
  refine x_wk_s (k' := (64, 67)) (by decide) rfl ?_
  refine x_wk_s (k' := (64, 67)) (by decide) rfl ?_
  refine x_wk_s (k' := (65, 67)) (by decide) rfl ?_
  refine x_wk_s (k' := (65, 68)) (by decide) rfl ?_
  refine x_wk_s (k' := (65, 68)) (by decide) rfl ?_
  refine x_wk_s (k' := (65, 68)) (by decide) rfl ?_
  refine x_wk_s (k' := (66, 68)) (by decide) rfl ?_
  refine x_wk_s (k' := (66, 69)) (by decide) rfl ?_
  refine x_wk_s (k' := (66, 69)) (by decide) rfl ?_
  refine x_wk_s (k' := (66, 69)) (by decide) rfl ?_
  refine x_wk_s (k' := (66, 69)) (by decide) rfl ?_
  refine x_wk_s (k' := (66, 69)) (by decide) rfl ?_
  refine x_wk_s (k' := (66, 69)) (by decide) rfl ?_
  refine x_wk_s (k' := (67, 69)) (by decide) rfl ?_
  refine x_wk_s (k' := (67, 70)) (by decide) rfl ?_
  refine x_wk_s (k' := (67, 70)) (by decide) rfl ?_
  refine x_wk_s (k' := (67, 70)) (by decide) rfl ?_
  refine x_wk_s (k' := (67, 71)) (by decide) rfl ?_
  refine x_wk_r (r := none) (by decide) (by decide) (by decide) rfl ?_
  exact h
theorem bk_17_0 : x_blk 17 0 = [(4, 0, 0, 0, 0, 0), (58, 3, 0, 0, 473, 1), (4, 0, 0, 0, 0, 4), (0, 40, 1, 0, 0, 5), (55, 0, 0, 0, 0, 7), (44, 9, 1, 1, 475, 9), (4, 0, 0, 0, 0, 12), (0, 40, 1, 0, 0, 13), (55, 0, 0, 0, 0, 15), (44, 15, 1, 2, 477, 17), (4, 0, 0, 0, 0, 20), (0, 40, 1, 0, 0, 21), (55, 0, 0, 0, 0, 23), (44, 18, 1, 3, 479, 25), (4, 0, 0, 0, 0, 28), (0, 200, 2, 0, 0, 29), (55, 0, 0, 0, 0, 32), (44, 21, 1, 4, 480, 34), (4, 0, 0, 0, 0, 37), (0, 200, 2, 0, 0, 38), (55, 0, 0, 0, 0, 41), (44, 24, 1, 5, 481, 43), (4, 0, 0, 0, 0, 46), (4, 0, 1, 0, 0, 47), (44, 27, 1, 0, 474, 48), (83, 0, 0, 0, 0, 51)] := id rfl
theorem mz_17 : x_mZ 17 = 9 := id rfl
def x_s12 (σ : x_S) : x_S := (x_zr (x_zr (x_zr (x_zr (x_zr σ 45 0) 46 0) 47 0) 48 0) 49 0)
theorem x_ci12 {d : Nat} {σ : x_S} {Q : Option x_V → x_K → x_S → Prop} (h : Q (none) (73, 78) (x_s12 σ)) : x_Wk (d + 0) 17 (x_blk 17 0) (x_ini 17 [xR 44 0, xR 6 1]) [] (68, 72) σ Q := by
  rw [bk_17_0]
  refine x_wk_s (k' := (68, 72)) (by decide) rfl ?_
  refine x_wk_s (k' := (68, 72)) (by decide) rfl ?_
  refine x_wk_s (k' := (68, 72)) (by decide) rfl ?_
  refine x_wk_s (k' := (68, 72)) (by decide) rfl ?_
  refine x_wk_s (k' := (69, 72)) (by decide) rfl ?_
  refine x_wk_s (k' := (69, 73)) (by decide) rfl ?_
  refine x_wk_s (k' := (69, 73)) (by decide) rfl ?_
  refine x_wk_s (k' := (69, 73)) (by decide) rfl ?_
  refine x_wk_s (k' := (70, 73)) (by decide) rfl ?_
  refine x_wk_s (k' := (70, 74)) (by decide) rfl ?_
  refine x_wk_s (k' := (70, 74)) (by decide) rfl ?_
  refine x_wk_s (k' := (70, 74)) (by decide) rfl ?_
  refine x_wk_s (k' := (71, 74)) (by decide) rfl ?_
  refine x_wk_s (k' := (71, 75)) (by decide) rfl ?_
  refine x_wk_s (k' := (71, 75)) (by decide) rfl ?_
  refine x_wk_s (k' := (71, 75)) (by decide) rfl ?_
  refine x_wk_s (k' := (72, 75)) (by decide) rfl ?_
  refine x_wk_s (k' := (72, 76)) (by decide) rfl ?_
  refine x_wk_s (k' := (72, 76)) (by decide) rfl ?_
  refine x_wk_s (k' := (72, 76)) (by decide) rfl ?_
  refine x_wk_s (k' := (73, 76)) (by decide) rfl ?_
  refine x_wk_s (k' := (73, 77)) (by decide) rfl ?_
  refine x_wk_s (k' := (73, 77)) (by decide) rfl ?_
  refine x_wk_s (k' := (73, 77)) (by decide) rfl ?_
  refine x_wk_s (k' := (73, 78)) (by decide) rfl ?_
  refine x_wk_r (r := none) (by decide) (by decide) (by decide) rfl ?_
  exact h
def x_s13 (σ : x_S) : x_S := (x_zr (x_zr (x_zr (x_zr (x_zr (x_zr (x_zr (x_zr (x_zr (x_st (x_st (x_st (x_st (x_st (x_st (x_st σ 6 2 (0) (0)) 6 2 (1) (0)) 6 2 (2) (0)) 6 2 (3) (0)) 6 2 (4) (0)) 6 2 (5) (0)) 6 2 (6) (0)) 7 2) 8 2) 9 2) 10 2) 11 2) 12 2) 13 2) 14 2) 15 2)
theorem x_ci13 {d : Nat} {σ : x_S} {Q : Option x_V → x_K → x_S → Prop} (h : Q (none) (86, 90) (x_s13 σ)) : x_Wk (d + 0) 56 (x_blk 56 0) (x_ini 56 [xR 6 2]) [] (77, 81) σ Q := by
  rw [bk_56_0]
  refine x_wk_s (k' := (77, 81)) (by decide) rfl ?_
  refine x_wk_s (k' := (77, 81)) (by decide) rfl ?_
  refine x_wk_s (k' := (77, 81)) (by decide) rfl ?_
  refine x_wk_s (k' := (77, 81)) (by decide) rfl ?_
  refine x_wk_s (k' := (77, 81)) (by decide) rfl ?_
  refine x_wk_s (k' := (77, 81)) (by decide) rfl ?_
  refine x_wk_s (k' := (77, 81)) (by decide) rfl ?_
  refine x_wk_s (k' := (77, 81)) (by decide) rfl ?_
  refine x_wk_s (k' := (77, 81)) (by decide) rfl ?_
  refine x_wk_s (k' := (77, 81)) (by decide) rfl ?_
  refine x_wk_s (k' := (77, 81)) (by decide) rfl ?_
  refine x_wk_s (k' := (77, 81)) (by decide) rfl ?_
  refine x_wk_s (k' := (77, 81)) (by decide) rfl ?_
  refine x_wk_s (k' := (77, 81)) (by decide) rfl ?_
  refine x_wk_s (k' := (77, 81)) (by decide) rfl ?_
  refine x_wk_s (k' := (77, 81)) (by decide) rfl ?_
  refine x_wk_s (k' := (77, 81)) (by decide) rfl ?_
  refine x_wk_s (k' := (77, 81)) (by decide) rfl ?_
  refine x_wk_s (k' := (77, 81)) (by decide) rfl ?_
  refine x_wk_s (k' := (77, 81)) (by decide) rfl ?_
  refine x_wk_s (k' := (77, 81)) (by decide) rfl ?_
  refine x_wk_s (k' := (77, 81)) (by decide) rfl ?_
  refine x_wk_s (k' := (77, 81)) (by decide) rfl ?_
  refine x_wk_s (k' := (77, 81)) (by decide) rfl ?_
  refine x_wk_s (k' := (77, 81)) (by decide) rfl ?_
  refine x_wk_s (k' := (78, 81)) (by decide) rfl ?_
  refine x_wk_s (k' := (78, 82)) (by decide) rfl ?_
  refine x_wk_s (k' := (78, 82)) (by decide) rfl ?_
  refine x_wk_s (k' := (78, 82)) (by decide) rfl ?_
  refine x_wk_s (k' := (79, 82)) (by decide) rfl ?_
  refine x_wk_s (k' := (79, 83)) (by decide) rfl ?_
  refine x_wk_s (k' := (79, 83)) (by decide) rfl ?_
  refine x_wk_s (k' := (79, 83)) (by decide) rfl ?_
  refine x_wk_s (k' := (80, 83)) (by decide) rfl ?_
  refine x_wk_s (k' := (80, 84)) (by decide) rfl ?_
  refine x_wk_s (k' := (80, 84)) (by decide) rfl ?_
  refine x_wk_s (k' := (80, 84)) (by decide) rfl ?_
  refine x_wk_s (k' := (81, 84)) (by decide) rfl ?_
  refine x_wk_s (k' := (81, 85)) (by decide) rfl ?_
  refine x_wk_s (k' := (81, 85)) (by decide) rfl ?_
  refine x_wk_s (k' := (81, 85)) (by decide) rfl ?_
  refine x_wk_s (k' := (82, 85)) (by decide) rfl ?_
  refine x_wk_s (k' := (82, 86)) (by decide) rfl ?_
  refine x_wk_s (k' := (82, 86)) (by decide) rfl ?_
  refine x_wk_s (k' := (82, 86)) (by decide) rfl ?_
  refine x_wk_s (k' := (83, 86)) (by decide) rfl ?_
  refine x_wk_s (k' := (83, 87)) (by decide) rfl ?_
  refine x_wk_s (k' := (83, 87)) (by decide) rfl ?_
  refine x_wk_s (k' := (83, 87)) (by decide) rfl ?_
  refine x_wk_s (k' := (84, 87)) (by decide) rfl ?_
  refine x_wk_s (k' := (84, 88)) (by decide) rfl ?_
  refine x_wk_s (k' := (84, 88)) (by decide) rfl ?_
  refine x_wk_s (k' := (84, 88)) (by decide) rfl ?_
  refine x_wk_s (k' := (85, 88)) (by decide) rfl ?_
  refine x_wk_s (k' := (85, 89)) (by decide) rfl ?_
  refine x_wk_s (k' := (85, 89)) (by decide) rfl ?_
  refine x_wk_s (k' := (85, 89)) (by decide) rfl ?_
  refine x_wk_s (k' := (86, 89)) (by decide) rfl ?_
  refine x_wk_s (k' := (86, 90)) (by decide) rfl ?_
  refine x_wk_r (r := none) (by decide) (by decide) (by decide) rfl ?_
  exact h
def x_s15 (σ : x_S) : x_S := (x_st (x_st (x_st (x_st (x_st (x_st (x_st (x_st (x_st (x_st (x_st (x_st (x_st (x_st (x_st (x_zr (x_zr (x_s13 (x_zr σ 6 2)) 21 2) 22 2) 20 2 (3) (0)) 20 2 (4) (0)) 20 2 (5) (0)) 20 2 (6) (0)) 20 2 (7) (0)) 20 2 (8) (0)) 6 2 (6) (1)) 7 2 (0) (-1)) 8 2 (0) (0)) 9 2 (0) (0)) 10 2 (0) (0)) 11 2 (0) (0)) 12 2 (0) (0)) 14 2 (0) (0)) 13 2 (0) (0))
theorem x_ci15 {d : Nat} {σ : x_S} {Q : Option x_V → x_K → x_S → Prop} (h : Q (none) (88, 93) (x_s15 σ)) : x_Wk (d + 1) 41 (x_blk 41 0) (x_ini 41 [xR 20 2]) [] (76, 81) σ Q := by
  rw [bk_41_0]
  refine x_wk_s (k' := (76, 81)) (by decide) rfl ?_
  refine x_wk_s (k' := (76, 81)) (by decide) rfl ?_
  refine x_wk_s (k' := (76, 81)) (by decide) rfl ?_
  refine x_wk_s (k' := (77, 81)) (by decide) rfl ?_
  refine x_wk_s (k' := (77, 81)) (by decide) rfl ?_
  refine x_wk_c (by decide) (by decide) (by decide) rfl rfl (x_ci13 ?_)
  try simp only [x_psh]
  refine x_wk_s (k' := (86, 91)) (by decide) rfl ?_
  refine x_wk_s (k' := (86, 91)) (by decide) rfl ?_
  refine x_wk_s (k' := (86, 91)) (by decide) rfl ?_
  refine x_wk_s (k' := (87, 91)) (by decide) rfl ?_
  refine x_wk_s (k' := (87, 92)) (by decide) rfl ?_
  refine x_wk_s (k' := (87, 92)) (by decide) rfl ?_
  refine x_wk_s (k' := (87, 92)) (by decide) rfl ?_
  refine x_wk_s (k' := (88, 92)) (by decide) rfl ?_
  refine x_wk_s (k' := (88, 93)) (by decide) rfl ?_
  refine x_wk_s (k' := (88, 93)) (by decide) rfl ?_
  refine x_wk_s (k' := (88, 93)) (by decide) rfl ?_
  refine x_wk_s (k' := (88, 93)) (by decide) rfl ?_
  refine x_wk_s (k' := (88, 93)) (by decide) rfl ?_
  refine x_wk_s (k' := (88, 93)) (by decide) rfl ?_
  refine x_wk_s (k' := (88, 93)) (by decide) rfl ?_
  refine x_wk_s (k' := (88, 93)) (by decide) rfl ?_
  refine x_wk_s (k' := (88, 93)) (by decide) rfl ?_
  refine x_wk_s (k' := (88, 93)) (by decide) rfl ?_
  refine x_wk_s (k' := (88, 93)) (by decide) rfl ?_
  refine x_wk_s (k' := (88, 93)) (by decide) rfl ?_
  refine x_wk_s (k' := (88, 93)) (by decide) rfl ?_
  refine x_wk_s (k' := (88, 93)) (by decide) rfl ?_
  refine x_wk_s (k' := (88, 93)) (by decide) rfl ?_
  refine x_wk_s (k' := (88, 93)) (by decide) rfl ?_
  refine x_wk_s (k' := (88, 93)) (by decide) rfl ?_
  refine x_wk_s (k' := (88, 93)) (by decide) rfl ?_
  refine x_wk_s (k' := (88, 93)) (by decide) rfl ?_
  refine x_wk_s (k' := (88, 93)) (by decide) rfl ?_
  refine x_wk_s (k' := (88, 93)) (by decide) rfl ?_
  refine x_wk_s (k' := (88, 93)) (by decide) rfl ?_
  refine x_wk_s (k' := (88, 93)) (by decide) rfl ?_
  refine x_wk_c (by decide) (by decide) (by decide) rfl rfl ?_
  rw [bk_57_0]
  refine x_wk_s (k' := (88, 93)) (by decide) rfl ?_
  refine x_wk_s (k' := (88, 93)) (by decide) rfl ?_
  refine x_wk_s (k' := (88, 93)) (by decide) rfl ?_
  refine x_wk_s (k' := (88, 93)) (by decide) rfl ?_
  refine x_wk_s (k' := (88, 93)) (by decide) rfl ?_
  refine x_wk_s (k' := (88, 93)) (by decide) rfl ?_
  refine x_wk_s (k' := (88, 93)) (by decide) rfl ?_
  refine x_wk_s (k' := (88, 93)) (by decide) rfl ?_
  refine x_wk_s (k' := (88, 93)) (by decide) rfl ?_
  refine x_wk_s (k' := (88, 93)) (by decide) rfl ?_
  refine x_wk_s (k' := (88, 93)) (by decide) rfl ?_
  refine x_wk_s (k' := (88, 93)) (by decide) rfl ?_
  refine x_wk_s (k' := (88, 93)) (by decide) rfl ?_
  refine x_wk_s (k' := (88, 93)) (by decide) rfl ?_
  refine x_wk_s (k' := (88, 93)) (by decide) rfl ?_
  refine x_wk_s (k' := (88, 93)) (by decide) rfl ?_
  refine x_wk_s (k' := (88, 93)) (by decide) rfl ?_
  refine x_wk_s (k' := (88, 93)) (by decide) rfl ?_
  refine x_wk_s (k' := (88, 93)) (by decide) rfl ?_
  refine x_wk_s (k' := (88, 93)) (by decide) rfl ?_
  refine x_wk_s (k' := (88, 93)) (by decide) rfl ?_
  refine x_wk_s (k' := (88, 93)) (by decide) rfl ?_
  refine x_wk_s (k' := (88, 93)) (by decide) rfl ?_
  refine x_wk_s (k' := (88, 93)) (by decide) rfl ?_
  refine x_wk_s (k' := (88, 93)) (by decide) rfl ?_
  refine x_wk_s (k' := (88, 93)) (by decide) rfl ?_
  refine x_wk_s (k' := (88, 93)) (by decide) rfl ?_
  refine x_wk_s (k' := (88, 93)) (by decide) rfl ?_
  refine x_wk_s (k' := (88, 93)) (by decide) rfl ?_
  refine x_wk_s (k' := (88, 93)) (by decide) rfl ?_
  refine x_wk_s (k' := (88, 93)) (by decide) rfl ?_
  refine x_wk_s (k' := (88, 93)) (by decide) rfl ?_
  refine x_wk_s (k' := (88, 93)) (by decide) rfl ?_
  refine x_wk_s (k' := (88, 93)) (by decide) rfl ?_
  refine x_wk_s (k' := (88, 93)) (by decide) rfl ?_
  refine x_wk_s (k' := (88, 93)) (by decide) rfl ?_
  refine x_wk_s (k' := (88, 93)) (by decide) rfl ?_
  refine x_wk_s (k' := (88, 93)) (by decide) rfl ?_
  refine x_wk_s (k' := (88, 93)) (by decide) rfl ?_
  refine x_wk_s (k' := (88, 93)) (by decide) rfl ?_
  refine x_wk_s (k' := (88, 93)) (by decide) rfl ?_
  refine x_wk_s (k' := (88, 93)) (by decide) rfl ?_
  refine x_wk_s (k' := (88, 93)) (by decide) rfl ?_
  refine x_wk_s (k' := (88, 93)) (by decide) rfl ?_
  refine x_wk_s (k' := (88, 93)) (by decide) rfl ?_
  refine x_wk_s (k' := (88, 93)) (by decide) rfl ?_
  refine x_wk_s (k' := (88, 93)) (by decide) rfl ?_
  refine x_wk_s (k' := (88, 93)) (by decide) rfl ?_
  refine x_wk_s (k' := (88, 93)) (by decide) rfl ?_
  refine x_wk_s (k' := (88, 93)) (by decide) rfl ?_
  refine x_wk_s (k' := (88, 93)) (by decide) rfl ?_
  refine x_wk_bt (t := 1) (by decide) (by decide) rfl ?_
  rw [bk_57_1]
  refine x_wk_s (k' := (88, 93)) (by decide) rfl ?_
  refine x_wk_r (r := some (xI 0)) (by decide) (by decide) (by decide) rfl ?_
  refine x_wk_s (k' := (88, 93)) (by decide) rfl ?_
  refine x_wk_r (r := none) (by decide) (by decide) (by decide) rfl ?_
  exact h
def x_s16 (σ : x_S) : x_S := (x_zr (x_zr (x_zr (x_zr (x_zr (x_zr (x_zr (x_zr (x_zr (x_st (x_st (x_st (x_st (x_st (x_st (x_st σ 6 3 (0) (0)) 6 3 (1) (0)) 6 3 (2) (0)) 6 3 (3) (0)) 6 3 (4) (0)) 6 3 (5) (0)) 6 3 (6) (0)) 7 3) 8 3) 9 3) 10 3) 11 3) 12 3) 13 3) 14 3) 15 3)
theorem x_ci16 {d : Nat} {σ : x_S} {Q : Option x_V → x_K → x_S → Prop} (h : Q (none) (99, 103) (x_s16 σ)) : x_Wk (d + 0) 56 (x_blk 56 0) (x_ini 56 [xR 6 3]) [] (90, 94) σ Q := by
  rw [bk_56_0]
  refine x_wk_s (k' := (90, 94)) (by decide) rfl ?_
  refine x_wk_s (k' := (90, 94)) (by decide) rfl ?_
  refine x_wk_s (k' := (90, 94)) (by decide) rfl ?_
  refine x_wk_s (k' := (90, 94)) (by decide) rfl ?_
  refine x_wk_s (k' := (90, 94)) (by decide) rfl ?_
  refine x_wk_s (k' := (90, 94)) (by decide) rfl ?_
  refine x_wk_s (k' := (90, 94)) (by decide) rfl ?_
  refine x_wk_s (k' := (90, 94)) (by decide) rfl ?_
  refine x_wk_s (k' := (90, 94)) (by decide) rfl ?_
  refine x_wk_s (k' := (90, 94)) (by decide) rfl ?_
  refine x_wk_s (k' := (90, 94)) (by decide) rfl ?_
  refine x_wk_s (k' := (90, 94)) (by decide) rfl ?_
  refine x_wk_s (k' := (90, 94)) (by decide) rfl ?_
  refine x_wk_s (k' := (90, 94)) (by decide) rfl ?_
  refine x_wk_s (k' := (90, 94)) (by decide) rfl ?_
  refine x_wk_s (k' := (90, 94)) (by decide) rfl ?_
  refine x_wk_s (k' := (90, 94)) (by decide) rfl ?_
  refine x_wk_s (k' := (90, 94)) (by decide) rfl ?_
  refine x_wk_s (k' := (90, 94)) (by decide) rfl ?_
  refine x_wk_s (k' := (90, 94)) (by decide) rfl ?_
  refine x_wk_s (k' := (90, 94)) (by decide) rfl ?_
  refine x_wk_s (k' := (90, 94)) (by decide) rfl ?_
  refine x_wk_s (k' := (90, 94)) (by decide) rfl ?_
  refine x_wk_s (k' := (90, 94)) (by decide) rfl ?_
  refine x_wk_s (k' := (90, 94)) (by decide) rfl ?_
  refine x_wk_s (k' := (91, 94)) (by decide) rfl ?_
  refine x_wk_s (k' := (91, 95)) (by decide) rfl ?_
  refine x_wk_s (k' := (91, 95)) (by decide) rfl ?_
  refine x_wk_s (k' := (91, 95)) (by decide) rfl ?_
  refine x_wk_s (k' := (92, 95)) (by decide) rfl ?_
  refine x_wk_s (k' := (92, 96)) (by decide) rfl ?_
  refine x_wk_s (k' := (92, 96)) (by decide) rfl ?_
  refine x_wk_s (k' := (92, 96)) (by decide) rfl ?_
  refine x_wk_s (k' := (93, 96)) (by decide) rfl ?_
  refine x_wk_s (k' := (93, 97)) (by decide) rfl ?_
  refine x_wk_s (k' := (93, 97)) (by decide) rfl ?_
  refine x_wk_s (k' := (93, 97)) (by decide) rfl ?_
  refine x_wk_s (k' := (94, 97)) (by decide) rfl ?_
  refine x_wk_s (k' := (94, 98)) (by decide) rfl ?_
  refine x_wk_s (k' := (94, 98)) (by decide) rfl ?_
  refine x_wk_s (k' := (94, 98)) (by decide) rfl ?_
  refine x_wk_s (k' := (95, 98)) (by decide) rfl ?_
  refine x_wk_s (k' := (95, 99)) (by decide) rfl ?_
  refine x_wk_s (k' := (95, 99)) (by decide) rfl ?_
  refine x_wk_s (k' := (95, 99)) (by decide) rfl ?_
  refine x_wk_s (k' := (96, 99)) (by decide) rfl ?_
  refine x_wk_s (k' := (96, 100)) (by decide) rfl ?_
  refine x_wk_s (k' := (96, 100)) (by decide) rfl ?_
  refine x_wk_s (k' := (96, 100)) (by decide) rfl ?_
  refine x_wk_s (k' := (97, 100)) (by decide) rfl ?_
  refine x_wk_s (k' := (97, 101)) (by decide) rfl ?_
  refine x_wk_s (k' := (97, 101)) (by decide) rfl ?_
  refine x_wk_s (k' := (97, 101)) (by decide) rfl ?_
  refine x_wk_s (k' := (98, 101)) (by decide) rfl ?_
  refine x_wk_s (k' := (98, 102)) (by decide) rfl ?_
  refine x_wk_s (k' := (98, 102)) (by decide) rfl ?_
  refine x_wk_s (k' := (98, 102)) (by decide) rfl ?_
  refine x_wk_s (k' := (99, 102)) (by decide) rfl ?_
  refine x_wk_s (k' := (99, 103)) (by decide) rfl ?_
  refine x_wk_r (r := none) (by decide) (by decide) (by decide) rfl ?_
  exact h
def x_s18 (σ : x_S) : x_S := (x_st (x_st (x_st (x_st (x_st (x_st (x_st (x_st (x_st (x_st (x_st (x_st (x_st (x_st (x_st (x_zr (x_zr (x_s16 (x_zr σ 6 3)) 21 3) 22 3) 20 3 (3) (0)) 20 3 (4) (0)) 20 3 (5) (0)) 20 3 (6) (0)) 20 3 (7) (0)) 20 3 (8) (0)) 6 3 (6) (1)) 7 3 (0) (-1)) 8 3 (0) (0)) 9 3 (0) (0)) 10 3 (0) (0)) 11 3 (0) (0)) 12 3 (0) (0)) 14 3 (0) (0)) 13 3 (0) (0))
theorem x_ci18 {d : Nat} {σ : x_S} {Q : Option x_V → x_K → x_S → Prop} (h : Q (none) (101, 106) (x_s18 σ)) : x_Wk (d + 1) 41 (x_blk 41 0) (x_ini 41 [xR 20 3]) [] (89, 94) σ Q := by
  rw [bk_41_0]
  refine x_wk_s (k' := (89, 94)) (by decide) rfl ?_
  refine x_wk_s (k' := (89, 94)) (by decide) rfl ?_
  refine x_wk_s (k' := (89, 94)) (by decide) rfl ?_
  refine x_wk_s (k' := (90, 94)) (by decide) rfl ?_
  refine x_wk_s (k' := (90, 94)) (by decide) rfl ?_
  refine x_wk_c (by decide) (by decide) (by decide) rfl rfl (x_ci16 ?_)
  try simp only [x_psh]
  refine x_wk_s (k' := (99, 104)) (by decide) rfl ?_
  refine x_wk_s (k' := (99, 104)) (by decide) rfl ?_
  refine x_wk_s (k' := (99, 104)) (by decide) rfl ?_
  refine x_wk_s (k' := (100, 104)) (by decide) rfl ?_
  refine x_wk_s (k' := (100, 105)) (by decide) rfl ?_
  refine x_wk_s (k' := (100, 105)) (by decide) rfl ?_
  refine x_wk_s (k' := (100, 105)) (by decide) rfl ?_
  refine x_wk_s (k' := (101, 105)) (by decide) rfl ?_
  refine x_wk_s (k' := (101, 106)) (by decide) rfl ?_
  refine x_wk_s (k' := (101, 106)) (by decide) rfl ?_
  refine x_wk_s (k' := (101, 106)) (by decide) rfl ?_
  refine x_wk_s (k' := (101, 106)) (by decide) rfl ?_
  refine x_wk_s (k' := (101, 106)) (by decide) rfl ?_
  refine x_wk_s (k' := (101, 106)) (by decide) rfl ?_
  refine x_wk_s (k' := (101, 106)) (by decide) rfl ?_
  refine x_wk_s (k' := (101, 106)) (by decide) rfl ?_
  refine x_wk_s (k' := (101, 106)) (by decide) rfl ?_
  refine x_wk_s (k' := (101, 106)) (by decide) rfl ?_
  refine x_wk_s (k' := (101, 106)) (by decide) rfl ?_
  refine x_wk_s (k' := (101, 106)) (by decide) rfl ?_
  refine x_wk_s (k' := (101, 106)) (by decide) rfl ?_
  refine x_wk_s (k' := (101, 106)) (by decide) rfl ?_
  refine x_wk_s (k' := (101, 106)) (by decide) rfl ?_
  refine x_wk_s (k' := (101, 106)) (by decide) rfl ?_
  refine x_wk_s (k' := (101, 106)) (by decide) rfl ?_
  refine x_wk_s (k' := (101, 106)) (by decide) rfl ?_
  refine x_wk_s (k' := (101, 106)) (by decide) rfl ?_
  refine x_wk_s (k' := (101, 106)) (by decide) rfl ?_
  refine x_wk_s (k' := (101, 106)) (by decide) rfl ?_
  refine x_wk_s (k' := (101, 106)) (by decide) rfl ?_
  refine x_wk_s (k' := (101, 106)) (by decide) rfl ?_
  refine x_wk_c (by decide) (by decide) (by decide) rfl rfl ?_
  rw [bk_57_0]
  refine x_wk_s (k' := (101, 106)) (by decide) rfl ?_
  refine x_wk_s (k' := (101, 106)) (by decide) rfl ?_
  refine x_wk_s (k' := (101, 106)) (by decide) rfl ?_
  refine x_wk_s (k' := (101, 106)) (by decide) rfl ?_
  refine x_wk_s (k' := (101, 106)) (by decide) rfl ?_
  refine x_wk_s (k' := (101, 106)) (by decide) rfl ?_
  refine x_wk_s (k' := (101, 106)) (by decide) rfl ?_
  refine x_wk_s (k' := (101, 106)) (by decide) rfl ?_
  refine x_wk_s (k' := (101, 106)) (by decide) rfl ?_
  refine x_wk_s (k' := (101, 106)) (by decide) rfl ?_
  refine x_wk_s (k' := (101, 106)) (by decide) rfl ?_
  refine x_wk_s (k' := (101, 106)) (by decide) rfl ?_
  refine x_wk_s (k' := (101, 106)) (by decide) rfl ?_
  refine x_wk_s (k' := (101, 106)) (by decide) rfl ?_
  refine x_wk_s (k' := (101, 106)) (by decide) rfl ?_
  refine x_wk_s (k' := (101, 106)) (by decide) rfl ?_
  refine x_wk_s (k' := (101, 106)) (by decide) rfl ?_
  refine x_wk_s (k' := (101, 106)) (by decide) rfl ?_
  refine x_wk_s (k' := (101, 106)) (by decide) rfl ?_
  refine x_wk_s (k' := (101, 106)) (by decide) rfl ?_
  refine x_wk_s (k' := (101, 106)) (by decide) rfl ?_
  refine x_wk_s (k' := (101, 106)) (by decide) rfl ?_
  refine x_wk_s (k' := (101, 106)) (by decide) rfl ?_
  refine x_wk_s (k' := (101, 106)) (by decide) rfl ?_
  refine x_wk_s (k' := (101, 106)) (by decide) rfl ?_
  refine x_wk_s (k' := (101, 106)) (by decide) rfl ?_
  refine x_wk_s (k' := (101, 106)) (by decide) rfl ?_
  refine x_wk_s (k' := (101, 106)) (by decide) rfl ?_
  refine x_wk_s (k' := (101, 106)) (by decide) rfl ?_
  refine x_wk_s (k' := (101, 106)) (by decide) rfl ?_
  refine x_wk_s (k' := (101, 106)) (by decide) rfl ?_
  refine x_wk_s (k' := (101, 106)) (by decide) rfl ?_
  refine x_wk_s (k' := (101, 106)) (by decide) rfl ?_
  refine x_wk_s (k' := (101, 106)) (by decide) rfl ?_
  refine x_wk_s (k' := (101, 106)) (by decide) rfl ?_
  refine x_wk_s (k' := (101, 106)) (by decide) rfl ?_
  refine x_wk_s (k' := (101, 106)) (by decide) rfl ?_
  refine x_wk_s (k' := (101, 106)) (by decide) rfl ?_
  refine x_wk_s (k' := (101, 106)) (by decide) rfl ?_
  refine x_wk_s (k' := (101, 106)) (by decide) rfl ?_
  refine x_wk_s (k' := (101, 106)) (by decide) rfl ?_
  refine x_wk_s (k' := (101, 106)) (by decide) rfl ?_
  refine x_wk_s (k' := (101, 106)) (by decide) rfl ?_
  refine x_wk_s (k' := (101, 106)) (by decide) rfl ?_
  refine x_wk_s (k' := (101, 106)) (by decide) rfl ?_
  refine x_wk_s (k' := (101, 106)) (by decide) rfl ?_
  refine x_wk_s (k' := (101, 106)) (by decide) rfl ?_
  refine x_wk_s (k' := (101, 106)) (by decide) rfl ?_
  refine x_wk_s (k' := (101, 106)) (by decide) rfl ?_
  refine x_wk_s (k' := (101, 106)) (by decide) rfl ?_
  refine x_wk_s (k' := (101, 106)) (by decide) rfl ?_
  refine x_wk_bt (t := 1) (by decide) (by decide) rfl ?_
  rw [bk_57_1]
  refine x_wk_s (k' := (101, 106)) (by decide) rfl ?_
  refine x_wk_r (r := some (xI 0)) (by decide) (by decide) (by decide) rfl ?_
  refine x_wk_s (k' := (101, 106)) (by decide) rfl ?_
  refine x_wk_r (r := none) (by decide) (by decide) (by decide) rfl ?_
  exact h
def x_s19 (σ : x_S) : x_S := (x_zr (x_zr (x_zr (x_zr (x_zr (x_zr (x_zr (x_zr (x_zr (x_st (x_st (x_st (x_st (x_st (x_st (x_st σ 6 4 (0) (0)) 6 4 (1) (0)) 6 4 (2) (0)) 6 4 (3) (0)) 6 4 (4) (0)) 6 4 (5) (0)) 6 4 (6) (0)) 7 4) 8 4) 9 4) 10 4) 11 4) 12 4) 13 4) 14 4) 15 4)
theorem x_ci19 {d : Nat} {σ : x_S} {Q : Option x_V → x_K → x_S → Prop} (h : Q (none) (112, 116) (x_s19 σ)) : x_Wk (d + 0) 56 (x_blk 56 0) (x_ini 56 [xR 6 4]) [] (103, 107) σ Q := by
  rw [bk_56_0]
  refine x_wk_s (k' := (103, 107)) (by decide) rfl ?_
  refine x_wk_s (k' := (103, 107)) (by decide) rfl ?_
  refine x_wk_s (k' := (103, 107)) (by decide) rfl ?_
  refine x_wk_s (k' := (103, 107)) (by decide) rfl ?_
  refine x_wk_s (k' := (103, 107)) (by decide) rfl ?_
  refine x_wk_s (k' := (103, 107)) (by decide) rfl ?_
  refine x_wk_s (k' := (103, 107)) (by decide) rfl ?_
  refine x_wk_s (k' := (103, 107)) (by decide) rfl ?_
  refine x_wk_s (k' := (103, 107)) (by decide) rfl ?_
  refine x_wk_s (k' := (103, 107)) (by decide) rfl ?_
  refine x_wk_s (k' := (103, 107)) (by decide) rfl ?_
  refine x_wk_s (k' := (103, 107)) (by decide) rfl ?_
  refine x_wk_s (k' := (103, 107)) (by decide) rfl ?_
  refine x_wk_s (k' := (103, 107)) (by decide) rfl ?_
  refine x_wk_s (k' := (103, 107)) (by decide) rfl ?_
  refine x_wk_s (k' := (103, 107)) (by decide) rfl ?_
  refine x_wk_s (k' := (103, 107)) (by decide) rfl ?_
  refine x_wk_s (k' := (103, 107)) (by decide) rfl ?_
  refine x_wk_s (k' := (103, 107)) (by decide) rfl ?_
  refine x_wk_s (k' := (103, 107)) (by decide) rfl ?_
  refine x_wk_s (k' := (103, 107)) (by decide) rfl ?_
  refine x_wk_s (k' := (103, 107)) (by decide) rfl ?_
  refine x_wk_s (k' := (103, 107)) (by decide) rfl ?_
  refine x_wk_s (k' := (103, 107)) (by decide) rfl ?_
  refine x_wk_s (k' := (103, 107)) (by decide) rfl ?_
  refine x_wk_s (k' := (104, 107)) (by decide) rfl ?_
  refine x_wk_s (k' := (104, 108)) (by decide) rfl ?_
  refine x_wk_s (k' := (104, 108)) (by decide) rfl ?_
  refine x_wk_s (k' := (104, 108)) (by decide) rfl ?_
  refine x_wk_s (k' := (105, 108)) (by decide) rfl ?_
  refine x_wk_s (k' := (105, 109)) (by decide) rfl ?_
  refine x_wk_s (k' := (105, 109)) (by decide) rfl ?_
  refine x_wk_s (k' := (105, 109)) (by decide) rfl ?_
  refine x_wk_s (k' := (106, 109)) (by decide) rfl ?_
  refine x_wk_s (k' := (106, 110)) (by decide) rfl ?_
  refine x_wk_s (k' := (106, 110)) (by decide) rfl ?_
  refine x_wk_s (k' := (106, 110)) (by decide) rfl ?_
  refine x_wk_s (k' := (107, 110)) (by decide) rfl ?_
  refine x_wk_s (k' := (107, 111)) (by decide) rfl ?_
  refine x_wk_s (k' := (107, 111)) (by decide) rfl ?_
  refine x_wk_s (k' := (107, 111)) (by decide) rfl ?_
  refine x_wk_s (k' := (108, 111)) (by decide) rfl ?_
  refine x_wk_s (k' := (108, 112)) (by decide) rfl ?_
  refine x_wk_s (k' := (108, 112)) (by decide) rfl ?_
  refine x_wk_s (k' := (108, 112)) (by decide) rfl ?_
  refine x_wk_s (k' := (109, 112)) (by decide) rfl ?_
  refine x_wk_s (k' := (109, 113)) (by decide) rfl ?_
  refine x_wk_s (k' := (109, 113)) (by decide) rfl ?_
  refine x_wk_s (k' := (109, 113)) (by decide) rfl ?_
  refine x_wk_s (k' := (110, 113)) (by decide) rfl ?_
  refine x_wk_s (k' := (110, 114)) (by decide) rfl ?_
  refine x_wk_s (k' := (110, 114)) (by decide) rfl ?_
  refine x_wk_s (k' := (110, 114)) (by decide) rfl ?_
  refine x_wk_s (k' := (111, 114)) (by decide) rfl ?_
  refine x_wk_s (k' := (111, 115)) (by decide) rfl ?_
  refine x_wk_s (k' := (111, 115)) (by decide) rfl ?_
  refine x_wk_s (k' := (111, 115)) (by decide) rfl ?_
  refine x_wk_s (k' := (112, 115)) (by decide) rfl ?_
  refine x_wk_s (k' := (112, 116)) (by decide) rfl ?_
  refine x_wk_r (r := none) (by decide) (by decide) (by decide) rfl ?_
  exact h
def x_s21 (σ : x_S) : x_S := (x_st (x_st (x_st (x_st (x_st (x_st (x_st (x_st (x_st (x_st (x_st (x_st (x_st (x_st (x_st (x_zr (x_zr (x_s19 (x_zr σ 6 4)) 21 4) 22 4) 20 4 (3) (0)) 20 4 (4) (0)) 20 4 (5) (0)) 20 4 (6) (0)) 20 4 (7) (0)) 20 4 (8) (0)) 6 4 (6) (1)) 7 4 (0) (-1)) 8 4 (0) (0)) 9 4 (0) (0)) 10 4 (0) (0)) 11 4 (0) (0)) 12 4 (0) (0)) 14 4 (0) (0)) 13 4 (0) (0))
theorem x_ci21 {d : Nat} {σ : x_S} {Q : Option x_V → x_K → x_S → Prop} (h : Q (none) (114, 119) (x_s21 σ)) : x_Wk (d + 1) 41 (x_blk 41 0) (x_ini 41 [xR 20 4]) [] (102, 107) σ Q := by
  rw [bk_41_0]
  refine x_wk_s (k' := (102, 107)) (by decide) rfl ?_
  refine x_wk_s (k' := (102, 107)) (by decide) rfl ?_
  refine x_wk_s (k' := (102, 107)) (by decide) rfl ?_
  refine x_wk_s (k' := (103, 107)) (by decide) rfl ?_
  refine x_wk_s (k' := (103, 107)) (by decide) rfl ?_
  refine x_wk_c (by decide) (by decide) (by decide) rfl rfl (x_ci19 ?_)
  try simp only [x_psh]
  refine x_wk_s (k' := (112, 117)) (by decide) rfl ?_
  refine x_wk_s (k' := (112, 117)) (by decide) rfl ?_
  refine x_wk_s (k' := (112, 117)) (by decide) rfl ?_
  refine x_wk_s (k' := (113, 117)) (by decide) rfl ?_
  refine x_wk_s (k' := (113, 118)) (by decide) rfl ?_
  refine x_wk_s (k' := (113, 118)) (by decide) rfl ?_
  refine x_wk_s (k' := (113, 118)) (by decide) rfl ?_
  refine x_wk_s (k' := (114, 118)) (by decide) rfl ?_
  refine x_wk_s (k' := (114, 119)) (by decide) rfl ?_
  refine x_wk_s (k' := (114, 119)) (by decide) rfl ?_
  refine x_wk_s (k' := (114, 119)) (by decide) rfl ?_
  refine x_wk_s (k' := (114, 119)) (by decide) rfl ?_
  refine x_wk_s (k' := (114, 119)) (by decide) rfl ?_
  refine x_wk_s (k' := (114, 119)) (by decide) rfl ?_
  refine x_wk_s (k' := (114, 119)) (by decide) rfl ?_
  refine x_wk_s (k' := (114, 119)) (by decide) rfl ?_
  refine x_wk_s (k' := (114, 119)) (by decide) rfl ?_
  refine x_wk_s (k' := (114, 119)) (by decide) rfl ?_
  refine x_wk_s (k' := (114, 119)) (by decide) rfl ?_
  refine x_wk_s (k' := (114, 119)) (by decide) rfl ?_
  refine x_wk_s (k' := (114, 119)) (by decide) rfl ?_
  refine x_wk_s (k' := (114, 119)) (by decide) rfl ?_
  refine x_wk_s (k' := (114, 119)) (by decide) rfl ?_
  refine x_wk_s (k' := (114, 119)) (by decide) rfl ?_
  refine x_wk_s (k' := (114, 119)) (by decide) rfl ?_
  refine x_wk_s (k' := (114, 119)) (by decide) rfl ?_
  refine x_wk_s (k' := (114, 119)) (by decide) rfl ?_
  refine x_wk_s (k' := (114, 119)) (by decide) rfl ?_
  refine x_wk_s (k' := (114, 119)) (by decide) rfl ?_
  refine x_wk_s (k' := (114, 119)) (by decide) rfl ?_
  refine x_wk_s (k' := (114, 119)) (by decide) rfl ?_
  refine x_wk_c (by decide) (by decide) (by decide) rfl rfl ?_
  rw [bk_57_0]
  refine x_wk_s (k' := (114, 119)) (by decide) rfl ?_
  refine x_wk_s (k' := (114, 119)) (by decide) rfl ?_
  refine x_wk_s (k' := (114, 119)) (by decide) rfl ?_
  refine x_wk_s (k' := (114, 119)) (by decide) rfl ?_
  refine x_wk_s (k' := (114, 119)) (by decide) rfl ?_
  refine x_wk_s (k' := (114, 119)) (by decide) rfl ?_
  refine x_wk_s (k' := (114, 119)) (by decide) rfl ?_
  refine x_wk_s (k' := (114, 119)) (by decide) rfl ?_
  refine x_wk_s (k' := (114, 119)) (by decide) rfl ?_
  refine x_wk_s (k' := (114, 119)) (by decide) rfl ?_
  refine x_wk_s (k' := (114, 119)) (by decide) rfl ?_
  refine x_wk_s (k' := (114, 119)) (by decide) rfl ?_
  refine x_wk_s (k' := (114, 119)) (by decide) rfl ?_
  refine x_wk_s (k' := (114, 119)) (by decide) rfl ?_
  refine x_wk_s (k' := (114, 119)) (by decide) rfl ?_
  refine x_wk_s (k' := (114, 119)) (by decide) rfl ?_
  refine x_wk_s (k' := (114, 119)) (by decide) rfl ?_
  refine x_wk_s (k' := (114, 119)) (by decide) rfl ?_
  refine x_wk_s (k' := (114, 119)) (by decide) rfl ?_
  refine x_wk_s (k' := (114, 119)) (by decide) rfl ?_
  refine x_wk_s (k' := (114, 119)) (by decide) rfl ?_
  refine x_wk_s (k' := (114, 119)) (by decide) rfl ?_
  refine x_wk_s (k' := (114, 119)) (by decide) rfl ?_
  refine x_wk_s (k' := (114, 119)) (by decide) rfl ?_
  refine x_wk_s (k' := (114, 119)) (by decide) rfl ?_
  refine x_wk_s (k' := (114, 119)) (by decide) rfl ?_
  refine x_wk_s (k' := (114, 119)) (by decide) rfl ?_
  refine x_wk_s (k' := (114, 119)) (by decide) rfl ?_
  refine x_wk_s (k' := (114, 119)) (by decide) rfl ?_
  refine x_wk_s (k' := (114, 119)) (by decide) rfl ?_
  refine x_wk_s (k' := (114, 119)) (by decide) rfl ?_
  refine x_wk_s (k' := (114, 119)) (by decide) rfl ?_
  refine x_wk_s (k' := (114, 119)) (by decide) rfl ?_
  refine x_wk_s (k' := (114, 119)) (by decide) rfl ?_
  refine x_wk_s (k' := (114, 119)) (by decide) rfl ?_
  refine x_wk_s (k' := (114, 119)) (by decide) rfl ?_
  refine x_wk_s (k' := (114, 119)) (by decide) rfl ?_
  refine x_wk_s (k' := (114, 119)) (by decide) rfl ?_
  refine x_wk_s (k' := (114, 119)) (by decide) rfl ?_
  refine x_wk_s (k' := (114, 119)) (by decide) rfl ?_
  refine x_wk_s (k' := (114, 119)) (by decide) rfl ?_
  refine x_wk_s (k' := (114, 119)) (by decide) rfl ?_
  refine x_wk_s (k' := (114, 119)) (by decide) rfl ?_
  refine x_wk_s (k' := (114, 119)) (by decide) rfl ?_
  refine x_wk_s (k' := (114, 119)) (by decide) rfl ?_
  refine x_wk_s (k' := (114, 119)) (by decide) rfl ?_
  refine x_wk_s (k' := (114, 119)) (by decide) rfl ?_
  refine x_wk_s (k' := (114, 119)) (by decide) rfl ?_
  refine x_wk_s (k' := (114, 119)) (by decide) rfl ?_
  refine x_wk_s (k' := (114, 119)) (by decide) rfl ?_
  refine x_wk_s (k' := (114, 119)) (by decide) rfl ?_
  refine x_wk_bt (t := 1) (by decide) (by decide) rfl ?_
  rw [bk_57_1]
  refine x_wk_s (k' := (114, 119)) (by decide) rfl ?_
  refine x_wk_r (r := some (xI 0)) (by decide) (by decide) (by decide) rfl ?_
  refine x_wk_s (k' := (114, 119)) (by decide) rfl ?_
  refine x_wk_r (r := none) (by decide) (by decide) (by decide) rfl ?_
  exact h
theorem bk_93_0 : x_blk 93 0 = [(4, 0, 0, 0, 0, 0), (58, 7, 0, 0, 118, 1), (4, 0, 0, 0, 0, 4), (57, 13, 2, 0, 121, 5), (35, 0, 0, 0, 0, 8), (87, 15, 24, 1, 123, 9), (44, 16, 8, 0, 496, 12), (4, 0, 0, 0, 0, 15), (57, 20, 4, 0, 277, 16), (35, 0, 0, 0, 0, 19), (87, 22, 46, 1, 279, 20), (44, 23, 8, 1, 497, 23), (4, 0, 0, 0, 0, 26), (57, 27, 3, 0, 296, 27), (35, 0, 0, 0, 0, 30), (86, 29, 41, 1, 298, 31), (44, 30, 8, 2, 498, 34), (4, 0, 0, 0, 0, 37), (0, 3, 0, 0, 0, 38), (56, 27, 0, 0, 296, 39), (44, 34, 8, 3, 499, 42), (4, 0, 0, 0, 0, 45), (57, 38, 0, 0, 352, 46), (35, 0, 0, 0, 0, 49), (4, 0, 0, 0, 0, 50), (41, 30, 8, 2, 498, 51), (41, 40, 3, 0, 309, 54), (0, 0, 0, 0, 0, 57), (86, 44, 0, 3, 354, 58), (44, 47, 8, 4, 500, 61), (4, 0, 0, 0, 0, 64), (57, 38, 0, 0, 352, 65), (35, 0, 0, 0, 0, 68), (4, 0, 0, 0, 0, 69), (41, 30, 8, 2, 498, 70), (41, 40, 3, 0, 309, 73), (0, 1, 0, 0, 0, 76), (86, 44, 0, 3, 354, 77), (44, 51, 8, 5, 501, 80), (4, 0, 0, 0, 0, 83), (57, 38, 0, 0, 352, 84), (35, 0, 0, 0, 0, 87), (4, 0, 0, 0, 0, 88), (41, 30, 8, 2, 498, 89), (41, 40, 3, 0, 309, 92), (0, 2, 0, 0, 0, 95), (86, 44, 0, 3, 354, 96), (44, 54, 8, 6, 502, 99), (4, 0, 0, 0, 0, 102), (57, 38, 0, 0, 352, 103), (35, 0, 0, 0, 0, 106), (4, 0, 0, 0, 0, 107), (41, 30, 8, 2, 498, 108), (41, 40, 3, 0, 309, 111), (0, 0, 0, 0, 0, 114), (86, 44, 0, 3, 354, 115), (44, 57, 8, 7, 503, 118), (4, 0, 0, 0, 0, 121), (57, 60, 7, 0, 394, 122), (35, 0, 0, 0, 0, 125), (4, 0, 0, 0, 0, 126), (41, 30, 8, 2, 498, 127), (41, 40, 3, 0, 309, 130), (86, 62, 87, 2, 396, 133), (44, 65, 8, 8, 504, 136), (4, 0, 0, 0, 0, 139), (57, 69, 6, 0, 414, 140), (35, 0, 0, 0, 0, 143), (4, 0, 0, 0, 0, 144), (41, 30, 8, 2, 498, 145), (86, 71, 76, 2, 416, 148), (44, 74, 8, 9, 505, 151), (4, 0, 0, 0, 0, 154), (57, 78, 1, 0, 468, 155), (35, 0, 0, 0, 0, 158), (4, 0, 0, 0, 0, 159), (41, 30, 8, 2, 498, 160), (41, 40, 3, 0, 309, 163), (86, 80, 17, 2, 470, 166), (44, 81, 8, 10, 506, 169), (4, 0, 0, 0, 0, 172), (0, 42, 1, 0, 0, 173), (55, 0, 0, 0, 0, 175), (44, 85, 8, 11, 507, 177), (4, 0, 0, 0, 0, 180), (0, 42, 1, 0, 0, 181), (55, 0, 1, 0, 0, 183), (44, 89, 8, 12, 508, 185), (4, 0, 0, 0, 0, 188), (0, 0, 0, 0, 0, 189), (45, 93, 8, 13, 509, 190), (4, 0, 0, 0, 0, 193), (0, 0, 0, 0, 0, 194), (45, 97, 8, 14, 510, 195), (4, 0, 0, 0, 0, 198), (0, 0, 0, 0, 0, 199), (45, 100, 8, 15, 511, 200), (4, 0, 0, 0, 0, 203), (0, 0, 0, 0, 0, 204), (45, 103, 8, 16, 512, 205), (4, 0, 0, 0, 0, 208), (0, (-2000000000), 3, 106, 495, 209), (42, 107, 8, 17, 513, 211), (0, 0, 0, 0, 0, 214), (5, 0, 1, 0, 0, 215), (77, 0, 1, 0, 0, 216)] := id rfl
theorem bk_93_1 : x_blk 93 1 = [(2, 0, 1, 0, 0, 216), (0, 3, 0, 0, 0, 217), (73, 0, 2, 0, 240, 218), (4, 0, 0, 0, 0, 221), (41, 34, 8, 3, 499, 222), (2, 0, 1, 0, 0, 225), (57, 27, 3, 0, 296, 226), (35, 0, 0, 0, 0, 229), (86, 29, 41, 1, 298, 230), (53, 0, 0, 0, 0, 233), (8, 1, 1, 0, 0, 234), (76, 0, 1, 0, 216, 237)] := id rfl
theorem bk_93_2 : x_blk 93 2 = [(83, 0, 0, 0, 0, 240)] := id rfl
theorem mz_93 : x_mZ 93 = 9 := id rfl
def x_s22 (σ : x_S) : x_S := (x_s21 (x_zr (x_s18 (x_zr (x_s15 (x_zr (x_st (x_st (x_st (x_st (x_st (x_zr (x_zr (x_s12 (x_zr (x_s11 (x_zr (x_s10 (x_zr (x_s9 (x_zr (x_s8 (x_zr (x_s7 (x_zr (x_s6 (x_zr (x_zr (x_s5 (x_zr (x_s2 (x_zr (x_s1 (x_zr σ 3 0)) 16 0)) 20 1)) 23 0) 24 0)) 24 1)) 24 2)) 24 3)) 29 0)) 33 0)) 44 0)) 1 0) 2 0) 0 0 (13) (0)) 0 0 (14) (0)) 0 0 (15) (0)) 0 0 (16) (0)) 0 0 (17) (-2000000000)) 20 2)) 20 3)) 20 4))
theorem x_ci22 {d : Nat} {σ : x_S} {Q : Option x_V → x_K → x_S → Prop} (h : Q (none) (114, 120) (x_s22 σ)) : x_Wk (d + 2) 93 (x_blk 93 0) (x_ini 93 [xR 0 0]) [] (1, 0) σ Q := by
  rw [bk_93_0]
  refine x_wk_s (k' := (1, 0)) (by decide) rfl ?_
  refine x_wk_s (k' := (1, 0)) (by decide) rfl ?_
  refine x_wk_s (k' := (1, 0)) (by decide) rfl ?_
  refine x_wk_s (k' := (2, 0)) (by decide) rfl ?_
  refine x_wk_s (k' := (2, 0)) (by decide) rfl ?_
  refine x_wk_c (by decide) (by decide) (by decide) rfl rfl (x_ci1 ?_)
  try simp only [x_psh]
  refine x_wk_s (k' := (14, 13)) (by decide) rfl ?_
  refine x_wk_s (k' := (14, 13)) (by decide) rfl ?_
  refine x_wk_s (k' := (15, 13)) (by decide) rfl ?_
  refine x_wk_s (k' := (15, 13)) (by decide) rfl ?_
  refine x_wk_c (by decide) (by decide) (by decide) rfl rfl (x_ci2 ?_)
  try simp only [x_psh]
  refine x_wk_s (k' := (18, 17)) (by decide) rfl ?_
  refine x_wk_s (k' := (18, 17)) (by decide) rfl ?_
  refine x_wk_s (k' := (19, 17)) (by decide) rfl ?_
  refine x_wk_s (k' := (19, 17)) (by decide) rfl ?_
  refine x_wk_c (by decide) (by decide) (by decide) rfl rfl (x_ci5 ?_)
  try simp only [x_psh]
  refine x_wk_s (k' := (31, 30)) (by decide) rfl ?_
  refine x_wk_s (k' := (31, 30)) (by decide) rfl ?_
  refine x_wk_s (k' := (31, 30)) (by decide) rfl ?_
  refine x_wk_s (k' := (32, 30)) (by decide) rfl ?_
  refine x_wk_s (k' := (32, 31)) (by decide) rfl ?_
  refine x_wk_s (k' := (32, 31)) (by decide) rfl ?_
  refine x_wk_s (k' := (33, 31)) (by decide) rfl ?_
  refine x_wk_s (k' := (33, 31)) (by decide) rfl ?_
  refine x_wk_s (k' := (33, 31)) (by decide) rfl ?_
  refine x_wk_s (k' := (33, 31)) (by decide) rfl ?_
  refine x_wk_s (k' := (33, 31)) (by decide) rfl ?_
  refine x_wk_s (k' := (33, 31)) (by decide) rfl ?_
  refine x_wk_c (by decide) (by decide) (by decide) rfl rfl (x_ci6 ?_)
  try simp only [x_psh]
  refine x_wk_s (k' := (37, 37)) (by decide) rfl ?_
  refine x_wk_s (k' := (37, 37)) (by decide) rfl ?_
  refine x_wk_s (k' := (38, 37)) (by decide) rfl ?_
  refine x_wk_s (k' := (38, 37)) (by decide) rfl ?_
  refine x_wk_s (k' := (38, 37)) (by decide) rfl ?_
  refine x_wk_s (k' := (38, 37)) (by decide) rfl ?_
  refine x_wk_s (k' := (38, 37)) (by decide) rfl ?_
  refine x_wk_s (k' := (38, 37)) (by decide) rfl ?_
  refine x_wk_c (by decide) (by decide) (by decide) rfl rfl (x_ci7 ?_)
  try simp only [x_psh]
  refine x_wk_s (k' := (42, 43)) (by decide) rfl ?_
  refine x_wk_s (k' := (42, 43)) (by decide) rfl ?_
  refine x_wk_s (k' := (43, 43)) (by decide) rfl ?_
  refine x_wk_s (k' := (43, 43)) (by decide) rfl ?_
  refine x_wk_s (k' := (43, 43)) (by decide) rfl ?_
  refine x_wk_s (k' := (43, 43)) (by decide) rfl ?_
  refine x_wk_s (k' := (43, 43)) (by decide) rfl ?_
  refine x_wk_s (k' := (43, 43)) (by decide) rfl ?_
  refine x_wk_c (by decide) (by decide) (by decide) rfl rfl (x_ci8 ?_)
  try simp only [x_psh]
  refine x_wk_s (k' := (47, 49)) (by decide) rfl ?_
  refine x_wk_s (k' := (47, 49)) (by decide) rfl ?_
  refine x_wk_s (k' := (48, 49)) (by decide) rfl ?_
  refine x_wk_s (k' := (48, 49)) (by decide) rfl ?_
  refine x_wk_s (k' := (48, 49)) (by decide) rfl ?_
  refine x_wk_s (k' := (48, 49)) (by decide) rfl ?_
  refine x_wk_s (k' := (48, 49)) (by decide) rfl ?_
  refine x_wk_s (k' := (48, 49)) (by decide) rfl ?_
  refine x_wk_c (by decide) (by decide) (by decide) rfl rfl (x_ci9 ?_)
  try simp only [x_psh]
  refine x_wk_s (k' := (52, 55)) (by decide) rfl ?_
  refine x_wk_s (k' := (52, 55)) (by decide) rfl ?_
  refine x_wk_s (k' := (53, 55)) (by decide) rfl ?_
  refine x_wk_s (k' := (53, 55)) (by decide) rfl ?_
  refine x_wk_s (k' := (53, 55)) (by decide) rfl ?_
  refine x_wk_s (k' := (53, 55)) (by decide) rfl ?_
  refine x_wk_s (k' := (53, 55)) (by decide) rfl ?_
  refine x_wk_c (by decide) (by decide) (by decide) rfl rfl (x_ci10 ?_)
  try simp only [x_psh]
  refine x_wk_s (k' := (56, 60)) (by decide) rfl ?_
  refine x_wk_s (k' := (56, 60)) (by decide) rfl ?_
  refine x_wk_s (k' := (57, 60)) (by decide) rfl ?_
  refine x_wk_s (k' := (57, 60)) (by decide) rfl ?_
  refine x_wk_s (k' := (57, 60)) (by decide) rfl ?_
  refine x_wk_s (k' := (57, 60)) (by decide) rfl ?_
  refine x_wk_c (by decide) (by decide) (by decide) rfl rfl (x_ci11 ?_)
  try simp only [x_psh]
  refine x_wk_s (k' := (67, 72)) (by decide) rfl ?_
  refine x_wk_s (k' := (67, 72)) (by decide) rfl ?_
  refine x_wk_s (k' := (68, 72)) (by decide) rfl ?_
  refine x_wk_s (k' := (68, 72)) (by decide) rfl ?_
  refine x_wk_s (k' := (68, 72)) (by decide) rfl ?_
  refine x_wk_s (k' := (68, 72)) (by decide) rfl ?_
  refine x_wk_s (k' := (68, 72)) (by decide) rfl ?_
  refine x_wk_c (by decide) (by decide) (by decide) rfl rfl (x_ci12 ?_)
  try simp only [x_psh]
  refine x_wk_s (k' := (73, 79)) (by decide) rfl ?_
  refine x_wk_s (k' := (73, 79)) (by decide) rfl ?_
  refine x_wk_s (k' := (73, 79)) (by decide) rfl ?_
  refine x_wk_s (k' := (74, 79)) (by decide) rfl ?_
  refine x_wk_s (k' := (74, 80)) (by decide) rfl ?_
  refine x_wk_s (k' := (74, 80)) (by decide) rfl ?_
  refine x_wk_s (k' := (74, 80)) (by decide) rfl ?_
  refine x_wk_s (k' := (75, 80)) (by decide) rfl ?_
  refine x_wk_s (k' := (75, 81)) (by decide) rfl ?_
  refine x_wk_s (k' := (75, 81)) (by decide) rfl ?_
  refine x_wk_s (k' := (75, 81)) (by decide) rfl ?_
  refine x_wk_s (k' := (75, 81)) (by decide) rfl ?_
  refine x_wk_s (k' := (75, 81)) (by decide) rfl ?_
  refine x_wk_s (k' := (75, 81)) (by decide) rfl ?_
  refine x_wk_s (k' := (75, 81)) (by decide) rfl ?_
  refine x_wk_s (k' := (75, 81)) (by decide) rfl ?_
  refine x_wk_s (k' := (75, 81)) (by decide) rfl ?_
  refine x_wk_s (k' := (75, 81)) (by decide) rfl ?_
  refine x_wk_s (k' := (75, 81)) (by decide) rfl ?_
  refine x_wk_s (k' := (75, 81)) (by decide) rfl ?_
  refine x_wk_s (k' := (75, 81)) (by decide) rfl ?_
  refine x_wk_s (k' := (75, 81)) (by decide) rfl ?_
  refine x_wk_s (k' := (75, 81)) (by decide) rfl ?_
  refine x_wk_s (k' := (75, 81)) (by decide) rfl ?_
  refine x_wk_s (k' := (75, 81)) (by decide) rfl ?_
  refine x_wk_s (k' := (75, 81)) (by decide) rfl ?_
  refine x_wk_bt (t := 1) (by decide) (by decide) rfl ?_
  rw [bk_93_1]
  refine x_wk_s (k' := (75, 81)) (by decide) rfl ?_
  refine x_wk_s (k' := (75, 81)) (by decide) rfl ?_
  refine x_wk_bn (by decide) (by decide) rfl ?_
  refine x_wk_s (k' := (75, 81)) (by decide) rfl ?_
  refine x_wk_s (k' := (75, 81)) (by decide) rfl ?_
  refine x_wk_s (k' := (75, 81)) (by decide) rfl ?_
  refine x_wk_s (k' := (76, 81)) (by decide) rfl ?_
  refine x_wk_s (k' := (76, 81)) (by decide) rfl ?_
  refine x_wk_c (by decide) (by decide) (by decide) rfl rfl (x_ci15 ?_)
  try simp only [x_psh]
  refine x_wk_s (k' := (88, 94)) (by decide) rfl ?_
  refine x_wk_s (k' := (88, 94)) (by decide) rfl ?_
  refine x_wk_bt (t := 1) (by decide) (by decide) rfl ?_
  rw [bk_93_1]
  refine x_wk_s (k' := (88, 94)) (by decide) rfl ?_
  refine x_wk_s (k' := (88, 94)) (by decide) rfl ?_
  refine x_wk_bn (by decide) (by decide) rfl ?_
  refine x_wk_s (k' := (88, 94)) (by decide) rfl ?_
  refine x_wk_s (k' := (88, 94)) (by decide) rfl ?_
  refine x_wk_s (k' := (88, 94)) (by decide) rfl ?_
  refine x_wk_s (k' := (89, 94)) (by decide) rfl ?_
  refine x_wk_s (k' := (89, 94)) (by decide) rfl ?_
  refine x_wk_c (by decide) (by decide) (by decide) rfl rfl (x_ci18 ?_)
  try simp only [x_psh]
  refine x_wk_s (k' := (101, 107)) (by decide) rfl ?_
  refine x_wk_s (k' := (101, 107)) (by decide) rfl ?_
  refine x_wk_bt (t := 1) (by decide) (by decide) rfl ?_
  rw [bk_93_1]
  refine x_wk_s (k' := (101, 107)) (by decide) rfl ?_
  refine x_wk_s (k' := (101, 107)) (by decide) rfl ?_
  refine x_wk_bn (by decide) (by decide) rfl ?_
  refine x_wk_s (k' := (101, 107)) (by decide) rfl ?_
  refine x_wk_s (k' := (101, 107)) (by decide) rfl ?_
  refine x_wk_s (k' := (101, 107)) (by decide) rfl ?_
  refine x_wk_s (k' := (102, 107)) (by decide) rfl ?_
  refine x_wk_s (k' := (102, 107)) (by decide) rfl ?_
  refine x_wk_c (by decide) (by decide) (by decide) rfl rfl (x_ci21 ?_)
  try simp only [x_psh]
  refine x_wk_s (k' := (114, 120)) (by decide) rfl ?_
  refine x_wk_s (k' := (114, 120)) (by decide) rfl ?_
  refine x_wk_bt (t := 1) (by decide) (by decide) rfl ?_
  rw [bk_93_1]
  refine x_wk_s (k' := (114, 120)) (by decide) rfl ?_
  refine x_wk_s (k' := (114, 120)) (by decide) rfl ?_
  refine x_wk_bt (t := 2) (by decide) (by decide) rfl ?_
  rw [bk_93_2]
  refine x_wk_r (r := none) (by decide) (by decide) (by decide) rfl ?_
  exact h

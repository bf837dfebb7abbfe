theorem bk_166_0 : x_blk 166 0 = [(4, 0, 0, 0, 0, 0), (58, 9, 0, 0, 1310, 1), (4, 0, 0, 0, 0, 4), (0, 616, 2, 0, 0, 5), (55, 0, 0, 0, 0, 8), (44, 15, 9, 1, 1315, 10), (4, 0, 0, 0, 0, 13), (0, 1848, 2, 0, 0, 14), (55, 0, 0, 0, 0, 17), (44, 19, 9, 2, 1316, 19), (4, 0, 0, 0, 0, 22), (0, 3, 0, 0, 0, 23), (55, 0, 3, 0, 0, 24), (44, 22, 9, 3, 1317, 26), (4, 0, 0, 0, 0, 29), (0, 1800, 2, 0, 0, 30), (55, 0, 2, 0, 0, 33), (44, 26, 9, 4, 1318, 35), (4, 0, 0, 0, 0, 38), (0, 5, 0, 0, 0, 39), (55, 0, 0, 0, 0, 40), (44, 30, 9, 6, 1320, 42), (4, 0, 0, 0, 0, 45), (0, (-1), 0, 0, 0, 46), (42, 33, 9, 13, 1327, 47), (4, 0, 0, 0, 0, 50), (0, 616, 2, 0, 0, 51), (55, 0, 0, 0, 0, 54), (44, 36, 9, 14, 1328, 56), (4, 0, 0, 0, 0, 59), (0, 40, 1, 0, 0, 60), (55, 0, 0, 0, 0, 62), (44, 39, 9, 15, 1329, 64), (4, 0, 0, 0, 0, 67), (0, 5, 0, 0, 0, 68), (55, 0, 3, 0, 0, 69), (44, 42, 9, 16, 1330, 71), (4, 0, 0, 0, 0, 74), (0, 5, 0, 0, 0, 75), (42, 45, 9, 17, 1331, 76), (4, 0, 0, 0, 0, 79), (0, 4, 0, 0, 0, 80), (42, 48, 9, 18, 1332, 81), (4, 0, 0, 0, 0, 84), (0, (-1), 0, 0, 0, 85), (42, 51, 9, 19, 1333, 86), (4, 0, 0, 0, 0, 89), (0, 1680, 2, 0, 0, 90), (55, 0, 1, 0, 0, 93), (44, 54, 9, 20, 1334, 95), (4, 0, 0, 0, 0, 98), (0, 40, 1, 0, 0, 99), (55, 0, 1, 0, 0, 101), (44, 58, 9, 21, 1335, 103), (4, 0, 0, 0, 0, 106), (0, 1680, 2, 0, 0, 107), (55, 0, 1, 0, 0, 110), (44, 61, 9, 22, 1336, 112), (4, 0, 0, 0, 0, 115), (0, 40, 1, 0, 0, 116), (55, 0, 0, 0, 0, 118), (44, 64, 9, 25, 1339, 120), (4, 0, 0, 0, 0, 123), (0, 40, 1, 0, 0, 124), (55, 0, 0, 0, 0, 126), (44, 67, 9, 26, 1340, 128), (4, 0, 0, 0, 0, 131), (0, 40, 1, 0, 0, 132), (55, 0, 1, 0, 0, 134), (44, 70, 9, 27, 1341, 136), (4, 0, 0, 0, 0, 139), (0, 42, 1, 0, 0, 140), (55, 0, 1, 0, 0, 142), (44, 73, 9, 28, 1342, 144), (4, 0, 0, 0, 0, 147), (0, 42, 1, 0, 0, 148), (55, 0, 1, 0, 0, 150), (44, 76, 9, 29, 1343, 152), (4, 0, 0, 0, 0, 155), (0, 8, 1, 0, 0, 156), (55, 0, 0, 0, 0, 158), (44, 79, 9, 30, 1344, 160), (4, 0, 0, 0, 0, 163), (0, 40, 1, 0, 0, 164), (55, 0, 3, 0, 0, 166), (44, 82, 9, 31, 1345, 168), (4, 0, 0, 0, 0, 171), (0, 616, 2, 0, 0, 172), (55, 0, 0, 0, 0, 175), (44, 85, 9, 32, 1346, 177), (4, 0, 0, 0, 0, 180), (0, (-2000000000), 3, 88, 1311, 181), (42, 89, 9, 33, 1347, 183), (4, 0, 0, 0, 0, 186), (0, 4, 0, 0, 0, 187), (55, 0, 0, 0, 0, 188), (35, 0, 0, 0, 0, 190), (0, 0, 0, 0, 0, 191), (0, (-1), 0, 0, 0, 192), (50, 0, 0, 0, 0, 193), (35, 0, 0, 0, 0, 194), (0, 1, 0, 0, 0, 195), (0, (-1), 0, 0, 0, 196), (50, 0, 0, 0, 0, 197), (35, 0, 0, 0, 0, 198), (0, 2, 0, 0, 0, 199), (0, (-1), 0, 0, 0, 200), (50, 0, 0, 0, 0, 201), (35, 0, 0, 0, 0, 202), (0, 3, 0, 0, 0, 203), (0, (-1), 0, 0, 0, 204), (50, 0, 0, 0, 0, 205), (44, 92, 9, 34, 1348, 206), (4, 0, 0, 0, 0, 209), (0, 4, 0, 0, 0, 210), (55, 0, 0, 0, 0, 211), (44, 95, 9, 35, 1349, 213), (4, 0, 0, 0, 0, 216), (0, 240, 2, 0, 0, 217), (55, 0, 1, 0, 0, 220), (44, 98, 9, 36, 1350, 222), (4, 0, 0, 0, 0, 225), (0, 60, 1, 0, 0, 226), (55, 0, 1, 0, 0, 228), (44, 101, 9, 37, 1351, 230), (4, 0, 0, 0, 0, 233), (41, 15, 9, 1, 1315, 234), (85, 104, 167, 1, 1312, 237), (4, 0, 0, 0, 0, 240), (41, 15, 9, 1, 1315, 241), (0, 0, 0, 0, 0, 244), (0, 1, 0, 0, 0, 245), (50, 0, 0, 0, 0, 246), (83, 0, 0, 0, 0, 247)] := id rfl
theorem mz_166 : x_mZ 166 = 9 := id rfl
def x_pl0 (σ : x_S) : x_S := x_st (s_fl σ 51 0 0 616 0) 51 0 16 (-1)
def x_sm (σ : x_S) : x_S := (x_st (x_pl0 (x_zr (x_zr (x_zr (x_st (x_st (x_st (x_st (x_zr (x_st (x_zr (x_zr (x_zr (x_zr (x_zr (x_zr (x_zr (x_zr (x_zr (x_zr (x_zr (x_st (x_st (x_st (x_zr (x_zr (x_zr (x_st (x_zr (x_zr (x_zr (x_zr (x_zr σ 51 0) 52 0) 53 0) 54 0) 55 0) 50 0 (13) (-1)) 56 0) 57 0) 58 0) 50 0 (17) (5)) 50 0 (18) (4)) 50 0 (19) (-1)) 59 0) 60 0) 61 0) 62 0) 63 0) 64 0) 65 0) 66 0) 67 0) 68 0) 69 0) 50 0 (33) (-2000000000)) 70 0) 70 0 (0) (-1)) 70 0 (1) (-1)) 70 0 (2) (-1)) 70 0 (3) (-1)) 71 0) 72 0) 73 0)) 51 0 (0) (1))
theorem x_cim {d : Nat} {σ : x_S} {Q : Option x_V → x_K → x_S → Prop} (h : Q none x_kF (x_sm σ)) : x_Wk (d + 1) 166 (x_blk 166 0) (x_ini 166 [xR 50 0]) [] (115, 120) σ Q := by
  rw [bk_166_0]
  refine x_wk_s (k' := (115, 120)) (by decide) rfl ?_
  refine x_wk_s (k' := (115, 120)) (by decide) rfl ?_
  refine x_wk_s (k' := (115, 120)) (by decide) rfl ?_
  refine x_wk_s (k' := (115, 120)) (by decide) rfl ?_
  refine x_wk_s (k' := (116, 120)) (by decide) rfl ?_
  refine x_wk_s (k' := (116, 121)) (by decide) rfl ?_
  refine x_wk_s (k' := (116, 121)) (by decide) rfl ?_
  refine x_wk_s (k' := (116, 121)) (by decide) rfl ?_
  refine x_wk_s (k' := (117, 121)) (by decide) rfl ?_
  refine x_wk_s (k' := (117, 122)) (by decide) rfl ?_
  refine x_wk_s (k' := (117, 122)) (by decide) rfl ?_
  refine x_wk_s (k' := (117, 122)) (by decide) rfl ?_
  refine x_wk_s (k' := (118, 122)) (by decide) rfl ?_
  refine x_wk_s (k' := (118, 123)) (by decide) rfl ?_
  refine x_wk_s (k' := (118, 123)) (by decide) rfl ?_
  refine x_wk_s (k' := (118, 123)) (by decide) rfl ?_
  refine x_wk_s (k' := (119, 123)) (by decide) rfl ?_
  refine x_wk_s (k' := (119, 124)) (by decide) rfl ?_
  refine x_wk_s (k' := (119, 124)) (by decide) rfl ?_
  refine x_wk_s (k' := (119, 124)) (by decide) rfl ?_
  refine x_wk_s (k' := (120, 124)) (by decide) rfl ?_
  refine x_wk_s (k' := (120, 125)) (by decide) rfl ?_
  refine x_wk_s (k' := (120, 125)) (by decide) rfl ?_
  refine x_wk_s (k' := (120, 125)) (by decide) rfl ?_
  refine x_wk_s (k' := (120, 125)) (by decide) rfl ?_
  refine x_wk_s (k' := (120, 125)) (by decide) rfl ?_
  refine x_wk_s (k' := (120, 125)) (by decide) rfl ?_
  refine x_wk_s (k' := (121, 125)) (by decide) rfl ?_
  refine x_wk_s (k' := (121, 126)) (by decide) rfl ?_
  refine x_wk_s (k' := (121, 126)) (by decide) rfl ?_
  refine x_wk_s (k' := (121, 126)) (by decide) rfl ?_
  refine x_wk_s (k' := (122, 126)) (by decide) rfl ?_
  refine x_wk_s (k' := (122, 127)) (by decide) rfl ?_
  refine x_wk_s (k' := (122, 127)) (by decide) rfl ?_
  refine x_wk_s (k' := (122, 127)) (by decide) rfl ?_
  refine x_wk_s (k' := (123, 127)) (by decide) rfl ?_
  refine x_wk_s (k' := (123, 128)) (by decide) rfl ?_
  refine x_wk_s (k' := (123, 128)) (by decide) rfl ?_
  refine x_wk_s (k' := (123, 128)) (by decide) rfl ?_
  refine x_wk_s (k' := (123, 128)) (by decide) rfl ?_
  refine x_wk_s (k' := (123, 128)) (by decide) rfl ?_
  refine x_wk_s (k' := (123, 128)) (by decide) rfl ?_
  refine x_wk_s (k' := (123, 128)) (by decide) rfl ?_
  refine x_wk_s (k' := (123, 128)) (by decide) rfl ?_
  refine x_wk_s (k' := (123, 128)) (by decide) rfl ?_
  refine x_wk_s (k' := (123, 128)) (by decide) rfl ?_
  refine x_wk_s (k' := (123, 128)) (by decide) rfl ?_
  refine x_wk_s (k' := (123, 128)) (by decide) rfl ?_
  refine x_wk_s (k' := (124, 128)) (by decide) rfl ?_
  refine x_wk_s (k' := (124, 129)) (by decide) rfl ?_
  refine x_wk_s (k' := (124, 129)) (by decide) rfl ?_
  refine x_wk_s (k' := (124, 129)) (by decide) rfl ?_
  refine x_wk_s (k' := (125, 129)) (by decide) rfl ?_
  refine x_wk_s (k' := (125, 130)) (by decide) rfl ?_
  refine x_wk_s (k' := (125, 130)) (by decide) rfl ?_
  refine x_wk_s (k' := (125, 130)) (by decide) rfl ?_
  refine x_wk_s (k' := (126, 130)) (by decide) rfl ?_
  refine x_wk_s (k' := (126, 131)) (by decide) rfl ?_
  refine x_wk_s (k' := (126, 131)) (by decide) rfl ?_
  refine x_wk_s (k' := (126, 131)) (by decide) rfl ?_
  refine x_wk_s (k' := (127, 131)) (by decide) rfl ?_
  refine x_wk_s (k' := (127, 132)) (by decide) rfl ?_
  refine x_wk_s (k' := (127, 132)) (by decide) rfl ?_
  refine x_wk_s (k' := (127, 132)) (by decide) rfl ?_
  refine x_wk_s (k' := (128, 132)) (by decide) rfl ?_
  refine x_wk_s (k' := (128, 133)) (by decide) rfl ?_
  refine x_wk_s (k' := (128, 133)) (by decide) rfl ?_
  refine x_wk_s (k' := (128, 133)) (by decide) rfl ?_
  refine x_wk_s (k' := (129, 133)) (by decide) rfl ?_
  refine x_wk_s (k' := (129, 134)) (by decide) rfl ?_
  refine x_wk_s (k' := (129, 134)) (by decide) rfl ?_
  refine x_wk_s (k' := (129, 134)) (by decide) rfl ?_
  refine x_wk_s (k' := (130, 134)) (by decide) rfl ?_
  refine x_wk_s (k' := (130, 135)) (by decide) rfl ?_
  refine x_wk_s (k' := (130, 135)) (by decide) rfl ?_
  refine x_wk_s (k' := (130, 135)) (by decide) rfl ?_
  refine x_wk_s (k' := (131, 135)) (by decide) rfl ?_
  refine x_wk_s (k' := (131, 136)) (by decide) rfl ?_
  refine x_wk_s (k' := (131, 136)) (by decide) rfl ?_
  refine x_wk_s (k' := (131, 136)) (by decide) rfl ?_
  refine x_wk_s (k' := (132, 136)) (by decide) rfl ?_
  refine x_wk_s (k' := (132, 137)) (by decide) rfl ?_
  refine x_wk_s (k' := (132, 137)) (by decide) rfl ?_
  refine x_wk_s (k' := (132, 137)) (by decide) rfl ?_
  refine x_wk_s (k' := (133, 137)) (by decide) rfl ?_
  refine x_wk_s (k' := (133, 138)) (by decide) rfl ?_
  refine x_wk_s (k' := (133, 138)) (by decide) rfl ?_
  refine x_wk_s (k' := (133, 138)) (by decide) rfl ?_
  refine x_wk_s (k' := (134, 138)) (by decide) rfl ?_
  refine x_wk_s (k' := (134, 139)) (by decide) rfl ?_
  refine x_wk_s (k' := (134, 139)) (by decide) rfl ?_
  refine x_wk_s (k' := (134, 139)) (by decide) rfl ?_
  refine x_wk_s (k' := (134, 139)) (by decide) rfl ?_
  refine x_wk_s (k' := (134, 139)) (by decide) rfl ?_
  refine x_wk_s (k' := (134, 139)) (by decide) rfl ?_
  refine x_wk_s (k' := (135, 139)) (by decide) rfl ?_
  refine x_wk_s (k' := (135, 139)) (by decide) rfl ?_
  refine x_wk_s (k' := (135, 139)) (by decide) rfl ?_
  refine x_wk_s (k' := (135, 139)) (by decide) rfl ?_
  refine x_wk_s (k' := (135, 139)) (by decide) rfl ?_
  refine x_wk_s (k' := (135, 139)) (by decide) rfl ?_
  refine x_wk_s (k' := (135, 139)) (by decide) rfl ?_
  refine x_wk_s (k' := (135, 139)) (by decide) rfl ?_
  refine x_wk_s (k' := (135, 139)) (by decide) rfl ?_
  refine x_wk_s (k' := (135, 139)) (by decide) rfl ?_
  refine x_wk_s (k' := (135, 139)) (by decide) rfl ?_
  refine x_wk_s (k' := (135, 139)) (by decide) rfl ?_
  refine x_wk_s (k' := (135, 139)) (by decide) rfl ?_
  refine x_wk_s (k' := (135, 139)) (by decide) rfl ?_
  refine x_wk_s (k' := (135, 139)) (by decide) rfl ?_
  refine x_wk_s (k' := (135, 139)) (by decide) rfl ?_
  refine x_wk_s (k' := (135, 139)) (by decide) rfl ?_
  refine x_wk_s (k' := (135, 140)) (by decide) rfl ?_
  refine x_wk_s (k' := (135, 140)) (by decide) rfl ?_
  refine x_wk_s (k' := (135, 140)) (by decide) rfl ?_
  refine x_wk_s (k' := (136, 140)) (by decide) rfl ?_
  refine x_wk_s (k' := (136, 141)) (by decide) rfl ?_
  refine x_wk_s (k' := (136, 141)) (by decide) rfl ?_
  refine x_wk_s (k' := (136, 141)) (by decide) rfl ?_
  refine x_wk_s (k' := (137, 141)) (by decide) rfl ?_
  refine x_wk_s (k' := (137, 142)) (by decide) rfl ?_
  refine x_wk_s (k' := (137, 142)) (by decide) rfl ?_
  refine x_wk_s (k' := (137, 142)) (by decide) rfl ?_
  refine x_wk_s (k' := (138, 142)) (by decide) rfl ?_
  refine x_wk_s (k' := (138, 143)) (by decide) rfl ?_
  refine x_wk_s (k' := (138, 143)) (by decide) rfl ?_
  refine x_wk_s (k' := (138, 143)) (by decide) rfl ?_
  refine x_wk_c (by decide) (by decide) (by decide) rfl rfl ?_
  show x_Wk d 167 (x_blk 167 0) (x_ini 167 [xR 51 0]) [] x_kF _ _
  refine x_wk_of ((c_plain (Q := fun r σ' => r = none ∧ σ' = _) (Or.inl rfl)).mpr ⟨rfl, rfl⟩) ?_
  rintro r σ' ⟨rfl, rfl⟩
  show x_Wk _ _ _ _ _ ((138, 143) : x_K) _ _
  refine x_wk_s (k' := (138, 143)) (by decide) rfl ?_
  refine x_wk_s (k' := (138, 143)) (by decide) rfl ?_
  refine x_wk_s (k' := (138, 143)) (by decide) rfl ?_
  refine x_wk_s (k' := (138, 143)) (by decide) rfl ?_
  refine x_wk_s (k' := (138, 143)) (by decide) rfl ?_
  refine x_wk_r (r := none) (by decide) (by decide) (by decide) rfl ?_
  exact h
def x_sF (σ : x_S) : x_S := x_sm (x_zr (x_s22 (x_zr σ 0 0)) 50 0)
theorem x_bk272 : x_blk 272 0 = [(57, 7, 8, 0, 113, 0), (35, 0, 0, 0, 0, 3), (86, 9, 93, 1, 115, 4), (7, 0, 1, 0, 0, 7), (57, 10, 9, 0, 1305, 8), (35, 0, 0, 0, 0, 11), (86, 12, 166, 1, 1307, 12), (7, 0, 2, 0, 0, 15), (0, 0, 0, 0, 0, 16), (5, 0, 3, 0, 0, 17), (77, 0, 1, 0, 0, 18)] := id rfl
theorem x_law0 {σ : x_S} {Q : Option x_V → x_K → x_S → Prop} (h : x_Wk 1000 272 (x_blk 272 1) [xR 100 0, xR 0 0, xR 50 0, xI 0] [] x_kF (x_sF σ) Q) : x_Wk 1000 272 (x_blk 272 0) (x_ini 272 [xR 100 0]) [] (0, 0) σ Q := by
  show x_Wk (997 + 3) 272 _ _ _ _ _ _
  rw [x_bk272]
  refine x_wk_s (k' := (1, 0)) (by decide) rfl ?_
  refine x_wk_s (k' := (1, 0)) (by decide) rfl ?_
  refine x_wk_c (by decide) (by decide) (by decide) rfl rfl (x_ci22 ?_)
  refine x_wk_s (k' := (114, 120)) (by decide) rfl ?_
  refine x_wk_s (k' := (115, 120)) (by decide) rfl ?_
  refine x_wk_s (k' := (115, 120)) (by decide) rfl ?_
  refine x_wk_c (by decide) (by decide) (by decide) rfl rfl (x_cim ?_)
  refine x_wk_s (k' := x_kF) (by decide) rfl ?_
  refine x_wk_s (k' := x_kF) (by decide) rfl ?_
  refine x_wk_s (k' := x_kF) (by decide) rfl ?_
  refine x_wk_bt (t := 1) (by decide) (by decide) rfl ?_
  exact h
theorem x_hlaw0 {L : Nat} {xs : Nat → Int32} (h : ∃ σE, x_Wp 1000 272 (x_blk 272 1) [xR 100 0, xR 0 0, xR 50 0, xI 0] [] (x_sF (x_sc0 L xs)) (fun r σ' => r = some (xI 1) ∧ σ' = σE)) :
    ∃ (n : Nat) (σE : x_S), x_run n 1000 272 (x_blk 272 0) (x_ini 272 [xR 100 0]) [] (0, 0) (x_sc0 L xs) = some (some (xI 1), x_kF, σE) := by
  obtain ⟨σE, hw⟩ := h
  have hk : x_Wk 1000 272 (x_blk 272 0) (x_ini 272 [xR 100 0]) [] (0, 0) (x_sc0 L xs) (fun r k' σ' => r = some (xI 1) ∧ k' = x_kF ∧ σ' = σE) :=
    x_law0 (x_wk_of hw (fun r σ' q => ⟨q.1, rfl, q.2⟩))
  obtain ⟨n, r, k', σ', hr, h1, h2, h3⟩ := hk
  rw [h1, h2, h3] at hr
  exact ⟨n, σE, hr⟩

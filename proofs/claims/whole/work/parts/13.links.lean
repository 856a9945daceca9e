/-- the kinds of the things of the world, by their numbers -/
def kdL : List (Nat × Nat) := [(9, 17), (8, 10), (101, 400), (2, 11), (100, 4), (100, 4), (100, 4), (100, 12), (100, 4), (100, 8), (100, 364), (100, 4), (100, 4), (2, 11), (100, 4), (100, 4), (100, 4), (100, 12), (100, 4), (100, 8), (100, 364), (100, 4), (100, 4), (2, 11), (100, 4), (100, 4), (100, 4), (100, 12), (100, 4), (100, 8), (100, 364), (100, 4), (100, 4), (3, 7), (100, 12), (100, 96), (100, 18), (100, 10), (3, 7), (100, 12), (100, 96), (100, 18), (100, 10), (7, 7), (100, 100), (100, 100), (100, 100), (100, 100), (100, 5), (7, 7), (100, 100), (100, 100), (100, 100), (100, 100), (100, 5), (6, 9), (2, 11), (100, 4), (100, 4), (100, 4), (100, 12), (100, 4), (100, 8), (100, 364), (100, 4), (100, 4), (100, 729), (100, 100), (4, 2), (100, 4), (100, 4), (1, 11), (100, 144), (100, 432), (100, 12), (0, 6), (100, 8), (100, 80), (100, 2048), (100, 2048), (5, 3), (100, 729), (100, 5), (10, 61), (100, 4), (100, 4), (100, 4), (100, 12), (100, 12), (100, 400), (100, 5), (100, 4), (100, 4), (100, 4), (100, 12), (100, 12), (100, 729), (100, 96), (100, 8), (100, 18), (100, 12), (100, 10), (100, 8), (100, 8), (100, 600), (100, 600), (100, 5), (100, 5), (100, 5), (100, 729), (100, 12), (100, 3), (100, 12), (100, 96), (100, 18), (100, 10), (102, 1)]
def kd (o : Nat) : Nat × Nat := kdL.getD o (300, 0)
/-- the offsets of what final fields hold -/
def rOff (c k : Nat) : Option Nat := match c, k with
  | 0, 0 => some 1
  | 0, 3 => some 2
  | 0, 4 => some 3
  | 0, 5 => some 4
  | 1, 8 => some 1
  | 1, 9 => some 2
  | 1, 10 => some 3
  | 2, 0 => some 1
  | 2, 1 => some 2
  | 2, 2 => some 3
  | 2, 3 => some 4
  | 2, 6 => some 5
  | 2, 7 => some 6
  | 2, 8 => some 7
  | 2, 9 => some 8
  | 2, 10 => some 9
  | 3, 0 => some 1
  | 3, 2 => some 2
  | 3, 4 => some 3
  | 3, 6 => some 4
  | 4, 0 => some 1
  | 4, 1 => some 2
  | 6, 0 => some 1
  | 6, 1 => some 11
  | 6, 7 => some 12
  | 7, 0 => some 1
  | 7, 1 => some 2
  | 7, 2 => some 3
  | 7, 3 => some 4
  | 7, 5 => some 5
  | 8, 0 => some 1
  | 9, 0 => some 1
  | 9, 1 => some 3
  | 9, 2 => some 13
  | 9, 3 => some 23
  | 9, 4 => some 33
  | 9, 5 => some 38
  | 9, 9 => some 55
  | 9, 10 => some 68
  | 9, 11 => some 71
  | 9, 12 => some 75
  | 9, 13 => some 80
  | 9, 14 => some 81
  | 9, 15 => some 82
  | 10, 3 => some 1
  | 10, 4 => some 2
  | 10, 5 => some 3
  | 10, 6 => some 4
  | 10, 7 => some 5
  | 10, 8 => some 6
  | 10, 12 => some 7
  | 10, 24 => some 8
  | 10, 25 => some 9
  | 10, 26 => some 10
  | 10, 27 => some 11
  | 10, 28 => some 12
  | 10, 29 => some 13
  | 10, 31 => some 14
  | 10, 32 => some 15
  | 10, 34 => some 16
  | 10, 35 => some 17
  | 10, 37 => some 18
  | 10, 38 => some 19
  | 10, 39 => some 20
  | 10, 42 => some 21
  | 10, 43 => some 22
  | 10, 44 => some 23
  | 10, 45 => some 24
  | 10, 46 => some 25
  | 10, 49 => some 26
  | 10, 50 => some 27
  | 10, 56 => some 28
  | 10, 57 => some 29
  | 10, 58 => some 30
  | 10, 59 => some 31
  | 10, 60 => some 32
  | _, _ => none
def Iv (h : mH) : Prop := (∀ o c n, kd o = (c, n) → Nat.blt c 300 = true → h.1[o]? = some (c, n)) ∧ ∀ o c n k d, kd o = (c, n) → rOff c k = some d → h.2.2.2 o k = .ref (o + d)
theorem Iv.sh {h : mH} (hi : Iv h) {o c n : Nat} (hk : kd o = (c, n)) (hc : Nat.blt c 300 = true) : h.1[o]? = some (c, n) := hi.1 o c n hk hc
theorem Iv.rf {h : mH} (hi : Iv h) {o c n k d : Nat} (hk : kd o = (c, n)) (hr : rOff c k = some d) : gR h o k = .ref (o + d) := hi.2 o c n k d hk hr
theorem kd_lt {o c n : Nat} (h : kd o = (c, n)) (hc : Nat.blt c 300 = true) : o < 117 := by
  rcases Nat.lt_or_ge o 117 with q | q
  · exact q
  · unfold kd at h
    rw [List.getD_eq_getElem?_getD, List.getElem?_eq_none (by exact q)] at h
    cases h
    cases hc
def offOk (o c k d : Nat) : Bool := (kd o).1 == c && (rOff c k == some d)
theorem kd2_0 {r : Nat} (h : kd r = (2, 11)) : kd (r + 1) = (100, 4) := by
  have hl := kd_lt h rfl
  revert h
  revert hl
  revert r
  decide +kernel
theorem kd2_1 {r : Nat} (h : kd r = (2, 11)) : kd (r + 2) = (100, 4) := by
  have hl := kd_lt h rfl
  revert h
  revert hl
  revert r
  decide +kernel
theorem kd2_2 {r : Nat} (h : kd r = (2, 11)) : kd (r + 3) = (100, 4) := by
  have hl := kd_lt h rfl
  revert h
  revert hl
  revert r
  decide +kernel
theorem kd2_3 {r : Nat} (h : kd r = (2, 11)) : kd (r + 4) = (100, 12) := by
  have hl := kd_lt h rfl
  revert h
  revert hl
  revert r
  decide +kernel
theorem kd2_6 {r : Nat} (h : kd r = (2, 11)) : kd (r + 5) = (100, 4) := by
  have hl := kd_lt h rfl
  revert h
  revert hl
  revert r
  decide +kernel
theorem kd2_7 {r : Nat} (h : kd r = (2, 11)) : kd (r + 6) = (100, 8) := by
  have hl := kd_lt h rfl
  revert h
  revert hl
  revert r
  decide +kernel
theorem kd2_8 {r : Nat} (h : kd r = (2, 11)) : kd (r + 7) = (100, 364) := by
  have hl := kd_lt h rfl
  revert h
  revert hl
  revert r
  decide +kernel
theorem kd2_9 {r : Nat} (h : kd r = (2, 11)) : kd (r + 8) = (100, 4) := by
  have hl := kd_lt h rfl
  revert h
  revert hl
  revert r
  decide +kernel
theorem kd2_10 {r : Nat} (h : kd r = (2, 11)) : kd (r + 9) = (100, 4) := by
  have hl := kd_lt h rfl
  revert h
  revert hl
  revert r
  decide +kernel
theorem kd3_0 {r : Nat} (h : kd r = (3, 7)) : kd (r + 1) = (100, 12) := by
  have hl := kd_lt h rfl
  revert h
  revert hl
  revert r
  decide +kernel
theorem kd3_2 {r : Nat} (h : kd r = (3, 7)) : kd (r + 2) = (100, 96) := by
  have hl := kd_lt h rfl
  revert h
  revert hl
  revert r
  decide +kernel
theorem kd3_4 {r : Nat} (h : kd r = (3, 7)) : kd (r + 3) = (100, 18) := by
  have hl := kd_lt h rfl
  revert h
  revert hl
  revert r
  decide +kernel
theorem kd3_6 {r : Nat} (h : kd r = (3, 7)) : kd (r + 4) = (100, 10) := by
  have hl := kd_lt h rfl
  revert h
  revert hl
  revert r
  decide +kernel
theorem kd7_0 {r : Nat} (h : kd r = (7, 7)) : kd (r + 1) = (100, 100) := by
  have hl := kd_lt h rfl
  revert h
  revert hl
  revert r
  decide +kernel
theorem kd7_1 {r : Nat} (h : kd r = (7, 7)) : kd (r + 2) = (100, 100) := by
  have hl := kd_lt h rfl
  revert h
  revert hl
  revert r
  decide +kernel
theorem kd7_2 {r : Nat} (h : kd r = (7, 7)) : kd (r + 3) = (100, 100) := by
  have hl := kd_lt h rfl
  revert h
  revert hl
  revert r
  decide +kernel
theorem kd7_3 {r : Nat} (h : kd r = (7, 7)) : kd (r + 4) = (100, 100) := by
  have hl := kd_lt h rfl
  revert h
  revert hl
  revert r
  decide +kernel
theorem kd7_5 {r : Nat} (h : kd r = (7, 7)) : kd (r + 5) = (100, 5) := by
  have hl := kd_lt h rfl
  revert h
  revert hl
  revert r
  decide +kernel
set_option maxRecDepth 20000 in
theorem cl0_in : ∀ w ∈ u_ws RX0 TX0 6, w ∈ gT := fun w h => by
  obtain ⟨g1, g2⟩ := (goodIn_r (big := lw_tbl) (u_ws RX0 TX0 6) [423, 425, 427, 429, 431, 433] (by decide +kernel) (by decide +kernel)) w h
  exact gT_in g1 (by obtain ⟨k, -, rfl⟩ := List.mem_map.mp h; unfold u_lay; split <;> rfl)
theorem cl0 : CL 0 RX0 TX0 6 := ⟨by decide, rfl, cl0_in, by decide +kernel, nmX0⟩
set_option maxRecDepth 20000 in
theorem cl1_in : ∀ w ∈ u_ws RX1 TX1 11, w ∈ gT := fun w h => by
  obtain ⟨g1, g2⟩ := (goodIn_r (big := lw_tbl) (u_ws RX1 TX1 11) [385, 387, 389, 391, 393, 395, 397, 399, 401, 403, 405] (by decide +kernel) (by decide +kernel)) w h
  exact gT_in g1 (by obtain ⟨k, -, rfl⟩ := List.mem_map.mp h; unfold u_lay; split <;> rfl)
theorem cl1 : CL 1 RX1 TX1 11 := ⟨by decide, rfl, cl1_in, by decide +kernel, nmX1⟩
set_option maxRecDepth 20000 in
theorem cl2_in : ∀ w ∈ u_ws RX2 TX2 11, w ∈ gT := fun w h => by
  obtain ⟨g1, g2⟩ := (goodIn_r (big := lw_tbl) (u_ws RX2 TX2 11) [207, 209, 211, 213, 215, 217, 219, 221, 223, 225, 227] (by decide +kernel) (by decide +kernel)) w h
  exact gT_in g1 (by obtain ⟨k, -, rfl⟩ := List.mem_map.mp h; unfold u_lay; split <;> rfl)
theorem cl2 : CL 2 RX2 TX2 11 := ⟨by decide, rfl, cl2_in, by decide +kernel, nmX2⟩
set_option maxRecDepth 20000 in
theorem cl3_in : ∀ w ∈ u_ws RX3 TX3 7, w ∈ gT := fun w h => by
  obtain ⟨g1, g2⟩ := (goodIn_r (big := lw_tbl) (u_ws RX3 TX3 7) [257, 259, 261, 263, 265, 267, 269] (by decide +kernel) (by decide +kernel)) w h
  exact gT_in g1 (by obtain ⟨k, -, rfl⟩ := List.mem_map.mp h; unfold u_lay; split <;> rfl)
theorem cl3 : CL 3 RX3 TX3 7 := ⟨by decide, rfl, cl3_in, by decide +kernel, nmX3⟩
set_option maxRecDepth 20000 in
theorem cl4_in : ∀ w ∈ u_ws RX4 TX4 2, w ∈ gT := fun w h => by
  obtain ⟨g1, g2⟩ := (goodIn_r (big := lw_tbl) (u_ws RX4 TX4 2) [355, 357] (by decide +kernel) (by decide +kernel)) w h
  exact gT_in g1 (by obtain ⟨k, -, rfl⟩ := List.mem_map.mp h; unfold u_lay; split <;> rfl)
theorem cl4 : CL 4 RX4 TX4 2 := ⟨by decide, rfl, cl4_in, by decide +kernel, nmX4⟩
set_option maxRecDepth 20000 in
theorem cl5_in : ∀ w ∈ u_ws RX5 TX5 3, w ∈ gT := fun w h => by
  obtain ⟨g1, g2⟩ := (goodIn_r (big := lw_tbl) (u_ws RX5 TX5 3) [447, 449, 451] (by decide +kernel) (by decide +kernel)) w h
  exact gT_in g1 (by obtain ⟨k, -, rfl⟩ := List.mem_map.mp h; unfold u_lay; split <;> rfl)
theorem cl5 : CL 5 RX5 TX5 3 := ⟨by decide, rfl, cl5_in, by decide +kernel, nmX5⟩
set_option maxRecDepth 20000 in
theorem cl6_in : ∀ w ∈ u_ws RX6 TX6 9, w ∈ gT := fun w h => by
  obtain ⟨g1, g2⟩ := (goodIn_r (big := lw_tbl) (u_ws RX6 TX6 9) [328, 330, 332, 334, 336, 338, 340, 342, 344] (by decide +kernel) (by decide +kernel)) w h
  exact gT_in g1 (by obtain ⟨k, -, rfl⟩ := List.mem_map.mp h; unfold u_lay; split <;> rfl)
theorem cl6 : CL 6 RX6 TX6 9 := ⟨by decide, rfl, cl6_in, by decide +kernel, nmX6⟩
set_option maxRecDepth 20000 in
theorem cl7_in : ∀ w ∈ u_ws RX7 TX7 7, w ∈ gT := fun w h => by
  obtain ⟨g1, g2⟩ := (goodIn_r (big := lw_tbl) (u_ws RX7 TX7 7) [291, 293, 295, 297, 299, 301, 303] (by decide +kernel) (by decide +kernel)) w h
  exact gT_in g1 (by obtain ⟨k, -, rfl⟩ := List.mem_map.mp h; unfold u_lay; split <;> rfl)
theorem cl7 : CL 7 RX7 TX7 7 := ⟨by decide, rfl, cl7_in, by decide +kernel, nmX7⟩
set_option maxRecDepth 20000 in
theorem cl8_in : ∀ w ∈ u_ws RX9 TX9 10, w ∈ gT := fun w h => by
  obtain ⟨g1, g2⟩ := (goodIn_r (big := lw_tbl) (u_ws RX9 TX9 10) [147, 149, 151, 153, 155, 157, 159, 161, 163, 165] (by decide +kernel) (by decide +kernel)) w h
  exact gT_in g1 (by obtain ⟨k, -, rfl⟩ := List.mem_map.mp h; unfold u_lay; split <;> rfl)
theorem cl8 : CL 8 RX9 TX9 10 := ⟨by decide, rfl, cl8_in, by decide +kernel, nmX9⟩
set_option maxRecDepth 20000 in
theorem cl9_in : ∀ w ∈ u_ws RX10 TX10 17, w ∈ gT := fun w h => by
  obtain ⟨g1, g2⟩ := (goodIn_r (big := lw_tbl) (u_ws RX10 TX10 17) [471, 473, 475, 477, 479, 481, 483, 485, 487, 489, 491, 493, 495, 497, 499, 501, 503] (by decide +kernel) (by decide +kernel)) w h
  exact gT_in g1 (by obtain ⟨k, -, rfl⟩ := List.mem_map.mp h; unfold u_lay; split <;> rfl)
theorem cl9 : CL 9 RX10 TX10 17 := ⟨by decide, rfl, cl9_in, by decide +kernel, nmX10⟩
set_option maxRecDepth 20000 in
theorem cl10_in : ∀ w ∈ u_ws RX11 TX11 61, w ∈ gT := fun w h => by
  obtain ⟨g1, g2⟩ := (goodIn_r (big := lw_tbl) (u_ws RX11 TX11 61) [1388, 1390, 1392, 1394, 1396, 1398, 1400, 1402, 1404, 1406, 1408, 1410, 1412, 1414, 1416, 1418, 1420, 1422, 1424, 1426, 1428, 1430, 1432, 1434, 1436, 1438, 1440, 1442, 1444, 1446, 1448, 1450, 1452, 1454, 1456, 1458, 1460, 1462, 1464, 1466, 1468, 1470, 1472, 1474, 1476, 1478, 1480, 1482, 1484, 1486, 1488, 1490, 1492, 1494, 1496, 1498, 1500, 1502, 1504, 1506, 1508] (by decide +kernel) (by decide +kernel)) w h
  exact gT_in g1 (by obtain ⟨k, -, rfl⟩ := List.mem_map.mp h; unfold u_lay; split <;> rfl)
theorem cl10 : CL 10 RX11 TX11 61 := ⟨by decide, rfl, cl10_in, by decide +kernel, nmX11⟩
theorem flX9_11 : FL RX9 11 8 0 := ⟨_, _, _, cl8, by decide, w_132⟩
theorem flX9_19 : FL RX9 19 8 1 := ⟨_, _, _, cl8, by decide, w_133⟩
theorem flX10_107 : FL RX10 107 8 1 := ⟨_, _, _, cl8, by decide, w_134⟩
theorem flX9_37 : FL RX9 37 8 2 := ⟨_, _, _, cl8, by decide, w_135⟩
theorem flX10_359 : FL RX10 359 8 2 := ⟨_, _, _, cl8, by decide, w_136⟩
theorem flX9_15 : FL RX9 15 8 3 := ⟨_, _, _, cl8, by decide, w_137⟩
theorem flX10_169 : FL RX10 169 8 3 := ⟨_, _, _, cl8, by decide, w_138⟩
theorem flX7_100 : FL RX7 100 8 4 := ⟨_, _, _, cl8, by decide, w_139⟩
theorem flX8_95 : FL RX8 95 8 4 := ⟨_, _, _, cl8, by decide, w_140⟩
theorem flX9_78 : FL RX9 78 8 4 := ⟨_, _, _, cl8, by decide, w_141⟩
theorem flX9_31 : FL RX9 31 8 5 := ⟨_, _, _, cl8, by decide, w_142⟩
theorem flX9_34 : FL RX9 34 8 6 := ⟨_, _, _, cl8, by decide, w_143⟩
theorem flX9_50 : FL RX9 50 8 7 := ⟨_, _, _, cl8, by decide, w_144⟩
theorem flX9_47 : FL RX9 47 8 8 := ⟨_, _, _, cl8, by decide, w_145⟩
theorem flX9_59 : FL RX9 59 8 9 := ⟨_, _, _, cl8, by decide, w_146⟩
theorem flX2_9 : FL RX2 9 2 0 := ⟨_, _, _, cl2, by decide, w_178⟩
theorem flX8_64 : FL RX8 64 2 0 := ⟨_, _, _, cl2, by decide, w_179⟩
theorem flX4_34 : FL RX4 34 2 0 := ⟨_, _, _, cl2, by decide, w_180⟩
theorem flX10_190 : FL RX10 190 2 0 := ⟨_, _, _, cl2, by decide, w_181⟩
theorem flX2_15 : FL RX2 15 2 1 := ⟨_, _, _, cl2, by decide, w_182⟩
theorem flX8_68 : FL RX8 68 2 1 := ⟨_, _, _, cl2, by decide, w_183⟩
theorem flX10_193 : FL RX10 193 2 1 := ⟨_, _, _, cl2, by decide, w_184⟩
theorem flX2_18 : FL RX2 18 2 2 := ⟨_, _, _, cl2, by decide, w_185⟩
theorem flX8_78 : FL RX8 78 2 2 := ⟨_, _, _, cl2, by decide, w_186⟩
theorem flX10_199 : FL RX10 199 2 2 := ⟨_, _, _, cl2, by decide, w_187⟩
theorem flX2_21 : FL RX2 21 2 3 := ⟨_, _, _, cl2, by decide, w_188⟩
theorem flX1_51 : FL RX1 51 2 3 := ⟨_, _, _, cl2, by decide, w_189⟩
theorem flX4_29 : FL RX4 29 2 3 := ⟨_, _, _, cl2, by decide, w_190⟩
theorem flX8_75 : FL RX8 75 2 3 := ⟨_, _, _, cl2, by decide, w_191⟩
theorem flX6_102 : FL RX6 102 2 3 := ⟨_, _, _, cl2, by decide, w_192⟩
theorem flX10_196 : FL RX10 196 2 3 := ⟨_, _, _, cl2, by decide, w_193⟩
theorem flX2_45 : FL RX2 45 2 4 := ⟨_, _, _, cl2, by decide, w_194⟩
theorem flX8_53 : FL RX8 53 2 4 := ⟨_, _, _, cl2, by decide, w_195⟩
theorem flX10_172 : FL RX10 172 2 4 := ⟨_, _, _, cl2, by decide, w_196⟩
theorem flX2_49 : FL RX2 49 2 5 := ⟨_, _, _, cl2, by decide, w_197⟩
theorem flX8_98 : FL RX8 98 2 5 := ⟨_, _, _, cl2, by decide, w_198⟩
theorem flX10_175 : FL RX10 175 2 5 := ⟨_, _, _, cl2, by decide, w_199⟩
theorem flX2_24 : FL RX2 24 2 6 := ⟨_, _, _, cl2, by decide, w_200⟩
theorem flX8_101 : FL RX8 101 2 6 := ⟨_, _, _, cl2, by decide, w_201⟩
theorem flX2_27 : FL RX2 27 2 7 := ⟨_, _, _, cl2, by decide, w_202⟩
theorem flX8_107 : FL RX8 107 2 7 := ⟨_, _, _, cl2, by decide, w_203⟩
theorem flX2_30 : FL RX2 30 2 8 := ⟨_, _, _, cl2, by decide, w_204⟩
theorem flX2_33 : FL RX2 33 2 9 := ⟨_, _, _, cl2, by decide, w_205⟩
theorem flX2_36 : FL RX2 36 2 10 := ⟨_, _, _, cl2, by decide, w_206⟩
theorem flX3_9 : FL RX3 9 3 0 := ⟨_, _, _, cl3, by decide, w_237⟩
theorem flX10_355 : FL RX10 355 3 0 := ⟨_, _, _, cl3, by decide, w_238⟩
theorem flX3_24 : FL RX3 24 3 1 := ⟨_, _, _, cl3, by decide, w_239⟩
theorem flX0_52 : FL RX0 52 3 1 := ⟨_, _, _, cl3, by decide, w_240⟩
theorem flX10_178 : FL RX10 178 3 1 := ⟨_, _, _, cl3, by decide, w_241⟩
theorem flX3_15 : FL RX3 15 3 2 := ⟨_, _, _, cl3, by decide, w_242⟩
theorem flX0_47 : FL RX0 47 3 2 := ⟨_, _, _, cl3, by decide, w_243⟩
theorem flX10_252 : FL RX10 252 3 2 := ⟨_, _, _, cl3, by decide, w_244⟩
theorem flX3_28 : FL RX3 28 3 3 := ⟨_, _, _, cl3, by decide, w_245⟩
theorem flX1_42 : FL RX1 42 3 3 := ⟨_, _, _, cl3, by decide, w_246⟩
theorem flX10_181 : FL RX10 181 3 3 := ⟨_, _, _, cl3, by decide, w_247⟩
theorem flX3_18 : FL RX3 18 3 4 := ⟨_, _, _, cl3, by decide, w_248⟩
theorem flX1_60 : FL RX1 60 3 4 := ⟨_, _, _, cl3, by decide, w_249⟩
theorem flX10_281 : FL RX10 281 3 4 := ⟨_, _, _, cl3, by decide, w_250⟩
theorem flX3_31 : FL RX3 31 3 5 := ⟨_, _, _, cl3, by decide, w_251⟩
theorem flX5_25 : FL RX5 25 3 5 := ⟨_, _, _, cl3, by decide, w_252⟩
theorem flX10_184 : FL RX10 184 3 5 := ⟨_, _, _, cl3, by decide, w_253⟩
theorem flX3_21 : FL RX3 21 3 6 := ⟨_, _, _, cl3, by decide, w_254⟩
theorem flX5_30 : FL RX5 30 3 6 := ⟨_, _, _, cl3, by decide, w_255⟩
theorem flX10_320 : FL RX10 320 3 6 := ⟨_, _, _, cl3, by decide, w_256⟩
theorem flX7_13 : FL RX7 13 7 0 := ⟨_, _, _, cl7, by decide, w_278⟩
theorem flX6_61 : FL RX6 61 7 0 := ⟨_, _, _, cl7, by decide, w_279⟩
theorem flX7_17 : FL RX7 17 7 1 := ⟨_, _, _, cl7, by decide, w_280⟩
theorem flX6_71 : FL RX6 71 7 1 := ⟨_, _, _, cl7, by decide, w_281⟩
theorem flX7_20 : FL RX7 20 7 2 := ⟨_, _, _, cl7, by decide, w_282⟩
theorem flX6_81 : FL RX6 81 7 2 := ⟨_, _, _, cl7, by decide, w_283⟩
theorem flX7_23 : FL RX7 23 7 3 := ⟨_, _, _, cl7, by decide, w_284⟩
theorem flX6_68 : FL RX6 68 7 3 := ⟨_, _, _, cl7, by decide, w_285⟩
theorem flX7_29 : FL RX7 29 7 4 := ⟨_, _, _, cl7, by decide, w_286⟩
theorem flX6_58 : FL RX6 58 7 4 := ⟨_, _, _, cl7, by decide, w_287⟩
theorem flX10_129 : FL RX10 129 7 4 := ⟨_, _, _, cl7, by decide, w_288⟩
theorem flX7_26 : FL RX7 26 7 5 := ⟨_, _, _, cl7, by decide, w_289⟩
theorem flX7_33 : FL RX7 33 7 6 := ⟨_, _, _, cl7, by decide, w_290⟩
theorem flX6_12 : FL RX6 12 6 0 := ⟨_, _, _, cl6, by decide, w_314⟩
theorem flX6_18 : FL RX6 18 6 1 := ⟨_, _, _, cl6, by decide, w_315⟩
theorem flX10_166 : FL RX10 166 6 1 := ⟨_, _, _, cl6, by decide, w_316⟩
theorem flX6_41 : FL RX6 41 6 2 := ⟨_, _, _, cl6, by decide, w_317⟩
theorem flX10_154 : FL RX10 154 6 2 := ⟨_, _, _, cl6, by decide, w_318⟩
theorem flX6_44 : FL RX6 44 6 3 := ⟨_, _, _, cl6, by decide, w_319⟩
theorem flX10_151 : FL RX10 151 6 3 := ⟨_, _, _, cl6, by decide, w_320⟩
theorem flX6_47 : FL RX6 47 6 4 := ⟨_, _, _, cl6, by decide, w_321⟩
theorem flX10_157 : FL RX10 157 6 4 := ⟨_, _, _, cl6, by decide, w_322⟩
theorem flX6_54 : FL RX6 54 6 5 := ⟨_, _, _, cl6, by decide, w_323⟩
theorem flX10_148 : FL RX10 148 6 5 := ⟨_, _, _, cl6, by decide, w_324⟩
theorem flX6_50 : FL RX6 50 6 6 := ⟨_, _, _, cl6, by decide, w_325⟩
theorem flX6_24 : FL RX6 24 6 7 := ⟨_, _, _, cl6, by decide, w_326⟩
theorem flX6_27 : FL RX6 27 6 8 := ⟨_, _, _, cl6, by decide, w_327⟩
theorem flX4_9 : FL RX4 9 4 0 := ⟨_, _, _, cl4, by decide, w_353⟩
theorem flX4_15 : FL RX4 15 4 1 := ⟨_, _, _, cl4, by decide, w_354⟩
theorem flX1_29 : FL RX1 29 1 0 := ⟨_, _, _, cl1, by decide, w_366⟩
theorem flX10_292 : FL RX10 292 1 0 := ⟨_, _, _, cl1, by decide, w_367⟩
theorem flX1_33 : FL RX1 33 1 1 := ⟨_, _, _, cl1, by decide, w_368⟩
theorem flX10_295 : FL RX10 295 1 1 := ⟨_, _, _, cl1, by decide, w_369⟩
theorem flX1_36 : FL RX1 36 1 2 := ⟨_, _, _, cl1, by decide, w_370⟩
theorem flX10_298 : FL RX10 298 1 2 := ⟨_, _, _, cl1, by decide, w_371⟩
theorem flX1_39 : FL RX1 39 1 3 := ⟨_, _, _, cl1, by decide, w_372⟩
theorem flX10_301 : FL RX10 301 1 3 := ⟨_, _, _, cl1, by decide, w_373⟩
theorem flX1_87 : FL RX1 87 1 4 := ⟨_, _, _, cl1, by decide, w_374⟩
theorem flX10_308 : FL RX10 308 1 4 := ⟨_, _, _, cl1, by decide, w_375⟩
theorem flX1_90 : FL RX1 90 1 5 := ⟨_, _, _, cl1, by decide, w_376⟩
theorem flX10_311 : FL RX10 311 1 5 := ⟨_, _, _, cl1, by decide, w_377⟩
theorem flX1_93 : FL RX1 93 1 6 := ⟨_, _, _, cl1, by decide, w_378⟩
theorem flX10_314 : FL RX10 314 1 6 := ⟨_, _, _, cl1, by decide, w_379⟩
theorem flX1_96 : FL RX1 96 1 7 := ⟨_, _, _, cl1, by decide, w_380⟩
theorem flX10_317 : FL RX10 317 1 7 := ⟨_, _, _, cl1, by decide, w_381⟩
theorem flX1_11 : FL RX1 11 1 8 := ⟨_, _, _, cl1, by decide, w_382⟩
theorem flX1_15 : FL RX1 15 1 9 := ⟨_, _, _, cl1, by decide, w_383⟩
theorem flX1_18 : FL RX1 18 1 10 := ⟨_, _, _, cl1, by decide, w_384⟩
theorem flX0_9 : FL RX0 9 0 0 := ⟨_, _, _, cl0, by decide, w_414⟩
theorem flX10_352 : FL RX10 352 0 0 := ⟨_, _, _, cl0, by decide, w_415⟩
theorem flX0_24 : FL RX0 24 0 1 := ⟨_, _, _, cl0, by decide, w_416⟩
theorem flX10_341 : FL RX10 341 0 1 := ⟨_, _, _, cl0, by decide, w_417⟩
theorem flX0_28 : FL RX0 28 0 2 := ⟨_, _, _, cl0, by decide, w_418⟩
theorem flX10_349 : FL RX10 349 0 2 := ⟨_, _, _, cl0, by decide, w_419⟩
theorem flX0_15 : FL RX0 15 0 3 := ⟨_, _, _, cl0, by decide, w_420⟩
theorem flX0_18 : FL RX0 18 0 4 := ⟨_, _, _, cl0, by decide, w_421⟩
theorem flX0_21 : FL RX0 21 0 5 := ⟨_, _, _, cl0, by decide, w_422⟩
theorem flX5_15 : FL RX5 15 5 0 := ⟨_, _, _, cl5, by decide, w_442⟩
theorem flX10_327 : FL RX10 327 5 0 := ⟨_, _, _, cl5, by decide, w_443⟩
theorem flX5_18 : FL RX5 18 5 1 := ⟨_, _, _, cl5, by decide, w_444⟩
theorem flX10_330 : FL RX10 330 5 1 := ⟨_, _, _, cl5, by decide, w_445⟩
theorem flX5_9 : FL RX5 9 5 2 := ⟨_, _, _, cl5, by decide, w_446⟩
theorem flX10_12 : FL RX10 12 9 0 := ⟨_, _, _, cl9, by decide, w_454⟩
theorem flX10_19 : FL RX10 19 9 1 := ⟨_, _, _, cl9, by decide, w_455⟩
theorem flX10_23 : FL RX10 23 9 2 := ⟨_, _, _, cl9, by decide, w_456⟩
theorem flX10_26 : FL RX10 26 9 3 := ⟨_, _, _, cl9, by decide, w_457⟩
theorem flX10_32 : FL RX10 32 9 4 := ⟨_, _, _, cl9, by decide, w_458⟩
theorem flX10_36 : FL RX10 36 9 5 := ⟨_, _, _, cl9, by decide, w_459⟩
theorem flX10_39 : FL RX10 39 9 6 := ⟨_, _, _, cl9, by decide, w_460⟩
theorem flX10_46 : FL RX10 46 9 7 := ⟨_, _, _, cl9, by decide, w_461⟩
theorem flX10_50 : FL RX10 50 9 8 := ⟨_, _, _, cl9, by decide, w_462⟩
theorem flX10_56 : FL RX10 56 9 9 := ⟨_, _, _, cl9, by decide, w_463⟩
theorem flX10_63 : FL RX10 63 9 10 := ⟨_, _, _, cl9, by decide, w_464⟩
theorem flX10_70 : FL RX10 70 9 11 := ⟨_, _, _, cl9, by decide, w_465⟩
theorem flX10_77 : FL RX10 77 9 12 := ⟨_, _, _, cl9, by decide, w_466⟩
theorem flX10_84 : FL RX10 84 9 13 := ⟨_, _, _, cl9, by decide, w_467⟩
theorem flX10_88 : FL RX10 88 9 14 := ⟨_, _, _, cl9, by decide, w_468⟩
theorem flX10_92 : FL RX10 92 9 15 := ⟨_, _, _, cl9, by decide, w_469⟩
theorem flX10_95 : FL RX10 95 9 16 := ⟨_, _, _, cl9, by decide, w_470⟩
theorem flX11_113 : FL RX11 113 10 0 := ⟨_, _, _, cl10, by decide, w_1327⟩
theorem flX11_216 : FL RX11 216 10 1 := ⟨_, _, _, cl10, by decide, w_1328⟩
theorem flX11_219 : FL RX11 219 10 2 := ⟨_, _, _, cl10, by decide, w_1329⟩
theorem flX11_7 : FL RX11 7 10 3 := ⟨_, _, _, cl10, by decide, w_1330⟩
theorem flX11_13 : FL RX11 13 10 4 := ⟨_, _, _, cl10, by decide, w_1331⟩
theorem flX11_16 : FL RX11 16 10 5 := ⟨_, _, _, cl10, by decide, w_1332⟩
theorem flX11_19 : FL RX11 19 10 6 := ⟨_, _, _, cl10, by decide, w_1333⟩
theorem flX11_22 : FL RX11 22 10 7 := ⟨_, _, _, cl10, by decide, w_1334⟩
theorem flX11_25 : FL RX11 25 10 8 := ⟨_, _, _, cl10, by decide, w_1335⟩
theorem flX11_116 : FL RX11 116 10 9 := ⟨_, _, _, cl10, by decide, w_1336⟩
theorem flX11_169 : FL RX11 169 10 10 := ⟨_, _, _, cl10, by decide, w_1337⟩
theorem flX11_28 : FL RX11 28 10 11 := ⟨_, _, _, cl10, by decide, w_1338⟩
theorem flX11_32 : FL RX11 32 10 12 := ⟨_, _, _, cl10, by decide, w_1339⟩
theorem flX11_123 : FL RX11 123 10 13 := ⟨_, _, _, cl10, by decide, w_1340⟩
theorem flX11_126 : FL RX11 126 10 14 := ⟨_, _, _, cl10, by decide, w_1341⟩
theorem flX11_146 : FL RX11 146 10 15 := ⟨_, _, _, cl10, by decide, w_1342⟩
theorem flX11_133 : FL RX11 133 10 16 := ⟨_, _, _, cl10, by decide, w_1343⟩
theorem flX11_156 : FL RX11 156 10 17 := ⟨_, _, _, cl10, by decide, w_1344⟩
theorem flX11_140 : FL RX11 140 10 18 := ⟨_, _, _, cl10, by decide, w_1345⟩
theorem flX11_143 : FL RX11 143 10 19 := ⟨_, _, _, cl10, by decide, w_1346⟩
theorem flX11_136 : FL RX11 136 10 20 := ⟨_, _, _, cl10, by decide, w_1347⟩
theorem flX11_186 : FL RX11 186 10 21 := ⟨_, _, _, cl10, by decide, w_1348⟩
theorem flX11_199 : FL RX11 199 10 22 := ⟨_, _, _, cl10, by decide, w_1349⟩
theorem flX11_205 : FL RX11 205 10 23 := ⟨_, _, _, cl10, by decide, w_1350⟩
theorem flX11_35 : FL RX11 35 10 24 := ⟨_, _, _, cl10, by decide, w_1351⟩
theorem flX11_38 : FL RX11 38 10 25 := ⟨_, _, _, cl10, by decide, w_1352⟩
theorem flX11_41 : FL RX11 41 10 26 := ⟨_, _, _, cl10, by decide, w_1353⟩
theorem flX11_44 : FL RX11 44 10 27 := ⟨_, _, _, cl10, by decide, w_1354⟩
theorem flX11_47 : FL RX11 47 10 28 := ⟨_, _, _, cl10, by decide, w_1355⟩
theorem flX11_50 : FL RX11 50 10 29 := ⟨_, _, _, cl10, by decide, w_1356⟩
theorem flX11_226 : FL RX11 226 10 30 := ⟨_, _, _, cl10, by decide, w_1357⟩
theorem flX11_53 : FL RX11 53 10 31 := ⟨_, _, _, cl10, by decide, w_1358⟩
theorem flX11_56 : FL RX11 56 10 32 := ⟨_, _, _, cl10, by decide, w_1359⟩
theorem flX11_229 : FL RX11 229 10 33 := ⟨_, _, _, cl10, by decide, w_1360⟩
theorem flX11_59 : FL RX11 59 10 34 := ⟨_, _, _, cl10, by decide, w_1361⟩
theorem flX11_62 : FL RX11 62 10 35 := ⟨_, _, _, cl10, by decide, w_1362⟩
theorem flX11_232 : FL RX11 232 10 36 := ⟨_, _, _, cl10, by decide, w_1363⟩
theorem flX11_65 : FL RX11 65 10 37 := ⟨_, _, _, cl10, by decide, w_1364⟩
theorem flX11_68 : FL RX11 68 10 38 := ⟨_, _, _, cl10, by decide, w_1365⟩
theorem flX11_71 : FL RX11 71 10 39 := ⟨_, _, _, cl10, by decide, w_1366⟩
theorem flX11_74 : FL RX11 74 10 40 := ⟨_, _, _, cl10, by decide, w_1367⟩
theorem flX11_322 : FL RX11 322 10 41 := ⟨_, _, _, cl10, by decide, w_1368⟩
theorem flX11_77 : FL RX11 77 10 42 := ⟨_, _, _, cl10, by decide, w_1369⟩
theorem flX11_80 : FL RX11 80 10 43 := ⟨_, _, _, cl10, by decide, w_1370⟩
theorem flX11_83 : FL RX11 83 10 44 := ⟨_, _, _, cl10, by decide, w_1371⟩
theorem flX11_86 : FL RX11 86 10 45 := ⟨_, _, _, cl10, by decide, w_1372⟩
theorem flX11_89 : FL RX11 89 10 46 := ⟨_, _, _, cl10, by decide, w_1373⟩
theorem flX11_328 : FL RX11 328 10 47 := ⟨_, _, _, cl10, by decide, w_1374⟩
theorem flX11_334 : FL RX11 334 10 48 := ⟨_, _, _, cl10, by decide, w_1375⟩
theorem flX11_92 : FL RX11 92 10 49 := ⟨_, _, _, cl10, by decide, w_1376⟩
theorem flX11_95 : FL RX11 95 10 50 := ⟨_, _, _, cl10, by decide, w_1377⟩
theorem flX11_369 : FL RX11 369 10 51 := ⟨_, _, _, cl10, by decide, w_1378⟩
theorem flX11_356 : FL RX11 356 10 52 := ⟨_, _, _, cl10, by decide, w_1379⟩
theorem flX11_353 : FL RX11 353 10 53 := ⟨_, _, _, cl10, by decide, w_1380⟩
theorem flX11_366 : FL RX11 366 10 54 := ⟨_, _, _, cl10, by decide, w_1381⟩
theorem flX11_235 : FL RX11 235 10 55 := ⟨_, _, _, cl10, by decide, w_1382⟩
theorem flX11_98 : FL RX11 98 10 56 := ⟨_, _, _, cl10, by decide, w_1383⟩
theorem flX11_101 : FL RX11 101 10 57 := ⟨_, _, _, cl10, by decide, w_1384⟩
theorem flX11_104 : FL RX11 104 10 58 := ⟨_, _, _, cl10, by decide, w_1385⟩
theorem flX11_107 : FL RX11 107 10 59 := ⟨_, _, _, cl10, by decide, w_1386⟩
theorem flX11_110 : FL RX11 110 10 60 := ⟨_, _, _, cl10, by decide, w_1387⟩
theorem ff0_0 : FF 0 0 true := fun _ _ _ h => by cases h; rfl
theorem ff0_1 : FF 0 1 false := fun _ _ _ h => by cases h; rfl
theorem ff0_2 : FF 0 2 false := fun _ _ _ h => by cases h; rfl
theorem ff0_3 : FF 0 3 true := fun _ _ _ h => by cases h; rfl
theorem ff0_4 : FF 0 4 true := fun _ _ _ h => by cases h; rfl
theorem ff0_5 : FF 0 5 true := fun _ _ _ h => by cases h; rfl
theorem ff1_0 : FF 1 0 false := fun _ _ _ h => by cases h; rfl
theorem ff1_1 : FF 1 1 false := fun _ _ _ h => by cases h; rfl
theorem ff1_2 : FF 1 2 false := fun _ _ _ h => by cases h; rfl
theorem ff1_3 : FF 1 3 false := fun _ _ _ h => by cases h; rfl
theorem ff1_4 : FF 1 4 false := fun _ _ _ h => by cases h; rfl
theorem ff1_5 : FF 1 5 false := fun _ _ _ h => by cases h; rfl
theorem ff1_6 : FF 1 6 false := fun _ _ _ h => by cases h; rfl
theorem ff1_7 : FF 1 7 false := fun _ _ _ h => by cases h; rfl
theorem ff1_8 : FF 1 8 true := fun _ _ _ h => by cases h; rfl
theorem ff1_9 : FF 1 9 true := fun _ _ _ h => by cases h; rfl
theorem ff1_10 : FF 1 10 true := fun _ _ _ h => by cases h; rfl
theorem ff2_0 : FF 2 0 true := fun _ _ _ h => by cases h; rfl
theorem ff2_1 : FF 2 1 true := fun _ _ _ h => by cases h; rfl
theorem ff2_2 : FF 2 2 true := fun _ _ _ h => by cases h; rfl
theorem ff2_3 : FF 2 3 true := fun _ _ _ h => by cases h; rfl
theorem ff2_4 : FF 2 4 false := fun _ _ _ h => by cases h; rfl
theorem ff2_5 : FF 2 5 false := fun _ _ _ h => by cases h; rfl
theorem ff2_6 : FF 2 6 true := fun _ _ _ h => by cases h; rfl
theorem ff2_7 : FF 2 7 true := fun _ _ _ h => by cases h; rfl
theorem ff2_8 : FF 2 8 true := fun _ _ _ h => by cases h; rfl
theorem ff2_9 : FF 2 9 true := fun _ _ _ h => by cases h; rfl
theorem ff2_10 : FF 2 10 true := fun _ _ _ h => by cases h; rfl
theorem ff3_0 : FF 3 0 true := fun _ _ _ h => by cases h; rfl
theorem ff3_1 : FF 3 1 false := fun _ _ _ h => by cases h; rfl
theorem ff3_2 : FF 3 2 true := fun _ _ _ h => by cases h; rfl
theorem ff3_3 : FF 3 3 false := fun _ _ _ h => by cases h; rfl
theorem ff3_4 : FF 3 4 true := fun _ _ _ h => by cases h; rfl
theorem ff3_5 : FF 3 5 false := fun _ _ _ h => by cases h; rfl
theorem ff3_6 : FF 3 6 true := fun _ _ _ h => by cases h; rfl
theorem ff4_0 : FF 4 0 true := fun _ _ _ h => by cases h; rfl
theorem ff4_1 : FF 4 1 true := fun _ _ _ h => by cases h; rfl
theorem ff5_0 : FF 5 0 false := fun _ _ _ h => by cases h; rfl
theorem ff5_1 : FF 5 1 false := fun _ _ _ h => by cases h; rfl
theorem ff5_2 : FF 5 2 false := fun _ _ _ h => by cases h; rfl
theorem ff6_0 : FF 6 0 true := fun _ _ _ h => by cases h; rfl
theorem ff6_1 : FF 6 1 true := fun _ _ _ h => by cases h; rfl
theorem ff6_2 : FF 6 2 false := fun _ _ _ h => by cases h; rfl
theorem ff6_3 : FF 6 3 false := fun _ _ _ h => by cases h; rfl
theorem ff6_4 : FF 6 4 false := fun _ _ _ h => by cases h; rfl
theorem ff6_5 : FF 6 5 false := fun _ _ _ h => by cases h; rfl
theorem ff6_6 : FF 6 6 false := fun _ _ _ h => by cases h; rfl
theorem ff6_7 : FF 6 7 true := fun _ _ _ h => by cases h; rfl
theorem ff6_8 : FF 6 8 false := fun _ _ _ h => by cases h; rfl
theorem ff7_0 : FF 7 0 true := fun _ _ _ h => by cases h; rfl
theorem ff7_1 : FF 7 1 true := fun _ _ _ h => by cases h; rfl
theorem ff7_2 : FF 7 2 true := fun _ _ _ h => by cases h; rfl
theorem ff7_3 : FF 7 3 true := fun _ _ _ h => by cases h; rfl
theorem ff7_4 : FF 7 4 false := fun _ _ _ h => by cases h; rfl
theorem ff7_5 : FF 7 5 true := fun _ _ _ h => by cases h; rfl
theorem ff7_6 : FF 7 6 false := fun _ _ _ h => by cases h; rfl
theorem ff8_0 : FF 8 0 true := fun _ _ _ h => by cases h; rfl
theorem ff8_1 : FF 8 1 false := fun _ _ _ h => by cases h; rfl
theorem ff8_2 : FF 8 2 false := fun _ _ _ h => by cases h; rfl
theorem ff8_3 : FF 8 3 false := fun _ _ _ h => by cases h; rfl
theorem ff8_4 : FF 8 4 false := fun _ _ _ h => by cases h; rfl
theorem ff8_5 : FF 8 5 false := fun _ _ _ h => by cases h; rfl
theorem ff8_6 : FF 8 6 false := fun _ _ _ h => by cases h; rfl
theorem ff8_7 : FF 8 7 false := fun _ _ _ h => by cases h; rfl
theorem ff8_8 : FF 8 8 false := fun _ _ _ h => by cases h; rfl
theorem ff8_9 : FF 8 9 false := fun _ _ _ h => by cases h; rfl
theorem ff9_0 : FF 9 0 true := fun _ _ _ h => by cases h; rfl
theorem ff9_1 : FF 9 1 true := fun _ _ _ h => by cases h; rfl
theorem ff9_2 : FF 9 2 true := fun _ _ _ h => by cases h; rfl
theorem ff9_3 : FF 9 3 true := fun _ _ _ h => by cases h; rfl
theorem ff9_4 : FF 9 4 true := fun _ _ _ h => by cases h; rfl
theorem ff9_5 : FF 9 5 true := fun _ _ _ h => by cases h; rfl
theorem ff9_6 : FF 9 6 false := fun _ _ _ h => by cases h; rfl
theorem ff9_7 : FF 9 7 false := fun _ _ _ h => by cases h; rfl
theorem ff9_8 : FF 9 8 false := fun _ _ _ h => by cases h; rfl
theorem ff9_9 : FF 9 9 true := fun _ _ _ h => by cases h; rfl
theorem ff9_10 : FF 9 10 true := fun _ _ _ h => by cases h; rfl
theorem ff9_11 : FF 9 11 true := fun _ _ _ h => by cases h; rfl
theorem ff9_12 : FF 9 12 true := fun _ _ _ h => by cases h; rfl
theorem ff9_13 : FF 9 13 true := fun _ _ _ h => by cases h; rfl
theorem ff9_14 : FF 9 14 true := fun _ _ _ h => by cases h; rfl
theorem ff9_15 : FF 9 15 true := fun _ _ _ h => by cases h; rfl
theorem ff9_16 : FF 9 16 false := fun _ _ _ h => by cases h; rfl
theorem ff10_0 : FF 10 0 false := fun _ _ _ h => by cases h; rfl
theorem ff10_1 : FF 10 1 false := fun _ _ _ h => by cases h; rfl
theorem ff10_2 : FF 10 2 false := fun _ _ _ h => by cases h; rfl
theorem ff10_3 : FF 10 3 true := fun _ _ _ h => by cases h; rfl
theorem ff10_4 : FF 10 4 true := fun _ _ _ h => by cases h; rfl
theorem ff10_5 : FF 10 5 true := fun _ _ _ h => by cases h; rfl
theorem ff10_6 : FF 10 6 true := fun _ _ _ h => by cases h; rfl
theorem ff10_7 : FF 10 7 true := fun _ _ _ h => by cases h; rfl
theorem ff10_8 : FF 10 8 true := fun _ _ _ h => by cases h; rfl
theorem ff10_9 : FF 10 9 false := fun _ _ _ h => by cases h; rfl
theorem ff10_10 : FF 10 10 false := fun _ _ _ h => by cases h; rfl
theorem ff10_11 : FF 10 11 false := fun _ _ _ h => by cases h; rfl
theorem ff10_12 : FF 10 12 true := fun _ _ _ h => by cases h; rfl
theorem ff10_13 : FF 10 13 false := fun _ _ _ h => by cases h; rfl
theorem ff10_14 : FF 10 14 false := fun _ _ _ h => by cases h; rfl
theorem ff10_15 : FF 10 15 false := fun _ _ _ h => by cases h; rfl
theorem ff10_16 : FF 10 16 false := fun _ _ _ h => by cases h; rfl
theorem ff10_17 : FF 10 17 false := fun _ _ _ h => by cases h; rfl
theorem ff10_18 : FF 10 18 false := fun _ _ _ h => by cases h; rfl
theorem ff10_19 : FF 10 19 false := fun _ _ _ h => by cases h; rfl
theorem ff10_20 : FF 10 20 false := fun _ _ _ h => by cases h; rfl
theorem ff10_21 : FF 10 21 false := fun _ _ _ h => by cases h; rfl
theorem ff10_22 : FF 10 22 false := fun _ _ _ h => by cases h; rfl
theorem ff10_23 : FF 10 23 false := fun _ _ _ h => by cases h; rfl
theorem ff10_24 : FF 10 24 true := fun _ _ _ h => by cases h; rfl
theorem ff10_25 : FF 10 25 true := fun _ _ _ h => by cases h; rfl
theorem ff10_26 : FF 10 26 true := fun _ _ _ h => by cases h; rfl
theorem ff10_27 : FF 10 27 true := fun _ _ _ h => by cases h; rfl
theorem ff10_28 : FF 10 28 true := fun _ _ _ h => by cases h; rfl
theorem ff10_29 : FF 10 29 true := fun _ _ _ h => by cases h; rfl
theorem ff10_30 : FF 10 30 false := fun _ _ _ h => by cases h; rfl
theorem ff10_31 : FF 10 31 true := fun _ _ _ h => by cases h; rfl
theorem ff10_32 : FF 10 32 true := fun _ _ _ h => by cases h; rfl
theorem ff10_33 : FF 10 33 false := fun _ _ _ h => by cases h; rfl
theorem ff10_34 : FF 10 34 true := fun _ _ _ h => by cases h; rfl
theorem ff10_35 : FF 10 35 true := fun _ _ _ h => by cases h; rfl
theorem ff10_36 : FF 10 36 false := fun _ _ _ h => by cases h; rfl
theorem ff10_37 : FF 10 37 true := fun _ _ _ h => by cases h; rfl
theorem ff10_38 : FF 10 38 true := fun _ _ _ h => by cases h; rfl
theorem ff10_39 : FF 10 39 true := fun _ _ _ h => by cases h; rfl
theorem ff10_40 : FF 10 40 false := fun _ _ _ h => by cases h; rfl
theorem ff10_41 : FF 10 41 false := fun _ _ _ h => by cases h; rfl
theorem ff10_42 : FF 10 42 true := fun _ _ _ h => by cases h; rfl
theorem ff10_43 : FF 10 43 true := fun _ _ _ h => by cases h; rfl
theorem ff10_44 : FF 10 44 true := fun _ _ _ h => by cases h; rfl
theorem ff10_45 : FF 10 45 true := fun _ _ _ h => by cases h; rfl
theorem ff10_46 : FF 10 46 true := fun _ _ _ h => by cases h; rfl
theorem ff10_47 : FF 10 47 false := fun _ _ _ h => by cases h; rfl
theorem ff10_48 : FF 10 48 false := fun _ _ _ h => by cases h; rfl
theorem ff10_49 : FF 10 49 true := fun _ _ _ h => by cases h; rfl
theorem ff10_50 : FF 10 50 true := fun _ _ _ h => by cases h; rfl
theorem ff10_51 : FF 10 51 false := fun _ _ _ h => by cases h; rfl
theorem ff10_52 : FF 10 52 false := fun _ _ _ h => by cases h; rfl
theorem ff10_53 : FF 10 53 false := fun _ _ _ h => by cases h; rfl
theorem ff10_54 : FF 10 54 false := fun _ _ _ h => by cases h; rfl
theorem ff10_55 : FF 10 55 false := fun _ _ _ h => by cases h; rfl
theorem ff10_56 : FF 10 56 true := fun _ _ _ h => by cases h; rfl
theorem ff10_57 : FF 10 57 true := fun _ _ _ h => by cases h; rfl
theorem ff10_58 : FF 10 58 true := fun _ _ _ h => by cases h; rfl
theorem ff10_59 : FF 10 59 true := fun _ _ _ h => by cases h; rfl
theorem ff10_60 : FF 10 60 true := fun _ _ _ h => by cases h; rfl
def jX0_init : MX := (yX0_init, cX0_init, 1, none, (1, 20), [])
def jX0_clear : MX := (yX0_clear, cX0_clear, 1, none, (0, 0), [])
def jX0_apartOf : MX := (yX0_apartOf, cX0_apartOf, 2, (some .int), (0, 0), [])
def jJ9_abs_0f7a4 : MX := (yJ9_abs_0f7a4, cJ9_abs_0f7a4, 1, (some .int), (0, 0), [])
def jX0_pennies : MX := (yX0_pennies, cX0_pennies, 6, (some .int), (1, 20), [])
def jX0_measure : MX := (yX0_measure, cX0_measure, 7, none, (2, 45), [])
def jX0_has : MX := (yX0_has, cX0_has, 2, (some .boolean), (0, 0), [])
def jX0_stateOf : MX := (yX0_stateOf, cX0_stateOf, 2, (some .int), (0, 0), [])
def jJ9_min_7cf53 : MX := (yJ9_min_7cf53, cJ9_min_7cf53, 2, (some .int), (0, 0), [])
def jX0_weigh : MX := (yX0_weigh, cX0_weigh, 9, none, (1, 21), [])
def jX0_withTea : MX := (yX0_withTea, cX0_withTea, 6, (some .int), (1, 21), [])
def jX0_through : MX := (yX0_through, cX0_through, 8, (some .int), (2, 46), [])
def jX0_costWithTea : MX := (yX0_costWithTea, cX0_costWithTea, 5, (some .int), (1, 21), [])
def jX0_soonestTea : MX := (yX0_soonestTea, cX0_soonestTea, 3, (some .int), (2, 45), [])
def jX0_choose : MX := (yX0_choose, cX0_choose, 10, (some .int), (3, 73), [])
def jX0_make : MX := (yX0_make, cX0_make, 6, (some .int), (4, 102), [])
def jX1_init : MX := (yX1_init, cX1_init, 1, none, (1, 20), [])
def jX1_placeOf : MX := (yX1_placeOf, cX1_placeOf, 2, (some .int), (0, 0), [])
def jX2_period : MX := (yX2_period, cX2_period, 2, (some .int), (0, 0), [])
def jX2_fade : MX := (yX2_fade, cX2_fade, 4, none, (0, 0), [])
def jX2_slope : MX := (yX2_slope, cX2_slope, 2, (some .int), (0, 0), [])
def jX2_arch : MX := (yX2_arch, cX2_arch, 3, (some .int), (0, 0), [])
def jX2_where : MX := (yX2_where, cX2_where, 7, (some .int), (1, 23), [])
def jX1_findPlaces : MX := (yX1_findPlaces, cX1_findPlaces, 7, none, (2, 49), [])
def jX2_shaken : MX := (yX2_shaken, cX2_shaken, 5, (some .int), (0, 0), [])
def jX1_offOf : MX := (yX1_offOf, cX1_offOf, 2, (some .int), (0, 0), [])
def jX1_findOffs : MX := (yX1_findOffs, cX1_findOffs, 10, none, (1, 24), [])
def jX1_figures : MX := (yX1_figures, cX1_figures, 1, (some .int), (0, 0), [])
def jX1_weigh : MX := (yX1_weigh, cX1_weigh, 9, none, (1, 21), [])
def jX1_weighAll : MX := (yX1_weighAll, cX1_weighAll, 7, none, (2, 49), [])
def jX1_findRows : MX := (yX1_findRows, cX1_findRows, 7, none, (3, 75), [])
def jX2_swungTo : MX := (yX2_swungTo, cX2_swungTo, 3, (some .int), (2, 49), [])
def jX1_isStill : MX := (yX1_isStill, cX1_isStill, 2, (some .boolean), (0, 0), [])
def jX1_isCartsWay : MX := (yX1_isCartsWay, cX1_isCartsWay, 2, (some .boolean), (1, 21), [])
def jX1_modelOf : MX := (yX1_modelOf, cX1_modelOf, 5, (some .int), (2, 42), [])
def jX1_tryCart : MX := (yX1_tryCart, cX1_tryCart, 4, none, (3, 66), [])
def jX1_findCart : MX := (yX1_findCart, cX1_findCart, 5, none, (4, 89), [])
def jJ7_fill_53178 : MX := (yJ7_fill_53178, cJ7_fill_53178, 4, none, (0, 0), [])
def jX2_init : MX := (yX2_init, cX2_init, 1, none, (1, 23), [])
def jX2_clear : MX := (yX2_clear, cX2_clear, 1, none, (1, 23), [])
def jX2_copy : MX := (yX2_copy, cX2_copy, 2, none, (1, 60), [])
def jX2_penAt : MX := (yX2_penAt, cX2_penAt, 3, (some .int), (2, 49), [])
def jX10_cellOf : MX := (yX10_cellOf, cX10_cellOf, 2, (some .int), (0, 0), [])
def jX2_cellAt : MX := (yX2_cellAt, cX2_cellAt, 2, (some .int), (3, 71), [])
def jX10_greatestCommon : MX := (yX10_greatestCommon, cX10_greatestCommon, 6, (some .int), (0, 0), [])
def jX2_ticksRound : MX := (yX2_ticksRound, cX2_ticksRound, 4, (some .int), (1, 25), [])
def jX3_init : MX := (yX3_init, cX3_init, 1, none, (1, 20), [])
def jX3_clear : MX := (yX3_clear, cX3_clear, 1, none, (0, 0), [])
def jX3_copy : MX := (yX3_copy, cX3_copy, 2, none, (1, 60), [])
def jX4_init : MX := (yX4_init, cX4_init, 1, none, (1, 20), [])
def jX4_pair : MX := (yX4_pair, cX4_pair, 5, none, (0, 0), [])
def jX4_agree : MX := (yX4_agree, cX4_agree, 11, (some .boolean), (1, 21), [])
def jJ9_floorMod_7cf53 : MX := (yJ9_floorMod_7cf53, cJ9_floorMod_7cf53, 3, (some .int), (0, 0), [])
def jX4_findTimes : MX := (yX4_findTimes, cX4_findTimes, 9, (some .boolean), (1, 22), [])
def jX4_oneTimeForAll : MX := (yX4_oneTimeForAll, cX4_oneTimeForAll, 6, (some .boolean), (1, 25), [])
def jX4_meet : MX := (yX4_meet, cX4_meet, 4, (some .boolean), (2, 50), [])
def jX4_joins : MX := (yX4_joins, cX4_joins, 4, (some .boolean), (3, 73), [])
def jX5_init : MX := (yX5_init, cX5_init, 1, none, (1, 20), [])
def jX5_unlikeFigures : MX := (yX5_unlikeFigures, cX5_unlikeFigures, 6, (some .int), (0, 0), [])
def jX5_fewestUnlike : MX := (yX5_fewestUnlike, cX5_fewestUnlike, 7, (some .int), (1, 25), [])
def jX5_findBest : MX := (yX5_findBest, cX5_findBest, 5, none, (2, 51), [])
def jX6_init : MX := (yX6_init, cX6_init, 1, none, (2, 43), [])
def jX6_cell : MX := (yX6_cell, cX6_cell, 1, (some .int), (3, 71), [])
def jX10_isCell : MX := (yX10_isCell, cX10_isCell, 1, (some .boolean), (0, 0), [])
def jX6_mark : MX := (yX6_mark, cX6_mark, 2, none, (1, 20), [])
def jX6_draw : MX := (yX6_draw, cX6_draw, 3, none, (4, 91), [])
def jX6_lift : MX := (yX6_lift, cX6_lift, 2, none, (0, 0), [])
def jJ9_max_7cf53 : MX := (yJ9_max_7cf53, cJ9_max_7cf53, 2, (some .int), (0, 0), [])
def jX6_alter : MX := (yX6_alter, cX6_alter, 4, none, (1, 21), [])
def jX6_holds : MX := (yX6_holds, cX6_holds, 4, (some .boolean), (4, 91), [])
def jX6_goesAside : MX := (yX6_goesAside, cX6_goesAside, 4, (some .boolean), (5, 114), [])
def jX6_play : MX := (yX6_play, cX6_play, 7, none, (6, 137), [])
def jX7_init : MX := (yX7_init, cX7_init, 1, none, (1, 20), [])
def jX9_isEnd : MX := (yX9_isEnd, cX9_isEnd, 1, (some .boolean), (0, 0), [])
def jX9_isSign : MX := (yX9_isSign, cX9_isSign, 2, (some .boolean), (0, 0), [])
def jX9_isBlank : MX := (yX9_isBlank, cX9_isBlank, 1, (some .boolean), (0, 0), [])
def jX9_isLetter : MX := (yX9_isLetter, cX9_isLetter, 1, (some .boolean), (0, 0), [])
def jX9_isDigit : MX := (yX9_isDigit, cX9_isDigit, 1, (some .boolean), (0, 0), [])
def jX9_advance : MX := (yX9_advance, cX9_advance, 2, none, (1, 20), [])
def jJ0_coder_7d493 : MX := (yJ0_coder_7d493, cJ0_coder_7d493, 1, (some .byte), (0, 0), [])
def jJ0_length_8abf5 : MX := (yJ0_length_8abf5, cJ0_length_8abf5, 1, (some .int), (1, 20), [])
def jJ0_isLatin1_aae02 : MX := (yJ0_isLatin1_aae02, cJ0_isLatin1_aae02, 1, (some .boolean), (0, 0), [])
def jJ3_checkIndex_8e157 : MX := (yJ3_checkIndex_8e157, cJ3_checkIndex_8e157, 3, (some .int), (0, 0), [])
def jJ0_checkIndex_df160 : MX := (yJ0_checkIndex_df160, cJ0_checkIndex_df160, 2, none, (1, 22), [])
def jJ1_charAt_3b067 : MX := (yJ1_charAt_3b067, cJ1_charAt_3b067, 2, (some .char), (2, 43), [])
def jJ2_length_9d52b : MX := (yJ2_length_9d52b, cJ2_length_9d52b, 1, (some .int), (0, 0), [])
def jJ2_checkIndex_2214a : MX := (yJ2_checkIndex_2214a, cJ2_checkIndex_2214a, 2, none, (2, 43), [])
def jJ2_getChar_3b067 : MX := (yJ2_getChar_3b067, cJ2_getChar_3b067, 2, (some .char), (6, 90), [])
def jJ2_charAt_3b067 : MX := (yJ2_charAt_3b067, cJ2_charAt_3b067, 2, (some .char), (0, 0), [])
def jJ0_charAt_5068e : MX := (yJ0_charAt_5068e, cJ0_charAt_5068e, 2, (some .char), (3, 64), [])
def jX9_isWord : MX := (yX9_isWord, cX9_isWord, 3, (some .boolean), (4, 85), [])
def jX7_addStep : MX := (yX7_addStep, cX7_addStep, 2, (some .boolean), (0, 0), [])
def jX9_refuse : MX := (yX9_refuse, cX9_refuse, 2, (some .boolean), (0, 0), [])
def jX9_takeSign : MX := (yX9_takeSign, cX9_takeSign, 2, (some .boolean), (2, 41), [])
def jX7_openBlock : MX := (yX7_openBlock, cX7_openBlock, 2, (some .boolean), (3, 62), [])
def jX7_closeBlock : MX := (yX7_closeBlock, cX7_closeBlock, 5, (some .boolean), (5, 107), [])
def jX7_verbTold : MX := (yX7_verbTold, cX7_verbTold, 1, (some .int), (5, 107), [])
def jX9_takeNumber : MX := (yX9_takeNumber, cX9_takeNumber, 3, (some .boolean), (2, 41), [])
def jX7_readNumber : MX := (yX7_readNumber, cX7_readNumber, 4, (some .boolean), (3, 63), [])
def jX9_takeSigned : MX := (yX9_takeSigned, cX9_takeSigned, 3, (some .boolean), (3, 63), [])
def jX7_readChange : MX := (yX7_readChange, cX7_readChange, 3, (some .boolean), (4, 86), [])
def jX7_testTold : MX := (yX7_testTold, cX7_testTold, 1, (some .int), (5, 107), [])
def jX7_readTest : MX := (yX7_readTest, cX7_readTest, 4, (some .boolean), (6, 127), [])
def jX7_readAct : MX := (yX7_readAct, cX7_readAct, 3, (some .boolean), (7, 150), [])
def jX7_read : MX := (yX7_read, cX7_read, 4, (some .boolean), (8, 172), [])
def jX8_kindTold : MX := (yX8_kindTold, cX8_kindTold, 1, (some .int), (5, 107), [])
def jX8_readInto : MX := (yX8_readInto, cX8_readInto, 5, (some .boolean), (3, 63), [])
def jX8_countPendulum : MX := (yX8_countPendulum, cX8_countPendulum, 1, (some .boolean), (0, 0), [])
def jX8_readPendulum : MX := (yX8_readPendulum, cX8_readPendulum, 4, (some .boolean), (6, 127), [])
def jX8_readCart : MX := (yX8_readCart, cX8_readCart, 4, (some .boolean), (4, 87), [])
def jX8_readPennies : MX := (yX8_readPennies, cX8_readPennies, 3, (some .boolean), (4, 87), [])
def jX8_readLine : MX := (yX8_readLine, cX8_readLine, 2, (some .boolean), (7, 150), [])
def jX8_read : MX := (yX8_read, cX8_read, 4, (some .boolean), (8, 171), [])
def jX9_init : MX := (yX9_init, cX9_init, 1, none, (1, 20), [])
def jX9_hasRoom : MX := (yX9_hasRoom, cX9_hasRoom, 1, (some .boolean), (0, 0), [])
def jX9_lay : MX := (yX9_lay, cX9_lay, 3, none, (0, 0), [])
def jX9_begin : MX := (yX9_begin, cX9_begin, 2, none, (2, 41), [])
def jX10_init : MX := (yX10_init, cX10_init, 1, none, (3, 63), [])
def jX10_feed : MX := (yX10_feed, cX10_feed, 6, (some .int), (1, 22), [])
def jX10_needBytes : MX := (yX10_needBytes, cX10_needBytes, 2, none, (6, 90), [])
def jX10_endOfText : MX := (yX10_endOfText, cX10_endOfText, 1, (some .int), (0, 0), [])
def jX10_swings : MX := (yX10_swings, cX10_swings, 2, (some .int), (9, 194), [])
def jX10_score : MX := (yX10_score, cX10_score, 3, (some .int), (9, 195), [])
def jX10_needWhat : MX := (yX10_needWhat, cX10_needWhat, 2, none, (6, 90), [])
def jX10_performed : MX := (yX10_performed, cX10_performed, 2, (some .int), (7, 163), [])
def jX10_needCell : MX := (yX10_needCell, cX10_needCell, 1, none, (6, 90), [])
def jX10_marks : MX := (yX10_marks, cX10_marks, 2, (some .int), (7, 163), [])
def jX10_fault : MX := (yX10_fault, cX10_fault, 1, (some .int), (0, 0), [])
def jX10_count : MX := (yX10_count, cX10_count, 2, (some .int), (7, 111), [])
def jX10_needPendulum : MX := (yX10_needPendulum, cX10_needPendulum, 1, none, (6, 90), [])
def jX10_pendulum : MX := (yX10_pendulum, cX10_pendulum, 3, (some .int), (7, 111), [])
def jX10_mostOfSetting : MX := (yX10_mostOfSetting, cX10_mostOfSetting, 1, (some .int), (0, 0), [])
def jX10_refuse : MX := (yX10_refuse, cX10_refuse, 2, (some .int), (0, 0), [])
def jX10_set : MX := (yX10_set, cX10_set, 6, (some .int), (7, 111), [])
def jX10_isTick : MX := (yX10_isTick, cX10_isTick, 1, (some .boolean), (0, 0), [])
def jX10_needTick : MX := (yX10_needTick, cX10_needTick, 1, none, (6, 90), [])
def jX10_swing : MX := (yX10_swing, cX10_swing, 3, (some .int), (7, 110), [])
def jX10_pen : MX := (yX10_pen, cX10_pen, 3, (some .int), (7, 111), [])
def jX10_needSpan : MX := (yX10_needSpan, cX10_needSpan, 2, none, (7, 110), [])
def jX10_markSeen : MX := (yX10_markSeen, cX10_markSeen, 7, none, (4, 92), [])
def jX10_cellsSeen : MX := (yX10_cellsSeen, cX10_cellsSeen, 4, (some .int), (0, 0), [])
def jX10_drawn : MX := (yX10_drawn, cX10_drawn, 3, (some .int), (8, 131), [])
def jX10_inCell : MX := (yX10_inCell, cX10_inCell, 5, (some .int), (8, 131), [])
def jX10_round : MX := (yX10_round, cX10_round, 1, (some .int), (2, 48), [])
def jX10_off : MX := (yX10_off, cX10_off, 2, (some .int), (3, 71), [])
def jX10_keep : MX := (yX10_keep, cX10_keep, 2, (some .int), (1, 60), [])
def jX10_needPortrait : MX := (yX10_needPortrait, cX10_needPortrait, 2, none, (6, 90), [])
def jX10_takeInto : MX := (yX10_takeInto, cX10_takeInto, 3, none, (1, 60), [])
def jX10_take : MX := (yX10_take, cX10_take, 2, none, (7, 111), [])
def jX10_copyWith : MX := (yX10_copyWith, cX10_copyWith, 3, none, (2, 82), [])
def jX10_compare : MX := (yX10_compare, cX10_compare, 3, (some .int), (4, 104), [])
def jX10_alike : MX := (yX10_alike, cX10_alike, 3, (some .int), (7, 126), [])
def jX10_leastOfKind : MX := (yX10_leastOfKind, cX10_leastOfKind, 3, (some .int), (5, 126), [])
def jX10_kinds : MX := (yX10_kinds, cX10_kinds, 4, (some .int), (7, 148), [])
def jX10_isPlace : MX := (yX10_isPlace, cX10_isPlace, 1, (some .boolean), (0, 0), [])
def jX10_point : MX := (yX10_point, cX10_point, 5, (some .int), (1, 21), [])
def jX10_unpoint : MX := (yX10_unpoint, cX10_unpoint, 1, (some .int), (0, 0), [])
def jX10_needWithin : MX := (yX10_needWithin, cX10_needWithin, 3, none, (6, 90), [])
def jX10_fits : MX := (yX10_fits, cX10_fits, 4, (some .int), (7, 112), [])
def jX10_chord : MX := (yX10_chord, cX10_chord, 10, (some .int), (7, 112), [])
def jX10_cart : MX := (yX10_cart, cX10_cart, 2, (some .int), (7, 113), [])
def jX10_birthday : MX := (yX10_birthday, cX10_birthday, 2, (some .int), (1, 21), [])
def jX10_forget : MX := (yX10_forget, cX10_forget, 2, (some .int), (0, 0), [])
def jX10_factor : MX := (yX10_factor, cX10_factor, 2, (some .int), (7, 111), [])
def jX10_markPortrait : MX := (yX10_markPortrait, cX10_markPortrait, 5, none, (5, 118), [])
def jX10_laid : MX := (yX10_laid, cX10_laid, 6, (some .int), (8, 142), [])
def jX10_evening : MX := (yX10_evening, cX10_evening, 2, (some .int), (7, 127), [])
def jX10_drawing : MX := (yX10_drawing, cX10_drawing, 2, (some .int), (6, 90), [])
def jX10_image : MX := (yX10_image, cX10_image, 1, none, (2, 81), [])
def jX10_restore : MX := (yX10_restore, cX10_restore, 1, (some .boolean), (2, 81), [])
def jX11_init : MX := (yX11_init, cX11_init, 1, none, (1, 20), [])
def jX11_thrown : MX := (yX11_thrown, cX11_thrown, 1, (some .int), (0, 0), [])
def jX11_right : MX := (yX11_right, cX11_right, 3, (some .boolean), (0, 0), [])
def jX11_within : MX := (yX11_within, cX11_within, 3, (some .boolean), (0, 0), [])
def jX11_size : MX := (yX11_size, cX11_size, 1, (some .int), (0, 0), [])
def jX11_copies : MX := (yX11_copies, cX11_copies, 4, none, (0, 0), [])
def jX11_lays : MX := (yX11_lays, cX11_lays, 3, none, (0, 0), [])
def jX11_feed : MX := (yX11_feed, cX11_feed, 6, (some .int), (1, 22), [])
def jX11_byteAt : MX := (yX11_byteAt, cX11_byteAt, 2, (some .int), (0, 0), [])
def jX11_isLetter : MX := (yX11_isLetter, cX11_isLetter, 1, (some .boolean), (0, 0), [])
def jX11_isDigit : MX := (yX11_isDigit, cX11_isDigit, 1, (some .boolean), (0, 0), [])
def jX11_steps : MX := (yX11_steps, cX11_steps, 2, none, (1, 21), [])
def jX11_spelled : MX := (yX11_spelled, cX11_spelled, 10, (some .long), (0, 0), [])
def jX11_letters : MX := (yX11_letters, cX11_letters, 1, (some .long), (1, 29), [])
def jX11_is : MX := (yX11_is, cX11_is, 2, (some .boolean), (2, 49), [])
def jX11_wrong : MX := (yX11_wrong, cX11_wrong, 2, none, (0, 0), [])
def jX11_isGood : MX := (yX11_isGood, cX11_isGood, 1, (some .boolean), (0, 0), [])
def jX11_need : MX := (yX11_need, cX11_need, 2, none, (2, 42), [])
def jX11_number : MX := (yX11_number, cX11_number, 4, (some .int), (2, 42), [])
def jX11_signed : MX := (yX11_signed, cX11_signed, 4, (some .int), (3, 65), [])
def jX11_readsPendulum : MX := (yX11_readsPendulum, cX11_readsPendulum, 3, none, (3, 70), [])
def jX11_line : MX := (yX11_line, cX11_line, 2, none, (4, 92), [])
def jX11_swings : MX := (yX11_swings, cX11_swings, 3, (some .int), (5, 113), [])
def jX11_fault : MX := (yX11_fault, cX11_fault, 1, (some .int), (0, 0), [])
def jX11_count : MX := (yX11_count, cX11_count, 2, (some .int), (1, 22), [])
def jX11_isPendulum : MX := (yX11_isPendulum, cX11_isPendulum, 2, (some .boolean), (1, 22), [])
def jX11_isTick : MX := (yX11_isTick, cX11_isTick, 3, (some .boolean), (1, 22), [])
def jX11_period : MX := (yX11_period, cX11_period, 4, (some .int), (0, 0), [])
def jX11_pendulum : MX := (yX11_pendulum, cX11_pendulum, 3, (some .int), (2, 43), [])
def jX11_refuses : MX := (yX11_refuses, cX11_refuses, 2, (some .int), (0, 0), [])
def jX11_set : MX := (yX11_set, cX11_set, 5, (some .int), (2, 43), [])
def jX11_at : MX := (yX11_at, cX11_at, 9, (some .int), (1, 23), [])
def jX11_penOf : MX := (yX11_penOf, cX11_penOf, 5, (some .int), (2, 51), [])
def jX11_penNow : MX := (yX11_penNow, cX11_penNow, 5, (some .int), (3, 75), [])
def jX11_swing : MX := (yX11_swing, cX11_swing, 3, (some .int), (2, 51), [])
def jX11_pen : MX := (yX11_pen, cX11_pen, 3, (some .int), (4, 99), [])
def jX11_cellOf : MX := (yX11_cellOf, cX11_cellOf, 2, (some .int), (0, 0), [])
def jX11_isSpan : MX := (yX11_isSpan, cX11_isSpan, 4, (some .boolean), (1, 22), [])
def jX11_clears : MX := (yX11_clears, cX11_clears, 2, none, (0, 0), [])
def jX11_drawn : MX := (yX11_drawn, cX11_drawn, 6, (some .int), (4, 99), [])
def jX11_inCell : MX := (yX11_inCell, cX11_inCell, 5, (some .int), (4, 99), [])
def jX11_roundOf : MX := (yX11_roundOf, cX11_roundOf, 6, (some .int), (1, 23), [])
def jX11_round : MX := (yX11_round, cX11_round, 1, (some .int), (2, 48), [])
def jX11_off : MX := (yX11_off, cX11_off, 2, (some .int), (3, 75), [])
def jX11_isPortrait : MX := (yX11_isPortrait, cX11_isPortrait, 2, (some .boolean), (1, 22), [])
def jX11_keep : MX := (yX11_keep, cX11_keep, 2, (some .int), (1, 21), [])
def jX11_take : MX := (yX11_take, cX11_take, 3, none, (2, 43), [])
def jX11_becomes : MX := (yX11_becomes, cX11_becomes, 4, (some .int), (0, 0), [])
def jX11_sizeOf : MX := (yX11_sizeOf, cX11_sizeOf, 3, (some .int), (0, 0), [])
def jX11_isWay : MX := (yX11_isWay, cX11_isWay, 7, (some .boolean), (1, 23), [])
def jX11_isTime : MX := (yX11_isTime, cX11_isTime, 11, (some .boolean), (1, 23), [])
def jX11_alikeOf : MX := (yX11_alikeOf, cX11_alikeOf, 6, (some .int), (2, 53), [])
def jX11_alike : MX := (yX11_alike, cX11_alike, 3, (some .int), (3, 78), [])
def jX11_kinds : MX := (yX11_kinds, cX11_kinds, 5, (some .int), (3, 78), [])
def jX11_point : MX := (yX11_point, cX11_point, 4, (some .int), (1, 22), [])
def jX11_unpoint : MX := (yX11_unpoint, cX11_unpoint, 1, (some .int), (0, 0), [])
def jX11_offOf : MX := (yX11_offOf, cX11_offOf, 6, (some .int), (3, 75), [])
def jX11_fits : MX := (yX11_fits, cX11_fits, 14, (some .int), (4, 100), [])
def jX11_chord : MX := (yX11_chord, cX11_chord, 8, (some .int), (1, 22), [])
def jX11_wayOf : MX := (yX11_wayOf, cX11_wayOf, 3, (some .int), (3, 75), [])
def jX11_shows : MX := (yX11_shows, cX11_shows, 4, (some .int), (4, 97), [])
def jX11_cart : MX := (yX11_cart, cX11_cart, 5, (some .int), (5, 120), [])
def jX11_birthday : MX := (yX11_birthday, cX11_birthday, 2, (some .int), (1, 22), [])
def jX11_forget : MX := (yX11_forget, cX11_forget, 2, (some .int), (0, 0), [])
def jX11_unlike : MX := (yX11_unlike, cX11_unlike, 6, (some .int), (0, 0), [])
def jX11_fewest : MX := (yX11_fewest, cX11_fewest, 6, (some .int), (1, 25), [])
def jX11_factor : MX := (yX11_factor, cX11_factor, 6, (some .int), (2, 50), [])
def jX11_laid : MX := (yX11_laid, cX11_laid, 8, (some .int), (3, 75), [])
def jX11_moved : MX := (yX11_moved, cX11_moved, 5, (some .int), (1, 20), [])
def jX11_allMoved : MX := (yX11_allMoved, cX11_allMoved, 5, (some .int), (2, 44), [])
def jX11_countsUp : MX := (yX11_countsUp, cX11_countsUp, 8, (some .boolean), (0, 0), [])
def jX11_evening : MX := (yX11_evening, cX11_evening, 7, (some .int), (3, 68), [])
def jX11_drawing : MX := (yX11_drawing, cX11_drawing, 2, (some .int), (1, 22), [])
def jX11_puts : MX := (yX11_puts, cX11_puts, 2, none, (0, 0), [])
def jX11_isSign : MX := (yX11_isSign, cX11_isSign, 2, (some .boolean), (0, 0), [])
def jX11_opens : MX := (yX11_opens, cX11_opens, 3, none, (3, 63), [])
def jX11_test : MX := (yX11_test, cX11_test, 4, none, (3, 70), [])
def jX11_closes : MX := (yX11_closes, cX11_closes, 2, none, (4, 85), [])
def jX11_act : MX := (yX11_act, cX11_act, 3, none, (4, 93), [])
def jX11_score : MX := (yX11_score, cX11_score, 2, (some .int), (5, 115), [])
def jX11_penGoing : MX := (yX11_penGoing, cX11_penGoing, 5, (some .int), (3, 75), [])
def jX11_cellGoing : MX := (yX11_cellGoing, cX11_cellGoing, 1, (some .int), (4, 99), [])
def jX11_holds : MX := (yX11_holds, cX11_holds, 3, (some .boolean), (5, 119), [])
def jX11_draws : MX := (yX11_draws, cX11_draws, 3, none, (5, 119), [])
def jX11_between : MX := (yX11_between, cX11_between, 2, (some .int), (0, 0), [])
def jX11_performs : MX := (yX11_performs, cX11_performs, 5, none, (6, 141), [])
def jX11_performed : MX := (yX11_performed, cX11_performed, 4, (some .int), (7, 165), [])
def jX11_marks : MX := (yX11_marks, cX11_marks, 2, (some .int), (7, 165), [])
def jX11_image : MX := (yX11_image, cX11_image, 1, none, (1, 23), [])
def jX11_restore : MX := (yX11_restore, cX11_restore, 1, (some .boolean), (1, 23), [])
def jL_swings : MX := (yL_swings, cL_swings, 4, (some .int), (10, 215), [(0, 9, 12, 13)])
def jL_score : MX := (yL_score, cL_score, 4, (some .int), (10, 217), [(0, 9, 12, 13)])
def jL_performed : MX := (yL_performed, cL_performed, 4, (some .int), (8, 184), [(0, 9, 12, 21)])
def jL_marks : MX := (yL_marks, cL_marks, 4, (some .int), (8, 184), [(0, 9, 12, 21)])
def jL_count : MX := (yL_count, cL_count, 4, (some .int), (8, 132), [(0, 9, 12, 21)])
def jL_pendulum : MX := (yL_pendulum, cL_pendulum, 5, (some .int), (8, 133), [(0, 10, 13, 21)])
def jL_set : MX := (yL_set, cL_set, 6, (some .int), (8, 136), [(0, 12, 15, 21)])
def jL_swing : MX := (yL_swing, cL_swing, 5, (some .int), (8, 132), [(0, 10, 13, 21), (0, 10, 17, 13)])
def jL_pen : MX := (yL_pen, cL_pen, 5, (some .int), (8, 133), [(0, 10, 13, 21), (0, 10, 17, 13)])
def jL_drawn : MX := (yL_drawn, cL_drawn, 5, (some .int), (9, 153), [(0, 10, 13, 13)])
def jL_inCell : MX := (yL_inCell, cL_inCell, 6, (some .int), (9, 155), [(0, 12, 15, 21), (0, 12, 19, 13)])
def jL_take : MX := (yL_take, cL_take, 3, (some .int), (8, 132), [(0, 5, 8, 21)])
def jL_alike : MX := (yL_alike, cL_alike, 5, (some .int), (8, 148), [(0, 10, 13, 21)])
def jL_kinds : MX := (yL_kinds, cL_kinds, 4, (some .int), (8, 171), [(0, 9, 12, 21)])
def jL_fits : MX := (yL_fits, cL_fits, 6, (some .int), (8, 135), [(0, 12, 15, 21), (0, 12, 19, 13)])
def jL_chord : MX := (yL_chord, cL_chord, 6, (some .int), (8, 141), [(0, 12, 15, 21), (0, 12, 19, 13)])
def jL_cart : MX := (yL_cart, cL_cart, 4, (some .int), (8, 134), [(0, 9, 12, 21)])
def jL_factor : MX := (yL_factor, cL_factor, 4, (some .int), (8, 132), [(0, 9, 12, 21)])
def jL_laid : MX := (yL_laid, cL_laid, 8, (some .int), (9, 167), [(0, 16, 19, 21), (0, 16, 23, 13)])
def jL_evening : MX := (yL_evening, cL_evening, 4, (some .int), (8, 148), [(0, 9, 12, 13)])
def jL_drawing : MX := (yL_drawing, cL_drawing, 4, (some .int), (7, 111), [(0, 9, 12, 21)])
def jL_law : MX := (yL_law, cL_law, 7, (some .boolean), (11, 240), [])
theorem lsX0_63 : kLS RX0 63 jJ9_abs_0f7a4 1 := ⟨⟨rfl, w_561, w_110, ⟨by decide +kernel, by decide +kernel⟩, by decide +kernel⟩, w_1280, w_560⟩
theorem lsX0_55 : kLS RX0 55 jX0_apartOf 2 := ⟨⟨rfl, w_1276, w_103, ⟨by decide +kernel, by decide +kernel⟩, by decide +kernel⟩, w_1274, w_1275⟩
theorem lsX0_59 : kLS RX0 59 jX0_pennies 4 := ⟨⟨rfl, w_1279, w_103, ⟨by decide +kernel, by decide +kernel⟩, by decide +kernel⟩, w_1277, w_1278⟩
theorem lsX0_35 : kLS RX0 35 jX0_has 2 := ⟨⟨rfl, w_1283, w_103, ⟨by decide +kernel, by decide +kernel⟩, by decide +kernel⟩, w_1281, w_1282⟩
theorem lsX0_69 : kLS RX0 69 jX0_stateOf 2 := ⟨⟨rfl, w_1291, w_103, ⟨by decide +kernel, by decide +kernel⟩, by decide +kernel⟩, w_1289, w_1290⟩
theorem lsX0_72 : kLS RX0 72 jJ9_min_7cf53 2 := ⟨⟨rfl, w_692, w_110, ⟨by decide +kernel, by decide +kernel⟩, by decide +kernel⟩, w_1292, w_691⟩
theorem lvX0_79 : kLV RX0 79 jX0_withTea 4 := ⟨⟨rfl, w_1304, w_103, ⟨by decide +kernel, by decide +kernel⟩, by decide +kernel⟩, w_1301, w_1303, w_44⟩
theorem lvX0_86 : kLV RX0 86 jX0_costWithTea 1 := ⟨⟨rfl, w_1312, w_103, ⟨by decide +kernel, by decide +kernel⟩, by decide +kernel⟩, w_1309, w_1311, w_46⟩
theorem lvX0_75 : kLV RX0 75 jX0_through 5 := ⟨⟨rfl, w_1300, w_103, ⟨by decide +kernel, by decide +kernel⟩, by decide +kernel⟩, w_1297, w_1299, w_43⟩
theorem lvX0_83 : kLV RX0 83 jX0_soonestTea 1 := ⟨⟨rfl, w_1308, w_103, ⟨by decide +kernel, by decide +kernel⟩, by decide +kernel⟩, w_1305, w_1307, w_45⟩
theorem lvX0_31 : kLV RX0 31 jX0_measure 2 := ⟨⟨rfl, w_1273, w_103, ⟨by decide +kernel, by decide +kernel⟩, by decide +kernel⟩, w_1270, w_1272, w_40⟩
theorem lvX0_39 : kLV RX0 39 jX0_weigh 2 := ⟨⟨rfl, w_1287, w_103, ⟨by decide +kernel, by decide +kernel⟩, by decide +kernel⟩, w_1284, w_1286, w_41⟩
theorem lvX0_43 : kLV RX0 43 jX0_choose 1 := ⟨⟨rfl, w_1296, w_103, ⟨by decide +kernel, by decide +kernel⟩, by decide +kernel⟩, w_1293, w_1295, w_42⟩
theorem lvX2_58 : kLV RX2 58 jX2_period 1 := ⟨⟨rfl, w_533, w_96, ⟨by decide +kernel, by decide +kernel⟩, by decide +kernel⟩, w_530, w_531, w_532⟩
theorem lvX2_62 : kLV RX2 62 jX2_fade 1 := ⟨⟨rfl, w_552, w_96, ⟨by decide +kernel, by decide +kernel⟩, by decide +kernel⟩, w_549, w_551, w_0⟩
theorem lsX2_66 : kLS RX2 66 jX2_slope 2 := ⟨⟨rfl, w_555, w_96, ⟨by decide +kernel, by decide +kernel⟩, by decide +kernel⟩, w_553, w_554⟩
theorem lsX2_70 : kLS RX2 70 jX2_arch 2 := ⟨⟨rfl, w_558, w_96, ⟨by decide +kernel, by decide +kernel⟩, by decide +kernel⟩, w_556, w_557⟩
theorem lsX1_56 : kLS RX1 56 jX1_placeOf 2 := ⟨⟨rfl, w_1171, w_102, ⟨by decide +kernel, by decide +kernel⟩, by decide +kernel⟩, w_1169, w_1170⟩
theorem lvX1_63 : kLV RX1 63 jX2_where 2 := ⟨⟨rfl, w_548, w_96, ⟨by decide +kernel, by decide +kernel⟩, by decide +kernel⟩, w_1172, w_546, w_547⟩
theorem lvX1_66 : kLV RX1 66 jX2_shaken 2 := ⟨⟨rfl, w_958, w_96, ⟨by decide +kernel, by decide +kernel⟩, by decide +kernel⟩, w_1177, w_956, w_957⟩
theorem lsX1_69 : kLS RX1 69 jX1_offOf 2 := ⟨⟨rfl, w_1180, w_102, ⟨by decide +kernel, by decide +kernel⟩, by decide +kernel⟩, w_1178, w_1179⟩
theorem lsX1_72 : kLS RX1 72 jJ9_abs_0f7a4 1 := ⟨⟨rfl, w_561, w_110, ⟨by decide +kernel, by decide +kernel⟩, by decide +kernel⟩, w_1181, w_560⟩
theorem lsX1_81 : kLS RX1 81 jX1_figures 1 := ⟨⟨rfl, w_1192, w_102, ⟨by decide +kernel, by decide +kernel⟩, by decide +kernel⟩, w_1190, w_1191⟩
theorem lvX1_78 : kLV RX1 78 jX1_weigh 4 := ⟨⟨rfl, w_1189, w_102, ⟨by decide +kernel, by decide +kernel⟩, by decide +kernel⟩, w_1186, w_1188, w_33⟩
theorem lvX1_21 : kLV RX1 21 jX1_findPlaces 3 := ⟨⟨rfl, w_1168, w_102, ⟨by decide +kernel, by decide +kernel⟩, by decide +kernel⟩, w_1165, w_1167, w_30⟩
theorem lvX1_25 : kLV RX1 25 jX1_findOffs 4 := ⟨⟨rfl, w_1176, w_102, ⟨by decide +kernel, by decide +kernel⟩, by decide +kernel⟩, w_1173, w_1175, w_31⟩
theorem lvX1_47 : kLV RX1 47 jX1_weighAll 4 := ⟨⟨rfl, w_1185, w_102, ⟨by decide +kernel, by decide +kernel⟩, by decide +kernel⟩, w_1182, w_1184, w_32⟩
theorem lvX2_73 : kLV RX2 73 jX2_where 2 := ⟨⟨rfl, w_548, w_96, ⟨by decide +kernel, by decide +kernel⟩, by decide +kernel⟩, w_545, w_546, w_547⟩
theorem lvX1_107 : kLV RX1 107 jX1_isStill 1 := ⟨⟨rfl, w_1223, w_102, ⟨by decide +kernel, by decide +kernel⟩, by decide +kernel⟩, w_1220, w_1222, w_36⟩
theorem lvX1_111 : kLV RX1 111 jX1_isCartsWay 1 := ⟨⟨rfl, w_1227, w_102, ⟨by decide +kernel, by decide +kernel⟩, by decide +kernel⟩, w_1224, w_1226, w_37⟩
theorem lvX1_103 : kLV RX1 103 jX1_modelOf 2 := ⟨⟨rfl, w_1219, w_102, ⟨by decide +kernel, by decide +kernel⟩, by decide +kernel⟩, w_1216, w_1218, w_35⟩
theorem lvX1_84 : kLV RX1 84 jX2_swungTo 2 := ⟨⟨rfl, w_544, w_96, ⟨by decide +kernel, by decide +kernel⟩, by decide +kernel⟩, w_1211, w_542, w_543⟩
theorem lvX1_99 : kLV RX1 99 jX1_tryCart 2 := ⟨⟨rfl, w_1215, w_102, ⟨by decide +kernel, by decide +kernel⟩, by decide +kernel⟩, w_1212, w_1214, w_34⟩
theorem lsX2_39 : kLS RX2 39 jJ7_fill_53178 2 := ⟨⟨rfl, w_177, w_97, ⟨by decide +kernel, by decide +kernel⟩, by decide +kernel⟩, w_175, w_176⟩
theorem lvX2_76 : kLV RX2 76 jX2_shaken 2 := ⟨⟨rfl, w_958, w_96, ⟨by decide +kernel, by decide +kernel⟩, by decide +kernel⟩, w_955, w_956, w_957⟩
theorem lvX2_79 : kLV RX2 79 jX2_penAt 2 := ⟨⟨rfl, w_954, w_96, ⟨by decide +kernel, by decide +kernel⟩, by decide +kernel⟩, w_1066, w_952, w_953⟩
theorem lnX2_82 : kLN RX2 82 jX10_cellOf 2 "PenSwings" := ⟨⟨rfl, w_961, w_94, ⟨by decide +kernel, by decide +kernel⟩, by decide +kernel⟩, w_1067⟩
theorem lnX2_85 : kLN RX2 85 jX10_greatestCommon 2 "PenSwings" := ⟨⟨rfl, w_536, w_94, ⟨by decide +kernel, by decide +kernel⟩, by decide +kernel⟩, w_534⟩
theorem lvX4_37 : kLV RX4 37 jX2_period 1 := ⟨⟨rfl, w_533, w_96, ⟨by decide +kernel, by decide +kernel⟩, by decide +kernel⟩, w_1122, w_531, w_532⟩
theorem lsX4_49 : kLS RX4 49 jJ9_floorMod_7cf53 2 := ⟨⟨rfl, w_1133, w_110, ⟨by decide +kernel, by decide +kernel⟩, by decide +kernel⟩, w_1131, w_1132⟩
theorem lnX4_55 : kLN RX4 55 jX10_greatestCommon 2 "PenSwings" := ⟨⟨rfl, w_536, w_94, ⟨by decide +kernel, by decide +kernel⟩, by decide +kernel⟩, w_1138⟩
theorem lvX4_41 : kLV RX4 41 jX4_findTimes 3 := ⟨⟨rfl, w_1130, w_101, ⟨by decide +kernel, by decide +kernel⟩, by decide +kernel⟩, w_1127, w_1129, w_27⟩
theorem lvX4_45 : kLV RX4 45 jX4_oneTimeForAll 1 := ⟨⟨rfl, w_1137, w_101, ⟨by decide +kernel, by decide +kernel⟩, by decide +kernel⟩, w_1134, w_1136, w_28⟩
theorem lvX4_18 : kLV RX4 18 jX4_pair 1 := ⟨⟨rfl, w_1117, w_101, ⟨by decide +kernel, by decide +kernel⟩, by decide +kernel⟩, w_1114, w_1116, w_24⟩
theorem lvX4_22 : kLV RX4 22 jX4_agree 2 := ⟨⟨rfl, w_1121, w_101, ⟨by decide +kernel, by decide +kernel⟩, by decide +kernel⟩, w_1118, w_1120, w_25⟩
theorem lvX4_26 : kLV RX4 26 jX4_meet 2 := ⟨⟨rfl, w_1126, w_101, ⟨by decide +kernel, by decide +kernel⟩, by decide +kernel⟩, w_1123, w_1125, w_26⟩
theorem lsX5_34 : kLS RX5 34 jJ9_abs_0f7a4 1 := ⟨⟨rfl, w_561, w_110, ⟨by decide +kernel, by decide +kernel⟩, by decide +kernel⟩, w_1243, w_560⟩
theorem lsX5_40 : kLS RX5 40 jX5_unlikeFigures 2 := ⟨⟨rfl, w_1246, w_104, ⟨by decide +kernel, by decide +kernel⟩, by decide +kernel⟩, w_1244, w_1245⟩
theorem lsX5_44 : kLS RX5 44 jJ9_min_7cf53 2 := ⟨⟨rfl, w_692, w_110, ⟨by decide +kernel, by decide +kernel⟩, by decide +kernel⟩, w_1247, w_691⟩
theorem lvX5_21 : kLV RX5 21 jX5_fewestUnlike 2 := ⟨⟨rfl, w_1242, w_104, ⟨by decide +kernel, by decide +kernel⟩, by decide +kernel⟩, w_1239, w_1241, w_38⟩
theorem liX6_11 : kLB RX6 11 jX2_init 0 := ⟨rfl, w_173, w_96, ⟨by decide +kernel, by decide +kernel⟩, by decide +kernel⟩
theorem lvX6_114 : kLV RX6 114 jX2_penAt 2 := ⟨⟨rfl, w_954, w_96, ⟨by decide +kernel, by decide +kernel⟩, by decide +kernel⟩, w_951, w_952, w_953⟩
theorem lnX6_120 : kLN RX6 120 jX10_cellOf 2 "PenSwings" := ⟨⟨rfl, w_961, w_94, ⟨by decide +kernel, by decide +kernel⟩, by decide +kernel⟩, w_959⟩
theorem lnX6_99 : kLN RX6 99 jX10_isCell 1 "PenSwings" := ⟨⟨rfl, w_968, w_94, ⟨by decide +kernel, by decide +kernel⟩, by decide +kernel⟩, w_966⟩
theorem lvX6_92 : kLV RX6 92 jX6_cell 0 := ⟨⟨rfl, w_950, w_100, ⟨by decide +kernel, by decide +kernel⟩, by decide +kernel⟩, w_947, w_948, w_949⟩
theorem lvX6_96 : kLV RX6 96 jX6_mark 1 := ⟨⟨rfl, w_965, w_100, ⟨by decide +kernel, by decide +kernel⟩, by decide +kernel⟩, w_962, w_964, w_14⟩
theorem lsX6_105 : kLS RX6 105 jJ9_min_7cf53 2 := ⟨⟨rfl, w_692, w_110, ⟨by decide +kernel, by decide +kernel⟩, by decide +kernel⟩, w_977, w_691⟩
theorem lsX6_111 : kLS RX6 111 jJ9_max_7cf53 2 := ⟨⟨rfl, w_695, w_110, ⟨by decide +kernel, by decide +kernel⟩, by decide +kernel⟩, w_978, w_694⟩
theorem lvX6_117 : kLV RX6 117 jX2_where 2 := ⟨⟨rfl, w_548, w_96, ⟨by decide +kernel, by decide +kernel⟩, by decide +kernel⟩, w_983, w_546, w_547⟩
theorem lvX6_74 : kLV RX6 74 jX6_draw 1 := ⟨⟨rfl, w_946, w_100, ⟨by decide +kernel, by decide +kernel⟩, by decide +kernel⟩, w_943, w_945, w_13⟩
theorem lvX6_78 : kLV RX6 78 jX6_lift 1 := ⟨⟨rfl, w_972, w_100, ⟨by decide +kernel, by decide +kernel⟩, by decide +kernel⟩, w_969, w_971, w_15⟩
theorem lvX6_84 : kLV RX6 84 jX6_alter 3 := ⟨⟨rfl, w_976, w_100, ⟨by decide +kernel, by decide +kernel⟩, by decide +kernel⟩, w_973, w_975, w_16⟩
theorem lvX6_88 : kLV RX6 88 jX6_holds 1 := ⟨⟨rfl, w_982, w_100, ⟨by decide +kernel, by decide +kernel⟩, by decide +kernel⟩, w_979, w_981, w_17⟩
theorem lvX6_31 : kLV RX6 31 jX2_copy 1 := ⟨⟨rfl, w_825, w_96, ⟨by decide +kernel, by decide +kernel⟩, by decide +kernel⟩, w_936, w_823, w_824⟩
theorem lsX6_35 : kLS RX6 35 jJ7_fill_53178 2 := ⟨⟨rfl, w_177, w_97, ⟨by decide +kernel, by decide +kernel⟩, by decide +kernel⟩, w_937, w_176⟩
theorem lvX6_64 : kLV RX6 64 jX6_goesAside 2 := ⟨⟨rfl, w_942, w_100, ⟨by decide +kernel, by decide +kernel⟩, by decide +kernel⟩, w_939, w_941, w_12⟩
theorem lsX9_43 : kLS RX9 43 jX9_isBlank 1 := ⟨⟨rfl, w_702, w_95, ⟨by decide +kernel, by decide +kernel⟩, by decide +kernel⟩, w_700, w_701⟩
theorem lsX9_53 : kLS RX9 53 jX9_isLetter 1 := ⟨⟨rfl, w_705, w_95, ⟨by decide +kernel, by decide +kernel⟩, by decide +kernel⟩, w_703, w_704⟩
theorem lsX9_56 : kLS RX9 56 jX9_isDigit 1 := ⟨⟨rfl, w_708, w_95, ⟨by decide +kernel, by decide +kernel⟩, by decide +kernel⟩, w_706, w_707⟩
theorem lvJ0_335 : kLV RJ0 335 jJ0_coder_7d493 0 := ⟨⟨rfl, w_732, w_112, ⟨by decide +kernel, by decide +kernel⟩, by decide +kernel⟩, w_729, w_730, w_731⟩
theorem lsJ0_1059 : kLS RJ0 1059 jJ3_checkIndex_8e157 3 := ⟨⟨rfl, w_753, w_114, ⟨by decide +kernel, by decide +kernel⟩, by decide +kernel⟩, w_751, w_752⟩
theorem lsJ1_9 : kLS RJ1 9 jJ0_checkIndex_df160 2 := ⟨⟨rfl, w_748, w_112, ⟨by decide +kernel, by decide +kernel⟩, by decide +kernel⟩, w_746, w_747⟩
theorem lsJ2_48 : kLS RJ2 48 jJ2_length_9d52b 1 := ⟨⟨rfl, w_762, w_115, ⟨by decide +kernel, by decide +kernel⟩, by decide +kernel⟩, w_760, w_761⟩
theorem lsJ2_414 : kLS RJ2 414 jJ0_checkIndex_df160 2 := ⟨⟨rfl, w_748, w_112, ⟨by decide +kernel, by decide +kernel⟩, by decide +kernel⟩, w_763, w_747⟩
theorem lsJ2_67 : kLS RJ2 67 jJ2_checkIndex_2214a 2 := ⟨⟨rfl, w_759, w_115, ⟨by decide +kernel, by decide +kernel⟩, by decide +kernel⟩, w_757, w_758⟩
theorem lsJ2_71 : kLS RJ2 71 jJ2_getChar_3b067 2 := ⟨⟨rfl, w_766, w_115, ⟨by decide +kernel, by decide +kernel⟩, by decide +kernel⟩, w_764, w_765⟩
theorem lvJ0_492 : kLV RJ0 492 jJ0_isLatin1_aae02 0 := ⟨⟨rfl, w_742, w_112, ⟨by decide +kernel, by decide +kernel⟩, by decide +kernel⟩, w_739, w_740, w_741⟩
theorem lsJ0_495 : kLS RJ0 495 jJ1_charAt_3b067 2 := ⟨⟨rfl, w_745, w_113, ⟨by decide +kernel, by decide +kernel⟩, by decide +kernel⟩, w_743, w_744⟩
theorem lsJ0_498 : kLS RJ0 498 jJ2_charAt_3b067 2 := ⟨⟨rfl, w_756, w_115, ⟨by decide +kernel, by decide +kernel⟩, by decide +kernel⟩, w_754, w_755⟩
theorem lvX9_62 : kLV RX9 62 jJ0_length_8abf5 0 := ⟨⟨rfl, w_728, w_112, ⟨by decide +kernel, by decide +kernel⟩, by decide +kernel⟩, w_725, w_726, w_727⟩
theorem lvX9_67 : kLV RX9 67 jJ0_charAt_5068e 1 := ⟨⟨rfl, w_738, w_112, ⟨by decide +kernel, by decide +kernel⟩, by decide +kernel⟩, w_735, w_736, w_737⟩
theorem lvX9_71 : kLV RX9 71 jX9_isSign 1 := ⟨⟨rfl, w_813, w_95, ⟨by decide +kernel, by decide +kernel⟩, by decide +kernel⟩, w_810, w_811, w_812⟩
theorem lvX9_75 : kLV RX9 75 jX9_refuse 1 := ⟨⟨rfl, w_776, w_95, ⟨by decide +kernel, by decide +kernel⟩, by decide +kernel⟩, w_798, w_774, w_775⟩
theorem lvX9_40 : kLV RX9 40 jX9_advance 0 := ⟨⟨rfl, w_699, w_95, ⟨by decide +kernel, by decide +kernel⟩, by decide +kernel⟩, w_696, w_697, w_698⟩
theorem lvX7_119 : kLV RX7 119 jX9_takeSign 1 := ⟨⟨rfl, w_821, w_95, ⟨by decide +kernel, by decide +kernel⟩, by decide +kernel⟩, w_868, w_819, w_820⟩
theorem lvX7_62 : kLV RX7 62 jX9_advance 0 := ⟨⟨rfl, w_699, w_95, ⟨by decide +kernel, by decide +kernel⟩, by decide +kernel⟩, w_856, w_697, w_698⟩
theorem lvX7_81 : kLV RX7 81 jX9_isWord 1 := ⟨⟨rfl, w_724, w_95, ⟨by decide +kernel, by decide +kernel⟩, by decide +kernel⟩, w_858, w_722, w_723⟩
theorem lvX7_59 : kLV RX7 59 jX7_addStep 1 := ⟨⟨rfl, w_862, w_99, ⟨by decide +kernel, by decide +kernel⟩, by decide +kernel⟩, w_859, w_861, w_6⟩
theorem lvX7_51 : kLV RX7 51 jX9_refuse 1 := ⟨⟨rfl, w_776, w_95, ⟨by decide +kernel, by decide +kernel⟩, by decide +kernel⟩, w_863, w_774, w_775⟩
theorem lvX7_73 : kLV RX7 73 jX7_openBlock 1 := ⟨⟨rfl, w_867, w_99, ⟨by decide +kernel, by decide +kernel⟩, by decide +kernel⟩, w_864, w_866, w_7⟩
theorem lvX7_96 : kLV RX7 96 jX9_takeNumber 2 := ⟨⟨rfl, w_797, w_95, ⟨by decide +kernel, by decide +kernel⟩, by decide +kernel⟩, w_887, w_795, w_796⟩
theorem lvX9_81 : kLV RX9 81 jX9_takeNumber 2 := ⟨⟨rfl, w_797, w_95, ⟨by decide +kernel, by decide +kernel⟩, by decide +kernel⟩, w_814, w_795, w_796⟩
theorem lvX7_65 : kLV RX7 65 jX7_readNumber 3 := ⟨⟨rfl, w_886, w_99, ⟨by decide +kernel, by decide +kernel⟩, by decide +kernel⟩, w_883, w_885, w_9⟩
theorem lvX7_103 : kLV RX7 103 jX9_takeSigned 1 := ⟨⟨rfl, w_809, w_95, ⟨by decide +kernel, by decide +kernel⟩, by decide +kernel⟩, w_892, w_807, w_808⟩
theorem lsX7_108 : kLS RX7 108 jX7_testTold 1 := ⟨⟨rfl, w_900, w_99, ⟨by decide +kernel, by decide +kernel⟩, by decide +kernel⟩, w_898, w_899⟩
theorem lsX7_55 : kLS RX7 55 jX7_verbTold 1 := ⟨⟨rfl, w_875, w_99, ⟨by decide +kernel, by decide +kernel⟩, by decide +kernel⟩, w_873, w_874⟩
theorem lvX7_69 : kLV RX7 69 jX7_readChange 2 := ⟨⟨rfl, w_891, w_99, ⟨by decide +kernel, by decide +kernel⟩, by decide +kernel⟩, w_888, w_890, w_10⟩
theorem lvX7_76 : kLV RX7 76 jX7_readTest 1 := ⟨⟨rfl, w_896, w_99, ⟨by decide +kernel, by decide +kernel⟩, by decide +kernel⟩, w_893, w_895, w_11⟩
theorem lvX7_36 : kLV RX7 36 jX9_isEnd 0 := ⟨⟨rfl, w_719, w_95, ⟨by decide +kernel, by decide +kernel⟩, by decide +kernel⟩, w_850, w_717, w_718⟩
theorem lvX7_40 : kLV RX7 40 jX9_isSign 1 := ⟨⟨rfl, w_813, w_95, ⟨by decide +kernel, by decide +kernel⟩, by decide +kernel⟩, w_851, w_811, w_812⟩
theorem lvX7_44 : kLV RX7 44 jX7_closeBlock 1 := ⟨⟨rfl, w_855, w_99, ⟨by decide +kernel, by decide +kernel⟩, by decide +kernel⟩, w_852, w_854, w_5⟩
theorem lvX7_48 : kLV RX7 48 jX7_readAct 1 := ⟨⟨rfl, w_872, w_99, ⟨by decide +kernel, by decide +kernel⟩, by decide +kernel⟩, w_869, w_871, w_8⟩
theorem lvX8_22 : kLV RX8 22 jX9_isWord 1 := ⟨⟨rfl, w_724, w_95, ⟨by decide +kernel, by decide +kernel⟩, by decide +kernel⟩, w_721, w_722, w_723⟩
theorem lvX8_91 : kLV RX8 91 jX9_takeNumber 2 := ⟨⟨rfl, w_797, w_95, ⟨by decide +kernel, by decide +kernel⟩, by decide +kernel⟩, w_794, w_795, w_796⟩
theorem lvX8_26 : kLV RX8 26 jX9_refuse 1 := ⟨⟨rfl, w_776, w_95, ⟨by decide +kernel, by decide +kernel⟩, by decide +kernel⟩, w_773, w_774, w_775⟩
theorem lvX8_57 : kLV RX8 57 jX9_advance 0 := ⟨⟨rfl, w_699, w_95, ⟨by decide +kernel, by decide +kernel⟩, by decide +kernel⟩, w_784, w_697, w_698⟩
theorem lsX8_60 : kLS RX8 60 jX8_kindTold 1 := ⟨⟨rfl, w_787, w_111, ⟨by decide +kernel, by decide +kernel⟩, by decide +kernel⟩, w_785, w_786⟩
theorem lsX8_71 : kLS RX8 71 jX8_readInto 5 := ⟨⟨rfl, w_793, w_111, ⟨by decide +kernel, by decide +kernel⟩, by decide +kernel⟩, w_791, w_792⟩
theorem lsX8_81 : kLS RX8 81 jX8_countPendulum 1 := ⟨⟨rfl, w_801, w_111, ⟨by decide +kernel, by decide +kernel⟩, by decide +kernel⟩, w_799, w_800⟩
theorem lvX8_104 : kLV RX8 104 jX9_takeSigned 1 := ⟨⟨rfl, w_809, w_95, ⟨by decide +kernel, by decide +kernel⟩, by decide +kernel⟩, w_806, w_807, w_808⟩
theorem lsX8_42 : kLS RX8 42 jX8_readPendulum 2 := ⟨⟨rfl, w_783, w_111, ⟨by decide +kernel, by decide +kernel⟩, by decide +kernel⟩, w_781, w_782⟩
theorem lsX8_47 : kLS RX8 47 jX8_readCart 2 := ⟨⟨rfl, w_805, w_111, ⟨by decide +kernel, by decide +kernel⟩, by decide +kernel⟩, w_803, w_804⟩
theorem lsX8_50 : kLS RX8 50 jX8_readPennies 2 := ⟨⟨rfl, w_817, w_111, ⟨by decide +kernel, by decide +kernel⟩, by decide +kernel⟩, w_815, w_816⟩
theorem lvX8_9 : kLV RX8 9 jX2_clear 0 := ⟨⟨rfl, w_715, w_96, ⟨by decide +kernel, by decide +kernel⟩, by decide +kernel⟩, w_712, w_713, w_714⟩
theorem lvX8_16 : kLV RX8 16 jX9_isEnd 0 := ⟨⟨rfl, w_719, w_95, ⟨by decide +kernel, by decide +kernel⟩, by decide +kernel⟩, w_716, w_717, w_718⟩
theorem lsX8_30 : kLS RX8 30 jX8_readLine 2 := ⟨⟨rfl, w_779, w_111, ⟨by decide +kernel, by decide +kernel⟩, by decide +kernel⟩, w_777, w_778⟩
theorem lvX8_36 : kLV RX8 36 jX9_takeSign 1 := ⟨⟨rfl, w_821, w_95, ⟨by decide +kernel, by decide +kernel⟩, by decide +kernel⟩, w_818, w_819, w_820⟩
theorem lsX9_22 : kLS RX9 22 jJ9_min_7cf53 2 := ⟨⟨rfl, w_692, w_110, ⟨by decide +kernel, by decide +kernel⟩, by decide +kernel⟩, w_690, w_691⟩
theorem lsX9_28 : kLS RX9 28 jJ9_max_7cf53 2 := ⟨⟨rfl, w_695, w_110, ⟨by decide +kernel, by decide +kernel⟩, by decide +kernel⟩, w_693, w_694⟩
theorem lnX10_11 : kLN RX10 11 jX9_init 0 "PenSwings" := ⟨⟨rfl, w_130, w_95, ⟨by decide +kernel, by decide +kernel⟩, by decide +kernel⟩, w_128⟩
theorem liX10_18 : kLB RX10 18 jX2_init 0 := ⟨rfl, w_173, w_96, ⟨by decide +kernel, by decide +kernel⟩, by decide +kernel⟩
theorem lnX10_31 : kLN RX10 31 jX3_init 0 "PenSwings" := ⟨⟨rfl, w_235, w_98, ⟨by decide +kernel, by decide +kernel⟩, by decide +kernel⟩, w_233⟩
theorem lnX10_45 : kLN RX10 45 jX7_init 0 "PenSwings" := ⟨⟨rfl, w_276, w_99, ⟨by decide +kernel, by decide +kernel⟩, by decide +kernel⟩, w_274⟩
theorem lnX10_55 : kLN RX10 55 jX6_init 0 "PenSwings" := ⟨⟨rfl, w_310, w_100, ⟨by decide +kernel, by decide +kernel⟩, by decide +kernel⟩, w_308⟩
theorem lnX10_62 : kLN RX10 62 jX4_init 0 "PenSwings" := ⟨⟨rfl, w_351, w_101, ⟨by decide +kernel, by decide +kernel⟩, by decide +kernel⟩, w_349⟩
theorem lnX10_69 : kLN RX10 69 jX1_init 0 "PenSwings" := ⟨⟨rfl, w_364, w_102, ⟨by decide +kernel, by decide +kernel⟩, by decide +kernel⟩, w_362⟩
theorem lnX10_76 : kLN RX10 76 jX0_init 0 "PenSwings" := ⟨⟨rfl, w_412, w_103, ⟨by decide +kernel, by decide +kernel⟩, by decide +kernel⟩, w_410⟩
theorem lnX10_83 : kLN RX10 83 jX5_init 0 "PenSwings" := ⟨⟨rfl, w_440, w_104, ⟨by decide +kernel, by decide +kernel⟩, by decide +kernel⟩, w_438⟩
theorem lvX10_99 : kLV RX10 99 jX9_hasRoom 0 := ⟨⟨rfl, w_513, w_95, ⟨by decide +kernel, by decide +kernel⟩, by decide +kernel⟩, w_510, w_511, w_512⟩
theorem lvX10_103 : kLV RX10 103 jX9_lay 1 := ⟨⟨rfl, w_517, w_95, ⟨by decide +kernel, by decide +kernel⟩, by decide +kernel⟩, w_514, w_515, w_516⟩
theorem lvX10_110 : kLV RX10 110 jX10_needBytes 1 := ⟨⟨rfl, w_619, w_94, ⟨by decide +kernel, by decide +kernel⟩, by decide +kernel⟩, w_616, w_618, w_2⟩
theorem lvX10_113 : kLV RX10 113 jX9_begin 1 := ⟨⟨rfl, w_689, w_95, ⟨by decide +kernel, by decide +kernel⟩, by decide +kernel⟩, w_686, w_687, w_688⟩
theorem lsX10_116 : kLS RX10 116 jX8_read 2 := ⟨⟨rfl, w_711, w_111, ⟨by decide +kernel, by decide +kernel⟩, by decide +kernel⟩, w_709, w_710⟩
theorem lvX10_122 : kLV RX10 122 jX2_copy 1 := ⟨⟨rfl, w_825, w_96, ⟨by decide +kernel, by decide +kernel⟩, by decide +kernel⟩, w_822, w_823, w_824⟩
theorem lvX10_126 : kLV RX10 126 jX3_clear 0 := ⟨⟨rfl, w_830, w_98, ⟨by decide +kernel, by decide +kernel⟩, by decide +kernel⟩, w_827, w_828, w_829⟩
theorem lvX10_132 : kLV RX10 132 jX0_clear 0 := ⟨⟨rfl, w_834, w_103, ⟨by decide +kernel, by decide +kernel⟩, by decide +kernel⟩, w_831, w_832, w_833⟩
theorem lvX10_133 : kLV RX10 133 jX10_endOfText 0 := ⟨⟨rfl, w_838, w_94, ⟨by decide +kernel, by decide +kernel⟩, by decide +kernel⟩, w_835, w_837, w_4⟩
theorem lvX10_137 : kLV RX10 137 jX7_read 1 := ⟨⟨rfl, w_849, w_99, ⟨by decide +kernel, by decide +kernel⟩, by decide +kernel⟩, w_846, w_847, w_848⟩
theorem lsX10_140 : kLS RX10 140 jX10_needWhat 2 := ⟨⟨rfl, w_915, w_94, ⟨by decide +kernel, by decide +kernel⟩, by decide +kernel⟩, w_913, w_914⟩
theorem lvX10_144 : kLV RX10 144 jX6_play 3 := ⟨⟨rfl, w_935, w_100, ⟨by decide +kernel, by decide +kernel⟩, by decide +kernel⟩, w_932, w_933, w_934⟩
theorem lvX10_160 : kLV RX10 160 jX6_cell 0 := ⟨⟨rfl, w_950, w_100, ⟨by decide +kernel, by decide +kernel⟩, by decide +kernel⟩, w_984, w_948, w_949⟩
theorem lsX10_369 : kLS RX10 369 jX10_isCell 1 := ⟨⟨rfl, w_968, w_94, ⟨by decide +kernel, by decide +kernel⟩, by decide +kernel⟩, w_995, w_967⟩
theorem lsX10_163 : kLS RX10 163 jX10_needCell 1 := ⟨⟨rfl, w_994, w_94, ⟨by decide +kernel, by decide +kernel⟩, by decide +kernel⟩, w_992, w_993⟩
theorem lsX10_187 : kLS RX10 187 jX10_needPendulum 1 := ⟨⟨rfl, w_1013, w_94, ⟨by decide +kernel, by decide +kernel⟩, by decide +kernel⟩, w_1011, w_1012⟩
theorem lvX10_202 : kLV RX10 202 jX2_period 1 := ⟨⟨rfl, w_533, w_96, ⟨by decide +kernel, by decide +kernel⟩, by decide +kernel⟩, w_1015, w_531, w_532⟩
theorem lsX10_206 : kLS RX10 206 jX10_mostOfSetting 1 := ⟨⟨rfl, w_1025, w_94, ⟨by decide +kernel, by decide +kernel⟩, by decide +kernel⟩, w_1023, w_1024⟩
theorem lvX10_209 : kLV RX10 209 jX10_refuse 1 := ⟨⟨rfl, w_569, w_94, ⟨by decide +kernel, by decide +kernel⟩, by decide +kernel⟩, w_566, w_568, w_1⟩
theorem lsX10_274 : kLS RX10 274 jX10_isTick 1 := ⟨⟨rfl, w_579, w_94, ⟨by decide +kernel, by decide +kernel⟩, by decide +kernel⟩, w_577, w_578⟩
theorem lsX10_212 : kLS RX10 212 jX10_needTick 1 := ⟨⟨rfl, w_1035, w_94, ⟨by decide +kernel, by decide +kernel⟩, by decide +kernel⟩, w_1033, w_1034⟩
theorem lvX10_215 : kLV RX10 215 jX2_where 2 := ⟨⟨rfl, w_548, w_96, ⟨by decide +kernel, by decide +kernel⟩, by decide +kernel⟩, w_1037, w_546, w_547⟩
theorem lvX10_219 : kLV RX10 219 jX2_penAt 2 := ⟨⟨rfl, w_954, w_96, ⟨by decide +kernel, by decide +kernel⟩, by decide +kernel⟩, w_1045, w_952, w_953⟩
theorem lvX10_238 : kLV RX10 238 jX2_cellAt 1 := ⟨⟨rfl, w_1065, w_96, ⟨by decide +kernel, by decide +kernel⟩, by decide +kernel⟩, w_1062, w_1063, w_1064⟩
theorem lsX10_222 : kLS RX10 222 jX10_needSpan 2 := ⟨⟨rfl, w_1055, w_94, ⟨by decide +kernel, by decide +kernel⟩, by decide +kernel⟩, w_1053, w_1054⟩
theorem lsX10_225 : kLS RX10 225 jJ7_fill_53178 2 := ⟨⟨rfl, w_177, w_97, ⟨by decide +kernel, by decide +kernel⟩, by decide +kernel⟩, w_1057, w_176⟩
theorem lvX10_231 : kLV RX10 231 jX10_markSeen 4 := ⟨⟨rfl, w_1061, w_94, ⟨by decide +kernel, by decide +kernel⟩, by decide +kernel⟩, w_1058, w_1060, w_18⟩
theorem lvX10_235 : kLV RX10 235 jX10_cellsSeen 1 := ⟨⟨rfl, w_1071, w_94, ⟨by decide +kernel, by decide +kernel⟩, by decide +kernel⟩, w_1068, w_1070, w_19⟩
theorem lvX10_241 : kLV RX10 241 jX2_ticksRound 0 := ⟨⟨rfl, w_529, w_96, ⟨by decide +kernel, by decide +kernel⟩, by decide +kernel⟩, w_526, w_527, w_528⟩
theorem lvX10_244 : kLV RX10 244 jX2_swungTo 2 := ⟨⟨rfl, w_544, w_96, ⟨by decide +kernel, by decide +kernel⟩, by decide +kernel⟩, w_541, w_542, w_543⟩
theorem lsX10_247 : kLS RX10 247 jJ9_abs_0f7a4 1 := ⟨⟨rfl, w_561, w_110, ⟨by decide +kernel, by decide +kernel⟩, by decide +kernel⟩, w_559, w_560⟩
theorem lvX10_261 : kLV RX10 261 jX10_needPortrait 1 := ⟨⟨rfl, w_1089, w_94, ⟨by decide +kernel, by decide +kernel⟩, by decide +kernel⟩, w_1086, w_1088, w_20⟩
theorem lvX10_264 : kLV RX10 264 jX10_takeInto 2 := ⟨⟨rfl, w_1094, w_94, ⟨by decide +kernel, by decide +kernel⟩, by decide +kernel⟩, w_1091, w_1093, w_21⟩
theorem lvX10_362 : kLV RX10 362 jX10_copyWith 2 := ⟨⟨rfl, w_1109, w_94, ⟨by decide +kernel, by decide +kernel⟩, by decide +kernel⟩, w_1106, w_1108, w_23⟩
theorem lvX10_365 : kLV RX10 365 jX4_joins 2 := ⟨⟨rfl, w_1113, w_101, ⟨by decide +kernel, by decide +kernel⟩, by decide +kernel⟩, w_1110, w_1111, w_1112⟩
theorem lvX10_268 : kLV RX10 268 jX10_compare 2 := ⟨⟨rfl, w_1105, w_94, ⟨by decide +kernel, by decide +kernel⟩, by decide +kernel⟩, w_1102, w_1104, w_22⟩
theorem lvX10_271 : kLV RX10 271 jX10_leastOfKind 1 := ⟨⟨rfl, w_1149, w_94, ⟨by decide +kernel, by decide +kernel⟩, by decide +kernel⟩, w_1146, w_1148, w_29⟩
theorem lsX10_278 : kLS RX10 278 jX10_isPlace 1 := ⟨⟨rfl, w_582, w_94, ⟨by decide +kernel, by decide +kernel⟩, by decide +kernel⟩, w_580, w_581⟩
theorem lsX10_284 : kLS RX10 284 jX10_needWithin 3 := ⟨⟨rfl, w_1159, w_94, ⟨by decide +kernel, by decide +kernel⟩, by decide +kernel⟩, w_1157, w_1158⟩
theorem lvX10_288 : kLV RX10 288 jX1_findRows 4 := ⟨⟨rfl, w_1164, w_102, ⟨by decide +kernel, by decide +kernel⟩, by decide +kernel⟩, w_1161, w_1162, w_1163⟩
theorem lvX10_304 : kLV RX10 304 jX1_findCart 2 := ⟨⟨rfl, w_1210, w_102, ⟨by decide +kernel, by decide +kernel⟩, by decide +kernel⟩, w_1207, w_1208, w_1209⟩
theorem lvX10_323 : kLV RX10 323 jX5_findBest 2 := ⟨⟨rfl, w_1238, w_104, ⟨by decide +kernel, by decide +kernel⟩, by decide +kernel⟩, w_1235, w_1236, w_1237⟩
theorem lvX10_333 : kLV RX10 333 jX10_markPortrait 4 := ⟨⟨rfl, w_1258, w_94, ⟨by decide +kernel, by decide +kernel⟩, by decide +kernel⟩, w_1255, w_1257, w_39⟩
theorem lvX10_337 : kLV RX10 337 jX0_make 3 := ⟨⟨rfl, w_1269, w_103, ⟨by decide +kernel, by decide +kernel⟩, by decide +kernel⟩, w_1266, w_1267, w_1268⟩
theorem lvX10_356 : kLV RX10 356 jX3_copy 1 := ⟨⟨rfl, w_602, w_98, ⟨by decide +kernel, by decide +kernel⟩, by decide +kernel⟩, w_599, w_600, w_601⟩
theorem lvX11_119 : kLV RX11 119 jX11_lays 1 := ⟨⟨rfl, w_1522, w_105, ⟨by decide +kernel, by decide +kernel⟩, by decide +kernel⟩, w_1519, w_1521, w_47⟩
theorem lvX11_129 : kLV RX11 129 jX11_byteAt 1 := ⟨⟨rfl, w_1538, w_105, ⟨by decide +kernel, by decide +kernel⟩, by decide +kernel⟩, w_1535, w_1537, w_50⟩
theorem lsX11_149 : kLS RX11 149 jX11_isLetter 1 := ⟨⟨rfl, w_1541, w_105, ⟨by decide +kernel, by decide +kernel⟩, by decide +kernel⟩, w_1539, w_1540⟩
theorem lsX11_153 : kLS RX11 153 jX11_isDigit 1 := ⟨⟨rfl, w_1544, w_105, ⟨by decide +kernel, by decide +kernel⟩, by decide +kernel⟩, w_1542, w_1543⟩
theorem lsX11_161 : kLS RX11 161 jX11_spelled 8 := ⟨⟨rfl, w_1562, w_105, ⟨by decide +kernel, by decide +kernel⟩, by decide +kernel⟩, w_1560, w_1561⟩
theorem lsX11_165 : kLS RX11 165 jX11_letters 1 := ⟨⟨rfl, w_1559, w_105, ⟨by decide +kernel, by decide +kernel⟩, by decide +kernel⟩, w_1557, w_1558⟩
theorem lvX11_172 : kLV RX11 172 jX11_isGood 0 := ⟨⟨rfl, w_1548, w_105, ⟨by decide +kernel, by decide +kernel⟩, by decide +kernel⟩, w_1545, w_1547, w_51⟩
theorem lvX11_176 : kLV RX11 176 jX11_steps 0 := ⟨⟨rfl, w_1534, w_105, ⟨by decide +kernel, by decide +kernel⟩, by decide +kernel⟩, w_1531, w_1533, w_49⟩
theorem lvX11_179 : kLV RX11 179 jX11_wrong 1 := ⟨⟨rfl, w_1571, w_105, ⟨by decide +kernel, by decide +kernel⟩, by decide +kernel⟩, w_1568, w_1570, w_55⟩
theorem lvX11_182 : kLV RX11 182 jX11_number 2 := ⟨⟨rfl, w_1579, w_105, ⟨by decide +kernel, by decide +kernel⟩, by decide +kernel⟩, w_1576, w_1578, w_57⟩
theorem lvX11_189 : kLV RX11 189 jX11_is 1 := ⟨⟨rfl, w_1556, w_105, ⟨by decide +kernel, by decide +kernel⟩, by decide +kernel⟩, w_1553, w_1555, w_53⟩
theorem lvX11_192 : kLV RX11 192 jX11_need 1 := ⟨⟨rfl, w_1575, w_105, ⟨by decide +kernel, by decide +kernel⟩, by decide +kernel⟩, w_1572, w_1574, w_56⟩
theorem lvX11_196 : kLV RX11 196 jX11_readsPendulum 0 := ⟨⟨rfl, w_1567, w_105, ⟨by decide +kernel, by decide +kernel⟩, by decide +kernel⟩, w_1564, w_1566, w_54⟩
theorem lvX11_202 : kLV RX11 202 jX11_signed 1 := ⟨⟨rfl, w_1583, w_105, ⟨by decide +kernel, by decide +kernel⟩, by decide +kernel⟩, w_1580, w_1582, w_58⟩
theorem lvX11_209 : kLV RX11 209 jX11_right 2 := ⟨⟨rfl, w_1530, w_105, ⟨by decide +kernel, by decide +kernel⟩, by decide +kernel⟩, w_1527, w_1529, w_48⟩
theorem lvX11_213 : kLV RX11 213 jX11_line 0 := ⟨⟨rfl, w_1552, w_105, ⟨by decide +kernel, by decide +kernel⟩, by decide +kernel⟩, w_1549, w_1551, w_52⟩
theorem lvX11_222 : kLV RX11 222 jX11_copies 2 := ⟨⟨rfl, w_1587, w_105, ⟨by decide +kernel, by decide +kernel⟩, by decide +kernel⟩, w_1584, w_1586, w_59⟩
theorem lsX11_238 : kLS RX11 238 jX11_within 3 := ⟨⟨rfl, w_1598, w_105, ⟨by decide +kernel, by decide +kernel⟩, by decide +kernel⟩, w_1596, w_1597⟩
theorem lvX11_242 : kLV RX11 242 jX11_isPendulum 1 := ⟨⟨rfl, w_1606, w_105, ⟨by decide +kernel, by decide +kernel⟩, by decide +kernel⟩, w_1603, w_1605, w_60⟩
theorem lvX11_245 : kLV RX11 245 jX11_period 3 := ⟨⟨rfl, w_1610, w_105, ⟨by decide +kernel, by decide +kernel⟩, by decide +kernel⟩, w_1607, w_1609, w_61⟩
theorem lvX11_249 : kLV RX11 249 jX11_refuses 1 := ⟨⟨rfl, w_1618, w_105, ⟨by decide +kernel, by decide +kernel⟩, by decide +kernel⟩, w_1615, w_1617, w_62⟩
theorem lvX11_252 : kLV RX11 252 jX11_at 4 := ⟨⟨rfl, w_1630, w_105, ⟨by decide +kernel, by decide +kernel⟩, by decide +kernel⟩, w_1627, w_1629, w_64⟩
theorem lvX11_256 : kLV RX11 256 jX11_penOf 4 := ⟨⟨rfl, w_1642, w_105, ⟨by decide +kernel, by decide +kernel⟩, by decide +kernel⟩, w_1639, w_1641, w_66⟩
theorem lvX11_259 : kLV RX11 259 jX11_isTick 2 := ⟨⟨rfl, w_1626, w_105, ⟨by decide +kernel, by decide +kernel⟩, by decide +kernel⟩, w_1623, w_1625, w_63⟩
theorem lvX11_263 : kLV RX11 263 jX11_penNow 2 := ⟨⟨rfl, w_1638, w_105, ⟨by decide +kernel, by decide +kernel⟩, by decide +kernel⟩, w_1635, w_1637, w_65⟩
theorem lvX11_266 : kLV RX11 266 jX11_isSpan 3 := ⟨⟨rfl, w_1650, w_105, ⟨by decide +kernel, by decide +kernel⟩, by decide +kernel⟩, w_1647, w_1649, w_67⟩
theorem lvX11_269 : kLV RX11 269 jX11_clears 0 := ⟨⟨rfl, w_1654, w_105, ⟨by decide +kernel, by decide +kernel⟩, by decide +kernel⟩, w_1651, w_1653, w_68⟩
theorem lsX11_272 : kLS RX11 272 jX11_cellOf 2 := ⟨⟨rfl, w_1657, w_105, ⟨by decide +kernel, by decide +kernel⟩, by decide +kernel⟩, w_1655, w_1656⟩
theorem lvX11_275 : kLV RX11 275 jX11_roundOf 2 := ⟨⟨rfl, w_1669, w_105, ⟨by decide +kernel, by decide +kernel⟩, by decide +kernel⟩, w_1666, w_1668, w_69⟩
theorem lsX11_279 : kLS RX11 279 jX11_size 1 := ⟨⟨rfl, w_1676, w_105, ⟨by decide +kernel, by decide +kernel⟩, by decide +kernel⟩, w_1674, w_1675⟩
theorem lvX11_282 : kLV RX11 282 jX11_isPortrait 1 := ⟨⟨rfl, w_1688, w_105, ⟨by decide +kernel, by decide +kernel⟩, by decide +kernel⟩, w_1685, w_1687, w_70⟩
theorem lsX11_285 : kLS RX11 285 jX11_becomes 2 := ⟨⟨rfl, w_1703, w_105, ⟨by decide +kernel, by decide +kernel⟩, by decide +kernel⟩, w_1701, w_1702⟩
theorem lvX11_288 : kLV RX11 288 jX11_sizeOf 2 := ⟨⟨rfl, w_1707, w_105, ⟨by decide +kernel, by decide +kernel⟩, by decide +kernel⟩, w_1704, w_1706, w_73⟩
theorem lvX11_291 : kLV RX11 291 jX11_isWay 3 := ⟨⟨rfl, w_1700, w_105, ⟨by decide +kernel, by decide +kernel⟩, by decide +kernel⟩, w_1697, w_1699, w_72⟩
theorem lvX11_294 : kLV RX11 294 jX11_isTime 5 := ⟨⟨rfl, w_1711, w_105, ⟨by decide +kernel, by decide +kernel⟩, by decide +kernel⟩, w_1708, w_1710, w_74⟩
theorem lvX11_298 : kLV RX11 298 jX11_alikeOf 2 := ⟨⟨rfl, w_1696, w_105, ⟨by decide +kernel, by decide +kernel⟩, by decide +kernel⟩, w_1693, w_1695, w_71⟩
theorem lvX11_301 : kLV RX11 301 jX11_offOf 1 := ⟨⟨rfl, w_1731, w_105, ⟨by decide +kernel, by decide +kernel⟩, by decide +kernel⟩, w_1728, w_1730, w_75⟩
theorem lvX11_304 : kLV RX11 304 jX11_wayOf 2 := ⟨⟨rfl, w_1747, w_105, ⟨by decide +kernel, by decide +kernel⟩, by decide +kernel⟩, w_1744, w_1746, w_77⟩
theorem lvX11_307 : kLV RX11 307 jX11_shows 1 := ⟨⟨rfl, w_1743, w_105, ⟨by decide +kernel, by decide +kernel⟩, by decide +kernel⟩, w_1740, w_1742, w_76⟩
theorem lsX11_310 : kLS RX11 310 jX11_unlike 2 := ⟨⟨rfl, w_1766, w_105, ⟨by decide +kernel, by decide +kernel⟩, by decide +kernel⟩, w_1764, w_1765⟩
theorem lvX11_313 : kLV RX11 313 jX11_fewest 1 := ⟨⟨rfl, w_1763, w_105, ⟨by decide +kernel, by decide +kernel⟩, by decide +kernel⟩, w_1760, w_1762, w_78⟩
theorem lvX11_316 : kLV RX11 316 jX11_moved 2 := ⟨⟨rfl, w_1782, w_105, ⟨by decide +kernel, by decide +kernel⟩, by decide +kernel⟩, w_1779, w_1781, w_80⟩
theorem lvX11_319 : kLV RX11 319 jX11_allMoved 2 := ⟨⟨rfl, w_1778, w_105, ⟨by decide +kernel, by decide +kernel⟩, by decide +kernel⟩, w_1775, w_1777, w_79⟩
theorem lvX11_325 : kLV RX11 325 jX11_countsUp 1 := ⟨⟨rfl, w_1786, w_105, ⟨by decide +kernel, by decide +kernel⟩, by decide +kernel⟩, w_1783, w_1785, w_81⟩
theorem lvX11_331 : kLV RX11 331 jX11_isSign 1 := ⟨⟨rfl, w_1798, w_105, ⟨by decide +kernel, by decide +kernel⟩, by decide +kernel⟩, w_1795, w_1797, w_82⟩
theorem lvX11_337 : kLV RX11 337 jX11_puts 1 := ⟨⟨rfl, w_1806, w_105, ⟨by decide +kernel, by decide +kernel⟩, by decide +kernel⟩, w_1803, w_1805, w_84⟩
theorem lvX11_340 : kLV RX11 340 jX11_opens 2 := ⟨⟨rfl, w_1810, w_105, ⟨by decide +kernel, by decide +kernel⟩, by decide +kernel⟩, w_1807, w_1809, w_85⟩
theorem lvX11_344 : kLV RX11 344 jX11_test 0 := ⟨⟨rfl, w_1818, w_105, ⟨by decide +kernel, by decide +kernel⟩, by decide +kernel⟩, w_1815, w_1817, w_87⟩
theorem lvX11_347 : kLV RX11 347 jX11_closes 0 := ⟨⟨rfl, w_1802, w_105, ⟨by decide +kernel, by decide +kernel⟩, by decide +kernel⟩, w_1799, w_1801, w_83⟩
theorem lvX11_350 : kLV RX11 350 jX11_act 0 := ⟨⟨rfl, w_1814, w_105, ⟨by decide +kernel, by decide +kernel⟩, by decide +kernel⟩, w_1811, w_1813, w_86⟩
theorem lvX11_359 : kLV RX11 359 jX11_penGoing 1 := ⟨⟨rfl, w_1838, w_105, ⟨by decide +kernel, by decide +kernel⟩, by decide +kernel⟩, w_1835, w_1837, w_91⟩
theorem lvX11_362 : kLV RX11 362 jX11_cellGoing 0 := ⟨⟨rfl, w_1834, w_105, ⟨by decide +kernel, by decide +kernel⟩, by decide +kernel⟩, w_1831, w_1833, w_90⟩
theorem lvX11_372 : kLV RX11 372 jX11_draws 1 := ⟨⟨rfl, w_1830, w_105, ⟨by decide +kernel, by decide +kernel⟩, by decide +kernel⟩, w_1827, w_1829, w_89⟩
theorem lsX11_375 : kLS RX11 375 jX11_between 2 := ⟨⟨rfl, w_1841, w_105, ⟨by decide +kernel, by decide +kernel⟩, by decide +kernel⟩, w_1839, w_1840⟩
theorem lvX11_378 : kLV RX11 378 jX11_holds 2 := ⟨⟨rfl, w_1845, w_105, ⟨by decide +kernel, by decide +kernel⟩, by decide +kernel⟩, w_1842, w_1844, w_92⟩
theorem lvX11_381 : kLV RX11 381 jX11_performs 0 := ⟨⟨rfl, w_1826, w_105, ⟨by decide +kernel, by decide +kernel⟩, by decide +kernel⟩, w_1823, w_1825, w_88⟩
theorem lvL_7 : kLV RL 7 jX10_swings 1 := ⟨⟨rfl, w_615, w_94, ⟨by decide +kernel, by decide +kernel⟩, by decide +kernel⟩, w_612, w_613, w_614⟩
theorem lvL_15 : kLV RL 15 jX10_score 1 := ⟨⟨rfl, w_845, w_94, ⟨by decide +kernel, by decide +kernel⟩, by decide +kernel⟩, w_842, w_843, w_844⟩
theorem lvL_18 : kLV RL 18 jX10_performed 1 := ⟨⟨rfl, w_912, w_94, ⟨by decide +kernel, by decide +kernel⟩, by decide +kernel⟩, w_909, w_910, w_911⟩
theorem lvL_23 : kLV RL 23 jX10_marks 1 := ⟨⟨rfl, w_991, w_94, ⟨by decide +kernel, by decide +kernel⟩, by decide +kernel⟩, w_988, w_989, w_990⟩
theorem lvL_26 : kLV RL 26 jX10_count 1 := ⟨⟨rfl, w_1003, w_94, ⟨by decide +kernel, by decide +kernel⟩, by decide +kernel⟩, w_1000, w_1001, w_1002⟩
theorem lvL_29 : kLV RL 29 jX10_pendulum 2 := ⟨⟨rfl, w_1010, w_94, ⟨by decide +kernel, by decide +kernel⟩, by decide +kernel⟩, w_1007, w_1008, w_1009⟩
theorem lvL_33 : kLV RL 33 jX10_set 3 := ⟨⟨rfl, w_1022, w_94, ⟨by decide +kernel, by decide +kernel⟩, by decide +kernel⟩, w_1019, w_1020, w_1021⟩
theorem lvL_37 : kLV RL 37 jX10_swing 2 := ⟨⟨rfl, w_1032, w_94, ⟨by decide +kernel, by decide +kernel⟩, by decide +kernel⟩, w_1029, w_1030, w_1031⟩
theorem lvL_40 : kLV RL 40 jX10_pen 2 := ⟨⟨rfl, w_1044, w_94, ⟨by decide +kernel, by decide +kernel⟩, by decide +kernel⟩, w_1041, w_1042, w_1043⟩
theorem lvL_43 : kLV RL 43 jX10_drawn 2 := ⟨⟨rfl, w_1052, w_94, ⟨by decide +kernel, by decide +kernel⟩, by decide +kernel⟩, w_1049, w_1050, w_1051⟩
theorem lvL_46 : kLV RL 46 jX10_inCell 3 := ⟨⟨rfl, w_1078, w_94, ⟨by decide +kernel, by decide +kernel⟩, by decide +kernel⟩, w_1075, w_1076, w_1077⟩
theorem lvL_49 : kLV RL 49 jX10_take 1 := ⟨⟨rfl, w_1085, w_94, ⟨by decide +kernel, by decide +kernel⟩, by decide +kernel⟩, w_1082, w_1083, w_1084⟩
theorem lvL_53 : kLV RL 53 jX10_alike 2 := ⟨⟨rfl, w_1101, w_94, ⟨by decide +kernel, by decide +kernel⟩, by decide +kernel⟩, w_1098, w_1099, w_1100⟩
theorem lvL_56 : kLV RL 56 jX10_kinds 1 := ⟨⟨rfl, w_1145, w_94, ⟨by decide +kernel, by decide +kernel⟩, by decide +kernel⟩, w_1142, w_1143, w_1144⟩
theorem lvL_59 : kLV RL 59 jX10_fits 3 := ⟨⟨rfl, w_1156, w_94, ⟨by decide +kernel, by decide +kernel⟩, by decide +kernel⟩, w_1153, w_1154, w_1155⟩
theorem lvL_62 : kLV RL 62 jX10_chord 3 := ⟨⟨rfl, w_1199, w_94, ⟨by decide +kernel, by decide +kernel⟩, by decide +kernel⟩, w_1196, w_1197, w_1198⟩
theorem lvL_65 : kLV RL 65 jX10_cart 1 := ⟨⟨rfl, w_1206, w_94, ⟨by decide +kernel, by decide +kernel⟩, by decide +kernel⟩, w_1203, w_1204, w_1205⟩
theorem lvL_68 : kLV RL 68 jX10_factor 1 := ⟨⟨rfl, w_1234, w_94, ⟨by decide +kernel, by decide +kernel⟩, by decide +kernel⟩, w_1231, w_1232, w_1233⟩
theorem lvL_71 : kLV RL 71 jX10_laid 5 := ⟨⟨rfl, w_1254, w_94, ⟨by decide +kernel, by decide +kernel⟩, by decide +kernel⟩, w_1251, w_1252, w_1253⟩
theorem lvL_75 : kLV RL 75 jX10_evening 1 := ⟨⟨rfl, w_1265, w_94, ⟨by decide +kernel, by decide +kernel⟩, by decide +kernel⟩, w_1262, w_1263, w_1264⟩
theorem lvL_78 : kLV RL 78 jX10_drawing 1 := ⟨⟨rfl, w_1319, w_94, ⟨by decide +kernel, by decide +kernel⟩, by decide +kernel⟩, w_1316, w_1317, w_1318⟩
theorem liL_81 : kLB RL 81 jX10_init 0 := ⟨rfl, w_122, w_94, ⟨by decide +kernel, by decide +kernel⟩, by decide +kernel⟩
theorem liL_84 : kLB RL 84 jX11_init 0 := ⟨rfl, w_1325, w_105, ⟨by decide +kernel, by decide +kernel⟩, by decide +kernel⟩
theorem lvL_85 : kLV RL 85 jX10_feed 5 := ⟨⟨rfl, w_509, w_94, ⟨by decide +kernel, by decide +kernel⟩, by decide +kernel⟩, w_506, w_507, w_508⟩
theorem lvL_88 : kLV RL 88 jX11_feed 5 := ⟨⟨rfl, w_1518, w_105, ⟨by decide +kernel, by decide +kernel⟩, by decide +kernel⟩, w_1515, w_1516, w_1517⟩
theorem lvL_94 : kLV RL 94 jX11_swings 1 := ⟨⟨rfl, w_1526, w_105, ⟨by decide +kernel, by decide +kernel⟩, by decide +kernel⟩, w_1523, w_1524, w_1525⟩
theorem lvL_95 : kLV RL 95 jX11_thrown 0 := ⟨⟨rfl, w_1514, w_105, ⟨by decide +kernel, by decide +kernel⟩, by decide +kernel⟩, w_1511, w_1512, w_1513⟩
theorem lvL_101 : kLV RL 101 jX11_score 1 := ⟨⟨rfl, w_1794, w_105, ⟨by decide +kernel, by decide +kernel⟩, by decide +kernel⟩, w_1791, w_1792, w_1793⟩
theorem lvL_104 : kLV RL 104 jX11_performed 1 := ⟨⟨rfl, w_1822, w_105, ⟨by decide +kernel, by decide +kernel⟩, by decide +kernel⟩, w_1819, w_1820, w_1821⟩
theorem lvL_107 : kLV RL 107 jX11_marks 1 := ⟨⟨rfl, w_1849, w_105, ⟨by decide +kernel, by decide +kernel⟩, by decide +kernel⟩, w_1846, w_1847, w_1848⟩
theorem lvL_108 : kLV RL 108 jX10_fault 0 := ⟨⟨rfl, w_521, w_94, ⟨by decide +kernel, by decide +kernel⟩, by decide +kernel⟩, w_518, w_519, w_520⟩
theorem lvL_111 : kLV RL 111 jX11_fault 0 := ⟨⟨rfl, w_1591, w_105, ⟨by decide +kernel, by decide +kernel⟩, by decide +kernel⟩, w_1588, w_1589, w_1590⟩
theorem lvL_114 : kLV RL 114 jX11_count 1 := ⟨⟨rfl, w_1595, w_105, ⟨by decide +kernel, by decide +kernel⟩, by decide +kernel⟩, w_1592, w_1593, w_1594⟩
theorem lvL_118 : kLV RL 118 jX11_pendulum 2 := ⟨⟨rfl, w_1602, w_105, ⟨by decide +kernel, by decide +kernel⟩, by decide +kernel⟩, w_1599, w_1600, w_1601⟩
theorem lvL_122 : kLV RL 122 jX11_set 3 := ⟨⟨rfl, w_1614, w_105, ⟨by decide +kernel, by decide +kernel⟩, by decide +kernel⟩, w_1611, w_1612, w_1613⟩
theorem lvL_125 : kLV RL 125 jX11_swing 2 := ⟨⟨rfl, w_1622, w_105, ⟨by decide +kernel, by decide +kernel⟩, by decide +kernel⟩, w_1619, w_1620, w_1621⟩
theorem lvL_128 : kLV RL 128 jX11_pen 2 := ⟨⟨rfl, w_1634, w_105, ⟨by decide +kernel, by decide +kernel⟩, by decide +kernel⟩, w_1631, w_1632, w_1633⟩
theorem lvL_131 : kLV RL 131 jX11_drawn 2 := ⟨⟨rfl, w_1646, w_105, ⟨by decide +kernel, by decide +kernel⟩, by decide +kernel⟩, w_1643, w_1644, w_1645⟩
theorem lvL_134 : kLV RL 134 jX11_inCell 3 := ⟨⟨rfl, w_1661, w_105, ⟨by decide +kernel, by decide +kernel⟩, by decide +kernel⟩, w_1658, w_1659, w_1660⟩
theorem lvL_135 : kLV RL 135 jX10_round 0 := ⟨⟨rfl, w_525, w_94, ⟨by decide +kernel, by decide +kernel⟩, by decide +kernel⟩, w_522, w_523, w_524⟩
theorem lvL_138 : kLV RL 138 jX11_round 0 := ⟨⟨rfl, w_1665, w_105, ⟨by decide +kernel, by decide +kernel⟩, by decide +kernel⟩, w_1662, w_1663, w_1664⟩
theorem lvL_139 : kLV RL 139 jX10_off 0 := ⟨⟨rfl, w_540, w_94, ⟨by decide +kernel, by decide +kernel⟩, by decide +kernel⟩, w_537, w_538, w_539⟩
theorem lvL_142 : kLV RL 142 jX11_off 0 := ⟨⟨rfl, w_1673, w_105, ⟨by decide +kernel, by decide +kernel⟩, by decide +kernel⟩, w_1670, w_1671, w_1672⟩
theorem lvL_143 : kLV RL 143 jX10_keep 0 := ⟨⟨rfl, w_565, w_94, ⟨by decide +kernel, by decide +kernel⟩, by decide +kernel⟩, w_562, w_563, w_564⟩
theorem lvL_146 : kLV RL 146 jX11_keep 0 := ⟨⟨rfl, w_1680, w_105, ⟨by decide +kernel, by decide +kernel⟩, by decide +kernel⟩, w_1677, w_1678, w_1679⟩
theorem lvL_150 : kLV RL 150 jX11_take 1 := ⟨⟨rfl, w_1684, w_105, ⟨by decide +kernel, by decide +kernel⟩, by decide +kernel⟩, w_1681, w_1682, w_1683⟩
theorem lvL_153 : kLV RL 153 jX11_alike 2 := ⟨⟨rfl, w_1692, w_105, ⟨by decide +kernel, by decide +kernel⟩, by decide +kernel⟩, w_1689, w_1690, w_1691⟩
theorem lvL_156 : kLV RL 156 jX11_kinds 1 := ⟨⟨rfl, w_1715, w_105, ⟨by decide +kernel, by decide +kernel⟩, by decide +kernel⟩, w_1712, w_1713, w_1714⟩
theorem lvL_157 : kLV RL 157 jX10_point 3 := ⟨⟨rfl, w_576, w_94, ⟨by decide +kernel, by decide +kernel⟩, by decide +kernel⟩, w_573, w_574, w_575⟩
theorem lvL_160 : kLV RL 160 jX11_point 3 := ⟨⟨rfl, w_1719, w_105, ⟨by decide +kernel, by decide +kernel⟩, by decide +kernel⟩, w_1716, w_1717, w_1718⟩
theorem lvL_161 : kLV RL 161 jX10_unpoint 0 := ⟨⟨rfl, w_586, w_94, ⟨by decide +kernel, by decide +kernel⟩, by decide +kernel⟩, w_583, w_584, w_585⟩
theorem lvL_164 : kLV RL 164 jX11_unpoint 0 := ⟨⟨rfl, w_1723, w_105, ⟨by decide +kernel, by decide +kernel⟩, by decide +kernel⟩, w_1720, w_1721, w_1722⟩
theorem lvL_167 : kLV RL 167 jX11_fits 3 := ⟨⟨rfl, w_1727, w_105, ⟨by decide +kernel, by decide +kernel⟩, by decide +kernel⟩, w_1724, w_1725, w_1726⟩
theorem lvL_170 : kLV RL 170 jX11_chord 3 := ⟨⟨rfl, w_1735, w_105, ⟨by decide +kernel, by decide +kernel⟩, by decide +kernel⟩, w_1732, w_1733, w_1734⟩
theorem lvL_173 : kLV RL 173 jX11_cart 1 := ⟨⟨rfl, w_1739, w_105, ⟨by decide +kernel, by decide +kernel⟩, by decide +kernel⟩, w_1736, w_1737, w_1738⟩
theorem lvL_174 : kLV RL 174 jX10_birthday 1 := ⟨⟨rfl, w_590, w_94, ⟨by decide +kernel, by decide +kernel⟩, by decide +kernel⟩, w_587, w_588, w_589⟩
theorem lvL_177 : kLV RL 177 jX11_birthday 1 := ⟨⟨rfl, w_1751, w_105, ⟨by decide +kernel, by decide +kernel⟩, by decide +kernel⟩, w_1748, w_1749, w_1750⟩
theorem lvL_178 : kLV RL 178 jX10_forget 0 := ⟨⟨rfl, w_594, w_94, ⟨by decide +kernel, by decide +kernel⟩, by decide +kernel⟩, w_591, w_592, w_593⟩
theorem lvL_181 : kLV RL 181 jX11_forget 0 := ⟨⟨rfl, w_1755, w_105, ⟨by decide +kernel, by decide +kernel⟩, by decide +kernel⟩, w_1752, w_1753, w_1754⟩
theorem lvL_184 : kLV RL 184 jX11_factor 1 := ⟨⟨rfl, w_1759, w_105, ⟨by decide +kernel, by decide +kernel⟩, by decide +kernel⟩, w_1756, w_1757, w_1758⟩
theorem lvL_188 : kLV RL 188 jX11_laid 5 := ⟨⟨rfl, w_1770, w_105, ⟨by decide +kernel, by decide +kernel⟩, by decide +kernel⟩, w_1767, w_1768, w_1769⟩
theorem lvL_191 : kLV RL 191 jX11_evening 1 := ⟨⟨rfl, w_1774, w_105, ⟨by decide +kernel, by decide +kernel⟩, by decide +kernel⟩, w_1771, w_1772, w_1773⟩
theorem lvL_194 : kLV RL 194 jX11_drawing 1 := ⟨⟨rfl, w_1790, w_105, ⟨by decide +kernel, by decide +kernel⟩, by decide +kernel⟩, w_1787, w_1788, w_1789⟩
theorem lvL_195 : kLV RL 195 jX10_image 0 := ⟨⟨rfl, w_598, w_94, ⟨by decide +kernel, by decide +kernel⟩, by decide +kernel⟩, w_595, w_596, w_597⟩
theorem lvL_198 : kLV RL 198 jX11_image 0 := ⟨⟨rfl, w_1853, w_105, ⟨by decide +kernel, by decide +kernel⟩, by decide +kernel⟩, w_1850, w_1851, w_1852⟩
theorem lvL_199 : kLV RL 199 jX10_restore 0 := ⟨⟨rfl, w_607, w_94, ⟨by decide +kernel, by decide +kernel⟩, by decide +kernel⟩, w_604, w_605, w_606⟩
theorem lvL_203 : kLV RL 203 jX11_restore 0 := ⟨⟨rfl, w_1857, w_105, ⟨by decide +kernel, by decide +kernel⟩, by decide +kernel⟩, w_1854, w_1855, w_1856⟩

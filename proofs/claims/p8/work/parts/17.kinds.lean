/-! the kinds' tables -/
theorem sm_ly {ws : List Cond} (ps : List Nat) (h : ws.map some = ps.map (fun p => (sm_chunk (p / 256))[p % 256]?)) (hg : ws.all goodWord = true) : ∀ w ∈ ws, w ∈ sm_wl := by
  intro w hw
  have h1 : some w ∈ ps.map (fun p => (sm_chunk (p / 256))[p % 256]?) := by rw [← h]; exact List.mem_map.mpr ⟨w, hw, rfl⟩
  obtain ⟨p, -, hp⟩ := List.mem_map.mp h1
  exact List.mem_filter.mpr ⟨sm_chunk_in (List.mem_of_getElem? hp), List.all_eq_true.mp hg w hw⟩
def sm_tc (ty : FieldType) : Nat := match ty with
  | .int => 0
  | .boolean => 2
  | .object _ => 1
  | .array _ => 1
  | _ => 9
theorem sm_tc_of {ty : FieldType} {n : Nat} (h : sm_tc ty = n) (h3 : n ≤ 2) : (n = 0 → ty = .int) ∧ (n = 2 → ty = .boolean) ∧ (n = 1 → (∃ q, ty = .object q) ∨ ∃ q, ty = .array q) ∧ n ≤ 2 := by
  subst h
  cases ty with
  | int => exact ⟨fun _ => rfl, fun h => (by cases h), fun h => (by cases h), h3⟩
  | boolean => exact ⟨fun h => (by cases h), fun _ => rfl, fun h => (by cases h), h3⟩
  | object q => exact ⟨fun h => (by cases h), fun h => (by cases h), fun _ => Or.inl ⟨q, rfl⟩, h3⟩
  | array q => exact ⟨fun h => (by cases h), fun h => (by cases h), fun _ => Or.inr ⟨q, rfl⟩, h3⟩
  | _ => exact absurd h3 (by decide)
theorem ly_0 : ∀ w ∈ u_ws RX0 TX0 6, w ∈ sm_wl := sm_ly [490, 492, 494, 512, 514, 516] (by decide +kernel) (by decide +kernel)
theorem tc_0 : ∀ k, k < 6 → sm_tc (tyX0 k) = sm_cd 0 k ∧ sm_cd 0 k ≤ 2 := by decide +kernel
theorem ly_1 : ∀ w ∈ u_ws RX1 TX1 3, w ∈ sm_wl := sm_ly [316, 318, 320] (by decide +kernel) (by decide +kernel)
theorem tc_1 : ∀ k, k < 3 → sm_tc (tyX1 k) = sm_cd 1 k ∧ sm_cd 1 k ≤ 2 := by decide +kernel
theorem ly_2 : ∀ w ∈ u_ws RX2 TX2 18, w ∈ sm_wl := sm_ly [387, 389, 391, 393, 395, 397, 399, 401, 403, 405, 407, 409, 411, 413, 415, 417, 419, 421] (by decide +kernel) (by decide +kernel)
theorem tc_2 : ∀ k, k < 18 → sm_tc (tyX2 k) = sm_cd 2 k ∧ sm_cd 2 k ≤ 2 := by decide +kernel
theorem ly_3 : ∀ w ∈ u_ws RX3 TX3 4, w ∈ sm_wl := sm_ly [68, 70, 72, 74] (by decide +kernel) (by decide +kernel)
theorem tc_3 : ∀ k, k < 4 → sm_tc (tyX3 k) = sm_cd 3 k ∧ sm_cd 3 k ≤ 2 := by decide +kernel
theorem ly_4 : ∀ w ∈ u_ws RX4 TX4 5, w ∈ sm_wl := sm_ly [296, 298, 300, 302, 304] (by decide +kernel) (by decide +kernel)
theorem tc_4 : ∀ k, k < 5 → sm_tc (tyX4 k) = sm_cd 4 k ∧ sm_cd 4 k ≤ 2 := by decide +kernel
theorem ly_5 : ∀ w ∈ u_ws RX5 TX5 6, w ∈ sm_wl := sm_ly [343, 345, 347, 349, 351, 353] (by decide +kernel) (by decide +kernel)
theorem tc_5 : ∀ k, k < 6 → sm_tc (tyX5 k) = sm_cd 5 k ∧ sm_cd 5 k ≤ 2 := by decide +kernel
theorem ly_6 : ∀ w ∈ u_ws RX6 TX6 12, w ∈ sm_wl := sm_ly [450, 452, 454, 456, 458, 460, 462, 464, 466, 468, 470, 472] (by decide +kernel) (by decide +kernel)
theorem tc_6 : ∀ k, k < 12 → sm_tc (tyX6 k) = sm_cd 6 k ∧ sm_cd 6 k ≤ 2 := by decide +kernel
theorem ly_7 : ∀ w ∈ u_ws RX7 TX7 12, w ∈ sm_wl := sm_ly [228, 230, 232, 234, 236, 238, 256, 258, 260, 262, 264, 266] (by decide +kernel) (by decide +kernel)
theorem tc_7 : ∀ k, k < 12 → sm_tc (tyX7 k) = sm_cd 7 k ∧ sm_cd 7 k ≤ 2 := by decide +kernel
theorem ly_8 : ∀ w ∈ u_ws RX8 TX8 4, w ∈ sm_wl := sm_ly [103, 105, 107, 109] (by decide +kernel) (by decide +kernel)
theorem tc_8 : ∀ k, k < 4 → sm_tc (tyX8 k) = sm_cd 8 k ∧ sm_cd 8 k ≤ 2 := by decide +kernel
theorem ly_9 : ∀ w ∈ u_ws RX9 TX9 4, w ∈ sm_wl := sm_ly [46, 48, 50, 52] (by decide +kernel) (by decide +kernel)
theorem tc_9 : ∀ k, k < 4 → sm_tc (tyX9 k) = sm_cd 9 k ∧ sm_cd 9 k ≤ 2 := by decide +kernel
theorem ly_10 : ∀ w ∈ u_ws RX10 TX10 19, w ∈ sm_wl := sm_ly [176, 178, 180, 182, 184, 186, 188, 190, 192, 194, 196, 198, 200, 202, 204, 206, 208, 210, 212] (by decide +kernel) (by decide +kernel)
theorem tc_10 : ∀ k, k < 19 → sm_tc (tyX10 k) = sm_cd 10 k ∧ sm_cd 10 k ≤ 2 := by decide +kernel
theorem ly_11 : ∀ w ∈ u_ws RX11 TX11 14, w ∈ sm_wl := sm_ly [533, 535, 537, 539, 541, 543, 545, 547, 549, 551, 553, 555, 557, 559] (by decide +kernel) (by decide +kernel)
theorem tc_11 : ∀ k, k < 14 → sm_tc (tyX11 k) = sm_cd 11 k ∧ sm_cd 11 k ≤ 2 := by decide +kernel
theorem ly_12 : ∀ w ∈ u_ws RX12 TX12 97, w ∈ sm_wl := sm_ly [1424, 1426, 1428, 1430, 1432, 1434, 1436, 1438, 1440, 1442, 1444, 1446, 1448, 1450, 1452, 1454, 1456, 1458, 1460, 1462, 1464, 1466, 1468, 1470, 1472, 1474, 1476, 1478, 1480, 1482, 1484, 1486, 1488, 1490, 1492, 1494, 1496, 1498, 1500, 1502, 1504, 1506, 1508, 1510, 1512, 1514, 1516, 1518, 1536, 1538, 1540, 1542, 1544, 1546, 1548, 1550, 1552, 1554, 1556, 1558, 1560, 1562, 1564, 1566, 1568, 1570, 1572, 1574, 1576, 1578, 1580, 1582, 1584, 1586, 1588, 1590, 1592, 1594, 1596, 1598, 1600, 1602, 1604, 1606, 1608, 1610, 1612, 1614, 1616, 1618, 1620, 1622, 1624, 1626, 1628, 1630, 1632] (by decide +kernel) (by decide +kernel)
theorem tc_12 : ∀ k, k < 97 → sm_tc (tyX12 k) = sm_cd 12 k ∧ sm_cd 12 k ≤ 2 := by decide +kernel
theorem sm_cf : sm_CF := by
  intro ci C T N h
  match ci, h with
  | 0, h => cases h; exact ⟨ly_0, tyX0_ok, nmX0, rfl, fun k hk => sm_tc_of (tc_0 k hk).1 (tc_0 k hk).2⟩
  | 1, h => cases h; exact ⟨ly_1, tyX1_ok, nmX1, rfl, fun k hk => sm_tc_of (tc_1 k hk).1 (tc_1 k hk).2⟩
  | 2, h => cases h; exact ⟨ly_2, tyX2_ok, nmX2, rfl, fun k hk => sm_tc_of (tc_2 k hk).1 (tc_2 k hk).2⟩
  | 3, h => cases h; exact ⟨ly_3, tyX3_ok, nmX3, rfl, fun k hk => sm_tc_of (tc_3 k hk).1 (tc_3 k hk).2⟩
  | 4, h => cases h; exact ⟨ly_4, tyX4_ok, nmX4, rfl, fun k hk => sm_tc_of (tc_4 k hk).1 (tc_4 k hk).2⟩
  | 5, h => cases h; exact ⟨ly_5, tyX5_ok, nmX5, rfl, fun k hk => sm_tc_of (tc_5 k hk).1 (tc_5 k hk).2⟩
  | 6, h => cases h; exact ⟨ly_6, tyX6_ok, nmX6, rfl, fun k hk => sm_tc_of (tc_6 k hk).1 (tc_6 k hk).2⟩
  | 7, h => cases h; exact ⟨ly_7, tyX7_ok, nmX7, rfl, fun k hk => sm_tc_of (tc_7 k hk).1 (tc_7 k hk).2⟩
  | 8, h => cases h; exact ⟨ly_8, tyX8_ok, nmX8, rfl, fun k hk => sm_tc_of (tc_8 k hk).1 (tc_8 k hk).2⟩
  | 9, h => cases h; exact ⟨ly_9, tyX9_ok, nmX9, rfl, fun k hk => sm_tc_of (tc_9 k hk).1 (tc_9 k hk).2⟩
  | 10, h => cases h; exact ⟨ly_10, tyX10_ok, nmX10, rfl, fun k hk => sm_tc_of (tc_10 k hk).1 (tc_10 k hk).2⟩
  | 11, h => cases h; exact ⟨ly_11, tyX11_ok, nmX11, rfl, fun k hk => sm_tc_of (tc_11 k hk).1 (tc_11 k hk).2⟩
  | 12, h => cases h; exact ⟨ly_12, tyX12_ok, nmX12, rfl, fun k hk => sm_tc_of (tc_12 k hk).1 (tc_12 k hk).2⟩
  | k + 13, h => simp [vwCl] at h

/-! the kinds' tables -/
theorem sm_ly {ws : List Cond} (ps : List Nat) (h : ws.map some = ps.map (fun p => (sm_chunk (p / 256))[p % 256]?)) (hg : ws.all goodWord = true) : ∀ w ∈ ws, w ∈ sm_wl := by
  intro w hw
  have h1 : some w ∈ ps.map (fun p => (sm_chunk (p / 256))[p % 256]?) := by rw [← h]; exact List.mem_map.mpr ⟨w, hw, rfl⟩
  obtain ⟨p, -, hp⟩ := List.mem_map.mp h1
  exact List.mem_filter.mpr ⟨sm_chunk_in (List.mem_of_getElem? hp), List.all_eq_true.mp hg w hw⟩
def sm_tc (ty : FieldType) : Nat := match ty with
  | .int => 0
  | .boolean => 2
  | .object _ => 1
  | .array _ => 1
  | _ => 9
theorem sm_tc_of {ty : FieldType} {n : Nat} (h : sm_tc ty = n) (h3 : n ≤ 2) : (n = 0 → ty = .int) ∧ (n = 2 → ty = .boolean) ∧ (n = 1 → (∃ q, ty = .object q) ∨ ∃ q, ty = .array q) ∧ n ≤ 2 := by
  subst h
  cases ty with
  | int => exact ⟨fun _ => rfl, fun h => (by cases h), fun h => (by cases h), h3⟩
  | boolean => exact ⟨fun h => (by cases h), fun _ => rfl, fun h => (by cases h), h3⟩
  | object q => exact ⟨fun h => (by cases h), fun h => (by cases h), fun _ => Or.inl ⟨q, rfl⟩, h3⟩
  | array q => exact ⟨fun h => (by cases h), fun h => (by cases h), fun _ => Or.inr ⟨q, rfl⟩, h3⟩
  | _ => exact absurd h3 (by decide)
theorem ly_0 : ∀ w ∈ u_ws RX0 TX0 6, w ∈ sm_wl := sm_ly [515, 517, 519, 521, 523, 525] (by decide +kernel) (by decide +kernel)
theorem tc_0 : ∀ k, k < 6 → sm_tc (tyX0 k) = sm_cd 0 k ∧ sm_cd 0 k ≤ 2 := by decide +kernel
theorem ly_1 : ∀ w ∈ u_ws RX1 TX1 3, w ∈ sm_wl := sm_ly [325, 327, 329] (by decide +kernel) (by decide +kernel)
theorem tc_1 : ∀ k, k < 3 → sm_tc (tyX1 k) = sm_cd 1 k ∧ sm_cd 1 k ≤ 2 := by decide +kernel
theorem ly_2 : ∀ w ∈ u_ws RX2 TX2 18, w ∈ sm_wl := sm_ly [396, 398, 400, 402, 404, 406, 408, 410, 412, 414, 416, 418, 420, 422, 424, 426, 428, 430] (by decide +kernel) (by decide +kernel)
theorem tc_2 : ∀ k, k < 18 → sm_tc (tyX2 k) = sm_cd 2 k ∧ sm_cd 2 k ≤ 2 := by decide +kernel
theorem ly_3 : ∀ w ∈ u_ws RX3 TX3 4, w ∈ sm_wl := sm_ly [68, 70, 72, 74] (by decide +kernel) (by decide +kernel)
theorem tc_3 : ∀ k, k < 4 → sm_tc (tyX3 k) = sm_cd 3 k ∧ sm_cd 3 k ≤ 2 := by decide +kernel
theorem ly_4 : ∀ w ∈ u_ws RX4 TX4 5, w ∈ sm_wl := sm_ly [305, 307, 309, 311, 313] (by decide +kernel) (by decide +kernel)
theorem tc_4 : ∀ k, k < 5 → sm_tc (tyX4 k) = sm_cd 4 k ∧ sm_cd 4 k ≤ 2 := by decide +kernel
theorem ly_5 : ∀ w ∈ u_ws RX5 TX5 6, w ∈ sm_wl := sm_ly [352, 354, 356, 358, 360, 362] (by decide +kernel) (by decide +kernel)
theorem tc_5 : ∀ k, k < 6 → sm_tc (tyX5 k) = sm_cd 5 k ∧ sm_cd 5 k ≤ 2 := by decide +kernel
theorem ly_6 : ∀ w ∈ u_ws RX6 TX6 12, w ∈ sm_wl := sm_ly [459, 461, 463, 465, 467, 469, 471, 473, 475, 477, 479, 481] (by decide +kernel) (by decide +kernel)
theorem tc_6 : ∀ k, k < 12 → sm_tc (tyX6 k) = sm_cd 6 k ∧ sm_cd 6 k ≤ 2 := by decide +kernel
theorem ly_7 : ∀ w ∈ u_ws RX7 TX7 13, w ∈ sm_wl := sm_ly [235, 237, 239, 257, 259, 261, 263, 265, 267, 269, 271, 273, 275] (by decide +kernel) (by decide +kernel)
theorem tc_7 : ∀ k, k < 13 → sm_tc (tyX7 k) = sm_cd 7 k ∧ sm_cd 7 k ≤ 2 := by decide +kernel
theorem ly_8 : ∀ w ∈ u_ws RX8 TX8 4, w ∈ sm_wl := sm_ly [104, 106, 108, 110] (by decide +kernel) (by decide +kernel)
theorem tc_8 : ∀ k, k < 4 → sm_tc (tyX8 k) = sm_cd 8 k ∧ sm_cd 8 k ≤ 2 := by decide +kernel
theorem ly_9 : ∀ w ∈ u_ws RX9 TX9 4, w ∈ sm_wl := sm_ly [46, 48, 50, 52] (by decide +kernel) (by decide +kernel)
theorem tc_9 : ∀ k, k < 4 → sm_tc (tyX9 k) = sm_cd 9 k ∧ sm_cd 9 k ≤ 2 := by decide +kernel
theorem ly_10 : ∀ w ∈ u_ws RX10 TX10 19, w ∈ sm_wl := sm_ly [182, 184, 186, 188, 190, 192, 194, 196, 198, 200, 202, 204, 206, 208, 210, 212, 214, 216, 218] (by decide +kernel) (by decide +kernel)
theorem tc_10 : ∀ k, k < 19 → sm_tc (tyX10 k) = sm_cd 10 k ∧ sm_cd 10 k ≤ 2 := by decide +kernel
theorem ly_11 : ∀ w ∈ u_ws RX11 TX11 14, w ∈ sm_wl := sm_ly [542, 544, 546, 548, 550, 552, 554, 556, 558, 560, 562, 564, 566, 568] (by decide +kernel) (by decide +kernel)
theorem tc_11 : ∀ k, k < 14 → sm_tc (tyX11 k) = sm_cd 11 k ∧ sm_cd 11 k ≤ 2 := by decide +kernel
theorem ly_12 : ∀ w ∈ u_ws RX12 TX12 97, w ∈ sm_wl := sm_ly [1401, 1403, 1405, 1407, 1409, 1411, 1413, 1415, 1417, 1419, 1421, 1423, 1425, 1427, 1429, 1431, 1433, 1435, 1437, 1439, 1441, 1443, 1445, 1447, 1449, 1451, 1453, 1455, 1457, 1459, 1461, 1463, 1465, 1467, 1469, 1471, 1473, 1475, 1477, 1479, 1481, 1483, 1485, 1487, 1489, 1491, 1493, 1495, 1497, 1499, 1501, 1503, 1505, 1507, 1509, 1511, 1513, 1515, 1517, 1519, 1537, 1539, 1541, 1543, 1545, 1547, 1549, 1551, 1553, 1555, 1557, 1559, 1561, 1563, 1565, 1567, 1569, 1571, 1573, 1575, 1577, 1579, 1581, 1583, 1585, 1587, 1589, 1591, 1593, 1595, 1597, 1599, 1601, 1603, 1605, 1607, 1609] (by decide +kernel) (by decide +kernel)
theorem tc_12 : ∀ k, k < 97 → sm_tc (tyX12 k) = sm_cd 12 k ∧ sm_cd 12 k ≤ 2 := by decide +kernel
theorem sm_cf : sm_CF := by
  intro ci C T N h
  match ci, h with
  | 0, h => cases h; exact ⟨ly_0, tyX0_ok, nmX0, rfl, fun k hk => sm_tc_of (tc_0 k hk).1 (tc_0 k hk).2⟩
  | 1, h => cases h; exact ⟨ly_1, tyX1_ok, nmX1, rfl, fun k hk => sm_tc_of (tc_1 k hk).1 (tc_1 k hk).2⟩
  | 2, h => cases h; exact ⟨ly_2, tyX2_ok, nmX2, rfl, fun k hk => sm_tc_of (tc_2 k hk).1 (tc_2 k hk).2⟩
  | 3, h => cases h; exact ⟨ly_3, tyX3_ok, nmX3, rfl, fun k hk => sm_tc_of (tc_3 k hk).1 (tc_3 k hk).2⟩
  | 4, h => cases h; exact ⟨ly_4, tyX4_ok, nmX4, rfl, fun k hk => sm_tc_of (tc_4 k hk).1 (tc_4 k hk).2⟩
  | 5, h => cases h; exact ⟨ly_5, tyX5_ok, nmX5, rfl, fun k hk => sm_tc_of (tc_5 k hk).1 (tc_5 k hk).2⟩
  | 6, h => cases h; exact ⟨ly_6, tyX6_ok, nmX6, rfl, fun k hk => sm_tc_of (tc_6 k hk).1 (tc_6 k hk).2⟩
  | 7, h => cases h; exact ⟨ly_7, tyX7_ok, nmX7, rfl, fun k hk => sm_tc_of (tc_7 k hk).1 (tc_7 k hk).2⟩
  | 8, h => cases h; exact ⟨ly_8, tyX8_ok, nmX8, rfl, fun k hk => sm_tc_of (tc_8 k hk).1 (tc_8 k hk).2⟩
  | 9, h => cases h; exact ⟨ly_9, tyX9_ok, nmX9, rfl, fun k hk => sm_tc_of (tc_9 k hk).1 (tc_9 k hk).2⟩
  | 10, h => cases h; exact ⟨ly_10, tyX10_ok, nmX10, rfl, fun k hk => sm_tc_of (tc_10 k hk).1 (tc_10 k hk).2⟩
  | 11, h => cases h; exact ⟨ly_11, tyX11_ok, nmX11, rfl, fun k hk => sm_tc_of (tc_11 k hk).1 (tc_11 k hk).2⟩
  | 12, h => cases h; exact ⟨ly_12, tyX12_ok, nmX12, rfl, fun k hk => sm_tc_of (tc_12 k hk).1 (tc_12 k hk).2⟩
  | k + 13, h => simp [vwCl] at h

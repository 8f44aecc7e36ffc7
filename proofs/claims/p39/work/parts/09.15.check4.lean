/-! the tables are in order -/
theorem om_X3_faultOf : sm_okM sm_P pm_X3_faultOf = true := sm_okMq_of [[0, 1, 3], [6, 7, 9], [12, 13], [16, 17], [17, 19, 20, 21, 24, 25], [28, 30], [33, 34, 37, 39], [42, 43], [44, 45, 47], [50, 51], [52, 53, 56], [59, 60, 61, 62, 65], [68, 69], [72, 73], [73]] (by decide +kernel)
theorem ok_X3_faultOf : sm_OK sm_P pm_X3_faultOf := ⟨om_X3_faultOf, fun _ => ⟨sm_inw 2 116 rfl rfl, sm_inw 0 4 rfl rfl⟩⟩
theorem om_X3_follow : sm_okM sm_P pm_X3_follow = true := sm_okMq_of [[0, 1, 2], [2, 3, 4, 5, 8, 9], [12, 15, 16, 17, 18], [21, 24, 25, 26, 27, 28, 29], [32, 35, 36, 37, 38, 39], [40, 43], [46, 47]] (by decide +kernel)
theorem ok_X3_follow : sm_OK sm_P pm_X3_follow := ⟨om_X3_follow, fun _ => ⟨sm_inw 2 119 rfl rfl, sm_inw 0 4 rfl rfl⟩⟩
theorem om_X3_hasRoom : sm_okM sm_P pm_X3_hasRoom = true := sm_okMq_of [[0, 1], [4, 5, 6, 9, 10], [13, 14, 16], [19, 21], [24, 25], [25, 26, 27, 28, 31, 32, 33, 36, 37, 38, 41, 42, 45, 46, 47, 48, 49, 50, 51, 52, 55, 56, 57, 60, 61, 62], [65, 66], [69, 70], [70], [71, 72, 74], [77, 78, 79, 82, 83, 84, 87, 88, 89, 92], [95, 96, 98], [101, 102, 103, 106, 107, 108, 111], [111, 112, 115, 116], [119, 120, 123, 124], [127, 128], [131, 132], [132]] (by decide +kernel)
theorem ok_X3_hasRoom : sm_OK sm_P pm_X3_hasRoom := ⟨om_X3_hasRoom, fun _ => ⟨sm_inw 2 125 rfl rfl, sm_inw 0 4 rfl rfl⟩⟩
theorem om_X3_init : sm_okM sm_P pm_X3_init = true := sm_okMq_of [[0, 1, 4, 5, 7, 9, 12, 13, 14, 17, 18, 19, 22, 23, 24, 27]] (by decide +kernel)
theorem ok_X3_init : sm_OK sm_P pm_X3_init := ⟨om_X3_init, fun _ => ⟨sm_inw 0 62 rfl rfl, sm_inw 0 4 rfl rfl⟩⟩
theorem om_X3_isBehindMinus : sm_okM sm_P pm_X3_isBehindMinus = true := sm_okMq_of [[0, 1, 3], [6, 7, 9], [12, 13], [16, 17], [17]] (by decide +kernel)
theorem ok_X3_isBehindMinus : sm_OK sm_P pm_X3_isBehindMinus := ⟨om_X3_isBehindMinus, fun _ => ⟨sm_inw 2 202 rfl rfl, sm_inw 0 4 rfl rfl⟩⟩
theorem om_X4_clear : sm_okM sm_P pm_X4_clear = true := sm_okMq_of [[0, 1, 2, 5, 6, 7, 10, 11, 14, 15, 18, 19, 22, 23, 26]] (by decide +kernel)
theorem ok_X4_clear : sm_OK sm_P pm_X4_clear := ⟨om_X4_clear, fun _ => ⟨sm_inw 1 24 rfl rfl, sm_inw 0 8 rfl rfl⟩⟩
theorem om_X4_init : sm_okM sm_P pm_X4_init = true := sm_okMq_of [[0, 1, 4, 5, 7, 9, 12, 13, 15, 17, 20, 21, 24, 25, 27, 30, 33, 34, 37]] (by decide +kernel)
theorem ok_X4_init : sm_OK sm_P pm_X4_init := ⟨om_X4_init, fun _ => ⟨sm_inw 1 17 rfl rfl, sm_inw 0 8 rfl rfl⟩⟩
theorem om_X5_blank : sm_okM sm_P pm_X5_blank = true := sm_okMq_of [[0, 1, 2], [5, 6, 7, 10, 11], [14], [15, 16, 17, 20, 21, 22, 23, 24, 27, 28, 29], [29, 30, 31, 34], [37, 38, 41, 42, 43, 44, 45, 48, 49, 50, 51, 52, 55, 56, 57, 58, 59, 60], [60, 61, 62, 65], [68, 69, 72, 73, 74, 77, 78, 79, 80, 81], [84, 85, 86], [89, 90], [93, 96], [96, 97, 100], [103, 106], [109]] (by decide +kernel)
theorem ok_X5_blank : sm_OK sm_P pm_X5_blank := ⟨om_X5_blank, fun _ => ⟨sm_inw 3 73 rfl rfl, sm_inw 0 11 rfl rfl⟩⟩
theorem om_X5_copyUp : sm_okM sm_P pm_X5_copyUp = true := sm_okMq_of [[0, 1, 2, 5], [8, 9, 10, 11, 12, 15], [18, 19, 22, 23, 24, 27, 28, 29, 32, 33, 34, 35, 36, 39, 40, 41, 44, 47], [47]] (by decide +kernel)
theorem ok_X5_copyUp : sm_OK sm_P pm_X5_copyUp := ⟨om_X5_copyUp, fun _ => ⟨sm_inw 3 139 rfl rfl, sm_inw 0 11 rfl rfl⟩⟩
theorem om_X5_hasLevel : sm_okM sm_P pm_X5_hasLevel = true := sm_okMq_of [[0, 1], [4, 5, 6, 7, 8, 11, 12, 13, 16, 17], [20, 21], [24, 25], [25]] (by decide +kernel)
theorem ok_X5_hasLevel : sm_OK sm_P pm_X5_hasLevel := ⟨om_X5_hasLevel, fun _ => ⟨sm_inw 3 117 rfl rfl, sm_inw 0 11 rfl rfl⟩⟩
theorem om_X5_hasNode : sm_okM sm_P pm_X5_hasNode = true := sm_okMq_of [[0, 1], [4, 5, 6, 9], [12, 13], [16, 17], [17]] (by decide +kernel)
theorem ok_X5_hasNode : sm_OK sm_P pm_X5_hasNode := ⟨om_X5_hasNode, fun _ => ⟨sm_inw 3 81 rfl rfl, sm_inw 0 11 rfl rfl⟩⟩
theorem om_X5_init_6809 : sm_okM sm_P pm_X5_init_6809 = true := sm_okMq_of [[0, 1, 4, 5, 6, 9, 10, 11, 14, 15, 16, 17, 18, 19, 20, 22, 25, 26, 27, 29, 32, 33, 34, 36, 39, 40, 41, 43, 46]] (by decide +kernel)
theorem ok_X5_init_6809 : sm_OK sm_P pm_X5_init_6809 := ⟨om_X5_init_6809, fun _ => ⟨sm_inw 1 79 rfl rfl, sm_inw 0 11 rfl rfl⟩⟩
theorem om_X5_init_7414 : sm_okM sm_P pm_X5_init_7414 = true := sm_okMq_of [[0, 1, 4, 5, 6, 9, 10, 11, 14, 15, 16, 17, 18, 19, 20, 22, 25, 26, 27, 29, 32, 33, 34, 36, 39, 40, 41, 43, 46]] (by decide +kernel)
theorem ok_X5_init_7414 : sm_OK sm_P pm_X5_init_7414 := ⟨om_X5_init_7414, fun _ => ⟨sm_inw 1 79 rfl rfl, sm_inw 0 11 rfl rfl⟩⟩
theorem om_X5_init_9540 : sm_okM sm_P pm_X5_init_9540 = true := sm_okMq_of [[0, 1, 4, 5, 6, 9, 10, 11, 14, 15, 16, 17, 18, 19, 20, 22, 25, 26, 27, 29, 32, 33, 34, 36, 39, 40, 41, 43, 46]] (by decide +kernel)
theorem ok_X5_init_9540 : sm_OK sm_P pm_X5_init_9540 := ⟨om_X5_init_9540, fun _ => ⟨sm_inw 1 79 rfl rfl, sm_inw 0 11 rfl rfl⟩⟩
theorem om_X5_loose : sm_okM sm_P pm_X5_loose = true := sm_okMq_of [[0, 1, 2, 5], [8, 9, 10, 13], [16, 17, 20, 21, 22, 23, 24, 27, 28, 29, 30, 31, 34, 35, 37, 38], [38]] (by decide +kernel)
theorem ok_X5_loose : sm_OK sm_P pm_X5_loose := ⟨om_X5_loose, fun _ => ⟨sm_inw 3 77 rfl rfl, sm_inw 0 11 rfl rfl⟩⟩
theorem om_X5_reach : sm_okM sm_P pm_X5_reach = true := sm_okMq_of [[0, 1, 2, 5], [8, 9, 10, 13], [16, 17, 18, 21], [24, 25], [26, 27, 30, 31, 32, 35, 36, 37, 38, 41, 42, 43, 44, 45, 46]] (by decide +kernel)
theorem ok_X5_reach : sm_OK sm_P pm_X5_reach := ⟨om_X5_reach, fun _ => ⟨sm_inw 3 113 rfl rfl, sm_inw 0 11 rfl rfl⟩⟩
theorem om_X5_tighten : sm_okM sm_P pm_X5_tighten = true := sm_okMq_of [[0, 1], [4, 5, 6, 7, 8, 11, 12, 13, 16, 17], [20, 21], [24, 25], [25, 27, 29], [32, 33], [36, 37, 38, 41], [44, 45], [48, 49, 50, 53], [56, 57], [58, 59, 60], [63, 65], [68, 69], [72, 73], [73], [74, 76, 77, 80, 81, 82, 83, 84, 87, 88, 89, 90, 92, 93, 94, 97, 98, 100, 101, 104, 105, 106, 108, 109, 112, 113, 114, 116, 118, 120, 121, 124, 125, 126, 128, 129, 132, 134, 136, 137, 138], [138, 140, 141], [144, 145], [146, 147, 150, 152, 154, 155, 158, 159, 160, 162, 163, 164, 166], [169, 170], [171, 172, 174], [174, 176, 177, 180], [183, 185, 187, 188, 191, 192, 193, 195, 196, 199, 201, 203, 204, 205, 207, 208, 210, 212, 213, 216, 218, 220, 221, 222], [225, 226, 228, 230, 232, 235], [235, 238], [241, 242]] (by decide +kernel)
theorem ok_X5_tighten : sm_OK sm_P pm_X5_tighten := ⟨om_X5_tighten, fun _ => ⟨sm_inw 3 89 rfl rfl, sm_inw 0 11 rfl rfl⟩⟩
theorem om_X5_tightenRow : sm_okM sm_P pm_X5_tightenRow = true := sm_okMq_of [[0, 1, 3], [3, 5, 6, 9], [12, 13, 14, 17, 18, 20, 21, 22, 23, 25, 27, 28, 31, 32, 34, 35, 36], [39, 40, 43, 44, 46, 47, 49, 50], [50, 53], [56]] (by decide +kernel)
theorem ok_X5_tightenRow : sm_OK sm_P pm_X5_tightenRow := ⟨om_X5_tightenRow, fun _ => ⟨sm_inw 3 93 rfl rfl, sm_inw 0 11 rfl rfl⟩⟩
theorem om_X6_cheapestGiving : sm_okM sm_P pm_X6_cheapestGiving = true := sm_okMq_of [[0, 1, 2, 3, 4, 5, 7], [7, 9, 10, 13], [16, 17, 18, 21, 23, 24, 27, 29, 30, 31], [34, 36, 37], [40, 42, 43, 45, 46], [46, 49], [52, 53]] (by decide +kernel)
theorem ok_X6_cheapestGiving : sm_OK sm_P pm_X6_cheapestGiving := ⟨om_X6_cheapestGiving, fun _ => ⟨sm_inw 4 53 rfl rfl, sm_inw 0 12 rfl rfl⟩⟩
theorem om_X6_goThroughAll : sm_okM sm_P pm_X6_goThroughAll = true := sm_okMq_of [[0, 1, 3], [3, 5, 8], [11, 13, 14, 15, 16, 17], [20], [23, 24, 27, 28, 29, 31, 32, 35, 36, 37, 40, 41, 44, 45, 46, 49, 50, 53, 56], [59, 60], [61, 62, 65, 67, 68, 71, 74], [77, 78], [81, 82], [82, 83], [83, 86], [89, 90]] (by decide +kernel)
theorem ok_X6_goThroughAll : sm_OK sm_P pm_X6_goThroughAll := ⟨om_X6_goThroughAll, fun _ => ⟨sm_inw 4 13 rfl rfl, sm_inw 0 12 rfl rfl⟩⟩
theorem om_X6_holdTogether : sm_okM sm_P pm_X6_holdTogether = true := sm_okMq_of [[0, 1, 4, 7, 9, 10, 12, 13, 15], [15, 17, 19], [22, 24], [27, 28, 31, 33, 34, 35], [38, 39, 41, 42, 43, 44, 45, 46], [49, 50, 53, 55, 57, 60, 61, 64, 66, 67, 70, 72, 75], [75, 78], [81, 83]] (by decide +kernel)
theorem ok_X6_holdTogether : sm_OK sm_P pm_X6_holdTogether := ⟨om_X6_holdTogether, fun _ => ⟨sm_inw 4 78 rfl rfl, sm_inw 0 12 rfl rfl⟩⟩
theorem om_X6_init : sm_okM sm_P pm_X6_init = true := sm_okMq_of [[0, 1, 4, 5, 8, 10, 13, 14, 17, 19, 22, 23, 26, 28, 31, 32, 33, 36, 37, 38, 41, 42, 44, 46, 49, 50, 51, 54, 55, 56, 59, 60, 61, 64, 65, 66, 69, 70, 71, 74, 75], [75, 76, 79]] (by decide +kernel)
theorem ok_X6_init : sm_OK sm_P pm_X6_init := ⟨om_X6_init, fun _ => ⟨sm_inw 1 172 rfl rfl, sm_inw 0 12 rfl rfl⟩⟩
theorem om_X6_isGivingUp : sm_okM sm_P pm_X6_isGivingUp = true := sm_okMq_of [[0, 1, 2, 3, 4, 5, 6, 7, 10, 11, 12], [15, 16], [17, 18, 20], [20, 22, 24], [27, 28, 30, 31, 32, 33], [36, 37, 40, 41, 42, 44, 45, 46, 47], [50, 51], [52, 55], [58, 59]] (by decide +kernel)
theorem ok_X6_isGivingUp : sm_OK sm_P pm_X6_isGivingUp := ⟨om_X6_isGivingUp, fun _ => ⟨sm_inw 4 33 rfl rfl, sm_inw 0 12 rfl rfl⟩⟩
theorem om_X6_isKnown : sm_okM sm_P pm_X6_isKnown = true := sm_okMq_of [[0, 1, 4], [7, 8, 9, 12, 13, 14, 17, 18, 19, 22, 23, 26, 27, 30, 31, 32, 33, 34, 37, 38, 39, 40, 41, 42, 43, 44, 45, 46, 49], [52, 53], [56, 57], [57, 60, 61, 63], [63, 65, 67], [70, 71, 74], [77, 78, 79, 81, 84, 87], [90, 91, 94], [97, 98], [101, 102], [102]] (by decide +kernel)
theorem ok_X6_isKnown : sm_OK sm_P pm_X6_isKnown := ⟨om_X6_isKnown, fun _ => ⟨sm_inw 4 8 rfl rfl, sm_inw 0 12 rfl rfl⟩⟩
theorem om_X6_isQuarrel : sm_okM sm_P pm_X6_isQuarrel = true := sm_okMq_of [[0, 1, 4, 5, 6], [9, 10], [11, 12, 13], [13, 14, 16], [19, 20, 21, 22, 23, 24], [27, 28, 31, 32, 33, 34, 35, 36, 37, 38, 39], [42, 43], [44, 47], [50, 51]] (by decide +kernel)
theorem ok_X6_isQuarrel : sm_OK sm_P pm_X6_isQuarrel := ⟨om_X6_isQuarrel, fun _ => ⟨sm_inw 4 29 rfl rfl, sm_inw 0 12 rfl rfl⟩⟩
theorem om_X6_isTight : sm_okM sm_P pm_X6_isTight = true := sm_okMq_of [[0, 1, 4], [7, 8, 9, 12, 13, 16, 17, 18, 19, 20, 23, 24, 25, 26, 27, 30], [33, 34], [37, 38], [38, 41, 42, 43, 46, 47, 50], [53, 54, 55, 58], [58, 59, 62]] (by decide +kernel)
theorem ok_X6_isTight : sm_OK sm_P pm_X6_isTight := ⟨om_X6_isTight, fun _ => ⟨sm_inw 4 74 rfl rfl, sm_inw 0 12 rfl rfl⟩⟩
theorem om_X6_itemOf : sm_okM sm_P pm_X6_itemOf = true := sm_okMq_of [[0, 1, 3], [6, 7], [10, 11, 13, 14, 16, 17], [17]] (by decide +kernel)
theorem ok_X6_itemOf : sm_OK sm_P pm_X6_itemOf := ⟨om_X6_itemOf, fun _ => ⟨sm_inw 4 81 rfl rfl, sm_inw 0 12 rfl rfl⟩⟩
theorem om_X6_listRing : sm_okM sm_P pm_X6_listRing = true := sm_okMq_of [[0, 1, 2, 3, 5], [5, 7, 9], [12, 13, 16, 18, 19, 20], [23], [26, 27, 28, 29, 30, 32, 33, 34, 37], [40, 41, 44, 45, 48, 50, 53, 54, 55, 56, 59, 60, 61, 64], [67, 68, 69, 71, 72, 73, 74], [74, 77], [80]] (by decide +kernel)
theorem ok_X6_listRing : sm_OK sm_P pm_X6_listRing := ⟨om_X6_listRing, fun _ => ⟨sm_inw 4 86 rfl rfl, sm_inw 0 12 rfl rfl⟩⟩
theorem om_X6_listSets : sm_okM sm_P pm_X6_listSets = true := sm_okMq_of [[0, 1, 2], [2, 3, 6], [9, 10, 11, 12, 13, 14], [17, 18, 21, 22], [25], [28, 29, 30, 33], [36, 37, 40, 43], [46, 47, 50, 51, 54, 55, 56, 57, 58, 61, 62, 63, 66], [66, 67, 68, 69, 72], [75, 76, 79, 82], [85, 86, 89, 90, 93, 94, 95, 96, 97, 100, 101, 102, 105], [105, 108], [111]] (by decide +kernel)
theorem ok_X6_listSets : sm_OK sm_P pm_X6_listSets := ⟨om_X6_listSets, fun _ => ⟨sm_inw 4 19 rfl rfl, sm_inw 0 12 rfl rfl⟩⟩
theorem om_X7_changePlaces : sm_okM sm_P pm_X7_changePlaces = true := sm_okMq_of [[0, 1, 4, 5, 6, 7, 10, 11]] (by decide +kernel)
theorem ok_X7_changePlaces : sm_OK sm_P pm_X7_changePlaces := ⟨om_X7_changePlaces, fun _ => ⟨sm_inw 3 15 rfl rfl, sm_inw 0 2 rfl rfl⟩⟩
theorem om_X7_endPathOrOpen : sm_okM sm_P pm_X7_endPathOrOpen = true := sm_okMq_of [[0, 1, 4, 5], [8, 9, 12, 13, 16, 17, 20, 21, 24], [27, 28, 31, 34, 35, 38, 39, 42, 43, 46, 49, 50, 53, 56, 57, 60, 61, 64, 65, 68], [68]] (by decide +kernel)
theorem ok_X7_endPathOrOpen : sm_OK sm_P pm_X7_endPathOrOpen := ⟨om_X7_endPathOrOpen, fun _ => ⟨sm_inw 2 206 rfl rfl, sm_inw 0 2 rfl rfl⟩⟩
theorem om_X7_endSpan : sm_okM sm_P pm_X7_endSpan = true := sm_okMq_of [[0, 1, 4, 6], [9, 10], [13, 14], [14, 15, 16], [19, 20, 23, 26], [29, 30, 33, 36], [36, 37, 38], [41, 42, 45, 48, 49, 50], [53, 54, 57, 60], [60, 62, 63, 65, 66, 69, 70, 73, 76, 77, 79, 80, 83, 84, 87]] (by decide +kernel)
theorem ok_X7_endSpan : sm_OK sm_P pm_X7_endSpan := ⟨om_X7_endSpan, fun _ => ⟨sm_inw 2 226 rfl rfl, sm_inw 0 2 rfl rfl⟩⟩
theorem om_X7_find : sm_okM sm_P pm_X7_find = true := sm_okMq_of [[0, 1, 3], [3, 5, 6, 9], [12, 13, 16, 18, 19, 20, 21], [24, 25, 28, 30, 31, 32], [35, 36, 39, 41, 42], [43, 46], [49, 50]] (by decide +kernel)
theorem ok_X7_find : sm_OK sm_P pm_X7_find := ⟨om_X7_find, fun _ => ⟨sm_inw 2 160 rfl rfl, sm_inw 0 2 rfl rfl⟩⟩
theorem om_X7_init : sm_okM sm_P pm_X7_init = true := sm_okMq_of [[0, 1, 4, 5, 8, 9, 12, 15, 16, 19, 20, 23, 26, 27, 29, 31, 34, 35, 37, 39, 42, 43, 45, 47, 50, 51, 52, 55, 56, 59, 60, 63, 66, 67, 68, 71, 72, 73, 76, 77, 78], [78, 81, 82, 83, 86, 87, 88, 91]] (by decide +kernel)
theorem ok_X7_init : sm_OK sm_P pm_X7_init := ⟨om_X7_init, fun _ => ⟨sm_inw 0 30 rfl rfl, sm_inw 0 2 rfl rfl⟩⟩
theorem om_X7_meaningFault : sm_okM sm_P pm_X7_meaningFault = true := sm_okMq_of [[0, 1, 2, 3, 4], [4, 5, 6, 9, 12], [15, 16, 19, 22, 23, 24, 25, 26, 28], [31, 32, 35, 38, 39, 40, 43, 44], [47, 48], [51, 52], [52, 54, 56], [59, 60, 61, 62, 63, 66, 69, 70, 71, 74, 76], [76, 78], [81, 82, 83, 86, 89, 90, 91, 94, 96], [97, 98, 99, 102, 103, 106], [109, 110]] (by decide +kernel)
theorem ok_X7_meaningFault : sm_OK sm_P pm_X7_meaningFault := ⟨om_X7_meaningFault, fun _ => ⟨sm_inw 2 132 rfl rfl, sm_inw 0 2 rfl rfl⟩⟩
theorem om_X7_numberNew : sm_okM sm_P pm_X7_numberNew = true := sm_okMq_of [[0, 1], [44, 45, 48, 49, 52, 55, 56, 57, 58, 61, 64, 65, 68, 71, 72, 73], [74, 75, 78, 79, 82, 85, 86, 87, 89, 92, 95, 96, 99, 102, 103, 104], [105, 106, 109, 110, 113, 116, 117, 118, 120, 123, 126, 127, 130, 133, 134, 135], [136, 137, 140, 141, 144, 147, 148, 149, 150, 153, 156, 157, 160, 163, 164, 165], [166, 167, 170, 171, 174, 176], [179, 180], [183, 184], [184, 187, 188, 191, 194, 195, 196]] (by decide +kernel)
theorem ok_X7_numberNew : sm_OK sm_P pm_X7_numberNew := ⟨om_X7_numberNew, fun _ => ⟨sm_inw 2 145 rfl rfl, sm_inw 0 2 rfl rfl⟩⟩
theorem om_X7_readTape : sm_okM sm_P pm_X7_readTape = true := sm_okMq_of [[0, 1, 4, 7, 8, 9, 12, 13, 16, 17, 18, 21, 22, 25, 26, 27], [30, 31, 34, 35], [35, 36], [39, 40, 43, 46, 47, 50, 53], [53, 54]] (by decide +kernel)
theorem ok_X7_readTape : sm_OK sm_P pm_X7_readTape := ⟨om_X7_readTape, fun _ => ⟨sm_inw 2 69 rfl rfl, sm_inw 0 2 rfl rfl⟩⟩
theorem om_X7_syntaxFault : sm_okM sm_P pm_X7_syntaxFault = true := sm_okMq_of [[0, 1, 4, 7, 8, 9, 10, 11], [11, 12, 13, 16, 19], [22, 23, 26, 27, 28, 31, 34, 35, 36, 37, 40, 41, 42], [45, 46, 47, 50, 53, 54, 55, 58, 59], [60, 61, 62, 65, 68, 69, 70, 73, 74, 77], [80, 81]] (by decide +kernel)
theorem ok_X7_syntaxFault : sm_OK sm_P pm_X7_syntaxFault := ⟨om_X7_syntaxFault, fun _ => ⟨sm_inw 2 107 rfl rfl, sm_inw 0 2 rfl rfl⟩⟩
theorem om_X7_take : sm_okM sm_P pm_X7_take = true := sm_okMq_of [[0, 1], [136, 137, 138, 141, 142], [143, 144, 145, 148], [149, 150, 151, 152, 155], [156, 157, 158, 159, 162], [163, 164, 165, 166, 169], [170, 171, 172, 173, 176], [177, 178, 180], [183, 184, 186], [189, 190, 193, 194, 196], [199, 200], [203, 204], [204, 207], [207, 208], [209, 210, 211, 212, 215], [216, 217, 218, 219, 220, 221, 224]] (by decide +kernel)
theorem ok_X7_take : sm_OK sm_P pm_X7_take := ⟨om_X7_take, fun _ => ⟨sm_inw 2 137 rfl rfl, sm_inw 0 2 rfl rfl⟩⟩
theorem om_X7_takeInt : sm_okM sm_P pm_X7_takeInt = true := sm_okMq_of [[0, 1, 3], [6, 7, 10], [13, 14, 15], [18, 19], [19, 21, 22, 23], [26, 27, 29, 32], [35, 36, 37, 40, 42], [45, 46, 48, 51], [54, 55, 57, 60], [60, 61]] (by decide +kernel)
theorem ok_X7_takeInt : sm_OK sm_P pm_X7_takeInt := ⟨om_X7_takeInt, fun _ => ⟨sm_inw 2 199 rfl rfl, sm_inw 0 2 rfl rfl⟩⟩
theorem om_X7_takeNew : sm_okM sm_P pm_X7_takeNew = true := sm_okMq_of [[0, 1, 2], [2, 3, 4, 7], [10, 11, 14, 15, 16, 17, 18], [21, 22], [23, 26], [29, 30, 33, 35], [38, 40], [43, 44, 47], [47, 48, 49, 52, 54], [57, 58, 61, 62, 65, 66, 67, 68, 71, 72, 75, 76, 77, 78, 81, 82, 85, 86, 87, 90, 91, 92, 93, 96, 97, 98, 101], [101, 102]] (by decide +kernel)
theorem ok_X7_takeNew : sm_OK sm_P pm_X7_takeNew := ⟨om_X7_takeNew, fun _ => ⟨sm_inw 2 141 rfl rfl, sm_inw 0 2 rfl rfl⟩⟩
theorem om_X7_takeOpen : sm_okM sm_P pm_X7_takeOpen = true := sm_okMq_of [[0, 1, 2, 3, 6, 8, 10, 11], [14, 15], [16, 17, 19], [22, 23, 25, 28, 29, 32, 33, 36, 39], [42, 43], [46, 47], [47], [48, 49, 51, 54, 55, 58, 59, 62], [65, 66, 69, 70, 73, 76], [79, 80], [81, 82, 84], [84, 86, 87, 90, 93], [96, 97, 100, 103, 106, 108, 109, 110, 113], [116, 117], [118, 121], [124, 125]] (by decide +kernel)
theorem ok_X7_takeOpen : sm_OK sm_P pm_X7_takeOpen := ⟨om_X7_takeOpen, fun _ => ⟨sm_inw 2 172 rfl rfl, sm_inw 0 2 rfl rfl⟩⟩
theorem om_X7_takePath : sm_okM sm_P pm_X7_takePath = true := sm_okMq_of [[0, 1, 2, 3, 6, 8, 10, 11], [14, 15], [16, 17, 18], [21, 22, 24, 27, 28], [29, 30, 32, 35, 36, 39, 40, 43], [46, 47], [50, 51], [51]] (by decide +kernel)
theorem ok_X7_takePath : sm_OK sm_P pm_X7_takePath := ⟨om_X7_takePath, fun _ => ⟨sm_inw 2 156 rfl rfl, sm_inw 0 2 rfl rfl⟩⟩
theorem om_X7_takeSpanTime : sm_okM sm_P pm_X7_takeSpanTime = true := sm_okMq_of [[0, 1, 2, 3, 6, 8, 10, 11], [14, 15], [16, 17, 19], [22, 23, 25, 28, 29, 30, 33], [36, 37, 39, 42], [42, 43]] (by decide +kernel)
theorem ok_X7_takeSpanTime : sm_OK sm_P pm_X7_takeSpanTime := ⟨om_X7_takeSpanTime, fun _ => ⟨sm_inw 2 183 rfl rfl, sm_inw 0 2 rfl rfl⟩⟩
theorem om_X7_takeTrust : sm_okM sm_P pm_X7_takeTrust = true := sm_okMq_of [[0, 1], [4, 5, 7], [10, 11], [12, 13, 16, 17, 20, 21]] (by decide +kernel)
theorem ok_X7_takeTrust : sm_OK sm_P pm_X7_takeTrust := ⟨om_X7_takeTrust, fun _ => ⟨sm_inw 2 191 rfl rfl, sm_inw 0 2 rfl rfl⟩⟩
theorem om_X7_takeWhere : sm_okM sm_P pm_X7_takeWhere = true := sm_okMq_of [[0, 1, 3], [6, 7], [10, 11], [11, 13, 14, 15, 17], [20, 21], [24, 25], [25, 28, 30, 32, 33], [36, 37], [38, 39, 42, 44], [47, 48, 51, 54], [57, 58, 61, 64], [64, 66, 69, 70]] (by decide +kernel)
theorem ok_X7_takeWhere : sm_OK sm_P pm_X7_takeWhere := ⟨om_X7_takeWhere, fun _ => ⟨sm_inw 2 164 rfl rfl, sm_inw 0 2 rfl rfl⟩⟩
theorem om_X8_bound : sm_okM sm_P pm_X8_bound = true := sm_okMq_of [[0, 1, 2, 5], [8, 9, 12, 13, 14, 15, 16, 19, 20, 21, 22], [22]] (by decide +kernel)
theorem ok_X8_bound : sm_OK sm_P pm_X8_bound := ⟨om_X8_bound, fun _ => ⟨sm_inw 2 222 rfl rfl, sm_inw 0 6 rfl rfl⟩⟩
theorem om_X8_hasRow : sm_okM sm_P pm_X8_hasRow = true := sm_okMq_of [[0, 1], [4, 5, 6, 9, 10], [13, 14], [17, 18], [18]] (by decide +kernel)
theorem ok_X8_hasRow : sm_OK sm_P pm_X8_hasRow := ⟨om_X8_hasRow, fun _ => ⟨sm_inw 2 218 rfl rfl, sm_inw 0 6 rfl rfl⟩⟩
theorem om_X8_holds : sm_okM sm_P pm_X8_holds = true := sm_okMq_of [[0, 1, 2, 5], [8, 9], [10, 11, 12, 15, 16, 17, 18, 21, 22, 23, 26, 27, 28, 29, 32, 33, 34, 35, 38, 39, 40, 41], [44, 45, 46, 49, 50, 51], [54, 55], [58, 59], [59]] (by decide +kernel)
theorem ok_X8_holds : sm_OK sm_P pm_X8_holds := ⟨om_X8_holds, fun _ => ⟨sm_inw 3 232 rfl rfl, sm_inw 0 6 rfl rfl⟩⟩
theorem om_X8_init_20 : sm_okM sm_P pm_X8_init_20 = true := sm_okMq_of [[0, 1, 4, 5, 6, 8, 11, 12, 13, 15, 18, 19, 20, 22, 25, 26, 27, 29, 32]] (by decide +kernel)
theorem ok_X8_init_20 : sm_OK sm_P pm_X8_init_20 := ⟨om_X8_init_20, fun _ => ⟨sm_inw 0 87 rfl rfl, sm_inw 0 6 rfl rfl⟩⟩
theorem om_X8_init_24 : sm_okM sm_P pm_X8_init_24 = true := sm_okMq_of [[0, 1, 4, 5, 6, 8, 11, 12, 13, 15, 18, 19, 20, 22, 25, 26, 27, 29, 32]] (by decide +kernel)
theorem ok_X8_init_24 : sm_OK sm_P pm_X8_init_24 := ⟨om_X8_init_24, fun _ => ⟨sm_inw 0 87 rfl rfl, sm_inw 0 6 rfl rfl⟩⟩
theorem om_X8_init_40 : sm_okM sm_P pm_X8_init_40 = true := sm_okMq_of [[0, 1, 4, 5, 6, 8, 11, 12, 13, 15, 18, 19, 20, 22, 25, 26, 27, 29, 32]] (by decide +kernel)
theorem ok_X8_init_40 : sm_OK sm_P pm_X8_init_40 := ⟨om_X8_init_40, fun _ => ⟨sm_inw 0 87 rfl rfl, sm_inw 0 6 rfl rfl⟩⟩
theorem om_X8_init_480 : sm_okM sm_P pm_X8_init_480 = true := sm_okMq_of [[0, 1, 4, 5, 6, 8, 11, 12, 13, 15, 18, 19, 20, 22, 25, 26, 27, 29, 32]] (by decide +kernel)
theorem ok_X8_init_480 : sm_OK sm_P pm_X8_init_480 := ⟨om_X8_init_480, fun _ => ⟨sm_inw 0 87 rfl rfl, sm_inw 0 6 rfl rfl⟩⟩
theorem om_X8_isSet : sm_okM sm_P pm_X8_isSet = true := sm_okMq_of [[0, 1, 2, 5], [8, 9, 10, 13, 14, 15, 16, 19, 20], [23, 24, 27, 28, 29, 30], [33, 34, 35, 38, 39, 40, 41, 44, 45], [48, 49], [52, 53], [53]] (by decide +kernel)
theorem ok_X8_isSet : sm_OK sm_P pm_X8_isSet := ⟨om_X8_isSet, fun _ => ⟨sm_inw 3 227 rfl rfl, sm_inw 0 6 rfl rfl⟩⟩
theorem om_X8_put : sm_okM sm_P pm_X8_put = true := sm_okMq_of [[0, 1, 2, 5], [8, 9, 12, 13, 14, 15, 16, 19, 20, 21, 22], [22]] (by decide +kernel)
theorem ok_X8_put : sm_OK sm_P pm_X8_put := ⟨om_X8_put, fun _ => ⟨sm_inw 2 214 rfl rfl, sm_inw 0 6 rfl rfl⟩⟩
theorem om_X9_endOfDigits : sm_okM sm_P pm_X9_endOfDigits = true := sm_okMq_of [[0, 1, 2], [2, 3, 4], [7, 8, 9, 10, 13], [16, 19], [22, 23]] (by decide +kernel)
theorem ok_X9_endOfDigits : sm_OK sm_P pm_X9_endOfDigits := ⟨om_X9_endOfDigits, fun _ => ⟨sm_inw 2 98 rfl rfl, sm_inw 0 3 rfl rfl⟩⟩
theorem om_X9_endOfLetters : sm_okM sm_P pm_X9_endOfLetters = true := sm_okMq_of [[0, 1, 2], [2, 3, 4], [7, 8, 9, 10, 13], [16, 19], [22, 23]] (by decide +kernel)
theorem ok_X9_endOfLetters : sm_OK sm_P pm_X9_endOfLetters := ⟨om_X9_endOfLetters, fun _ => ⟨sm_inw 2 87 rfl rfl, sm_inw 0 3 rfl rfl⟩⟩
theorem om_X9_init : sm_okM sm_P pm_X9_init = true := sm_okMq_of [[0, 1, 4, 5, 8, 10, 13, 14, 17, 19, 22, 23, 26, 28, 31, 32, 33, 36]] (by decide +kernel)
theorem ok_X9_init : sm_OK sm_P pm_X9_init := ⟨om_X9_init, fun _ => ⟨sm_inw 0 36 rfl rfl, sm_inw 0 3 rfl rfl⟩⟩
theorem om_X9_isBlank : sm_okM sm_P pm_X9_isBlank = true := sm_okMq_of [[0, 1, 3], [6, 7, 9], [12, 13, 15], [18, 19, 21], [24, 25], [28, 29], [29]] (by decide +kernel)
theorem ok_X9_isBlank : sm_OK sm_P pm_X9_isBlank := ⟨om_X9_isBlank, fun _ => ⟨sm_inw 2 77 rfl rfl, sm_inw 0 3 rfl rfl⟩⟩
theorem om_X9_isDigit : sm_okM sm_P pm_X9_isDigit = true := sm_okMq_of [[0, 1, 3], [6, 7, 9], [12, 13], [16, 17], [17]] (by decide +kernel)
theorem ok_X9_isDigit : sm_OK sm_P pm_X9_isDigit := ⟨om_X9_isDigit, fun _ => ⟨sm_inw 2 95 rfl rfl, sm_inw 0 3 rfl rfl⟩⟩


/-! the tables are in order -/
theorem om_X5_copyUp : sm_okM sm_P pm_X5_copyUp = true := sm_okMf_of [[0, 1, 2, 5], [8, 9, 10, 11, 12, 15], [18, 19, 22, 23, 24, 27, 28, 29, 32, 33, 34, 35, 36, 39, 40, 41, 44, 47], [47]] (by decide +kernel)
theorem ok_X5_copyUp : sm_OK sm_P pm_X5_copyUp := ⟨om_X5_copyUp, fun _ => ⟨sm_inw 3 120 rfl rfl, sm_inw 0 11 rfl rfl⟩⟩
theorem om_X5_hasLevel : sm_okM sm_P pm_X5_hasLevel = true := sm_okMf_of [[0, 1], [4, 5, 6, 7, 8, 11, 12, 13, 16, 17], [20, 21], [24, 25], [25]] (by decide +kernel)
theorem ok_X5_hasLevel : sm_OK sm_P pm_X5_hasLevel := ⟨om_X5_hasLevel, fun _ => ⟨sm_inw 3 97 rfl rfl, sm_inw 0 11 rfl rfl⟩⟩
theorem om_X5_hasNode : sm_okM sm_P pm_X5_hasNode = true := sm_okMf_of [[0, 1], [4, 5, 6, 9], [12, 13], [16, 17], [17]] (by decide +kernel)
theorem ok_X5_hasNode : sm_OK sm_P pm_X5_hasNode := ⟨om_X5_hasNode, fun _ => ⟨sm_inw 3 61 rfl rfl, sm_inw 0 11 rfl rfl⟩⟩
theorem om_X5_init_6809 : sm_okM sm_P pm_X5_init_6809 = true := sm_okMf_of [[0, 1, 4, 5, 6, 9, 10, 11, 14, 15, 16, 17, 18, 19, 20, 22, 25, 26, 27, 29, 32, 33, 34, 36, 39, 40, 41, 43, 46]] (by decide +kernel)
theorem ok_X5_init_6809 : sm_OK sm_P pm_X5_init_6809 := ⟨om_X5_init_6809, fun _ => ⟨sm_inw 1 88 rfl rfl, sm_inw 0 11 rfl rfl⟩⟩
theorem om_X5_init_7414 : sm_okM sm_P pm_X5_init_7414 = true := sm_okMf_of [[0, 1, 4, 5, 6, 9, 10, 11, 14, 15, 16, 17, 18, 19, 20, 22, 25, 26, 27, 29, 32, 33, 34, 36, 39, 40, 41, 43, 46]] (by decide +kernel)
theorem ok_X5_init_7414 : sm_OK sm_P pm_X5_init_7414 := ⟨om_X5_init_7414, fun _ => ⟨sm_inw 1 88 rfl rfl, sm_inw 0 11 rfl rfl⟩⟩
theorem om_X5_init_9540 : sm_okM sm_P pm_X5_init_9540 = true := sm_okMf_of [[0, 1, 4, 5, 6, 9, 10, 11, 14, 15, 16, 17, 18, 19, 20, 22, 25, 26, 27, 29, 32, 33, 34, 36, 39, 40, 41, 43, 46]] (by decide +kernel)
theorem ok_X5_init_9540 : sm_OK sm_P pm_X5_init_9540 := ⟨om_X5_init_9540, fun _ => ⟨sm_inw 1 88 rfl rfl, sm_inw 0 11 rfl rfl⟩⟩
theorem om_X5_loose : sm_okM sm_P pm_X5_loose = true := sm_okMf_of [[0, 1, 2, 5], [8, 9, 10, 13], [16, 17, 20, 21, 22, 23, 24, 27, 28, 29, 30, 31, 34, 35, 37, 38], [38]] (by decide +kernel)
theorem ok_X5_loose : sm_OK sm_P pm_X5_loose := ⟨om_X5_loose, fun _ => ⟨sm_inw 3 57 rfl rfl, sm_inw 0 11 rfl rfl⟩⟩
theorem om_X5_reach : sm_okM sm_P pm_X5_reach = true := sm_okMf_of [[0, 1, 2, 5], [8, 9, 10, 13], [16, 17, 18, 21], [24, 25], [26, 27, 30, 31, 32, 35, 36, 37, 38, 41, 42, 43, 44, 45, 46]] (by decide +kernel)
theorem ok_X5_reach : sm_OK sm_P pm_X5_reach := ⟨om_X5_reach, fun _ => ⟨sm_inw 3 93 rfl rfl, sm_inw 0 11 rfl rfl⟩⟩
theorem om_X5_tighten : sm_okM sm_P pm_X5_tighten = true := sm_okMf_of [[0, 1], [4, 5, 6, 7, 8, 11, 12, 13, 16, 17], [20, 21], [24, 25], [25, 27, 29], [32, 33], [36, 37, 38, 41], [44, 45], [48, 49, 50, 53], [56, 57], [58, 59, 60], [63, 65], [68, 69], [72, 73], [73], [74, 76, 77, 80, 81, 82, 83, 84, 87, 88, 89, 90, 92, 93, 94, 97, 98, 100, 101, 104, 105, 106, 108, 109, 112, 113, 114, 116, 118, 120, 121, 124, 125, 126, 128, 129, 132, 134, 136, 137, 138], [138, 140, 141], [144, 145], [146, 147, 150, 152, 154, 155, 158, 159, 160, 162, 163, 164, 166], [169, 170], [171, 172, 174], [174, 176, 177, 180], [183, 185, 187, 188, 191, 192, 193, 195, 196, 199, 201, 203, 204, 205, 207, 208, 210, 212, 213, 216, 218, 220, 221, 222], [225, 226, 228, 230, 232, 235], [235, 238], [241, 242]] (by decide +kernel)
theorem ok_X5_tighten : sm_OK sm_P pm_X5_tighten := ⟨om_X5_tighten, fun _ => ⟨sm_inw 3 69 rfl rfl, sm_inw 0 11 rfl rfl⟩⟩
theorem om_X5_tightenRow : sm_okM sm_P pm_X5_tightenRow = true := sm_okMf_of [[0, 1, 3], [3, 5, 6, 9], [12, 13, 14, 17, 18, 20, 21, 22, 23, 25, 27, 28, 31, 32, 34, 35, 36], [39, 40, 43, 44, 46, 47, 49, 50], [50, 53], [56]] (by decide +kernel)
theorem ok_X5_tightenRow : sm_OK sm_P pm_X5_tightenRow := ⟨om_X5_tightenRow, fun _ => ⟨sm_inw 3 73 rfl rfl, sm_inw 0 11 rfl rfl⟩⟩
theorem om_X6_cheapestGiving : sm_okM sm_P pm_X6_cheapestGiving = true := sm_okMf_of [[0, 1, 2, 3, 4, 5, 7], [7, 9, 10, 13], [16, 17, 18, 21, 23, 24, 27, 29, 30, 31], [34, 36, 37], [40, 42, 43, 45, 46], [46, 49], [52, 53]] (by decide +kernel)
theorem ok_X6_cheapestGiving : sm_OK sm_P pm_X6_cheapestGiving := ⟨om_X6_cheapestGiving, fun _ => ⟨sm_inw 4 32 rfl rfl, sm_inw 0 12 rfl rfl⟩⟩
theorem om_X6_goThroughAll : sm_okM sm_P pm_X6_goThroughAll = true := sm_okMf_of [[0, 1, 3], [3, 5, 8], [11, 13, 14, 15, 16, 17], [20], [23, 24, 27, 28, 29, 31, 32, 35, 36, 37, 40, 41, 44, 45, 46, 49, 50, 53, 56], [59, 60], [61, 62, 65, 67, 68, 71, 74], [77, 78], [81, 82], [82, 83], [83, 86], [89, 90]] (by decide +kernel)
theorem ok_X6_goThroughAll : sm_OK sm_P pm_X6_goThroughAll := ⟨om_X6_goThroughAll, fun _ => ⟨sm_inw 3 232 rfl rfl, sm_inw 0 12 rfl rfl⟩⟩
theorem om_X6_holdTogether : sm_okM sm_P pm_X6_holdTogether = true := sm_okMf_of [[0, 1, 4, 7, 9, 10, 12, 13, 15], [15, 17, 19], [22, 24], [27, 28, 31, 33, 34, 35], [38, 39, 41, 42, 43, 44, 45, 46], [49, 50, 53, 55, 57, 60, 61, 64, 66, 67, 70, 72, 75], [75, 78], [81, 83]] (by decide +kernel)
theorem ok_X6_holdTogether : sm_OK sm_P pm_X6_holdTogether := ⟨om_X6_holdTogether, fun _ => ⟨sm_inw 4 57 rfl rfl, sm_inw 0 12 rfl rfl⟩⟩
theorem om_X6_init : sm_okM sm_P pm_X6_init = true := sm_okMf_of [[0, 1, 4, 5, 8, 10, 13, 14, 17, 19, 22, 23, 26, 28, 31, 32, 33, 36, 37, 38, 41, 42, 44, 46, 49, 50, 51, 54, 55, 56, 59, 60, 61, 64, 65, 66, 69, 70, 71, 74, 75], [75, 76, 79]] (by decide +kernel)
theorem ok_X6_init : sm_OK sm_P pm_X6_init := ⟨om_X6_init, fun _ => ⟨sm_inw 1 181 rfl rfl, sm_inw 0 12 rfl rfl⟩⟩
theorem om_X6_isGivingUp : sm_okM sm_P pm_X6_isGivingUp = true := sm_okMf_of [[0, 1, 2, 3, 4, 5, 6, 7, 10, 11, 12], [15, 16], [17, 18, 20], [20, 22, 24], [27, 28, 30, 31, 32, 33], [36, 37, 40, 41, 42, 44, 45, 46, 47], [50, 51], [52, 55], [58, 59]] (by decide +kernel)
theorem ok_X6_isGivingUp : sm_OK sm_P pm_X6_isGivingUp := ⟨om_X6_isGivingUp, fun _ => ⟨sm_inw 4 12 rfl rfl, sm_inw 0 12 rfl rfl⟩⟩
theorem om_X6_isKnown : sm_okM sm_P pm_X6_isKnown = true := sm_okMf_of [[0, 1, 4], [7, 8, 9, 12, 13, 14, 17, 18, 19, 22, 23, 26, 27, 30, 31, 32, 33, 34, 37, 38, 39, 40, 41, 42, 43, 44, 45, 46, 49], [52, 53], [56, 57], [57, 60, 61, 63], [63, 65, 67], [70, 71, 74], [77, 78, 79, 81, 84, 87], [90, 91, 94], [97, 98], [101, 102], [102]] (by decide +kernel)
theorem ok_X6_isKnown : sm_OK sm_P pm_X6_isKnown := ⟨om_X6_isKnown, fun _ => ⟨sm_inw 3 227 rfl rfl, sm_inw 0 12 rfl rfl⟩⟩
theorem om_X6_isQuarrel : sm_okM sm_P pm_X6_isQuarrel = true := sm_okMf_of [[0, 1, 4, 5, 6], [9, 10], [11, 12, 13], [13, 14, 16], [19, 20, 21, 22, 23, 24], [27, 28, 31, 32, 33, 34, 35, 36, 37, 38, 39], [42, 43], [44, 47], [50, 51]] (by decide +kernel)
theorem ok_X6_isQuarrel : sm_OK sm_P pm_X6_isQuarrel := ⟨om_X6_isQuarrel, fun _ => ⟨sm_inw 4 8 rfl rfl, sm_inw 0 12 rfl rfl⟩⟩
theorem om_X6_isTight : sm_okM sm_P pm_X6_isTight = true := sm_okMf_of [[0, 1, 4], [7, 8, 9, 12, 13, 16, 17, 18, 19, 20, 23, 24, 25, 26, 27, 30], [33, 34], [37, 38], [38, 41, 42, 43, 46, 47, 50], [53, 54, 55, 58], [58, 59, 62]] (by decide +kernel)
theorem ok_X6_isTight : sm_OK sm_P pm_X6_isTight := ⟨om_X6_isTight, fun _ => ⟨sm_inw 4 53 rfl rfl, sm_inw 0 12 rfl rfl⟩⟩
theorem om_X6_itemOf : sm_okM sm_P pm_X6_itemOf = true := sm_okMf_of [[0, 1, 3], [6, 7], [10, 11, 13, 14, 16, 17], [17]] (by decide +kernel)
theorem ok_X6_itemOf : sm_OK sm_P pm_X6_itemOf := ⟨om_X6_itemOf, fun _ => ⟨sm_inw 4 60 rfl rfl, sm_inw 0 12 rfl rfl⟩⟩
theorem om_X6_listRing : sm_okM sm_P pm_X6_listRing = true := sm_okMf_of [[0, 1, 2, 3, 5], [5, 7, 9], [12, 13, 16, 18, 19, 20], [23], [26, 27, 28, 29, 30, 32, 33, 34, 37], [40, 41, 44, 45, 48, 50, 53, 54, 55, 56, 59, 60, 61, 64], [67, 68, 69, 71, 72, 73, 74], [74, 77], [80]] (by decide +kernel)
theorem ok_X6_listRing : sm_OK sm_P pm_X6_listRing := ⟨om_X6_listRing, fun _ => ⟨sm_inw 4 65 rfl rfl, sm_inw 0 12 rfl rfl⟩⟩
theorem om_X6_listSets : sm_okM sm_P pm_X6_listSets = true := sm_okMf_of [[0, 1, 2], [2, 3, 6], [9, 10, 11, 12, 13, 14], [17, 18, 21, 22], [25], [28, 29, 30, 33], [36, 37, 40, 43], [46, 47, 50, 51, 54, 55, 56, 57, 58, 61, 62, 63, 66], [66, 67, 68, 69, 72], [75, 76, 79, 82], [85, 86, 89, 90, 93, 94, 95, 96, 97, 100, 101, 102, 105], [105, 108], [111]] (by decide +kernel)
theorem ok_X6_listSets : sm_OK sm_P pm_X6_listSets := ⟨om_X6_listSets, fun _ => ⟨sm_inw 3 238 rfl rfl, sm_inw 0 12 rfl rfl⟩⟩
theorem om_X7_addSaying : sm_okM sm_P pm_X7_addSaying = true := sm_okMf_of [[0, 1, 4, 5, 8, 9, 10, 11, 14, 15, 16, 19, 21], [24, 25, 28, 29, 32, 33, 34, 35, 36, 39], [39, 40, 43, 46, 47, 48, 49, 50, 53, 56, 57, 58, 59, 60, 61, 62]] (by decide +kernel)
theorem ok_X7_addSaying : sm_OK sm_P pm_X7_addSaying := ⟨om_X7_addSaying, fun _ => ⟨sm_inw 2 158 rfl rfl, sm_inw 0 2 rfl rfl⟩⟩
theorem om_X7_changePlaces : sm_okM sm_P pm_X7_changePlaces = true := sm_okMf_of [[0, 1, 4, 5, 6, 7, 10, 11]] (by decide +kernel)
theorem ok_X7_changePlaces : sm_OK sm_P pm_X7_changePlaces := ⟨om_X7_changePlaces, fun _ => ⟨sm_inw 2 235 rfl rfl, sm_inw 0 2 rfl rfl⟩⟩
theorem om_X7_endPathOrOpen : sm_okM sm_P pm_X7_endPathOrOpen = true := sm_okMf_of [[0, 1, 4, 5], [8, 9, 12, 13, 16, 17, 20, 21, 24], [27, 28, 31, 34, 35, 38, 39, 42, 43, 46, 49, 50, 53, 56, 57, 60, 61, 64, 65, 68], [68]] (by decide +kernel)
theorem ok_X7_endPathOrOpen : sm_OK sm_P pm_X7_endPathOrOpen := ⟨om_X7_endPathOrOpen, fun _ => ⟨sm_inw 2 194 rfl rfl, sm_inw 0 2 rfl rfl⟩⟩
theorem om_X7_endSpan : sm_okM sm_P pm_X7_endSpan = true := sm_okMf_of [[0, 1, 4, 7, 8, 9, 12, 15, 16, 17, 18, 19, 22, 24], [27, 28, 31, 34, 35, 36, 38, 39, 42, 45, 47, 48, 49, 50, 52, 53, 56, 59, 60, 61, 64, 66, 68, 71, 72, 75, 77, 79, 82, 83, 84, 85, 86], [86, 87, 88, 89, 92, 93, 96, 99, 100, 101, 102, 105, 106, 109]] (by decide +kernel)
theorem ok_X7_endSpan : sm_OK sm_P pm_X7_endSpan := ⟨om_X7_endSpan, fun _ => ⟨sm_inw 2 210 rfl rfl, sm_inw 0 2 rfl rfl⟩⟩
theorem om_X7_find : sm_okM sm_P pm_X7_find = true := sm_okMf_of [[0, 1, 3], [3, 5, 6, 9], [12, 13, 16, 18, 19, 20, 21], [24, 25, 28, 30, 31, 32], [35, 36, 39, 41, 42], [43, 46], [49, 50]] (by decide +kernel)
theorem ok_X7_find : sm_OK sm_P pm_X7_find := ⟨om_X7_find, fun _ => ⟨sm_inw 2 166 rfl rfl, sm_inw 0 2 rfl rfl⟩⟩
theorem om_X7_init : sm_okM sm_P pm_X7_init = true := sm_okMf_of [[0, 1, 4, 5, 8, 9, 12, 15, 16, 19, 20, 23, 26, 27, 29, 31, 34, 35, 37, 39, 42, 43, 45, 47, 50, 51, 52, 55, 56, 59, 60, 63, 66, 67, 68, 71, 72, 73, 76, 77, 78], [78, 81, 82, 83, 86, 87, 88, 91, 92, 93, 96]] (by decide +kernel)
theorem ok_X7_init : sm_OK sm_P pm_X7_init := ⟨om_X7_init, fun _ => ⟨sm_inw 0 30 rfl rfl, sm_inw 0 2 rfl rfl⟩⟩
theorem om_X7_meaningFault : sm_okM sm_P pm_X7_meaningFault = true := sm_okMf_of [[0, 1, 2, 3, 4], [4, 5, 6, 9, 12], [15, 16, 19, 22, 23, 24, 25, 26, 28], [31, 32, 35, 38, 39, 40, 43, 44], [47, 48], [51, 52], [52, 54, 56], [59, 60, 61, 62, 63, 66, 69, 70, 71, 74, 76], [76, 78], [81, 82, 83, 86, 89, 90, 91, 94, 96], [97, 98, 99, 102, 103, 106], [109, 110]] (by decide +kernel)
theorem ok_X7_meaningFault : sm_OK sm_P pm_X7_meaningFault := ⟨om_X7_meaningFault, fun _ => ⟨sm_inw 2 141 rfl rfl, sm_inw 0 2 rfl rfl⟩⟩
theorem om_X7_numberNew : sm_okM sm_P pm_X7_numberNew = true := sm_okMf_of [[0, 1], [44, 45, 48, 49, 52, 53, 54, 55, 58], [59, 60, 63, 64, 67, 68, 69, 70, 73], [74, 75, 78, 79, 82, 83, 84, 85, 88], [89, 90, 93, 94, 97, 98, 99, 100, 103], [104, 105, 108]] (by decide +kernel)
theorem ok_X7_numberNew : sm_OK sm_P pm_X7_numberNew := ⟨om_X7_numberNew, fun _ => ⟨sm_inw 2 154 rfl rfl, sm_inw 0 2 rfl rfl⟩⟩
theorem om_X7_readTape : sm_okM sm_P pm_X7_readTape = true := sm_okMf_of [[0, 1, 4, 7, 8, 9, 12, 13, 16, 17, 18, 21, 22, 25, 26, 27], [30, 31, 34, 35], [35, 36], [39, 40, 43, 46, 47, 50, 53], [53, 54]] (by decide +kernel)
theorem ok_X7_readTape : sm_OK sm_P pm_X7_readTape := ⟨om_X7_readTape, fun _ => ⟨sm_inw 2 78 rfl rfl, sm_inw 0 2 rfl rfl⟩⟩
theorem om_X7_syntaxFault : sm_okM sm_P pm_X7_syntaxFault = true := sm_okMf_of [[0, 1, 4, 7, 8, 9, 10, 11], [11, 12, 13, 16, 19], [22, 23, 26, 27, 28, 31, 34, 35, 36, 37, 40, 41, 42], [45, 46, 47, 50, 53, 54, 55, 58, 59], [60, 61, 62, 65, 68, 69, 70, 73, 74, 77], [80, 81]] (by decide +kernel)
theorem ok_X7_syntaxFault : sm_OK sm_P pm_X7_syntaxFault := ⟨om_X7_syntaxFault, fun _ => ⟨sm_inw 2 116 rfl rfl, sm_inw 0 2 rfl rfl⟩⟩
theorem om_X7_take : sm_okM sm_P pm_X7_take = true := sm_okMf_of [[0, 1], [136, 137, 138, 141, 142], [143, 144, 145, 148], [149, 150, 151, 152, 155], [156, 157, 158, 159, 162], [163, 164, 165, 166, 169], [170, 171, 172, 173, 176], [177, 178, 179, 182, 183], [184, 185, 186, 187, 190], [191, 192, 193, 194, 195, 196, 199]] (by decide +kernel)
theorem ok_X7_take : sm_OK sm_P pm_X7_take := ⟨om_X7_take, fun _ => ⟨sm_inw 2 146 rfl rfl, sm_inw 0 2 rfl rfl⟩⟩
theorem om_X7_takeInt : sm_okM sm_P pm_X7_takeInt = true := sm_okMf_of [[0, 1, 3], [6, 7, 8, 11, 12], [13, 14, 16], [19, 20, 23, 24, 25, 27, 28, 29, 32, 33, 34], [37, 38, 40, 43], [46, 47, 48, 51, 53], [56, 57, 59, 62], [65, 66, 68, 71], [71, 72]] (by decide +kernel)
theorem ok_X7_takeInt : sm_OK sm_P pm_X7_takeInt := ⟨om_X7_takeInt, fun _ => ⟨sm_inw 2 190 rfl rfl, sm_inw 0 2 rfl rfl⟩⟩
theorem om_X7_takeJoin : sm_okM sm_P pm_X7_takeJoin = true := sm_okMf_of [[0, 1, 4, 7, 8, 9, 10, 11, 13], [16, 17, 20, 23, 24, 25, 26, 27, 28, 29], [29, 30, 32], [35, 36, 38], [41, 42, 45, 48, 49, 50, 51, 52, 55, 58, 59, 60, 61, 62, 63, 64, 65, 66, 67, 68], [68]] (by decide +kernel)
theorem ok_X7_takeJoin : sm_OK sm_P pm_X7_takeJoin := ⟨om_X7_takeJoin, fun _ => ⟨sm_inw 2 182 rfl rfl, sm_inw 0 2 rfl rfl⟩⟩
theorem om_X7_takeNew : sm_okM sm_P pm_X7_takeNew = true := sm_okMf_of [[0, 1, 2], [2, 3, 4, 7], [10, 11, 14, 15, 16, 17, 18], [21, 22], [23, 26], [29, 30, 33, 35], [38, 40], [43, 44, 47], [47, 48, 49, 52, 54], [57, 58, 61, 62, 65, 66, 67, 68, 71, 72, 75, 76, 77, 78, 81, 82, 85, 86, 87, 90, 91, 92, 93, 96, 97, 98, 101], [101, 102]] (by decide +kernel)
theorem ok_X7_takeNew : sm_OK sm_P pm_X7_takeNew := ⟨om_X7_takeNew, fun _ => ⟨sm_inw 2 150 rfl rfl, sm_inw 0 2 rfl rfl⟩⟩
theorem om_X7_takeOpen : sm_okM sm_P pm_X7_takeOpen = true := sm_okMf_of [[0, 1, 2, 3, 6, 8, 10, 11], [14, 15], [16, 17, 19], [22, 23, 25, 28, 29, 32, 35, 38, 39, 42, 43, 44], [47, 48], [51, 52], [52], [53, 54, 56, 59, 60, 63, 64, 67], [70, 71, 74, 77, 80, 81, 84, 85, 86], [89, 90], [91, 92, 94], [94, 96, 97, 100, 103], [106, 107, 110, 113, 116, 118, 119, 120, 123], [126, 127], [128, 131], [134, 135]] (by decide +kernel)
theorem ok_X7_takeOpen : sm_OK sm_P pm_X7_takeOpen := ⟨om_X7_takeOpen, fun _ => ⟨sm_inw 2 174 rfl rfl, sm_inw 0 2 rfl rfl⟩⟩
theorem om_X7_takePath : sm_okM sm_P pm_X7_takePath = true := sm_okMf_of [[0, 1, 2, 3, 6, 8, 10, 11], [14, 15], [16, 17, 18], [21, 22, 24, 27, 28], [29, 30, 32, 35, 36, 39, 40, 43], [46, 47], [50, 51], [51]] (by decide +kernel)
theorem ok_X7_takePath : sm_OK sm_P pm_X7_takePath := ⟨om_X7_takePath, fun _ => ⟨sm_inw 2 162 rfl rfl, sm_inw 0 2 rfl rfl⟩⟩
theorem om_X7_takeSpanTime : sm_okM sm_P pm_X7_takeSpanTime = true := sm_okMf_of [[0, 1, 2, 3, 6, 8, 10, 11], [14, 15], [16, 17, 19], [22, 23, 25, 28, 29, 30, 33], [36, 37, 39, 42], [42, 43]] (by decide +kernel)
theorem ok_X7_takeSpanTime : sm_OK sm_P pm_X7_takeSpanTime := ⟨om_X7_takeSpanTime, fun _ => ⟨sm_inw 2 178 rfl rfl, sm_inw 0 2 rfl rfl⟩⟩
theorem om_X7_takeTrust : sm_okM sm_P pm_X7_takeTrust = true := sm_okMf_of [[0, 1], [4, 5, 7], [10, 11], [12, 13, 16, 19, 20, 23, 26, 27, 28, 29, 30, 31]] (by decide +kernel)
theorem ok_X7_takeTrust : sm_OK sm_P pm_X7_takeTrust := ⟨om_X7_takeTrust, fun _ => ⟨sm_inw 2 186 rfl rfl, sm_inw 0 2 rfl rfl⟩⟩
theorem om_X7_takeWhere : sm_okM sm_P pm_X7_takeWhere = true := sm_okMf_of [[0, 1, 3], [6, 7], [10, 11], [11, 13, 14, 15, 17], [20, 21], [24, 25], [25, 28, 30, 32, 33], [36, 37], [38, 40], [43, 44, 47, 50, 51, 54, 57, 58, 59, 61, 62], [65, 66, 69, 72, 73, 76, 79, 80, 81, 83, 84], [84, 85]] (by decide +kernel)
theorem ok_X7_takeWhere : sm_OK sm_P pm_X7_takeWhere := ⟨om_X7_takeWhere, fun _ => ⟨sm_inw 2 170 rfl rfl, sm_inw 0 2 rfl rfl⟩⟩
theorem om_X8_bound : sm_okM sm_P pm_X8_bound = true := sm_okMf_of [[0, 1], [4, 5, 6, 9, 10], [13, 14, 17, 18, 19, 20, 21, 24, 25, 26, 27], [27]] (by decide +kernel)
theorem ok_X8_bound : sm_OK sm_P pm_X8_bound := ⟨om_X8_bound, fun _ => ⟨sm_inw 2 206 rfl rfl, sm_inw 0 6 rfl rfl⟩⟩
theorem om_X8_holds : sm_okM sm_P pm_X8_holds = true := sm_okMf_of [[0, 1, 2, 5, 6, 7, 8, 9, 12, 13, 14, 15], [18, 19], [22, 23, 24, 27, 28, 29, 30], [30, 31, 32, 33, 36, 37, 38, 39], [42, 43, 44, 47, 48, 49], [52, 53], [56, 57], [57]] (by decide +kernel)
theorem ok_X8_holds : sm_OK sm_P pm_X8_holds := ⟨om_X8_holds, fun _ => ⟨sm_inw 3 212 rfl rfl, sm_inw 0 6 rfl rfl⟩⟩
theorem om_X8_init_20 : sm_okM sm_P pm_X8_init_20 = true := sm_okMf_of [[0, 1, 4, 5, 6, 8, 11, 12, 13, 15, 18, 19, 20, 22, 25, 26, 27, 29, 32]] (by decide +kernel)
theorem ok_X8_init_20 : sm_OK sm_P pm_X8_init_20 := ⟨om_X8_init_20, fun _ => ⟨sm_inw 0 87 rfl rfl, sm_inw 0 6 rfl rfl⟩⟩
theorem om_X8_init_24 : sm_okM sm_P pm_X8_init_24 = true := sm_okMf_of [[0, 1, 4, 5, 6, 8, 11, 12, 13, 15, 18, 19, 20, 22, 25, 26, 27, 29, 32]] (by decide +kernel)
theorem ok_X8_init_24 : sm_OK sm_P pm_X8_init_24 := ⟨om_X8_init_24, fun _ => ⟨sm_inw 0 87 rfl rfl, sm_inw 0 6 rfl rfl⟩⟩
theorem om_X8_init_40 : sm_okM sm_P pm_X8_init_40 = true := sm_okMf_of [[0, 1, 4, 5, 6, 8, 11, 12, 13, 15, 18, 19, 20, 22, 25, 26, 27, 29, 32]] (by decide +kernel)
theorem ok_X8_init_40 : sm_OK sm_P pm_X8_init_40 := ⟨om_X8_init_40, fun _ => ⟨sm_inw 0 87 rfl rfl, sm_inw 0 6 rfl rfl⟩⟩
theorem om_X8_init_480 : sm_okM sm_P pm_X8_init_480 = true := sm_okMf_of [[0, 1, 4, 5, 6, 8, 11, 12, 13, 15, 18, 19, 20, 22, 25, 26, 27, 29, 32]] (by decide +kernel)
theorem ok_X8_init_480 : sm_OK sm_P pm_X8_init_480 := ⟨om_X8_init_480, fun _ => ⟨sm_inw 0 87 rfl rfl, sm_inw 0 6 rfl rfl⟩⟩
theorem om_X8_isSet : sm_okM sm_P pm_X8_isSet = true := sm_okMf_of [[0, 1, 2, 5, 6, 7, 8, 9], [12, 13, 16, 17, 18, 19], [22, 23, 24, 27, 28, 29, 30, 31], [34, 35], [38, 39], [39]] (by decide +kernel)
theorem ok_X8_isSet : sm_OK sm_P pm_X8_isSet := ⟨om_X8_isSet, fun _ => ⟨sm_inw 3 208 rfl rfl, sm_inw 0 6 rfl rfl⟩⟩
theorem om_X8_put : sm_okM sm_P pm_X8_put = true := sm_okMf_of [[0, 1], [4, 5, 6, 9, 10], [13, 14, 17, 18, 19, 20, 21, 24, 25, 26, 27], [27]] (by decide +kernel)
theorem ok_X8_put : sm_OK sm_P pm_X8_put := ⟨om_X8_put, fun _ => ⟨sm_inw 2 202 rfl rfl, sm_inw 0 6 rfl rfl⟩⟩
theorem om_X9_endOfDigits : sm_okM sm_P pm_X9_endOfDigits = true := sm_okMf_of [[0, 1, 2], [2, 3, 4], [7, 8, 9, 10, 13], [16, 19], [22, 23]] (by decide +kernel)
theorem ok_X9_endOfDigits : sm_OK sm_P pm_X9_endOfDigits := ⟨om_X9_endOfDigits, fun _ => ⟨sm_inw 2 107 rfl rfl, sm_inw 0 3 rfl rfl⟩⟩
theorem om_X9_endOfLetters : sm_okM sm_P pm_X9_endOfLetters = true := sm_okMf_of [[0, 1, 2], [2, 3, 4], [7, 8, 9, 10, 13], [16, 19], [22, 23]] (by decide +kernel)
theorem ok_X9_endOfLetters : sm_OK sm_P pm_X9_endOfLetters := ⟨om_X9_endOfLetters, fun _ => ⟨sm_inw 2 96 rfl rfl, sm_inw 0 3 rfl rfl⟩⟩
theorem om_X9_init : sm_okM sm_P pm_X9_init = true := sm_okMf_of [[0, 1, 4, 5, 8, 10, 13, 14, 17, 19, 22, 23, 26, 28, 31, 32, 33, 36]] (by decide +kernel)
theorem ok_X9_init : sm_OK sm_P pm_X9_init := ⟨om_X9_init, fun _ => ⟨sm_inw 0 36 rfl rfl, sm_inw 0 3 rfl rfl⟩⟩
theorem om_X9_isBlank : sm_okM sm_P pm_X9_isBlank = true := sm_okMf_of [[0, 1, 3], [6, 7, 9], [12, 13, 15], [18, 19, 21], [24, 25], [28, 29], [29]] (by decide +kernel)
theorem ok_X9_isBlank : sm_OK sm_P pm_X9_isBlank := ⟨om_X9_isBlank, fun _ => ⟨sm_inw 2 86 rfl rfl, sm_inw 0 3 rfl rfl⟩⟩
theorem om_X9_isDigit : sm_okM sm_P pm_X9_isDigit = true := sm_okMf_of [[0, 1, 3], [6, 7, 9], [12, 13], [16, 17], [17]] (by decide +kernel)
theorem ok_X9_isDigit : sm_OK sm_P pm_X9_isDigit := ⟨om_X9_isDigit, fun _ => ⟨sm_inw 2 104 rfl rfl, sm_inw 0 3 rfl rfl⟩⟩
theorem om_X9_isLetter : sm_okM sm_P pm_X9_isLetter = true := sm_okMf_of [[0, 1, 3], [6, 7, 9], [12, 13], [16, 17], [17]] (by decide +kernel)
theorem ok_X9_isLetter : sm_OK sm_P pm_X9_isLetter := ⟨om_X9_isLetter, fun _ => ⟨sm_inw 2 93 rfl rfl, sm_inw 0 3 rfl rfl⟩⟩
theorem om_X9_scan : sm_okM sm_P pm_X9_scan = true := sm_okMf_of [[0, 1, 2, 5, 6, 7, 8, 10], [10, 12, 15], [18, 19, 20], [23, 24, 27, 30], [33, 34, 35, 36, 39], [42, 45], [48, 49, 50, 51, 52, 55, 56], [56, 59], [62, 63, 66, 67, 70, 72, 73, 74, 77, 78, 81, 82, 83]] (by decide +kernel)
theorem ok_X9_scan : sm_OK sm_P pm_X9_scan := ⟨om_X9_scan, fun _ => ⟨sm_inw 2 83 rfl rfl, sm_inw 0 3 rfl rfl⟩⟩
theorem om_X9_scanOne : sm_okM sm_P pm_X9_scanOne = true := sm_okMf_of [[0, 1, 2, 3, 5, 6, 8, 9, 12, 13, 16, 17, 18, 19, 20, 21, 24], [27, 28, 29, 30, 33, 35, 36, 38], [38, 40, 42], [45, 47, 49, 50, 51, 53, 54, 55, 56, 58, 61], [64, 65, 68, 69, 72, 74, 75, 76, 78], [81, 83], [86, 88, 91], [91, 92], [95, 96, 97, 98, 101], [104, 105, 106, 107, 110, 112, 113, 115], [115, 117, 119], [122, 124, 127, 128, 129, 131, 132, 133, 134, 137, 138, 140, 143], [146, 147, 150, 151, 154, 156, 157, 158, 159], [162, 164], [167, 169], [169, 170], [173, 174, 177, 178, 181, 182, 183, 184, 187, 188], [188, 189, 192, 193, 196, 198, 199, 200, 201, 204, 205, 206, 209, 211]] (by decide +kernel)
theorem ok_X9_scanOne : sm_OK sm_P pm_X9_scanOne := ⟨om_X9_scanOne, fun _ => ⟨sm_inw 2 90 rfl rfl, sm_inw 0 3 rfl rfl⟩⟩
theorem om_X9_sign : sm_okM sm_P pm_X9_sign = true := sm_okMf_of [[0, 1], [36, 38], [39, 41], [42, 44], [45, 47]] (by decide +kernel)
theorem ok_X9_sign : sm_OK sm_P pm_X9_sign := ⟨om_X9_sign, fun _ => ⟨sm_inw 2 112 rfl rfl, sm_inw 0 3 rfl rfl⟩⟩
theorem om_X9_wordOrName : sm_okM sm_P pm_X9_wordOrName = true := sm_okMf_of [[0, 1, 2], [2, 3, 6, 7], [10, 13, 14, 15, 16, 17], [20, 21], [22, 25], [28, 30]] (by decide +kernel)
theorem ok_X9_wordOrName : sm_OK sm_P pm_X9_wordOrName := ⟨om_X9_wordOrName, fun _ => ⟨sm_inw 2 99 rfl rfl, sm_inw 0 3 rfl rfl⟩⟩
theorem om_J6_bitCount_0f7a4 : sm_okM sm_P pm_J6_bitCount_0f7a4 = true := sm_okMf_of [[0, 1, 2, 3, 4, 7, 8, 9, 10, 11, 14, 15, 16, 17, 18, 21, 22, 23, 24, 25, 26, 27, 28, 29, 32, 33, 34, 35, 36, 38, 39, 40, 41, 42, 43, 45, 46, 47, 48, 49, 51], [51, 52]] (by decide +kernel)
theorem ok_J6_bitCount_0f7a4 : sm_OK sm_P pm_J6_bitCount_0f7a4 := ⟨om_J6_bitCount_0f7a4, fun _ => ⟨sm_inw 4 1 rfl rfl, sm_inw 0 17 rfl rfl⟩⟩
theorem om_J7_fill_53178 : sm_okM sm_P pm_J7_fill_53178 = true := sm_okMf_of [[0, 1, 2, 3, 4, 5], [5, 6, 7], [10, 11, 12, 13, 14, 17], [20]] (by decide +kernel)
theorem ok_J7_fill_53178 : sm_OK sm_P pm_J7_fill_53178 := ⟨om_J7_fill_53178, fun _ => ⟨sm_inw 0 119 rfl rfl, sm_inw 0 7 rfl rfl⟩⟩

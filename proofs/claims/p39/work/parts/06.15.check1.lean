/-! the tables are in order -/
theorem om_X11_isPlace : sm_okM sm_P pm_X11_isPlace = true := sm_okMq_of [[0, 1], [4, 5, 6, 9, 12], [15, 16], [19, 20], [20]] (by decide +kernel)
theorem ok_X11_isPlace : sm_OK sm_P pm_X11_isPlace := ⟨om_X11_isPlace, fun _ => ⟨sm_inw 3 44 rfl rfl, sm_inw 0 1 rfl rfl⟩⟩
theorem om_X11_isSay : sm_okM sm_P pm_X11_isSay = true := sm_okMq_of [[0, 1, 2, 5], [8, 9, 12, 15, 16, 17, 18, 19], [22, 23], [26, 27], [27]] (by decide +kernel)
theorem ok_X11_isSay : sm_OK sm_P pm_X11_isSay := ⟨om_X11_isSay, fun _ => ⟨sm_inw 3 32 rfl rfl, sm_inw 0 1 rfl rfl⟩⟩
theorem om_X11_isSaying : sm_okM sm_P pm_X11_isSaying = true := sm_okMq_of [[0, 1], [4, 5, 6, 9, 12], [15, 16], [19, 20], [20]] (by decide +kernel)
theorem ok_X11_isSaying : sm_OK sm_P pm_X11_isSaying := ⟨om_X11_isSaying, fun _ => ⟨sm_inw 3 36 rfl rfl, sm_inw 0 1 rfl rfl⟩⟩
theorem om_X11_isTime : sm_okM sm_P pm_X11_isTime = true := sm_okMq_of [[0, 1], [4, 5, 6, 9, 12], [15, 16], [19, 20], [20]] (by decide +kernel)
theorem ok_X11_isTime : sm_OK sm_P pm_X11_isTime := ⟨om_X11_isTime, fun _ => ⟨sm_inw 3 185 rfl rfl, sm_inw 0 1 rfl rfl⟩⟩
theorem om_X11_keep : sm_okM sm_P pm_X11_keep = true := sm_okMq_of [[0, 1, 4], [7, 9], [10, 11, 12], [12, 13, 14, 17, 20], [23, 24, 25, 28], [31, 32], [33, 36], [39, 41]] (by decide +kernel)
theorem ok_X11_keep : sm_OK sm_P pm_X11_keep := ⟨om_X11_keep, fun _ => ⟨sm_inw 5 25 rfl rfl, sm_inw 0 1 rfl rfl⟩⟩
theorem om_X11_kept : sm_okM sm_P pm_X11_kept = true := sm_okMq_of [[0, 1, 2, 5, 6, 7], [10, 11], [12, 13, 14, 17], [20, 21], [24, 25], [25]] (by decide +kernel)
theorem ok_X11_kept : sm_OK sm_P pm_X11_kept := ⟨om_X11_kept, fun _ => ⟨sm_inw 5 17 rfl rfl, sm_inw 0 1 rfl rfl⟩⟩
theorem om_X11_leastGive : sm_okM sm_P pm_X11_leastGive = true := sm_okMq_of [[0, 1, 2, 5, 6, 7, 9], [9, 11, 14], [17, 18, 19], [22, 23, 24, 25, 26, 27, 29, 30, 33, 34, 37, 38, 41, 42, 45, 48, 49, 52, 55, 56, 57, 58, 59, 62, 63, 66, 67, 69, 72, 73, 76, 77, 78, 81, 82, 85, 88], [91, 93], [94, 95, 98, 101], [104, 106, 107], [110, 112, 113, 114, 115], [115, 118], [121, 122]] (by decide +kernel)
theorem ok_X11_leastGive : sm_OK sm_P pm_X11_leastGive := ⟨om_X11_leastGive, fun _ => ⟨sm_inw 5 5 rfl rfl, sm_inw 0 1 rfl rfl⟩⟩
theorem om_X11_left : sm_okM sm_P pm_X11_left = true := sm_okMq_of [[0, 1, 2, 5, 8, 9, 10, 11, 12, 13, 14, 15], [18, 19, 20, 21], [24, 25], [26, 27, 30], [33, 34, 37, 38, 41, 42, 43, 46], [49, 51], [51]] (by decide +kernel)
theorem ok_X11_left : sm_OK sm_P pm_X11_left := ⟨om_X11_left, fun _ => ⟨sm_inw 4 133 rfl rfl, sm_inw 0 1 rfl rfl⟩⟩
theorem om_X11_levelOf : sm_okM sm_P pm_X11_levelOf = true := sm_okMq_of [[0, 1], [4, 5], [6, 7, 10], [13, 15], [16, 17, 18, 21, 24], [27, 28], [29, 30, 33, 34, 37, 38, 41, 42, 43, 46, 49]] (by decide +kernel)
theorem ok_X11_levelOf : sm_OK sm_P pm_X11_levelOf := ⟨om_X11_levelOf, fun _ => ⟨sm_inw 3 160 rfl rfl, sm_inw 0 1 rfl rfl⟩⟩
theorem om_X11_more : sm_okM sm_P pm_X11_more = true := sm_okMq_of [[0, 1, 2, 5], [8, 9, 10], [13, 14, 15, 18], [21, 22], [25, 26], [26, 28, 30], [33, 34, 36, 39, 42], [45, 46, 48, 51, 54], [57, 58], [59, 60, 63, 66, 68], [71, 72], [73, 74, 77, 80, 81, 84, 87, 88, 89, 92, 93, 96, 99, 100, 103, 106, 107, 109, 112, 113, 116, 117, 120, 121, 122, 125, 126, 129, 130, 133, 136]] (by decide +kernel)
theorem ok_X11_more : sm_OK sm_P pm_X11_more := ⟨om_X11_more, fun _ => ⟨sm_inw 4 195 rfl rfl, sm_inw 0 1 rfl rfl⟩⟩
theorem om_X11_move : sm_okM sm_P pm_X11_move = true := sm_okMq_of [[0, 1], [4, 5, 6, 9, 12], [15, 16], [17, 18], [44, 45, 48, 51, 52, 53], [54, 55, 58, 61, 62, 63], [64, 65, 68, 71, 72, 73], [74, 75]] (by decide +kernel)
theorem ok_X11_move : sm_OK sm_P pm_X11_move := ⟨om_X11_move, fun _ => ⟨sm_inw 3 49 rfl rfl, sm_inw 0 1 rfl rfl⟩⟩
theorem om_X11_next : sm_okM sm_P pm_X11_next = true := sm_okMq_of [[0, 1, 4, 7], [10, 12], [13, 14, 17], [20, 22], [23, 24, 25, 26, 27, 28, 29], [29, 30, 31, 34, 37], [40, 41, 44, 45, 48, 49, 50, 53, 54, 57, 58, 61, 62, 63, 66, 69, 71, 72, 73], [76, 78, 79], [82, 83, 84, 86, 87], [87, 90], [93, 94]] (by decide +kernel)
theorem ok_X11_next : sm_OK sm_P pm_X11_next := ⟨om_X11_next, fun _ => ⟨sm_inw 4 128 rfl rfl, sm_inw 0 1 rfl rfl⟩⟩
theorem om_X11_pick : sm_okM sm_P pm_X11_pick = true := sm_okMq_of [[0, 1, 2, 5], [8, 9, 10, 13], [16, 17, 18, 19, 22, 25, 26, 27, 29], [32, 33, 35], [38, 39, 41, 42, 43, 46, 49], [52, 54, 55, 56, 58, 59, 60, 61, 64, 67, 68, 70, 71, 72], [75, 76], [79, 80], [80, 82], [85, 86], [87, 88, 89], [92, 93, 95], [98, 99], [100, 101, 104, 107, 108, 109, 110, 111, 114, 115, 118, 119]] (by decide +kernel)
theorem ok_X11_pick : sm_OK sm_P pm_X11_pick := ⟨om_X11_pick, fun _ => ⟨sm_inw 4 66 rfl rfl, sm_inw 0 1 rfl rfl⟩⟩
theorem om_X11_place : sm_okM sm_P pm_X11_place = true := sm_okMq_of [[0, 1, 4]] (by decide +kernel)
theorem ok_X11_place : sm_OK sm_P pm_X11_place := ⟨om_X11_place, fun _ => ⟨sm_inw 3 24 rfl rfl, sm_inw 0 1 rfl rfl⟩⟩
theorem om_X11_plan : sm_okM sm_P pm_X11_plan = true := sm_okMq_of [[0, 1, 2, 5, 6, 7], [10, 11], [14, 15, 18, 21, 22, 23], [23]] (by decide +kernel)
theorem ok_X11_plan : sm_OK sm_P pm_X11_plan := ⟨om_X11_plan, fun _ => ⟨sm_inw 4 152 rfl rfl, sm_inw 0 1 rfl rfl⟩⟩
theorem om_X11_planTo : sm_okM sm_P pm_X11_planTo = true := sm_okMq_of [[0, 1], [4, 5, 8], [11, 12], [13, 14, 17], [20, 21, 24, 27, 29], [32, 34], [35, 36, 39, 40, 43, 46, 47, 50, 51, 54, 55, 58, 59, 62, 65, 66, 67, 68], [71, 73], [76, 77], [77]] (by decide +kernel)
theorem ok_X11_planTo : sm_OK sm_P pm_X11_planTo := ⟨om_X11_planTo, fun _ => ⟨sm_inw 4 156 rfl rfl, sm_inw 0 1 rfl rfl⟩⟩
theorem om_X11_price : sm_okM sm_P pm_X11_price = true := sm_okMq_of [[0, 1, 4, 5, 8, 9, 12, 15], [18, 20], [21, 22, 25, 26, 29, 32, 33, 34], [37, 39], [42, 43, 46, 47, 50, 53, 54, 55, 58], [58]] (by decide +kernel)
theorem ok_X11_price : sm_OK sm_P pm_X11_price := ⟨om_X11_price, fun _ => ⟨sm_inw 4 61 rfl rfl, sm_inw 0 1 rfl rfl⟩⟩
theorem om_X11_putFour : sm_okM sm_P pm_X11_putFour = true := sm_okMq_of [[0, 2, 3], [3, 4], [7, 8, 11, 14], [17, 18, 21, 22, 25, 26, 27, 28, 29, 30, 31, 32, 35, 36, 37, 40], [40, 43], [46]] (by decide +kernel)
theorem ok_X11_putFour : sm_OK sm_P pm_X11_putFour := ⟨om_X11_putFour, fun _ => ⟨sm_inw 2 57 rfl rfl, sm_inw 0 1 rfl rfl⟩⟩
theorem om_X11_quarrel : sm_okM sm_P pm_X11_quarrel = true := sm_okMq_of [[0, 1], [4, 5], [6, 7, 10, 11, 14, 15, 18, 21], [24, 26], [27, 28, 29, 32, 35], [38, 39, 42, 45, 46, 47], [50, 51], [51]] (by decide +kernel)
theorem ok_X11_quarrel : sm_OK sm_P pm_X11_quarrel := ⟨om_X11_quarrel, fun _ => ⟨sm_inw 4 37 rfl rfl, sm_inw 0 1 rfl rfl⟩⟩
theorem om_X11_quarrels : sm_okM sm_P pm_X11_quarrels = true := sm_okMq_of [[0, 1, 4, 5, 8, 9, 12, 15], [18, 19, 22, 25], [28, 30], [30]] (by decide +kernel)
theorem ok_X11_quarrels : sm_OK sm_P pm_X11_quarrels := ⟨om_X11_quarrels, fun _ => ⟨sm_inw 4 4 rfl rfl, sm_inw 0 1 rfl rfl⟩⟩
theorem om_X11_read : sm_okM sm_P pm_X11_read = true := sm_okMq_of [[0, 1, 4, 5, 8, 9, 12, 15, 16, 17, 18, 21, 22, 23], [26, 27], [30, 31, 34, 37], [37, 40, 41], [44, 45, 46, 49, 50, 53, 56, 59, 60, 63, 66, 67, 70], [70, 71]] (by decide +kernel)
theorem ok_X11_read : sm_OK sm_P pm_X11_read := ⟨om_X11_read, fun _ => ⟨sm_inw 2 65 rfl rfl, sm_inw 0 1 rfl rfl⟩⟩
theorem om_X11_ring : sm_okM sm_P pm_X11_ring = true := sm_okMq_of [[0, 1, 4, 5, 8, 9, 12, 15], [18, 19, 22, 25], [28, 30], [30]] (by decide +kernel)
theorem ok_X11_ring : sm_OK sm_P pm_X11_ring := ⟨om_X11_ring, fun _ => ⟨sm_inw 4 90 rfl rfl, sm_inw 0 1 rfl rfl⟩⟩
theorem om_X11_ringAt : sm_okM sm_P pm_X11_ringAt = true := sm_okMq_of [[0, 1, 4, 5, 8, 9, 12, 15], [18, 19], [22, 23, 24, 27, 30], [33, 34, 37, 40, 41, 42], [45, 46], [46]] (by decide +kernel)
theorem ok_X11_ringAt : sm_OK sm_P pm_X11_ringAt := ⟨om_X11_ringAt, fun _ => ⟨sm_inw 4 94 rfl rfl, sm_inw 0 1 rfl rfl⟩⟩
theorem om_X11_set : sm_okM sm_P pm_X11_set = true := sm_okMq_of [[0, 1, 2, 5], [8, 9, 10], [13, 14, 17], [20, 21], [22, 23, 26, 29, 30, 31, 32, 33]] (by decide +kernel)
theorem ok_X11_set : sm_OK sm_P pm_X11_set := ⟨om_X11_set, fun _ => ⟨sm_inw 3 217 rfl rfl, sm_inw 0 1 rfl rfl⟩⟩
theorem om_X11_setWays : sm_okM sm_P pm_X11_setWays = true := sm_okMq_of [[0, 1, 4], [7, 9], [10, 11, 12, 13, 14], [14, 15, 16, 19, 22], [25, 26, 29, 30, 31, 34, 35, 38, 41, 44], [47, 50], [50, 53], [56, 57]] (by decide +kernel)
theorem ok_X11_setWays : sm_OK sm_P pm_X11_setWays := ⟨om_X11_setWays, fun _ => ⟨sm_inw 4 215 rfl rfl, sm_inw 0 1 rfl rfl⟩⟩
theorem om_X11_slack : sm_okM sm_P pm_X11_slack = true := sm_okMq_of [[0, 1, 2, 5], [8, 9], [10, 11, 12, 15, 17, 19], [22, 24], [25, 26, 29, 31, 32, 35, 38, 41], [44, 45, 48, 50, 51, 52, 55, 58, 59, 62], [65, 67], [67]] (by decide +kernel)
theorem ok_X11_slack : sm_OK sm_P pm_X11_slack := ⟨om_X11_slack, fun _ => ⟨sm_inw 4 228 rfl rfl, sm_inw 0 1 rfl rfl⟩⟩
theorem om_X11_stale : sm_okM sm_P pm_X11_stale = true := sm_okMq_of [[0, 1, 2, 5, 6, 7, 10, 11, 14, 15, 18, 19, 22, 23, 26, 27, 30, 31, 34]] (by decide +kernel)
theorem ok_X11_stale : sm_OK sm_P pm_X11_stale := ⟨om_X11_stale, fun _ => ⟨sm_inw 3 20 rfl rfl, sm_inw 0 1 rfl rfl⟩⟩
theorem om_X11_stands : sm_okM sm_P pm_X11_stands = true := sm_okMq_of [[0, 1, 4, 5, 8, 9, 12, 15], [18, 19], [22, 23], [23]] (by decide +kernel)
theorem ok_X11_stands : sm_OK sm_P pm_X11_stands := ⟨om_X11_stands, fun _ => ⟨sm_inw 4 70 rfl rfl, sm_inw 0 1 rfl rfl⟩⟩
theorem om_X11_tried : sm_okM sm_P pm_X11_tried = true := sm_okMq_of [[0, 1, 4, 5, 6], [9, 10, 11, 14, 17, 20, 23], [26, 27], [28, 29, 32, 33, 34, 37]] (by decide +kernel)
theorem ok_X11_tried : sm_OK sm_P pm_X11_tried := ⟨om_X11_tried, fun _ => ⟨sm_inw 4 206 rfl rfl, sm_inw 0 1 rfl rfl⟩⟩
theorem om_X11_valueAt : sm_okM sm_P pm_X11_valueAt = true := sm_okMq_of [[0, 1], [4, 5, 6, 7], [10, 11, 12, 13], [16, 17], [17]] (by decide +kernel)
theorem ok_X11_valueAt : sm_OK sm_P pm_X11_valueAt := ⟨om_X11_valueAt, fun _ => ⟨sm_inw 2 179 rfl rfl, sm_inw 0 1 rfl rfl⟩⟩
theorem om_X11_walk : sm_okM sm_P pm_X11_walk = true := sm_okMq_of [[0, 1, 2, 5], [8, 9, 10, 13], [16, 17, 20, 21, 22, 25], [28, 29], [29]] (by decide +kernel)
theorem ok_X11_walk : sm_OK sm_P pm_X11_walk := ⟨om_X11_walk, fun _ => ⟨sm_inw 3 40 rfl rfl, sm_inw 0 1 rfl rfl⟩⟩
theorem om_X11_ways : sm_okM sm_P pm_X11_ways = true := sm_okMq_of [[0, 1, 4], [7, 8, 11, 14], [17, 19], [19]] (by decide +kernel)
theorem ok_X11_ways : sm_OK sm_P pm_X11_ways := ⟨om_X11_ways, fun _ => ⟨sm_inw 3 53 rfl rfl, sm_inw 0 1 rfl rfl⟩⟩
theorem om_X11_whereAt : sm_okM sm_P pm_X11_whereAt = true := sm_okMq_of [[0, 1, 3, 4, 6, 7, 9, 10, 12, 13, 15], [15, 17, 18, 21, 24], [27, 28, 31, 34, 36, 37, 38], [41], [44, 45, 48, 49, 51, 52, 55, 57, 59, 60], [63, 64, 67, 70, 72, 73], [74, 76, 77], [80, 82, 84], [87, 89, 91, 93, 95], [95, 97, 98], [101, 103, 104], [107, 109, 111], [114, 116, 118, 120, 122], [122, 125], [128, 130, 131], [134, 136], [137, 139, 140], [143, 144, 147, 150, 152, 153], [154, 155, 158, 159, 162, 165, 167, 168, 169, 172, 175, 177, 178, 181, 183, 185], [188, 189, 191, 193, 194], [197, 198, 201, 204, 206, 207], [210, 212], [212]] (by decide +kernel)
theorem ok_X11_whereAt : sm_OK sm_P pm_X11_whereAt := ⟨om_X11_whereAt, fun _ => ⟨sm_inw 4 237 rfl rfl, sm_inw 0 1 rfl rfl⟩⟩
theorem om_X12_alone : sm_okM sm_P pm_X12_alone = true := sm_okMq_of [[0, 1, 2, 5], [8, 9, 12, 14, 15, 18, 19, 20, 21, 22], [25, 26, 29, 30, 31], [34, 35], [36, 37, 38, 39, 40, 43]] (by decide +kernel)
theorem ok_X12_alone : sm_OK sm_P pm_X12_alone := ⟨om_X12_alone, fun _ => ⟨sm_inw 8 70 rfl rfl, sm_inw 0 14 rfl rfl⟩⟩
theorem om_X12_answers : sm_okM sm_P pm_X12_answers = true := sm_okMq_of [[0, 3, 5, 6, 9, 10, 11, 12, 13, 14, 15, 18, 19, 20, 21, 22, 24, 25, 28, 29, 30, 31, 32, 34, 35], [38, 39, 41, 43, 44, 47, 48, 49, 50, 53, 54, 55, 58], [61, 62, 63], [66, 67, 69, 71, 72, 75, 76, 77, 78, 79, 82], [85, 86, 88, 90, 91, 94, 95, 96, 97, 98, 99, 102], [102]] (by decide +kernel)
theorem ok_X12_answers : sm_OK sm_P pm_X12_answers := ⟨om_X12_answers, fun _ => ⟨sm_inw 8 14 rfl rfl, sm_inw 0 14 rfl rfl⟩⟩
theorem om_X12_appends : sm_okM sm_P pm_X12_appends = true := sm_okMq_of [[0, 1], [4, 5], [8, 11, 12, 13, 14, 16, 17, 18, 19, 20, 21], [21]] (by decide +kernel)
theorem ok_X12_appends : sm_OK sm_P pm_X12_appends := ⟨om_X12_appends, fun _ => ⟨sm_inw 5 47 rfl rfl, sm_inw 0 14 rfl rfl⟩⟩
theorem om_X12_ask : sm_okM sm_P pm_X12_ask = true := sm_okMq_of [[0, 1, 2, 3, 6, 7, 10, 11, 12, 13, 16], [19, 20], [21, 22, 25, 26, 29], [32, 34], [37, 38, 39], [42, 43, 44, 45], [48, 49], [49, 50], [53, 54], [57, 58, 59, 60], [60, 63], [63]] (by decide +kernel)
theorem ok_X12_ask : sm_OK sm_P pm_X12_ask := ⟨om_X12_ask, fun _ => ⟨sm_inw 8 2 rfl rfl, sm_inw 0 14 rfl rfl⟩⟩
theorem om_X12_asks : sm_okM sm_P pm_X12_asks = true := sm_okMq_of [[0, 1], [4, 5], [6, 7, 10, 11, 14], [17, 19], [22, 23, 24, 27], [30, 31], [34, 35], [35]] (by decide +kernel)
theorem ok_X12_asks : sm_OK sm_P pm_X12_asks := ⟨om_X12_asks, fun _ => ⟨sm_inw 7 82 rfl rfl, sm_inw 0 14 rfl rfl⟩⟩
theorem om_X12_atMost : sm_okM sm_P pm_X12_atMost = true := sm_okMq_of [[0, 1, 4], [7, 8, 9], [12, 13, 14, 15, 16, 19], [20, 21, 22, 25, 27, 28, 29, 32, 34, 35, 37, 38], [41, 42], [45, 46, 49, 51, 52], [52, 53, 55, 56], [59, 60], [63, 64, 67, 69, 70], [70, 71, 73, 74, 76, 77], [80, 81], [84, 85, 88, 90, 91, 92, 93], [93, 95, 96], [99, 100], [103, 104, 107, 109, 110, 111, 112], [112, 114, 117]] (by decide +kernel)
theorem ok_X12_atMost : sm_OK sm_P pm_X12_atMost := ⟨om_X12_atMost, fun _ => ⟨sm_inw 7 50 rfl rfl, sm_inw 0 14 rfl rfl⟩⟩
theorem om_X12_back : sm_okM sm_P pm_X12_back = true := sm_okMq_of [[0, 1], [4, 5, 6, 9], [12, 13], [14, 15, 16, 19, 20, 21, 24, 25, 28]] (by decide +kernel)
theorem ok_X12_back : sm_OK sm_P pm_X12_back := ⟨om_X12_back, fun _ => ⟨sm_inw 6 110 rfl rfl, sm_inw 0 14 rfl rfl⟩⟩
theorem om_X12_bears : sm_okM sm_P pm_X12_bears = true := sm_okMq_of [[0, 1, 2, 5], [8, 9], [10, 12, 13, 16, 17, 18, 19, 20, 22, 23, 24, 26], [26, 28, 29, 32, 33, 34], [37, 38, 40, 41, 43], [43, 45, 46, 49, 50, 51, 52, 54, 55, 56], [59, 60, 61, 62, 63, 64, 66, 67, 68, 70, 71, 74, 76, 78, 80], [83, 85], [86, 88], [91, 93, 94], [97, 98], [101, 102], [102, 104, 107], [110, 112], [115, 116, 118], [121, 123, 124], [124, 127], [130, 131]] (by decide +kernel)
theorem ok_X12_bears : sm_OK sm_P pm_X12_bears := ⟨om_X12_bears, fun _ => ⟨sm_inw 7 130 rfl rfl, sm_inw 0 14 rfl rfl⟩⟩
theorem om_X12_bearsSpan : sm_okM sm_P pm_X12_bearsSpan = true := sm_okMq_of [[0, 1, 4, 5, 8, 9, 10, 11, 12, 13, 16, 17, 18, 19], [22, 23], [26, 27, 30, 31, 34, 35, 36, 37], [37, 38, 39, 40], [43, 44, 45], [48, 50], [51, 52, 53, 54, 55, 58, 59, 60, 61, 64, 65, 66, 69], [72, 73], [76, 77], [77]] (by decide +kernel)
theorem ok_X12_bearsSpan : sm_OK sm_P pm_X12_bearsSpan := ⟨om_X12_bearsSpan, fun _ => ⟨sm_inw 7 134 rfl rfl, sm_inw 0 14 rfl rfl⟩⟩
theorem om_X12_been : sm_okM sm_P pm_X12_been = true := sm_okMq_of [[0, 1, 2, 5], [8, 9, 10, 11, 14, 15, 18, 19, 20, 21, 24], [27, 28], [29, 30, 31, 32, 35, 36, 37, 40, 41, 42, 45, 46, 49, 50, 51, 52, 55], [58, 59, 62], [62, 63, 66], [69, 71], [74, 75, 78], [81, 83], [86, 87], [90, 91, 94], [97, 98, 101], [101]] (by decide +kernel)
theorem ok_X12_been : sm_OK sm_P pm_X12_been := ⟨om_X12_been, fun _ => ⟨sm_inw 7 230 rfl rfl, sm_inw 0 14 rfl rfl⟩⟩
theorem om_X12_begins : sm_okM sm_P pm_X12_begins = true := sm_okMq_of [[0, 1, 2, 5, 6, 7, 10, 11, 12], [12, 13, 16], [19, 20, 23, 24, 25, 27, 28, 29, 31, 32], [35, 36, 38, 39], [42, 43], [46, 49], [49, 50, 53], [56, 57, 58, 61, 62, 63, 66, 67, 68, 69], [69, 70, 73, 74, 75, 78, 79, 80, 81, 84, 85, 88, 89, 90], [93, 94], [97, 98, 101], [104, 105, 106, 109, 110, 111, 112, 113, 114, 115, 118, 119, 120, 123], [126, 127, 128, 129, 132, 133, 134, 135, 136, 139, 140, 143, 144, 145, 146, 149], [152, 153], [156, 157], [157, 158], [161, 162, 163, 164, 167, 168], [168, 171], [174, 175, 176], [176, 177, 178, 181], [184, 185], [188, 189, 190, 193, 194, 195, 196, 197, 198, 201, 202, 203, 204, 205, 206, 209, 210, 211, 212, 215, 216, 217, 220, 221, 224], [227, 228]] (by decide +kernel)
theorem ok_X12_begins : sm_OK sm_P pm_X12_begins := ⟨om_X12_begins, fun _ => ⟨sm_inw 7 34 rfl rfl, sm_inw 0 14 rfl rfl⟩⟩
theorem om_X12_between : sm_okM sm_P pm_X12_between = true := sm_okMq_of [[0, 1, 2, 3, 5, 8], [11, 12, 13, 14, 15, 16, 19], [22, 23], [26, 27], [27]] (by decide +kernel)
theorem ok_X12_between : sm_OK sm_P pm_X12_between := ⟨om_X12_between, fun _ => ⟨sm_inw 7 46 rfl rfl, sm_inw 0 14 rfl rfl⟩⟩
theorem om_X12_bits : sm_okM sm_P pm_X12_bits = true := sm_okMq_of [[0, 1, 2, 3, 4], [4, 5, 7], [10, 11, 12, 13, 14, 15, 16, 17, 18, 21], [24, 25]] (by decide +kernel)
theorem ok_X12_bits : sm_OK sm_P pm_X12_bits := ⟨om_X12_bits, fun _ => ⟨sm_inw 7 157 rfl rfl, sm_inw 0 14 rfl rfl⟩⟩
theorem om_X12_bound : sm_okM sm_P pm_X12_bound = true := sm_okMq_of [[0, 3, 4, 7, 8, 10, 11, 14, 16, 18, 19, 20, 21, 22, 23, 24, 25, 26], [29, 30], [31, 32, 33, 36, 38, 40, 41, 42, 43, 44, 45, 46], [49, 50], [51, 52, 54], [54, 56, 57, 60], [63, 64, 66], [66, 68, 69, 72], [75, 76, 79, 81, 83, 85, 86, 87, 88, 89, 90, 91, 92, 93, 96, 98, 100, 101, 102, 103, 105, 106, 107, 108, 110, 112, 113, 116, 118, 120, 122, 123, 124, 126, 127, 128], [131, 132, 135, 137, 139, 141, 142, 143, 145, 146, 148, 149], [149, 152], [155, 158], [161, 162]] (by decide +kernel)
theorem ok_X12_bound : sm_OK sm_P pm_X12_bound := ⟨om_X12_bound, fun _ => ⟨sm_inw 7 38 rfl rfl, sm_inw 0 14 rfl rfl⟩⟩
theorem om_X12_breaks : sm_okM sm_P pm_X12_breaks = true := sm_okMq_of [[0, 1, 2], [2, 3, 4, 7], [10, 11, 14, 15, 18, 19, 20, 21, 22, 23, 26, 27, 30, 31, 32, 33, 34, 35, 36], [39, 40, 41], [44], [47, 48, 49], [52, 53, 54, 55], [58, 59, 60, 61], [61, 63, 64, 67, 68, 69, 70], [73, 75, 76, 79, 80, 81], [84, 85], [86, 89], [92, 94]] (by decide +kernel)
theorem ok_X12_breaks : sm_OK sm_P pm_X12_breaks := ⟨om_X12_breaks, fun _ => ⟨sm_inw 7 138 rfl rfl, sm_inw 0 14 rfl rfl⟩⟩
theorem om_X12_byteAt : sm_okM sm_P pm_X12_byteAt = true := sm_okMq_of [[0, 1, 2, 5], [8, 9, 12, 13, 14, 17, 18], [21, 22], [22]] (by decide +kernel)
theorem ok_X12_byteAt : sm_OK sm_P pm_X12_byteAt := ⟨om_X12_byteAt, fun _ => ⟨sm_inw 6 122 rfl rfl, sm_inw 0 14 rfl rfl⟩⟩
theorem om_X12_can : sm_okM sm_P pm_X12_can = true := sm_okMq_of [[0, 1, 2, 5], [8, 9, 10, 13], [16, 17], [18, 19, 22, 23, 26], [29, 31], [32, 33, 34, 35, 37], [37, 39, 40, 43], [46, 47, 49, 50, 53], [56, 57, 58, 59, 60, 61, 62, 65, 66], [69, 70, 71, 72, 73, 74, 75, 78, 79], [82, 85], [85, 88], [91, 92]] (by decide +kernel)
theorem ok_X12_can : sm_OK sm_P pm_X12_can := ⟨om_X12_can, fun _ => ⟨sm_inw 7 114 rfl rfl, sm_inw 0 14 rfl rfl⟩⟩
theorem om_X12_changes : sm_okM sm_P pm_X12_changes = true := sm_okMq_of [[0, 1, 2, 5, 6, 7, 10]] (by decide +kernel)
theorem ok_X12_changes : sm_OK sm_P pm_X12_changes := ⟨om_X12_changes, fun _ => ⟨sm_inw 6 219 rfl rfl, sm_inw 0 14 rfl rfl⟩⟩
theorem om_X12_cheapest : sm_okM sm_P pm_X12_cheapest = true := sm_okMq_of [[0, 1, 4, 5, 8], [11, 13], [14, 16, 17, 18, 19], [19, 20, 21, 24], [27, 28, 30], [33, 34, 35, 38, 39, 40, 43, 44, 45, 48], [51, 52, 55, 56, 57, 58], [58, 61], [64, 65]] (by decide +kernel)
theorem ok_X12_cheapest : sm_OK sm_P pm_X12_cheapest := ⟨om_X12_cheapest, fun _ => ⟨sm_inw 7 173 rfl rfl, sm_inw 0 14 rfl rfl⟩⟩
theorem om_X12_choice : sm_okM sm_P pm_X12_choice = true := sm_okMq_of [[0, 1, 2, 5], [8, 9], [10, 11, 12, 15, 16, 17], [20, 21], [22, 23, 26, 27, 28], [31, 33], [34, 35, 36, 39, 42, 43, 44, 45, 48]] (by decide +kernel)
theorem ok_X12_choice : sm_OK sm_P pm_X12_choice := ⟨om_X12_choice, fun _ => ⟨sm_inw 7 78 rfl rfl, sm_inw 0 14 rfl rfl⟩⟩
theorem om_X12_choiceOf : sm_okM sm_P pm_X12_choiceOf = true := sm_okMq_of [[0, 1, 2, 3, 5], [5, 7, 8, 11], [14, 15, 18, 20, 21, 22], [25, 26, 29, 31, 32, 33, 35, 36, 37, 38], [38, 41], [44, 45]] (by decide +kernel)
theorem ok_X12_choiceOf : sm_OK sm_P pm_X12_choiceOf := ⟨om_X12_choiceOf, fun _ => ⟨sm_inw 7 86 rfl rfl, sm_inw 0 14 rfl rfl⟩⟩
theorem om_X12_choices : sm_okM sm_P pm_X12_choices = true := sm_okMq_of [[0, 1, 3], [6, 7, 10, 12, 13, 16, 17, 18, 19, 20], [21, 22, 24], [27, 28, 31, 32, 34, 35, 36], [39, 40, 43, 44, 46, 47, 48], [48, 49, 50, 51], [54, 55], [58, 59], [59]] (by decide +kernel)
theorem ok_X12_choices : sm_OK sm_P pm_X12_choices := ⟨om_X12_choices, fun _ => ⟨sm_inw 7 62 rfl rfl, sm_inw 0 14 rfl rfl⟩⟩
theorem om_X12_chooses : sm_okM sm_P pm_X12_chooses = true := sm_okMq_of [[0, 1, 3], [6, 7, 9, 10, 13, 14, 15, 16, 17, 18, 19, 20, 21, 24, 25, 26, 27, 28, 29], [32, 33, 36], [39, 40], [40, 42, 43, 44, 45, 47], [47, 49, 50, 51, 52, 53, 56, 57, 58, 59], [62, 63, 65, 67, 70], [73, 74], [75, 78], [81, 82], [83, 84, 86], [89, 90, 93, 94, 96, 97, 98], [101, 102, 105, 106, 108, 109, 110], [110, 111, 112, 114], [117, 118, 121, 122, 124, 125, 126, 127, 128], [131, 132, 135, 136, 138, 139, 140, 141, 142], [142, 144, 145, 147], [150, 151, 154, 155, 157, 158, 159, 160, 161], [164, 165, 168, 169, 172, 173, 174, 175], [175, 177, 178], [181, 182, 184, 186, 187, 188, 191], [194, 195, 197, 199, 200, 201, 204], [204]] (by decide +kernel)
theorem ok_X12_chooses : sm_OK sm_P pm_X12_chooses := ⟨om_X12_chooses, fun _ => ⟨sm_inw 7 70 rfl rfl, sm_inw 0 14 rfl rfl⟩⟩
theorem om_X12_copies : sm_okM sm_P pm_X12_copies = true := sm_okMq_of [[0, 1, 2], [2, 3, 6], [9, 10, 13, 16, 17, 18, 19, 20, 21, 24, 27, 28, 29, 30, 31, 32, 33, 36], [39]] (by decide +kernel)
theorem ok_X12_copies : sm_OK sm_P pm_X12_copies := ⟨om_X12_copies, fun _ => ⟨sm_inw 7 66 rfl rfl, sm_inw 0 14 rfl rfl⟩⟩
theorem om_X12_could : sm_okM sm_P pm_X12_could = true := sm_okMq_of [[0, 1, 2, 5], [8, 9, 10, 11, 14, 15, 18, 19, 20, 21, 24], [27, 28, 29, 32], [35, 36, 38, 41], [44, 45], [46, 47, 49], [52, 53], [54, 55, 56, 57, 60, 61, 64, 65, 68, 69, 70, 71, 73, 74, 76, 77, 78, 81], [84, 85, 87, 88, 89, 91, 94], [97, 98, 99, 102], [105, 106], [109, 110], [110, 112, 113, 116], [119, 121], [124, 126], [129, 130], [133, 134], [134]] (by decide +kernel)
theorem ok_X12_could : sm_OK sm_P pm_X12_could := ⟨om_X12_could, fun _ => ⟨sm_inw 7 218 rfl rfl, sm_inw 0 14 rfl rfl⟩⟩
theorem om_X12_count : sm_okM sm_P pm_X12_count = true := sm_okMq_of [[0, 1], [48, 49, 52, 53, 56, 57], [58, 59, 62, 63, 66, 67], [68, 69, 72, 73, 76, 77], [78, 79, 82, 83, 86, 87], [88, 89, 92, 93, 96, 97], [98, 99, 102], [103, 104, 107, 108, 111], [112, 113, 116], [117, 118, 119, 121, 122, 125], [128, 129, 132, 134, 135, 138, 139, 140, 141, 143, 144, 145], [148, 149], [149]] (by decide +kernel)
theorem ok_X12_count : sm_OK sm_P pm_X12_count := ⟨om_X12_count, fun _ => ⟨sm_inw 8 86 rfl rfl, sm_inw 0 14 rfl rfl⟩⟩
theorem bk_X12_cut_0 : sm_okL sm_P pm_X12_cut pb_X12_cut_0.2.2.1 pb_X12_cut_0.2.2.2 pb_X12_cut_0.1 = true := sm_okLq_of _ 0 [1, 2, 5, 6, 7] (by decide +kernel)
theorem bk_X12_cut_1 : sm_okL sm_P pm_X12_cut pb_X12_cut_1.2.2.1 pb_X12_cut_1.2.2.2 pb_X12_cut_1.1 = true := sm_okLq_of _ 7 [8, 11, 14] (by decide +kernel)
theorem bk_X12_cut_2 : sm_okL sm_P pm_X12_cut pb_X12_cut_2.2.2.1 pb_X12_cut_2.2.2.2 pb_X12_cut_2.1 = true := sm_okLq_of _ 17 [18, 19, 22, 23, 24, 25, 28] (by decide +kernel)
theorem bk_X12_cut_3 : sm_okL sm_P pm_X12_cut pb_X12_cut_3.2.2.1 pb_X12_cut_3.2.2.2 pb_X12_cut_3.1 = true := sm_okLq_of _ 31 [32, 33, 34, 37, 38, 39, 42] (by decide +kernel)
theorem bk_X12_cut_4 : sm_okL sm_P pm_X12_cut pb_X12_cut_4.2.2.1 pb_X12_cut_4.2.2.2 pb_X12_cut_4.1 = true := sm_okLq_of _ 43 [44, 46] (by decide +kernel)
theorem bk_X12_cut_5 : sm_okL sm_P pm_X12_cut pb_X12_cut_5.2.2.1 pb_X12_cut_5.2.2.2 pb_X12_cut_5.1 = true := sm_okLq_of _ 49 [50, 52] (by decide +kernel)
theorem bk_X12_cut_6 : sm_okL sm_P pm_X12_cut pb_X12_cut_6.2.2.1 pb_X12_cut_6.2.2.2 pb_X12_cut_6.1 = true := sm_okLq_of _ 55 [56, 58] (by decide +kernel)
theorem bk_X12_cut_7 : sm_okL sm_P pm_X12_cut pb_X12_cut_7.2.2.1 pb_X12_cut_7.2.2.2 pb_X12_cut_7.1 = true := sm_okLq_of _ 61 [62, 64] (by decide +kernel)
theorem bk_X12_cut_8 : sm_okL sm_P pm_X12_cut pb_X12_cut_8.2.2.1 pb_X12_cut_8.2.2.2 pb_X12_cut_8.1 = true := sm_okLq_of _ 67 [70] (by decide +kernel)
theorem bk_X12_cut_9 : sm_okL sm_P pm_X12_cut pb_X12_cut_9.2.2.1 pb_X12_cut_9.2.2.2 pb_X12_cut_9.1 = true := sm_okLq_of _ 73 [74, 77] (by decide +kernel)
theorem bk_X12_cut_10 : sm_okL sm_P pm_X12_cut pb_X12_cut_10.2.2.1 pb_X12_cut_10.2.2.2 pb_X12_cut_10.1 = true := sm_okLq_of _ 80 [81, 82, 83, 85] (by decide +kernel)
theorem bk_X12_cut_11 : sm_okL sm_P pm_X12_cut pb_X12_cut_11.2.2.1 pb_X12_cut_11.2.2.2 pb_X12_cut_11.1 = true := sm_okLq_of _ 85 [86, 87, 88, 89, 92, 95] (by decide +kernel)
theorem bk_X12_cut_12 : sm_okL sm_P pm_X12_cut pb_X12_cut_12.2.2.1 pb_X12_cut_12.2.2.2 pb_X12_cut_12.1 = true := sm_okLq_of _ 98 [99, 101] (by decide +kernel)
theorem bk_X12_cut_13 : sm_okL sm_P pm_X12_cut pb_X12_cut_13.2.2.1 pb_X12_cut_13.2.2.2 pb_X12_cut_13.1 = true := sm_okLq_of _ 104 [106, 107, 108, 109, 110, 113, 116, 118] (by decide +kernel)
theorem bk_X12_cut_14 : sm_okL sm_P pm_X12_cut pb_X12_cut_14.2.2.1 pb_X12_cut_14.2.2.2 pb_X12_cut_14.1 = true := sm_okLq_of _ 118 [121] (by decide +kernel)
theorem bk_X12_cut_15 : sm_okL sm_P pm_X12_cut pb_X12_cut_15.2.2.1 pb_X12_cut_15.2.2.2 pb_X12_cut_15.1 = true := sm_okLq_of _ 124 [125, 127] (by decide +kernel)
theorem bk_X12_cut_16 : sm_okL sm_P pm_X12_cut pb_X12_cut_16.2.2.1 pb_X12_cut_16.2.2.2 pb_X12_cut_16.1 = true := sm_okLq_of _ 130 [131] (by decide +kernel)
theorem bk_X12_cut_17 : sm_okL sm_P pm_X12_cut pb_X12_cut_17.2.2.1 pb_X12_cut_17.2.2.2 pb_X12_cut_17.1 = true := sm_okLq_of _ 134 [135] (by decide +kernel)
theorem bk_X12_cut_18 : sm_okL sm_P pm_X12_cut pb_X12_cut_18.2.2.1 pb_X12_cut_18.2.2.2 pb_X12_cut_18.1 = true := sm_okLq_of _ 135 [137, 138, 140] (by decide +kernel)
theorem bk_X12_cut_19 : sm_okL sm_P pm_X12_cut pb_X12_cut_19.2.2.1 pb_X12_cut_19.2.2.2 pb_X12_cut_19.1 = true := sm_okLq_of _ 143 [144, 146] (by decide +kernel)
theorem bk_X12_cut_20 : sm_okL sm_P pm_X12_cut pb_X12_cut_20.2.2.1 pb_X12_cut_20.2.2.2 pb_X12_cut_20.1 = true := sm_okLq_of _ 146 [148, 150] (by decide +kernel)
theorem bk_X12_cut_21 : sm_okL sm_P pm_X12_cut pb_X12_cut_21.2.2.1 pb_X12_cut_21.2.2.2 pb_X12_cut_21.1 = true := sm_okLq_of _ 153 [154, 157, 159, 160, 162, 163] (by decide +kernel)
theorem bk_X12_cut_22 : sm_okL sm_P pm_X12_cut pb_X12_cut_22.2.2.1 pb_X12_cut_22.2.2.2 pb_X12_cut_22.1 = true := sm_okLq_of _ 166 [168, 170, 171, 173] (by decide +kernel)
theorem bk_X12_cut_23 : sm_okL sm_P pm_X12_cut pb_X12_cut_23.2.2.1 pb_X12_cut_23.2.2.2 pb_X12_cut_23.1 = true := sm_okLq_of _ 173 [176] (by decide +kernel)
theorem bk_X12_cut_24 : sm_okL sm_P pm_X12_cut pb_X12_cut_24.2.2.1 pb_X12_cut_24.2.2.2 pb_X12_cut_24.1 = true := sm_okLq_of _ 179 [180, 182, 183, 184, 186, 189, 190, 191, 192, 193] (by decide +kernel)
theorem bk_X12_cut_25 : sm_okL sm_P pm_X12_cut pb_X12_cut_25.2.2.1 pb_X12_cut_25.2.2.2 pb_X12_cut_25.1 = true := sm_okLq_of _ 196 [197, 200] (by decide +kernel)
theorem bk_X12_cut_26 : sm_okL sm_P pm_X12_cut pb_X12_cut_26.2.2.1 pb_X12_cut_26.2.2.2 pb_X12_cut_26.1 = true := sm_okLq_of _ 203 [204, 205, 206, 208] (by decide +kernel)
theorem bk_X12_cut_27 : sm_okL sm_P pm_X12_cut pb_X12_cut_27.2.2.1 pb_X12_cut_27.2.2.2 pb_X12_cut_27.1 = true := sm_okLq_of _ 208 [209, 210, 211, 212, 215, 218] (by decide +kernel)
theorem bk_X12_cut_28 : sm_okL sm_P pm_X12_cut pb_X12_cut_28.2.2.1 pb_X12_cut_28.2.2.2 pb_X12_cut_28.1 = true := sm_okLq_of _ 221 [222, 223] (by decide +kernel)
theorem bk_X12_cut_29 : sm_okL sm_P pm_X12_cut pb_X12_cut_29.2.2.1 pb_X12_cut_29.2.2.2 pb_X12_cut_29.1 = true := sm_okLq_of _ 226 [228, 230, 231, 232, 233, 234, 235, 238, 239, 241, 242, 244] (by decide +kernel)
theorem bk_X12_cut_30 : sm_okL sm_P pm_X12_cut pb_X12_cut_30.2.2.1 pb_X12_cut_30.2.2.2 pb_X12_cut_30.1 = true := sm_okLq_of _ 244 [247] (by decide +kernel)
theorem bk_X12_cut_31 : sm_okL sm_P pm_X12_cut pb_X12_cut_31.2.2.1 pb_X12_cut_31.2.2.2 pb_X12_cut_31.1 = true := sm_okLq_of _ 250 [251, 252, 253] (by decide +kernel)
theorem bk_X12_cut_32 : sm_okL sm_P pm_X12_cut pb_X12_cut_32.2.2.1 pb_X12_cut_32.2.2.2 pb_X12_cut_32.1 = true := sm_okLq_of _ 256 [257] (by decide +kernel)
theorem bk_X12_cut_33 : sm_okL sm_P pm_X12_cut pb_X12_cut_33.2.2.1 pb_X12_cut_33.2.2.2 pb_X12_cut_33.1 = true := sm_okLq_of _ 260 [261] (by decide +kernel)
theorem bk_X12_cut_34 : sm_okL sm_P pm_X12_cut pb_X12_cut_34.2.2.1 pb_X12_cut_34.2.2.2 pb_X12_cut_34.1 = true := sm_okLq_of _ 261 [262, 264, 265, 268, 269, 270, 271, 272] (by decide +kernel)
theorem bk_X12_cut_35 : sm_okL sm_P pm_X12_cut pb_X12_cut_35.2.2.1 pb_X12_cut_35.2.2.2 pb_X12_cut_35.1 = true := sm_okLq_of _ 275 [276, 277, 280, 281, 282, 283, 286, 289] (by decide +kernel)
theorem bk_X12_cut_36 : sm_okL sm_P pm_X12_cut pb_X12_cut_36.2.2.1 pb_X12_cut_36.2.2.2 pb_X12_cut_36.1 = true := sm_okLq_of _ 289 [] (by decide +kernel)
theorem bk_X12_cut_37 : sm_okL sm_P pm_X12_cut pb_X12_cut_37.2.2.1 pb_X12_cut_37.2.2.2 pb_X12_cut_37.1 = true := sm_okLq_of _ 292 [] (by decide +kernel)
theorem om_X12_cut : sm_okM sm_P pm_X12_cut = true := sm_okMg_of (by decide +kernel) (List.forall_mem_cons.mpr ⟨bk_X12_cut_0, List.forall_mem_cons.mpr ⟨bk_X12_cut_1, List.forall_mem_cons.mpr ⟨bk_X12_cut_2, List.forall_mem_cons.mpr ⟨bk_X12_cut_3, List.forall_mem_cons.mpr ⟨bk_X12_cut_4, List.forall_mem_cons.mpr ⟨bk_X12_cut_5, List.forall_mem_cons.mpr ⟨bk_X12_cut_6, List.forall_mem_cons.mpr ⟨bk_X12_cut_7, List.forall_mem_cons.mpr ⟨bk_X12_cut_8, List.forall_mem_cons.mpr ⟨bk_X12_cut_9, List.forall_mem_cons.mpr ⟨bk_X12_cut_10, List.forall_mem_cons.mpr ⟨bk_X12_cut_11, List.forall_mem_cons.mpr ⟨bk_X12_cut_12, List.forall_mem_cons.mpr ⟨bk_X12_cut_13, List.forall_mem_cons.mpr ⟨bk_X12_cut_14, List.forall_mem_cons.mpr ⟨bk_X12_cut_15, List.forall_mem_cons.mpr ⟨bk_X12_cut_16, List.forall_mem_cons.mpr ⟨bk_X12_cut_17, List.forall_mem_cons.mpr ⟨bk_X12_cut_18, List.forall_mem_cons.mpr ⟨bk_X12_cut_19, List.forall_mem_cons.mpr ⟨bk_X12_cut_20, List.forall_mem_cons.mpr ⟨bk_X12_cut_21, List.forall_mem_cons.mpr ⟨bk_X12_cut_22, List.forall_mem_cons.mpr ⟨bk_X12_cut_23, List.forall_mem_cons.mpr ⟨bk_X12_cut_24, List.forall_mem_cons.mpr ⟨bk_X12_cut_25, List.forall_mem_cons.mpr ⟨bk_X12_cut_26, List.forall_mem_cons.mpr ⟨bk_X12_cut_27, List.forall_mem_cons.mpr ⟨bk_X12_cut_28, List.forall_mem_cons.mpr ⟨bk_X12_cut_29, List.forall_mem_cons.mpr ⟨bk_X12_cut_30, List.forall_mem_cons.mpr ⟨bk_X12_cut_31, List.forall_mem_cons.mpr ⟨bk_X12_cut_32, List.forall_mem_cons.mpr ⟨bk_X12_cut_33, List.forall_mem_cons.mpr ⟨bk_X12_cut_34, List.forall_mem_cons.mpr ⟨bk_X12_cut_35, List.forall_mem_cons.mpr ⟨bk_X12_cut_36, List.forall_mem_cons.mpr ⟨bk_X12_cut_37, fun _ h => absurd h List.not_mem_nil⟩⟩⟩⟩⟩⟩⟩⟩⟩⟩⟩⟩⟩⟩⟩⟩⟩⟩⟩⟩⟩⟩⟩⟩⟩⟩⟩⟩⟩⟩⟩⟩⟩⟩⟩⟩⟩⟩)
theorem ok_X12_cut : sm_OK sm_P pm_X12_cut := ⟨om_X12_cut, fun _ => ⟨sm_inw 6 118 rfl rfl, sm_inw 0 14 rfl rfl⟩⟩


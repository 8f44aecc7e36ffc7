/-! the tables are in order -/
theorem om_X0_answer : sm_okM sm_P pm_X0_answer = true := sm_okMq_of [[0, 1, 4, 7, 8, 9, 11, 12, 15, 18, 19, 20, 22, 23, 26, 29, 30, 33, 35], [38, 39, 42, 43, 44, 45, 47, 49, 50, 53, 56, 57, 58, 59, 62, 65, 66, 67, 70], [71, 73, 74], [77, 78, 81, 84, 85, 86, 87, 89, 90, 91, 93, 94, 95, 96, 99, 102, 103, 104, 105, 106, 109], [110, 111, 114, 117, 118, 119, 120, 122, 123, 124, 126, 127, 128, 129, 132, 135, 136, 137, 138, 139, 140, 143]] (by decide +kernel)
theorem ok_X0_answer : sm_OK sm_P pm_X0_answer := ⟨om_X0_answer, fun _ => ⟨sm_inw 4 145 rfl rfl, sm_inw 0 13 rfl rfl⟩⟩
theorem om_X0_answered : sm_okM sm_P pm_X0_answered = true := sm_okMq_of [[0, 1, 3, 4, 6], [6, 8, 9, 12, 15], [18, 19, 22, 23, 26, 28, 31, 32, 33, 36, 37, 40, 43, 44, 47, 50, 51, 52, 53, 56, 59, 60, 61, 62, 65, 67, 68, 71, 72, 75, 78, 79, 82, 85, 86, 87, 88, 91, 94, 95, 96], [96, 97, 100, 102, 103, 106, 109, 110, 111, 113, 114, 117, 120, 121, 122, 124, 126, 128], [131, 133, 135], [138, 140, 142], [145, 146], [149, 150], [150, 152, 154, 156], [159, 161, 163], [166, 167], [170, 171], [171, 173, 174], [177, 179], [182], [185, 187], [190, 193], [193, 196], [199, 201]] (by decide +kernel)
theorem ok_X0_answered : sm_OK sm_P pm_X0_answered := ⟨om_X0_answered, fun _ => ⟨sm_inw 4 122 rfl rfl, sm_inw 0 13 rfl rfl⟩⟩
theorem om_X0_answersOf : sm_okM sm_P pm_X0_answersOf = true := sm_okMq_of [[0, 1, 2, 3, 4], [4, 5, 6, 9], [12, 13, 14, 15, 16, 17], [20, 21, 24, 25, 26, 27, 28], [28, 29, 30, 31, 32, 33, 34, 35], [38, 39, 42, 43, 44, 45, 46, 47, 48], [48, 51], [54, 55]] (by decide +kernel)
theorem ok_X0_answersOf : sm_OK sm_P pm_X0_answersOf := ⟨om_X0_answersOf, fun _ => ⟨sm_inw 4 170 rfl rfl, sm_inw 0 13 rfl rfl⟩⟩
theorem om_X0_countLeft : sm_okM sm_P pm_X0_countLeft = true := sm_okMq_of [[0, 1, 2, 3, 5], [5, 7, 8], [11, 12], [15, 16, 19, 21, 22, 23, 24], [27, 30], [30, 33], [36, 37]] (by decide +kernel)
theorem ok_X0_countLeft : sm_OK sm_P pm_X0_countLeft := ⟨om_X0_countLeft, fun _ => ⟨sm_inw 4 174 rfl rfl, sm_inw 0 13 rfl rfl⟩⟩
theorem om_X0_countStates : sm_okM sm_P pm_X0_countStates = true := sm_okMq_of [[0, 1, 4], [7], [8, 9, 10, 13, 14, 17, 20, 22, 25, 26, 27, 28], [28, 29, 30], [33, 34, 37, 38, 41, 42, 45, 46, 47, 50, 51, 52, 53, 54, 55, 56, 57, 58, 61, 64, 65, 68, 71], [74, 75, 76], [76, 77, 80], [83, 84, 87, 88, 89, 90, 91, 92, 95, 98, 99, 102], [105]] (by decide +kernel)
theorem ok_X0_countStates : sm_OK sm_P pm_X0_countStates := ⟨om_X0_countStates, fun _ => ⟨sm_inw 4 160 rfl rfl, sm_inw 0 13 rfl rfl⟩⟩
theorem om_X0_firstQuestion : sm_okM sm_P pm_X0_firstQuestion = true := sm_okMq_of [[0, 1, 2], [2, 3, 4, 7], [10, 11, 14, 15, 16], [19, 20, 21, 22, 25, 26, 29, 30, 31], [34, 35], [36, 39], [42, 44]] (by decide +kernel)
theorem ok_X0_firstQuestion : sm_OK sm_P pm_X0_firstQuestion := ⟨om_X0_firstQuestion, fun _ => ⟨sm_inw 4 191 rfl rfl, sm_inw 0 13 rfl rfl⟩⟩
theorem om_X0_init : sm_okM sm_P pm_X0_init = true := sm_okMq_of [[0, 1, 4, 5, 7, 9, 12, 13, 16, 18, 21, 22, 25, 27, 30, 31, 32, 35, 36, 37, 40, 41, 42, 45]] (by decide +kernel)
theorem ok_X0_init : sm_OK sm_P pm_X0_init := ⟨om_X0_init, fun _ => ⟨sm_inw 1 224 rfl rfl, sm_inw 0 13 rfl rfl⟩⟩
theorem om_X0_isLeft : sm_okM sm_P pm_X0_isLeft = true := sm_okMq_of [[0, 1, 2, 5], [8, 9, 10], [13, 14], [15, 17, 18, 19, 20, 21], [24, 25, 26, 27, 28, 29, 32], [35, 36, 37, 38, 39, 40, 41, 42, 43, 45, 47, 50], [53, 54], [57, 58], [58], [59, 61, 62, 63, 64, 65], [68, 69, 70, 71, 72, 73, 74, 76, 78, 81], [82, 83, 84, 85, 86, 87, 90], [93, 94, 95, 96, 97, 98, 99, 100, 101, 103, 105, 108], [111, 112], [113, 114, 115, 116, 117, 118, 121], [124, 125, 126, 127, 128, 129, 130, 131, 132, 134, 136, 139], [142, 143], [146, 147], [147]] (by decide +kernel)
theorem ok_X0_isLeft : sm_OK sm_P pm_X0_isLeft := ⟨om_X0_isLeft, fun _ => ⟨sm_inw 4 141 rfl rfl, sm_inw 0 13 rfl rfl⟩⟩
theorem om_X0_leftWith : sm_okM sm_P pm_X0_leftWith = true := sm_okMq_of [[0, 1, 3, 4, 6], [6, 8, 9, 12, 15], [18, 19, 22, 23, 26, 28, 31, 32, 33, 34, 35, 36, 39, 42, 43, 44, 47], [50, 53], [53, 56], [59, 61]] (by decide +kernel)
theorem ok_X0_leftWith : sm_OK sm_P pm_X0_leftWith := ⟨om_X0_leftWith, fun _ => ⟨sm_inw 4 137 rfl rfl, sm_inw 0 13 rfl rfl⟩⟩
theorem om_X0_neededWith : sm_okM sm_P pm_X0_neededWith = true := sm_okMq_of [[0, 1, 2, 3, 4, 5, 6, 7, 8, 9, 11, 12, 13, 15, 16, 17], [20, 22], [23, 25, 26, 27, 30, 31, 32, 33, 34, 35, 38, 39, 41, 42, 43, 46, 47, 50]] (by decide +kernel)
theorem ok_X0_neededWith : sm_OK sm_P pm_X0_neededWith := ⟨om_X0_neededWith, fun _ => ⟨sm_inw 4 182 rfl rfl, sm_inw 0 13 rfl rfl⟩⟩
theorem om_X0_spread : sm_okM sm_P pm_X0_spread = true := sm_okMq_of [[0, 2, 3, 6, 7, 8, 9, 10, 11], [14], [15, 16, 17, 20], [23, 24, 25], [28, 29, 32, 33, 34, 35, 37, 38, 39], [40, 41, 43], [43, 45, 46], [49, 50, 51, 52, 54, 56, 59], [62, 64], [67, 70, 71, 72], [75, 78, 79, 80, 81, 82], [82, 84, 85, 86, 87, 88, 89, 90, 92, 93, 94, 96, 98, 99, 102], [102, 105], [108]] (by decide +kernel)
theorem ok_X0_spread : sm_OK sm_P pm_X0_spread := ⟨om_X0_spread, fun _ => ⟨sm_inw 4 165 rfl rfl, sm_inw 0 13 rfl rfl⟩⟩
theorem om_X0_workOut : sm_okM sm_P pm_X0_workOut = true := sm_okMq_of [[0, 3, 4], [4, 5], [8, 9, 12, 13, 14, 15], [18, 19], [22, 24], [24, 26, 27, 29], [29, 31, 32, 35], [38, 40], [43, 45, 46, 47, 49, 52, 55, 57, 60], [63, 64, 67, 68, 70, 71, 74], [77]] (by decide +kernel)
theorem ok_X0_workOut : sm_OK sm_P pm_X0_workOut := ⟨om_X0_workOut, fun _ => ⟨sm_inw 4 178 rfl rfl, sm_inw 0 13 rfl rfl⟩⟩
theorem om_X10_addPart : sm_okM sm_P pm_X10_addPart = true := sm_okMq_of [[0, 1, 4, 5, 6, 7, 8], [11, 12, 14], [17], [18, 19], [22, 23, 26, 27, 28, 29], [32, 33, 36, 37, 38, 39, 40, 41, 42], [42, 43, 44, 45, 46, 49, 50, 51, 52, 53, 54, 55, 56], [59, 60, 61, 64, 65], [68, 69, 72, 73, 74, 75], [78, 79, 82, 83, 84, 85, 86, 87, 88], [88]] (by decide +kernel)
theorem ok_X10_addPart : sm_OK sm_P pm_X10_addPart := ⟨om_X10_addPart, fun _ => ⟨sm_inw 2 187 rfl rfl, sm_inw 0 5 rfl rfl⟩⟩
theorem om_X10_addPath : sm_okM sm_P pm_X10_addPath = true := sm_okMq_of [[0, 1], [4, 5, 7], [10, 11], [14, 15, 17], [20], [21, 22, 24, 25, 26, 27, 29, 30, 33, 35, 36, 38, 40], [43, 44, 46], [49, 50, 53, 55, 56, 57, 58, 61, 62, 64, 65, 66, 67, 68, 69], [69]] (by decide +kernel)
theorem ok_X10_addPath : sm_OK sm_P pm_X10_addPath := ⟨om_X10_addPath, fun _ => ⟨sm_inw 2 210 rfl rfl, sm_inw 0 5 rfl rfl⟩⟩
theorem om_X10_addSaying : sm_okM sm_P pm_X10_addSaying = true := sm_okMq_of [[0, 1, 4, 6], [9], [10, 11], [14, 15, 16, 19, 20, 21, 24, 25, 26, 29], [29, 30, 33, 34, 37, 38, 39, 40, 43, 44, 47, 48, 49, 50, 51, 52, 53, 56, 57, 58, 61]] (by decide +kernel)
theorem ok_X10_addSaying : sm_OK sm_P pm_X10_addSaying := ⟨om_X10_addSaying, fun _ => ⟨sm_inw 2 152 rfl rfl, sm_inw 0 5 rfl rfl⟩⟩
theorem om_X10_allBits : sm_okM sm_P pm_X10_allBits = true := sm_okMq_of [[0, 1, 2, 5, 6, 7, 8]] (by decide +kernel)
theorem ok_X10_allBits : sm_OK sm_P pm_X10_allBits := ⟨om_X10_allBits, fun _ => ⟨sm_inw 3 61 rfl rfl, sm_inw 0 5 rfl rfl⟩⟩
theorem om_X10_clear : sm_okM sm_P pm_X10_clear = true := sm_okMq_of [[0, 1, 2, 5, 6, 7, 10, 11, 12, 15, 16, 17, 20, 21, 22, 25, 26, 27, 30, 31, 32, 35, 36, 39, 41, 44, 45, 46], [46, 47, 49], [52, 53, 56, 57, 59, 60, 61, 62, 63, 64, 67], [70, 71, 74, 75, 78, 79, 82, 83, 86, 87, 90, 93, 94, 97, 98, 101, 102, 105, 106, 109, 110, 113, 114, 117, 118, 121]] (by decide +kernel)
theorem ok_X10_clear : sm_OK sm_P pm_X10_clear := ⟨om_X10_clear, fun _ => ⟨sm_inw 0 115 rfl rfl, sm_inw 0 5 rfl rfl⟩⟩
theorem om_X10_findMoves : sm_okM sm_P pm_X10_findMoves = true := sm_okMq_of [[0, 1, 2, 5, 6, 7], [7, 8, 9, 12], [15, 16, 17, 18, 19], [19, 20, 21, 24], [27, 28, 31, 32, 33, 34], [37, 38, 41, 42, 43, 44, 47, 48, 49], [52, 53], [56, 57], [57, 58, 59], [62, 63, 66, 67, 68, 69, 72, 73, 74], [77, 78, 81, 83], [86, 87, 90, 91, 94, 95, 96, 97, 100, 101, 104, 105, 106, 107, 110, 111, 114, 115, 116, 119, 120, 121, 122, 125, 126, 127, 130, 131, 132, 133, 136, 137, 138, 141], [141, 144], [147, 150], [153]] (by decide +kernel)
theorem ok_X10_findMoves : sm_OK sm_P pm_X10_findMoves := ⟨om_X10_findMoves, fun _ => ⟨sm_inw 3 11 rfl rfl, sm_inw 0 5 rfl rfl⟩⟩
theorem om_X10_findWalks : sm_okM sm_P pm_X10_findWalks = true := sm_okMq_of [[0, 1, 2], [2, 3, 4, 7], [10, 11, 12], [12, 13, 14, 17], [20, 21, 22], [22, 23, 24], [27, 28, 29, 30, 33, 35, 36, 37, 38, 41, 43, 45], [48, 50], [53, 54, 55, 56, 58, 60, 61, 64], [64, 67], [70, 73], [76, 79], [82]] (by decide +kernel)
theorem ok_X10_findWalks : sm_OK sm_P pm_X10_findWalks := ⟨om_X10_findWalks, fun _ => ⟨sm_inw 3 2 rfl rfl, sm_inw 0 5 rfl rfl⟩⟩
theorem om_X10_firstSpan : sm_okM sm_P pm_X10_firstSpan = true := sm_okMq_of [[0, 1, 2, 3, 4, 5, 6, 7]] (by decide +kernel)
theorem ok_X10_firstSpan : sm_OK sm_P pm_X10_firstSpan := ⟨om_X10_firstSpan, fun _ => ⟨sm_inw 2 234 rfl rfl, sm_inw 0 5 rfl rfl⟩⟩
theorem om_X10_init : sm_okM sm_P pm_X10_init = true := sm_okMq_of [[0, 1, 4, 5, 7, 9, 12, 13, 15, 17, 20, 21, 23, 25, 28, 29, 32, 33, 35, 38, 41, 42, 44, 46, 49, 50, 52, 54, 57, 58, 60, 62, 65, 66, 69, 70, 72, 75, 78, 79, 82], [82, 83, 84, 87, 90, 91, 93, 95, 98, 99, 101, 103, 106, 107, 109, 111, 114, 115, 118]] (by decide +kernel)
theorem ok_X10_init : sm_OK sm_P pm_X10_init := ⟨om_X10_init, fun _ => ⟨sm_inw 0 81 rfl rfl, sm_inw 0 5 rfl rfl⟩⟩
theorem om_X10_isOpen : sm_okM sm_P pm_X10_isOpen = true := sm_okMq_of [[0, 1, 4, 7, 8, 9, 12, 13], [16, 17], [20, 21], [21]] (by decide +kernel)
theorem ok_X10_isOpen : sm_OK sm_P pm_X10_isOpen := ⟨om_X10_isOpen, fun _ => ⟨sm_inw 2 176 rfl rfl, sm_inw 0 5 rfl rfl⟩⟩
theorem om_X10_lastSpan : sm_okM sm_P pm_X10_lastSpan = true := sm_okMq_of [[0, 1, 4, 5, 6, 7, 8, 11, 12, 13, 16, 17, 18, 19, 20, 21, 22, 25, 26, 27, 28, 31, 32, 33, 34]] (by decide +kernel)
theorem ok_X10_lastSpan : sm_OK sm_P pm_X10_lastSpan := ⟨om_X10_lastSpan, fun _ => ⟨sm_inw 2 230 rfl rfl, sm_inw 0 5 rfl rfl⟩⟩
theorem om_X10_partsOf : sm_okM sm_P pm_X10_partsOf = true := sm_okMq_of [[0, 1, 2, 3, 4, 5, 6, 7], [10, 11, 12, 15, 16], [19, 20, 23, 24, 25], [28, 29], [29]] (by decide +kernel)
theorem ok_X10_partsOf : sm_OK sm_P pm_X10_partsOf := ⟨om_X10_partsOf, fun _ => ⟨sm_inw 2 238 rfl rfl, sm_inw 0 5 rfl rfl⟩⟩
theorem om_X10_putLastTime : sm_okM sm_P pm_X10_putLastTime = true := sm_okMq_of [[0, 1, 4], [7, 8, 11, 12, 13], [16, 17, 18, 21, 22, 23, 24, 25], [25]] (by decide +kernel)
theorem ok_X10_putLastTime : sm_OK sm_P pm_X10_putLastTime := ⟨om_X10_putLastTime, fun _ => ⟨sm_inw 2 168 rfl rfl, sm_inw 0 5 rfl rfl⟩⟩
theorem om_X10_trustLast : sm_okM sm_P pm_X10_trustLast = true := sm_okMq_of [[0, 1, 4], [7, 8, 11, 13], [16, 17, 20, 21, 24, 25, 26, 27, 28], [28]] (by decide +kernel)
theorem ok_X10_trustLast : sm_OK sm_P pm_X10_trustLast := ⟨om_X10_trustLast, fun _ => ⟨sm_inw 2 195 rfl rfl, sm_inw 0 5 rfl rfl⟩⟩
theorem om_X10_trustOf : sm_okM sm_P pm_X10_trustOf = true := sm_okMq_of [[0, 1, 2, 3, 4], [4, 5, 6, 9], [12, 13, 14, 15, 16, 17, 18, 19, 22, 23, 24, 25, 26, 27, 30], [33, 34]] (by decide +kernel)
theorem ok_X10_trustOf : sm_OK sm_P pm_X10_trustOf := ⟨om_X10_trustOf, fun _ => ⟨sm_inw 4 57 rfl rfl, sm_inw 0 5 rfl rfl⟩⟩
theorem om_X10_walkBetween : sm_okM sm_P pm_X10_walkBetween = true := sm_okMq_of [[0, 1], [4, 5, 7], [10, 11], [14, 15, 17], [20, 22], [23, 24, 27, 28, 30, 31, 32, 33, 34]] (by decide +kernel)
theorem ok_X10_walkBetween : sm_OK sm_P pm_X10_walkBetween := ⟨om_X10_walkBetween, fun _ => ⟨sm_inw 3 6 rfl rfl, sm_inw 0 5 rfl rfl⟩⟩
theorem om_X11_alone : sm_okM sm_P pm_X11_alone = true := sm_okMq_of [[0, 1, 2, 5], [8, 9, 10, 13], [16, 17], [18, 19, 20, 21, 22, 25]] (by decide +kernel)
theorem ok_X11_alone : sm_OK sm_P pm_X11_alone := ⟨om_X11_alone, fun _ => ⟨sm_inw 5 13 rfl rfl, sm_inw 0 1 rfl rfl⟩⟩
theorem om_X11_ask : sm_okM sm_P pm_X11_ask = true := sm_okMq_of [[0, 1], [4, 5, 6, 9, 12], [15, 16], [17, 18, 21], [24, 25, 28, 29, 32, 33, 34, 37], [40, 42], [42]] (by decide +kernel)
theorem ok_X11_ask : sm_OK sm_P pm_X11_ask := ⟨om_X11_ask, fun _ => ⟨sm_inw 4 118 rfl rfl, sm_inw 0 1 rfl rfl⟩⟩
theorem om_X11_back : sm_okM sm_P pm_X11_back = true := sm_okMq_of [[0, 1], [4, 5, 6, 9], [12, 13], [14, 15, 16, 19, 20, 21, 24, 25, 28]] (by decide +kernel)
theorem ok_X11_back : sm_OK sm_P pm_X11_back := ⟨om_X11_back, fun _ => ⟨sm_inw 2 61 rfl rfl, sm_inw 0 1 rfl rfl⟩⟩
theorem om_X11_bears : sm_okM sm_P pm_X11_bears = true := sm_okMq_of [[0, 1, 2, 5], [8, 9], [10, 12, 13, 14, 17, 20, 21, 22, 23, 24, 25], [25, 26], [29, 30, 33, 34, 35, 38, 40, 41, 43, 45, 47], [47, 49, 51, 52, 55, 56, 57, 60, 61], [64, 65, 68, 71, 73, 74, 77, 80, 83], [86, 88], [89, 91], [94, 95, 98, 101, 103, 104, 107, 110, 113], [116, 117], [120, 121], [121, 123, 126], [129, 131], [134, 135, 136], [136, 139], [142, 143]] (by decide +kernel)
theorem ok_X11_bears : sm_OK sm_P pm_X11_bears := ⟨om_X11_bears, fun _ => ⟨sm_inw 3 221 rfl rfl, sm_inw 0 1 rfl rfl⟩⟩
theorem om_X11_been : sm_okM sm_P pm_X11_been = true := sm_okMq_of [[0, 1, 2, 5], [8, 9, 10, 13], [16, 17], [18, 19, 20, 21, 22, 25, 28, 29, 32, 35], [38, 40], [41, 42, 45, 48], [51, 53], [54, 55], [58, 59, 62, 65], [68, 69, 72, 75], [75]] (by decide +kernel)
theorem ok_X11_been : sm_OK sm_P pm_X11_been := ⟨om_X11_been, fun _ => ⟨sm_inw 4 114 rfl rfl, sm_inw 0 1 rfl rfl⟩⟩
theorem om_X11_breaks : sm_okM sm_P pm_X11_breaks = true := sm_okMq_of [[0, 1, 2], [2, 3, 4, 7, 10], [13, 14, 17, 20, 21, 24, 27, 28, 29, 30, 33, 34, 35, 38, 41, 42, 45, 48, 49, 50, 51, 54, 55, 56, 59, 62, 63, 64, 66, 67, 68], [71, 72, 73], [76], [79, 81], [84, 85, 86, 87, 90, 92], [95, 96], [97, 100], [103, 105]] (by decide +kernel)
theorem ok_X11_breaks : sm_OK sm_P pm_X11_breaks := ⟨om_X11_breaks, fun _ => ⟨sm_inw 3 236 rfl rfl, sm_inw 0 1 rfl rfl⟩⟩
theorem om_X11_can : sm_okM sm_P pm_X11_can = true := sm_okMq_of [[0, 1, 2, 5], [8, 9, 12], [15, 16], [17, 18, 21], [24, 26], [27, 28, 29, 30, 32], [32, 34, 35, 38, 41], [44, 45, 47, 50, 52, 53, 56, 58, 59, 60, 63, 64], [67, 68, 69, 72, 74, 75, 76, 79], [82, 85], [85, 88], [91, 92]] (by decide +kernel)
theorem ok_X11_can : sm_OK sm_P pm_X11_can := ⟨om_X11_can, fun _ => ⟨sm_inw 3 206 rfl rfl, sm_inw 0 1 rfl rfl⟩⟩
theorem om_X11_cheapest : sm_okM sm_P pm_X11_cheapest = true := sm_okMq_of [[0, 1, 4, 5, 8, 9, 12, 15], [18, 20], [21, 22, 25, 26, 29, 32, 33, 34], [37, 39], [42, 43, 46, 49, 50, 51], [51]] (by decide +kernel)
theorem ok_X11_cheapest : sm_OK sm_P pm_X11_cheapest := ⟨om_X11_cheapest, fun _ => ⟨sm_inw 4 49 rfl rfl, sm_inw 0 1 rfl rfl⟩⟩
theorem om_X11_choice : sm_okM sm_P pm_X11_choice = true := sm_okMq_of [[0, 1, 2, 5], [8, 9], [10, 11, 12, 15, 16, 17], [20, 21], [22, 23, 24, 27], [30, 32], [35, 36, 39, 40, 41, 44], [44]] (by decide +kernel)
theorem ok_X11_choice : sm_OK sm_P pm_X11_choice := ⟨om_X11_choice, fun _ => ⟨sm_inw 3 156 rfl rfl, sm_inw 0 1 rfl rfl⟩⟩
theorem om_X11_could : sm_okM sm_P pm_X11_could = true := sm_okMq_of [[0, 1, 2, 5], [8, 9, 10, 13], [16, 17, 20], [23, 25, 28], [31, 32], [33, 34, 36], [39, 40], [41, 42, 43, 44, 45, 47, 50, 51, 54, 57], [60, 62], [63, 64, 67, 70], [73, 74], [77, 78], [78]] (by decide +kernel)
theorem ok_X11_could : sm_OK sm_P pm_X11_could := ⟨om_X11_could, fun _ => ⟨sm_inw 4 98 rfl rfl, sm_inw 0 1 rfl rfl⟩⟩
theorem om_X11_count : sm_okM sm_P pm_X11_count = true := sm_okMq_of [[0, 1], [48, 49, 52, 55], [56, 57, 60, 63], [64, 65, 68, 71], [72, 73, 76, 79], [80, 81, 84, 87], [88, 89, 92, 95], [96, 97, 100, 101, 102, 105, 108], [109, 110, 113], [114, 115, 117], [120, 121, 122, 124, 125, 128], [131, 132, 135, 138, 139, 141, 142, 143], [146, 147], [147]] (by decide +kernel)
theorem ok_X11_count : sm_OK sm_P pm_X11_count := ⟨om_X11_count, fun _ => ⟨sm_inw 5 34 rfl rfl, sm_inw 0 1 rfl rfl⟩⟩
theorem om_X11_doubt : sm_okM sm_P pm_X11_doubt = true := sm_okMq_of [[0, 1, 2, 5], [8, 9], [10, 11, 12, 13, 14, 15], [18, 19, 22, 23, 26, 27, 28, 31, 32, 35, 38, 39, 40, 41], [44, 45, 48, 49, 52, 53, 54, 55, 56, 59], [59, 60, 63, 64]] (by decide +kernel)
theorem ok_X11_doubt : sm_OK sm_P pm_X11_doubt := ⟨om_X11_doubt, fun _ => ⟨sm_inw 3 28 rfl rfl, sm_inw 0 1 rfl rfl⟩⟩
theorem om_X11_drawn : sm_okM sm_P pm_X11_drawn = true := sm_okMq_of [[0, 1, 2, 5], [8, 9, 12], [15, 16], [17, 18, 19, 22, 24, 26], [29, 31], [34, 35, 37, 38, 39, 42], [42]] (by decide +kernel)
theorem ok_X11_drawn : sm_OK sm_P pm_X11_drawn := ⟨om_X11_drawn, fun _ => ⟨sm_inw 4 233 rfl rfl, sm_inw 0 1 rfl rfl⟩⟩
theorem om_X11_ends : sm_okM sm_P pm_X11_ends = true := sm_okMq_of [[0, 1, 2, 5], [8, 9], [10, 11, 14], [17, 19], [20, 22, 23, 24, 26], [26, 28, 29, 32, 35], [38, 39, 42, 43, 45, 48, 49, 50, 53, 55, 56, 58], [61, 62], [65, 67, 68], [71], [74, 76, 77], [80, 82, 83], [83, 86], [89, 90]] (by decide +kernel)
theorem ok_X11_ends : sm_OK sm_P pm_X11_ends := ⟨om_X11_ends, fun _ => ⟨sm_inw 3 202 rfl rfl, sm_inw 0 1 rfl rfl⟩⟩
theorem om_X11_feed : sm_okM sm_P pm_X11_feed = true := sm_okMq_of [[0, 1, 4, 6, 7, 10], [13, 14], [15, 16, 17, 20, 21, 22, 25, 26, 27, 30, 31, 33, 36, 37, 39, 42, 43, 46]] (by decide +kernel)
theorem ok_X11_feed : sm_OK sm_P pm_X11_feed := ⟨om_X11_feed, fun _ => ⟨sm_inw 2 53 rfl rfl, sm_inw 0 1 rfl rfl⟩⟩
theorem om_X11_fewer : sm_okM sm_P pm_X11_fewer = true := sm_okMq_of [[0, 1, 4, 7], [10, 11], [12, 13, 16, 17, 20, 21, 22, 25, 26, 29, 30, 33, 36]] (by decide +kernel)
theorem ok_X11_fewer : sm_OK sm_P pm_X11_fewer := ⟨om_X11_fewer, fun _ => ⟨sm_inw 4 202 rfl rfl, sm_inw 0 1 rfl rfl⟩⟩
theorem om_X11_first : sm_okM sm_P pm_X11_first = true := sm_okMq_of [[0, 1, 2, 5, 6, 7], [10, 11], [14, 15, 18, 19, 22, 25], [25]] (by decide +kernel)
theorem ok_X11_first : sm_OK sm_P pm_X11_first := ⟨om_X11_first, fun _ => ⟨sm_inw 4 187 rfl rfl, sm_inw 0 1 rfl rfl⟩⟩
theorem om_X11_forced : sm_okM sm_P pm_X11_forced = true := sm_okMq_of [[0, 1, 2, 5], [8, 9, 10, 13], [16, 17], [18, 19, 22], [25, 27], [28, 30, 31, 32, 33], [33, 34, 35, 38, 41], [44, 45, 48, 49, 50, 53, 55, 56], [59, 61, 62], [65, 67], [68, 70, 71, 74], [77, 78]] (by decide +kernel)
theorem ok_X11_forced : sm_OK sm_P pm_X11_forced := ⟨om_X11_forced, fun _ => ⟨sm_inw 3 213 rfl rfl, sm_inw 0 1 rfl rfl⟩⟩
theorem om_X11_gap : sm_okM sm_P pm_X11_gap = true := sm_okMq_of [[0, 1, 2, 5], [8, 9, 10, 13], [16, 19], [20, 21, 22, 25, 27, 29], [32, 35], [38, 39, 42, 44, 45, 46, 48, 51], [51]] (by decide +kernel)
theorem ok_X11_gap : sm_OK sm_P pm_X11_gap := ⟨om_X11_gap, fun _ => ⟨sm_inw 3 197 rfl rfl, sm_inw 0 1 rfl rfl⟩⟩
theorem om_X11_give : sm_okM sm_P pm_X11_give = true := sm_okMq_of [[0, 1, 2, 5, 8, 9, 12, 15, 16, 17, 18, 19, 22, 25, 26, 27, 28, 31]] (by decide +kernel)
theorem ok_X11_give : sm_OK sm_P pm_X11_give := ⟨om_X11_give, fun _ => ⟨sm_inw 5 1 rfl rfl, sm_inw 0 1 rfl rfl⟩⟩
theorem om_X11_givingUp : sm_okM sm_P pm_X11_givingUp = true := sm_okMq_of [[0, 1], [4, 5], [6, 7, 10, 11, 14, 15, 18, 21], [24, 26], [27, 28, 29, 32, 35], [38, 39, 42, 45, 46, 47], [50, 51], [51]] (by decide +kernel)
theorem ok_X11_givingUp : sm_OK sm_P pm_X11_givingUp := ⟨om_X11_givingUp, fun _ => ⟨sm_inw 4 45 rfl rfl, sm_inw 0 1 rfl rfl⟩⟩
theorem om_X11_givingUps : sm_okM sm_P pm_X11_givingUps = true := sm_okMq_of [[0, 1, 4, 5, 8, 9, 12, 15], [18, 19, 22, 25], [28, 30], [30]] (by decide +kernel)
theorem ok_X11_givingUps : sm_OK sm_P pm_X11_givingUps := ⟨om_X11_givingUps, fun _ => ⟨sm_inw 4 41 rfl rfl, sm_inw 0 1 rfl rfl⟩⟩
theorem om_X11_goWithGuest : sm_okM sm_P pm_X11_goWithGuest = true := sm_okMq_of [[0, 1, 4, 5, 8, 9, 12, 13, 16, 19, 20, 23, 26, 27, 28, 29, 30, 33, 34, 37, 38, 39, 40, 42, 45, 46, 49, 50, 51, 54]] (by decide +kernel)
theorem ok_X11_goWithGuest : sm_OK sm_P pm_X11_goWithGuest := ⟨om_X11_goWithGuest, fun _ => ⟨sm_inw 4 106 rfl rfl, sm_inw 0 1 rfl rfl⟩⟩
theorem om_X11_goes : sm_okM sm_P pm_X11_goes = true := sm_okMq_of [[0, 1], [4, 5, 6, 9, 12], [15, 16], [17, 18, 19, 22, 23, 24], [27, 28], [31, 32, 35, 36, 38, 39, 40, 43], [43]] (by decide +kernel)
theorem ok_X11_goes : sm_OK sm_P pm_X11_goes := ⟨om_X11_goes, fun _ => ⟨sm_inw 3 177 rfl rfl, sm_inw 0 1 rfl rfl⟩⟩
theorem om_X11_hand : sm_okM sm_P pm_X11_hand = true := sm_okMq_of [[0, 1, 2, 5], [8, 9], [10, 11, 12, 15, 16, 17], [20, 21], [22, 23, 24, 27], [30, 31], [32, 33, 36, 37, 40], [43, 45], [48, 49, 52, 53, 56, 59, 60, 61, 64], [64]] (by decide +kernel)
theorem ok_X11_hand : sm_OK sm_P pm_X11_hand := ⟨om_X11_hand, fun _ => ⟨sm_inw 5 29 rfl rfl, sm_inw 0 1 rfl rfl⟩⟩
theorem om_X11_hour : sm_okM sm_P pm_X11_hour = true := sm_okMq_of [[0, 1, 2, 5], [8, 9], [10, 11, 12, 15, 17, 19], [22, 24], [27, 28, 31, 33, 34, 35, 38], [38]] (by decide +kernel)
theorem ok_X11_hour : sm_OK sm_P pm_X11_hour := ⟨om_X11_hour, fun _ => ⟨sm_inw 3 181 rfl rfl, sm_inw 0 1 rfl rfl⟩⟩
theorem om_X11_init : sm_okM sm_P pm_X11_init = true := sm_okMq_of [[0, 1, 4, 5, 8, 10, 13, 14, 17, 18, 21, 24, 25, 28, 29, 32, 35, 36, 39, 40, 43, 46, 47, 50, 51, 54, 57, 58, 59, 62, 63, 64, 67, 68, 69, 72, 73, 74, 77, 78, 81], [81, 82, 84, 86, 87, 88, 91, 92, 95, 98, 101, 102, 105, 106, 108, 110, 111, 112, 115, 116, 119, 122, 125, 126, 129, 130, 132, 134, 135, 136, 139, 140, 143, 146, 149, 150, 153, 154, 155, 158, 161], [161, 164, 165, 168, 169, 170, 173, 174, 177, 180, 183]] (by decide +kernel)
theorem ok_X11_init : sm_OK sm_P pm_X11_init := ⟨om_X11_init, fun _ => ⟨sm_inw 0 22 rfl rfl, sm_inw 0 1 rfl rfl⟩⟩
theorem om_X11_isDoubted : sm_okM sm_P pm_X11_isDoubted = true := sm_okMq_of [[0, 1, 4, 7, 8, 9, 10, 11], [14, 15], [18, 19], [19]] (by decide +kernel)
theorem ok_X11_isDoubted : sm_OK sm_P pm_X11_isDoubted := ⟨om_X11_isDoubted, fun _ => ⟨sm_inw 3 172 rfl rfl, sm_inw 0 1 rfl rfl⟩⟩
theorem om_X11_isGoneThrough : sm_okM sm_P pm_X11_isGoneThrough = true := sm_okMq_of [[0, 1, 4], [7, 8, 11, 12, 15, 16, 19, 20, 23, 26, 27, 30, 33, 34, 35, 36, 37, 40, 41, 44, 45, 48, 49, 52, 53, 54, 57], [57, 58, 61, 64], [67, 68], [71, 72], [72]] (by decide +kernel)
theorem ok_X11_isGoneThrough : sm_OK sm_P pm_X11_isGoneThrough := ⟨om_X11_isGoneThrough, fun _ => ⟨sm_inw 3 57 rfl rfl, sm_inw 0 1 rfl rfl⟩⟩
theorem om_X11_isKept : sm_okM sm_P pm_X11_isKept = true := sm_okMq_of [[0, 1, 4], [7, 8, 11, 12, 15, 16, 19, 20, 23, 26, 27, 30, 33, 34, 35, 36, 37, 40, 41, 42, 45], [45, 46, 49, 52], [55, 56, 59, 60, 63, 64, 67], [70, 71], [74, 75], [75]] (by decide +kernel)
theorem ok_X11_isKept : sm_OK sm_P pm_X11_isKept := ⟨om_X11_isKept, fun _ => ⟨sm_inw 5 21 rfl rfl, sm_inw 0 1 rfl rfl⟩⟩
theorem om_X11_isMinute : sm_okM sm_P pm_X11_isMinute = true := sm_okMq_of [[0, 1], [4, 5, 8], [11, 12], [15, 16], [16]] (by decide +kernel)
theorem ok_X11_isMinute : sm_OK sm_P pm_X11_isMinute := ⟨om_X11_isMinute, fun _ => ⟨sm_inw 3 209 rfl rfl, sm_inw 0 1 rfl rfl⟩⟩
theorem om_X11_isPerson : sm_okM sm_P pm_X11_isPerson = true := sm_okMq_of [[0, 1], [4, 5, 6, 9, 12], [15, 16], [19, 20], [20]] (by decide +kernel)
theorem ok_X11_isPerson : sm_OK sm_P pm_X11_isPerson := ⟨om_X11_isPerson, fun _ => ⟨sm_inw 4 102 rfl rfl, sm_inw 0 1 rfl rfl⟩⟩


/-! methods checked by the engine -/
def mlc_1 : en_Ct := (106, [(2, 107, 0), (0, 0, 11), (0, 0, 11), (0, -1440, 1440)], [], (0, 0, 1), [(143, [])], 0)
def mlu_1 : List en_Cu := [(5, [(2, 107, 0), (0, 0, 11), (0, 0, 11), (0, -1440, 1440), (0, 0, 11830), (0, 0, 13)], [], [], 419, [0, 0, 0, 0, 0, -30]),
  (7, [(2, 107, 0), (0, 0, 11), (0, 0, 11), (0, -1440, 1440), (0, 0, 11830), (0, 0, 12), (0, 0, 13)], [], [], 417, [0, 0, 0, 0, 0, -30, -2])]
/-! X12_bound -/
theorem mlh_1 {Sc : sm_C} : en_hold ml_tb mlX sm_P Sc mlc_1 := en_chk_ok mlX_ok (T := []) (cuts := mlu_1) (fun _ h => absurd h List.not_mem_nil) (by decide +kernel)
def mlc_2 : en_Ct := (98, [(2, 107, 0), (0, 0, 11), (0, 0, 11), (0, -1440, 1440)], [], (0, 0, 1), [(143, [])], 1)
def mlu_2 : List en_Cu := []
/-! X12_atMost -/
theorem mlh_2 {Sc : sm_C} : en_hold ml_tb mlX sm_P Sc mlc_2 := en_chk_ok mlX_ok (T := [mlc_1]) (cuts := mlu_2) (List.forall_mem_cons.mpr ⟨mlh_1, fun _ h => absurd h List.not_mem_nil⟩) (by decide +kernel)
def mlc_3 : en_Ct := (104, [(2, 107, 0), (0, 0, 11), (0, 0, 10), (0, -1440, 1440), (0, -1440, 1440)], [], (0, 0, 1), [(143, [])], 2)
def mlu_3 : List en_Cu := []
/-! X12_between -/
theorem mlh_3 {Sc : sm_C} : en_hold ml_tb mlX sm_P Sc mlc_3 := en_chk_ok mlX_ok (T := [mlc_2]) (cuts := mlu_3) (List.forall_mem_cons.mpr ⟨mlh_2, fun _ h => absurd h List.not_mem_nil⟩) (by decide +kernel)
def mlc_4 : en_Ct := (139, [(2, 107, 0), (0, 0, 248), (0, 0, 0)], [], (0, 0, 1), [(143, [])], 3)
def mlu_4 : List en_Cu := []
/-! X12_holdsSpan -/
theorem mlh_4 {Sc : sm_C} : en_hold ml_tb mlX sm_P Sc mlc_4 := en_chk_ok mlX_ok (T := [mlc_3]) (cuts := mlu_4) (List.forall_mem_cons.mpr ⟨mlh_3, fun _ h => absurd h List.not_mem_nil⟩) (by decide +kernel)
def mlc_5 : en_Ct := (103, [(2, 107, 0), (0, 1, 12)], [], (0, 0, 1), [(107, [51, 52]), (143, [])], 4)
def mlu_5 : List en_Cu := [(1, [(2, 107, 0), (0, 0, 169)], [], [], 371, [0, -2]),
  (19, [(2, 107, 0), (0, 0, 1), (0, 0, 6)], [], [], 13, [0, 0, -2]),
  (8, [(2, 107, 0), (0, 0, 1), (0, 240, 248)], [], [], 511, [0, 0, -2])]
/-! X12_begins -/
theorem mlh_5 {Sc : sm_C} : en_hold ml_tb mlX sm_P Sc mlc_5 := en_chk_ok mlX_ok (T := [mlc_3, mlc_4]) (cuts := mlu_5) (List.forall_mem_cons.mpr ⟨mlh_3, List.forall_mem_cons.mpr ⟨mlh_4, fun _ h => absurd h List.not_mem_nil⟩⟩) (by decide +kernel)
def mlc_8 : en_Ct := (102, [(2, 107, 0), (0, -2147483648, 2147483647), (0, -2147483648, 2147483647), (0, 0, 1)], [], (0, -2147483648, 2147483647), [(107, [46, 51, 52, 53, 54, 59, 63, 64, 67, 68, 69, 70, 71, 72, 73, 74, 79, 80, 82, 84, 87, 90, 91, 92, 96]), (140, []), (141, []), (142, []), (143, []), (144, []), (145, []), (146, []), (147, []), (148, []), (149, []), (150, []), (151, []), (152, []), (153, []), (154, []), (155, []), (156, []), (157, []), (158, []), (159, []), (160, []), (161, []), (162, []), (163, []), (164, [])], 8)
def mlu_8 : List en_Cu := []
/-! X12_been -/
theorem mlh_8 {Sc : sm_C} : en_hold ml_tb mlX sm_P Sc mlc_8 := en_chk_ok mlX_ok (T := [mlc_5, mlc_6, mlc_7]) (cuts := mlu_8) (List.forall_mem_cons.mpr ⟨mlh_5, List.forall_mem_cons.mpr ⟨mlh_6, List.forall_mem_cons.mpr ⟨mlh_7, fun _ h => absurd h List.not_mem_nil⟩⟩⟩) (by decide +kernel)
def mlc_9 : en_Ct := (107, [(2, 107, 0)], [], (0, -2, 44), [], 0)
def mlu_9 : List en_Cu := [(1, [(2, 107, 0), (0, 0, 45)], [], [], 91, [0, -2])]
/-! X12_breaks -/
theorem mlh_9 {Sc : sm_C} : en_hold ml_tb mlX sm_P Sc mlc_9 := en_chk_ok mlX_ok (T := []) (cuts := mlu_9) (fun _ h => absurd h List.not_mem_nil) (by decide +kernel)
def mlc_12 : en_Ct := (208, [(2, 107, 0)], [], (0, 0, 1023), [], 0)
def mlu_12 : List en_Cu := [(1, [(2, 107, 0), (0, 0, 1023), (0, 0, 10)], [], [], 21, [0, 0, -2])]
/-! X12_undoubted -/
theorem mlh_12 {Sc : sm_C} : en_hold ml_tb mlX sm_P Sc mlc_12 := en_chk_ok mlX_ok (T := []) (cuts := mlu_12) (fun _ h => absurd h List.not_mem_nil) (by decide +kernel)
def mlc_13 : en_Ct := (135, [(2, 107, 0)], [], (9, 0, 0), [(107, [46, 51, 52, 53, 54, 59, 63, 64, 67, 68, 69, 70, 71, 72, 73, 74, 79, 80, 82, 84, 87, 90, 91, 92, 96]), (140, []), (141, []), (142, []), (143, []), (144, []), (145, []), (146, []), (147, []), (148, []), (149, []), (150, []), (151, []), (152, []), (153, []), (154, []), (155, []), (156, []), (157, []), (158, []), (159, []), (160, []), (161, []), (162, []), (163, []), (164, [])], 8)
def mlu_13 : List en_Cu := []
/-! X12_goesAll -/
theorem mlh_13 {Sc : sm_C} : en_hold ml_tb mlX sm_P Sc mlc_13 := en_chk_ok mlX_ok (T := [mlc_5, mlc_10, mlc_11, mlc_12]) (cuts := mlu_13) (List.forall_mem_cons.mpr ⟨mlh_5, List.forall_mem_cons.mpr ⟨mlh_10, List.forall_mem_cons.mpr ⟨mlh_11, List.forall_mem_cons.mpr ⟨mlh_12, fun _ h => absurd h List.not_mem_nil⟩⟩⟩⟩) (by decide +kernel)
def mlc_15 : en_Ct := (109, [(2, 107, 0), (0, -2147483648, 2147483647), (0, -2147483648, 2147483647)], [], (0, -2147483648, 2147483647), [(107, [46, 51, 52, 53, 54, 59, 63, 64, 67, 68, 69, 70, 71, 72, 73, 74, 79, 80, 82, 84, 87, 90, 91, 92, 96]), (140, []), (141, []), (142, []), (143, []), (144, []), (145, []), (146, []), (147, []), (148, []), (149, []), (150, []), (151, []), (152, []), (153, []), (154, []), (155, []), (156, []), (157, []), (158, []), (159, []), (160, []), (161, []), (162, []), (163, []), (164, [])], 9)
def mlu_15 : List en_Cu := [(6, [(2, 107, 0), (0, 0, 9), (0, 0, 1440), (0, -2147483648, 2147483647), (0, 0, 1000)], [], [], 2001, [0, 0, 0, 0, -2])]
/-! X12_can -/
theorem mlh_15 {Sc : sm_C} : en_hold ml_tb mlX sm_P Sc mlc_15 := en_chk_ok mlX_ok (T := [mlc_13, mlc_14]) (cuts := mlu_15) (List.forall_mem_cons.mpr ⟨mlh_13, List.forall_mem_cons.mpr ⟨mlh_14, fun _ h => absurd h List.not_mem_nil⟩⟩) (by decide +kernel)
def mlc_16 : en_Ct := (110, [(2, 107, 0)], [], (9, 0, 0), [(107, [70, 79])], 0)
def mlu_16 : List en_Cu := []
/-! X12_changes -/
theorem mlh_16 {Sc : sm_C} : en_hold ml_tb mlX sm_P Sc mlc_16 := en_chk_ok mlX_ok (T := []) (cuts := mlu_16) (fun _ h => absurd h List.not_mem_nil) (by decide +kernel)
def mlc_18 : en_Ct := (207, [(2, 107, 0), (0, -1, 0)], [], (0, 0, 0), [], 0)
def mlu_18 : List en_Cu := [(1, [(2, 107, 0), (0, -1, 0), (0, 0, 0), (0, 0, 10)], [], [], 21, [0, 0, 0, -2])]
/-! X12_trustIn -/
theorem mlh_18 {Sc : sm_C} : en_hold ml_tb mlX sm_P Sc mlc_18 := en_chk_ok mlX_ok (T := []) (cuts := mlu_18) (fun _ h => absurd h List.not_mem_nil) (by decide +kernel)
def mlc_19 : en_Ct := (111, [(2, 107, 0)], [], (0, -2, 0), [(107, [46, 51, 52, 53, 54, 59, 63, 64, 67, 68, 69, 70, 71, 72, 73, 74, 79, 80, 82, 84, 87, 90, 91, 92, 96]), (140, []), (141, []), (142, []), (143, []), (144, []), (145, []), (146, []), (147, []), (148, []), (149, []), (150, []), (151, []), (152, []), (153, []), (154, []), (155, []), (156, []), (157, []), (158, []), (159, []), (160, []), (161, []), (162, []), (163, []), (164, [])], 10)
def mlu_19 : List en_Cu := [(3, [(2, 107, 0), (0, -2, 0), (0, 0, 1024)], [], [], 2049, [0, 0, -2])]
/-! X12_cheapest -/
theorem mlh_19 {Sc : sm_C} : en_hold ml_tb mlX sm_P Sc mlc_19 := en_chk_ok mlX_ok (T := [mlc_17, mlc_18]) (cuts := mlu_19) (List.forall_mem_cons.mpr ⟨mlh_17, List.forall_mem_cons.mpr ⟨mlh_18, fun _ h => absurd h List.not_mem_nil⟩⟩) (by decide +kernel)
def mlc_20 : en_Ct := (113, [(2, 107, 0), (0, 0, 999), (0, 0, 54)], [], (0, -128, 127), [], 0)
def mlu_20 : List en_Cu := [(1, [(2, 107, 0), (0, 0, 999), (0, 0, 54), (0, -128, 127), (0, 0, 70)], [], [], 141, [0, 0, 0, 0, -2])]
/-! X12_choiceOf -/
theorem mlh_20 {Sc : sm_C} : en_hold ml_tb mlX sm_P Sc mlc_20 := en_chk_ok mlX_ok (T := []) (cuts := mlu_20) (fun _ h => absurd h List.not_mem_nil) (by decide +kernel)
def mlc_21 : en_Ct := (112, [(2, 107, 0), (0, -2147483648, 2147483647), (0, -2147483648, 2147483647)], [], (0, -128, 127), [(107, [46, 51, 52, 53, 54, 59, 63, 64, 67, 68, 69, 70, 71, 72, 73, 74, 79, 80, 82, 84, 87, 90, 91, 92, 96]), (140, []), (141, []), (142, []), (143, []), (144, []), (145, []), (146, []), (147, []), (148, []), (149, []), (150, []), (151, []), (152, []), (153, []), (154, []), (155, []), (156, []), (157, []), (158, []), (159, []), (160, []), (161, []), (162, []), (163, []), (164, [])], 10)
def mlu_21 : List en_Cu := []
/-! X12_choice -/
theorem mlh_21 {Sc : sm_C} : en_hold ml_tb mlX sm_P Sc mlc_21 := en_chk_ok mlX_ok (T := [mlc_20, mlc_13, mlc_10, mlc_12]) (cuts := mlu_21) (List.forall_mem_cons.mpr ⟨mlh_20, List.forall_mem_cons.mpr ⟨mlh_13, List.forall_mem_cons.mpr ⟨mlh_10, List.forall_mem_cons.mpr ⟨mlh_12, fun _ h => absurd h List.not_mem_nil⟩⟩⟩⟩) (by decide +kernel)
def mlc_22 : en_Ct := (115, [(2, 107, 0), (0, 0, 54), (0, 0, 3)], [], (0, 0, 1), [(143, [])], 4)
def mlu_22 : List en_Cu := [(5, [(2, 107, 0), (0, 0, 79), (0, 0, 0), (0, 0, 240)], [], [], 481, [0, 0, 0, -2])]
/-! X12_chooses -/
theorem mlh_22 {Sc : sm_C} : en_hold ml_tb mlX sm_P Sc mlc_22 := en_chk_ok mlX_ok (T := [mlc_4, mlc_2]) (cuts := mlu_22) (List.forall_mem_cons.mpr ⟨mlh_4, List.forall_mem_cons.mpr ⟨mlh_2, fun _ h => absurd h List.not_mem_nil⟩⟩) (by decide +kernel)
def mlc_23 : en_Ct := (115, [(2, 107, 0), (0, 60, 69), (0, 0, 3)], [], (0, 0, 1), [(143, [])], 2)
def mlu_23 : List en_Cu := []
/-! X12_chooses -/
theorem mlh_23 {Sc : sm_C} : en_hold ml_tb mlX sm_P Sc mlc_23 := en_chk_ok mlX_ok (T := [mlc_2]) (cuts := mlu_23) (List.forall_mem_cons.mpr ⟨mlh_2, fun _ h => absurd h List.not_mem_nil⟩) (by decide +kernel)
def mlc_24 : en_Ct := (116, [(2, 107, 0), (0, 0, 69), (0, 1, 70)], [], (9, 0, 0), [(143, [])], 0)
def mlu_24 : List en_Cu := [(1, [(2, 107, 0), (0, 0, 69), (0, 1, 70), (0, 0, 169)], [], [], 339, [0, 0, 0, -2])]
/-! X12_copies -/
theorem mlh_24 {Sc : sm_C} : en_hold ml_tb mlX sm_P Sc mlc_24 := en_chk_ok mlX_ok (T := []) (cuts := mlu_24) (fun _ h => absurd h List.not_mem_nil) (by decide +kernel)
def mlc_25 : en_Ct := (117, [(2, 107, 0), (0, -2147483648, 2147483647), (0, -2147483648, 2147483647), (0, -2147483648, 2147483647), (0, -2147483648, 2147483647)], [], (0, -1, 1), [(107, [46, 51, 52, 53, 54, 59, 63, 64, 67, 68, 69, 70, 71, 72, 73, 74, 79, 80, 82, 84, 87, 90, 91, 92, 96]), (140, []), (141, []), (142, []), (143, []), (144, []), (145, []), (146, []), (147, []), (148, []), (149, []), (150, []), (151, []), (152, []), (153, []), (154, []), (155, []), (156, []), (157, []), (158, []), (159, []), (160, []), (161, []), (162, []), (163, []), (164, [])], 8)
def mlu_25 : List en_Cu := []
/-! X12_could -/
theorem mlh_25 {Sc : sm_C} : en_hold ml_tb mlX sm_P Sc mlc_25 := en_chk_ok mlX_ok (T := [mlc_5, mlc_3, mlc_7, mlc_11]) (cuts := mlu_25) (List.forall_mem_cons.mpr ⟨mlh_5, List.forall_mem_cons.mpr ⟨mlh_3, List.forall_mem_cons.mpr ⟨mlh_7, List.forall_mem_cons.mpr ⟨mlh_11, fun _ h => absurd h List.not_mem_nil⟩⟩⟩⟩) (by decide +kernel)
def mlc_26 : en_Ct := (118, [(2, 107, 0), (0, -2147483648, 2147483647)], [], (0, -1, 2000), [(107, [46, 51, 52, 53, 54, 59, 63, 64, 67, 68, 69, 70, 71, 72, 73, 74, 79, 80, 82, 84, 87, 90, 91, 92, 96]), (140, []), (141, []), (142, []), (143, []), (144, []), (145, []), (146, []), (147, []), (148, []), (149, []), (150, []), (151, []), (152, []), (153, []), (154, []), (155, []), (156, []), (157, []), (158, []), (159, []), (160, []), (161, []), (162, []), (163, []), (164, [])], 9)
def mlu_26 : List en_Cu := []
/-! X12_count -/
theorem mlh_26 {Sc : sm_C} : en_hold ml_tb mlX sm_P Sc mlc_26 := en_chk_ok mlX_ok (T := [mlc_13]) (cuts := mlu_26) (List.forall_mem_cons.mpr ⟨mlh_13, fun _ h => absurd h List.not_mem_nil⟩) (by decide +kernel)
def mlc_27 : en_Ct := (120, [(2, 107, 0), (0, -2147483648, 2147483647), (0, 0, 1)], [], (0, 0, 1), [(107, [70, 79]), (137, []), (160, [])], 2)
def mlu_27 : List en_Cu := []
/-! X12_doubt -/
theorem mlh_27 {Sc : sm_C} : en_hold ml_tb mlX sm_P Sc mlc_27 := en_chk_ok mlX_ok (T := []) (cuts := mlu_27) (fun _ h => absurd h List.not_mem_nil) (by decide +kernel)
def mlc_29 : en_Ct := (122, [(2, 107, 0), (0, -2147483648, 2147483647), (0, 0, 1)], [], (0, -2147483648, 2147483647), [(107, [46, 51, 52, 53, 54, 59, 63, 64, 67, 68, 69, 70, 71, 72, 73, 74, 79, 80, 82, 84, 87, 90, 91, 92, 96]), (140, []), (141, []), (142, []), (143, []), (144, []), (145, []), (146, []), (147, []), (148, []), (149, []), (150, []), (151, []), (152, []), (153, []), (154, []), (155, []), (156, []), (157, []), (158, []), (159, []), (160, []), (161, []), (162, []), (163, []), (164, [])], 9)
def mlu_29 : List en_Cu := [(5, [(2, 107, 0), (0, 0, 9), (0, 0, 1), (0, -2147483648, 2147483647), (0, 0, 1000)], [], [], 2001, [0, 0, 0, 0, -2])]
/-! X12_ends -/
theorem mlh_29 {Sc : sm_C} : en_hold ml_tb mlX sm_P Sc mlc_29 := en_chk_ok mlX_ok (T := [mlc_13, mlc_14]) (cuts := mlu_29) (List.forall_mem_cons.mpr ⟨mlh_13, List.forall_mem_cons.mpr ⟨mlh_14, fun _ h => absurd h List.not_mem_nil⟩⟩) (by decide +kernel)
def mlc_31 : en_Ct := (125, [(2, 107, 0)], [], (0, -1, 5), [(107, [54, 70, 79])], 1)
def mlu_31 : List en_Cu := []
/-! X12_fewer -/
theorem mlh_31 {Sc : sm_C} : en_hold ml_tb mlX sm_P Sc mlc_31 := en_chk_ok mlX_ok (T := []) (cuts := mlu_31) (fun _ h => absurd h List.not_mem_nil) (by decide +kernel)
def mlc_33 : en_Ct := (176, [(2, 107, 0), (0, -2147483648, 2147483647), (0, 0, 1)], [], (0, -2147483648, 100), [(107, [46, 51, 52, 53, 54, 59, 63, 64, 67, 68, 69, 70, 71, 72, 73, 74, 79, 80, 82, 84, 87, 90, 91, 92, 96]), (140, []), (141, []), (142, []), (143, []), (144, []), (145, []), (146, []), (147, []), (148, []), (149, []), (150, []), (151, []), (152, []), (153, []), (154, []), (155, []), (156, []), (157, []), (158, []), (159, []), (160, []), (161, []), (162, []), (163, []), (164, [])], 10)
def mlu_33 : List en_Cu := []
/-! X12_planOf -/
theorem mlh_33 {Sc : sm_C} : en_hold ml_tb mlX sm_P Sc mlc_33 := en_chk_ok mlX_ok (T := [mlc_13, mlc_32]) (cuts := mlu_33) (List.forall_mem_cons.mpr ⟨mlh_13, List.forall_mem_cons.mpr ⟨mlh_32, fun _ h => absurd h List.not_mem_nil⟩⟩) (by decide +kernel)
def mlc_34 : en_Ct := (126, [(2, 107, 0), (0, -2147483648, 2147483647)], [], (0, -2147483648, 100), [(107, [46, 51, 52, 53, 54, 59, 63, 64, 67, 68, 69, 70, 71, 72, 73, 74, 79, 80, 82, 84, 87, 90, 91, 92, 96]), (140, []), (141, []), (142, []), (143, []), (144, []), (145, []), (146, []), (147, []), (148, []), (149, []), (150, []), (151, []), (152, []), (153, []), (154, []), (155, []), (156, []), (157, []), (158, []), (159, []), (160, []), (161, []), (162, []), (163, []), (164, [])], 11)
def mlu_34 : List en_Cu := []
/-! X12_first -/
theorem mlh_34 {Sc : sm_C} : en_hold ml_tb mlX sm_P Sc mlc_34 := en_chk_ok mlX_ok (T := [mlc_33]) (cuts := mlu_34) (List.forall_mem_cons.mpr ⟨mlh_33, fun _ h => absurd h List.not_mem_nil⟩) (by decide +kernel)
def mlc_35 : en_Ct := (127, [(2, 107, 0), (0, -2147483648, 2147483647)], [], (0, -128, 127), [(107, [46, 51, 52, 53, 54, 59, 63, 64, 67, 68, 69, 70, 71, 72, 73, 74, 79, 80, 82, 84, 87, 90, 91, 92, 96]), (140, []), (141, []), (142, []), (143, []), (144, []), (145, []), (146, []), (147, []), (148, []), (149, []), (150, []), (151, []), (152, []), (153, []), (154, []), (155, []), (156, []), (157, []), (158, []), (159, []), (160, []), (161, []), (162, []), (163, []), (164, [])], 9)
def mlu_35 : List en_Cu := [(6, [(2, 107, 0), (0, 0, 9), (0, -128, 127), (0, 0, 1000)], [], [], 2001, [0, 0, 0, -2])]
/-! X12_forced -/
theorem mlh_35 {Sc : sm_C} : en_hold ml_tb mlX sm_P Sc mlc_35 := en_chk_ok mlX_ok (T := [mlc_20, mlc_13, mlc_10, mlc_12]) (cuts := mlu_35) (List.forall_mem_cons.mpr ⟨mlh_20, List.forall_mem_cons.mpr ⟨mlh_13, List.forall_mem_cons.mpr ⟨mlh_10, List.forall_mem_cons.mpr ⟨mlh_12, fun _ h => absurd h List.not_mem_nil⟩⟩⟩⟩) (by decide +kernel)
def mlc_36 : en_Ct := (128, [(2, 107, 0), (0, -2147483648, 2147483647), (0, -2147483648, 2147483647), (0, -2147483648, 2147483647), (0, 0, 1)], [], (0, -2147483648, 2147483647), [(107, [46, 51, 52, 53, 54, 59, 63, 64, 67, 68, 69, 70, 71, 72, 73, 74, 79, 80, 82, 84, 87, 90, 91, 92, 96]), (140, []), (141, []), (142, []), (143, []), (144, []), (145, []), (146, []), (147, []), (148, []), (149, []), (150, []), (151, []), (152, []), (153, []), (154, []), (155, []), (156, []), (157, []), (158, []), (159, []), (160, []), (161, []), (162, []), (163, []), (164, [])], 10)
def mlu_36 : List en_Cu := []
/-! X12_gap -/
theorem mlh_36 {Sc : sm_C} : en_hold ml_tb mlX sm_P Sc mlc_36 := en_chk_ok mlX_ok (T := [mlc_13, mlc_14]) (cuts := mlu_36) (List.forall_mem_cons.mpr ⟨mlh_13, List.forall_mem_cons.mpr ⟨mlh_14, fun _ h => absurd h List.not_mem_nil⟩⟩) (by decide +kernel)
def mlc_38 : en_Ct := (194, [(2, 107, 0)], [], (0, 0, 1023), [], 0)
def mlu_38 : List en_Cu := [(1, [(2, 107, 0), (0, 0, 1023), (0, 0, 10)], [], [], 21, [0, 0, -2])]
/-! X12_sureOnes -/
theorem mlh_38 {Sc : sm_C} : en_hold ml_tb mlX sm_P Sc mlc_38 := en_chk_ok mlX_ok (T := []) (cuts := mlu_38) (fun _ h => absurd h List.not_mem_nil) (by decide +kernel)
def mlc_39 : en_Ct := (130, [(2, 107, 0)], [], (0, -2147483648, 2147483647), [(107, [46, 51, 52, 53, 54, 59, 63, 64, 67, 68, 69, 70, 71, 72, 73, 74, 79, 80, 82, 84, 87, 90, 91, 92, 96]), (140, []), (141, []), (142, []), (143, []), (144, []), (145, []), (146, []), (147, []), (148, []), (149, []), (150, []), (151, []), (152, []), (153, []), (154, []), (155, []), (156, []), (157, []), (158, []), (159, []), (160, []), (161, []), (162, []), (163, []), (164, [])], 11)
def mlu_39 : List en_Cu := []
/-! X12_give -/
theorem mlh_39 {Sc : sm_C} : en_hold ml_tb mlX sm_P Sc mlc_39 := en_chk_ok mlX_ok (T := [mlc_37, mlc_38, mlc_12]) (cuts := mlu_39) (List.forall_mem_cons.mpr ⟨mlh_37, List.forall_mem_cons.mpr ⟨mlh_38, List.forall_mem_cons.mpr ⟨mlh_12, fun _ h => absurd h List.not_mem_nil⟩⟩⟩) (by decide +kernel)
def mlc_40 : en_Ct := (132, [(2, 107, 0), (0, -2147483648, 2147483647)], [], (0, -1, 0), [(107, [46, 51, 52, 53, 54, 59, 63, 64, 67, 68, 69, 70, 71, 72, 73, 74, 79, 80, 82, 84, 87, 90, 91, 92, 96]), (140, []), (141, []), (142, []), (143, []), (144, []), (145, []), (146, []), (147, []), (148, []), (149, []), (150, []), (151, []), (152, []), (153, []), (154, []), (155, []), (156, []), (157, []), (158, []), (159, []), (160, []), (161, []), (162, []), (163, []), (164, [])], 10)
def mlu_40 : List en_Cu := []
/-! X12_givingUp -/
theorem mlh_40 {Sc : sm_C} : en_hold ml_tb mlX sm_P Sc mlc_40 := en_chk_ok mlX_ok (T := [mlc_17]) (cuts := mlu_40) (List.forall_mem_cons.mpr ⟨mlh_17, fun _ h => absurd h List.not_mem_nil⟩) (by decide +kernel)
def mlc_41 : en_Ct := (133, [(2, 107, 0)], [], (0, 0, 1024), [(107, [46, 51, 52, 53, 54, 59, 63, 64, 67, 68, 69, 70, 71, 72, 73, 74, 79, 80, 82, 84, 87, 90, 91, 92, 96]), (140, []), (141, []), (142, []), (143, []), (144, []), (145, []), (146, []), (147, []), (148, []), (149, []), (150, []), (151, []), (152, []), (153, []), (154, []), (155, []), (156, []), (157, []), (158, []), (159, []), (160, []), (161, []), (162, []), (163, []), (164, [])], 10)
def mlu_41 : List en_Cu := []
/-! X12_givingUps -/
theorem mlh_41 {Sc : sm_C} : en_hold ml_tb mlX sm_P Sc mlc_41 := en_chk_ok mlX_ok (T := [mlc_17]) (cuts := mlu_41) (List.forall_mem_cons.mpr ⟨mlh_17, fun _ h => absurd h List.not_mem_nil⟩) (by decide +kernel)
def mlc_42 : en_Ct := (134, [(2, 107, 0), (0, -2147483648, 2147483647), (0, -2147483648, 2147483647)], [], (0, -128, 127), [(107, [46, 51, 52, 53, 54, 59, 63, 64, 67, 68, 69, 70, 71, 72, 73, 74, 79, 80, 82, 84, 87, 90, 91, 92, 96]), (140, []), (141, []), (142, []), (143, []), (144, []), (145, []), (146, []), (147, []), (148, []), (149, []), (150, []), (151, []), (152, []), (153, []), (154, []), (155, []), (156, []), (157, []), (158, []), (159, []), (160, []), (161, []), (162, []), (163, []), (164, [])], 10)
def mlu_42 : List en_Cu := []
/-! X12_goes -/
theorem mlh_42 {Sc : sm_C} : en_hold ml_tb mlX sm_P Sc mlc_42 := en_chk_ok mlX_ok (T := [mlc_20, mlc_13, mlc_10, mlc_12]) (cuts := mlu_42) (List.forall_mem_cons.mpr ⟨mlh_20, List.forall_mem_cons.mpr ⟨mlh_13, List.forall_mem_cons.mpr ⟨mlh_10, List.forall_mem_cons.mpr ⟨mlh_12, fun _ h => absurd h List.not_mem_nil⟩⟩⟩⟩) (by decide +kernel)
def mlc_43 : en_Ct := (137, [(2, 107, 0), (0, -2147483648, 2147483647), (0, -2147483648, 2147483647)], [], (0, -2147483648, 2147483647), [(107, [46, 51, 52, 53, 54, 59, 63, 64, 67, 68, 69, 70, 71, 72, 73, 74, 79, 80, 82, 84, 87, 90, 91, 92, 96]), (140, []), (141, []), (142, []), (143, []), (144, []), (145, []), (146, []), (147, []), (148, []), (149, []), (150, []), (151, []), (152, []), (153, []), (154, []), (155, []), (156, []), (157, []), (158, []), (159, []), (160, []), (161, []), (162, []), (163, []), (164, [])], 10)
def mlu_43 : List en_Cu := []
/-! X12_hand -/
theorem mlh_43 {Sc : sm_C} : en_hold ml_tb mlX sm_P Sc mlc_43 := en_chk_ok mlX_ok (T := [mlc_13, mlc_14]) (cuts := mlu_43) (List.forall_mem_cons.mpr ⟨mlh_13, List.forall_mem_cons.mpr ⟨mlh_14, fun _ h => absurd h List.not_mem_nil⟩⟩) (by decide +kernel)
def mlc_44 : en_Ct := (138, [(2, 107, 0), (0, -2147483648, 2147483647)], [], (0, 0, 1), [(107, [46, 51, 52, 53, 54, 59, 63, 64, 67, 68, 69, 70, 71, 72, 73, 74, 79, 80, 82, 84, 87, 90, 91, 92, 96]), (140, []), (141, []), (142, []), (143, []), (144, []), (145, []), (146, []), (147, []), (148, []), (149, []), (150, []), (151, []), (152, []), (153, []), (154, []), (155, []), (156, []), (157, []), (158, []), (159, []), (160, []), (161, []), (162, []), (163, []), (164, [])], 8)
def mlu_44 : List en_Cu := []
/-! X12_hasWay -/
theorem mlh_44 {Sc : sm_C} : en_hold ml_tb mlX sm_P Sc mlc_44 := en_chk_ok mlX_ok (T := [mlc_5, mlc_10, mlc_11]) (cuts := mlu_44) (List.forall_mem_cons.mpr ⟨mlh_5, List.forall_mem_cons.mpr ⟨mlh_10, List.forall_mem_cons.mpr ⟨mlh_11, fun _ h => absurd h List.not_mem_nil⟩⟩⟩) (by decide +kernel)
def mlc_45 : en_Ct := (140, [(2, 107, 0), (0, -2147483648, 2147483647), (0, -2147483648, 2147483647), (0, 0, 1)], [], (0, -2147483648, 2147483647), [(107, [46, 51, 52, 53, 54, 59, 63, 64, 67, 68, 69, 70, 71, 72, 73, 74, 79, 80, 82, 84, 87, 90, 91, 92, 96]), (140, []), (141, []), (142, []), (143, []), (144, []), (145, []), (146, []), (147, []), (148, []), (149, []), (150, []), (151, []), (152, []), (153, []), (154, []), (155, []), (156, []), (157, []), (158, []), (159, []), (160, []), (161, []), (162, []), (163, []), (164, [])], 10)
def mlu_45 : List en_Cu := []
/-! X12_hour -/
theorem mlh_45 {Sc : sm_C} : en_hold ml_tb mlX sm_P Sc mlc_45 := en_chk_ok mlX_ok (T := [mlc_13, mlc_14]) (cuts := mlu_45) (List.forall_mem_cons.mpr ⟨mlh_13, List.forall_mem_cons.mpr ⟨mlh_14, fun _ h => absurd h List.not_mem_nil⟩⟩) (by decide +kernel)
def mlc_46 : en_Ct := (94, [(2, 107, 0), (0, 0, 4), (0, 0, 2)], [], (0, 0, 1), [(143, [])], 3)
def mlu_46 : List en_Cu := []
/-! X12_answers -/
theorem mlh_46 {Sc : sm_C} : en_hold ml_tb mlX sm_P Sc mlc_46 := en_chk_ok mlX_ok (T := [mlc_3, mlc_1]) (cuts := mlu_46) (List.forall_mem_cons.mpr ⟨mlh_3, List.forall_mem_cons.mpr ⟨mlh_1, fun _ h => absurd h List.not_mem_nil⟩⟩) (by decide +kernel)
def mlc_47 : en_Ct := (145, [(2, 107, 0), (0, -2147483648, 2147483647), (0, -2147483648, 2147483647)], [], (0, 0, 1), [(107, [52]), (143, [])], 4)
def mlu_47 : List en_Cu := [(1, [(2, 107, 0), (0, -2147483648, 2147483647), (0, -2147483648, 2147483647), (0, 0, 35)], [], [], 503, [0, 0, 0, -14]),
  (5, [(2, 107, 0), (0, -2147483648, 2147483647), (0, -2147483648, 2147483647), (0, 0, 34), (0, 0, 1), (0, 0, 5)], [], [], 501, [0, 0, 0, -14, 0, -2])]
/-! X12_isLeft -/
theorem mlh_47 {Sc : sm_C} : en_hold ml_tb mlX sm_P Sc mlc_47 := en_chk_ok mlX_ok (T := [mlc_24, mlc_46]) (cuts := mlu_47) (List.forall_mem_cons.mpr ⟨mlh_24, List.forall_mem_cons.mpr ⟨mlh_46, fun _ h => absurd h List.not_mem_nil⟩⟩) (by decide +kernel)
def mlc_48 : en_Ct := (152, [(2, 107, 0)], [], (0, -2, 999), [(107, [46, 51, 52, 53, 54, 59, 63, 64, 67, 68, 69, 70, 71, 72, 73, 74, 79, 80, 82, 84, 87, 90, 91, 92, 96]), (140, []), (141, []), (142, []), (143, []), (144, []), (145, []), (146, []), (147, []), (148, []), (149, []), (150, []), (151, []), (152, []), (153, []), (154, []), (155, []), (156, []), (157, []), (158, []), (159, []), (160, []), (161, []), (162, []), (163, []), (164, [])], 9)
def mlu_48 : List en_Cu := [(3, [(2, 107, 0), (0, 0, 1000)], [], [], 2001, [0, -2])]
/-! X12_keep -/
theorem mlh_48 {Sc : sm_C} : en_hold ml_tb mlX sm_P Sc mlc_48 := en_chk_ok mlX_ok (T := [mlc_13, mlc_14]) (cuts := mlu_48) (List.forall_mem_cons.mpr ⟨mlh_13, List.forall_mem_cons.mpr ⟨mlh_14, fun _ h => absurd h List.not_mem_nil⟩⟩) (by decide +kernel)
def mlc_49 : en_Ct := (153, [(2, 107, 0), (0, -2147483648, 2147483647)], [], (0, -1, 1), [(107, [46, 51, 52, 53, 54, 59, 63, 64, 67, 68, 69, 70, 71, 72, 73, 74, 79, 80, 82, 84, 87, 90, 91, 92, 96]), (140, []), (141, []), (142, []), (143, []), (144, []), (145, []), (146, []), (147, []), (148, []), (149, []), (150, []), (151, []), (152, []), (153, []), (154, []), (155, []), (156, []), (157, []), (158, []), (159, []), (160, []), (161, []), (162, []), (163, []), (164, [])], 10)
def mlu_49 : List en_Cu := []
/-! X12_kept -/
theorem mlh_49 {Sc : sm_C} : en_hold ml_tb mlX sm_P Sc mlc_49 := en_chk_ok mlX_ok (T := [mlc_13, mlc_14]) (cuts := mlu_49) (List.forall_mem_cons.mpr ⟨mlh_13, List.forall_mem_cons.mpr ⟨mlh_14, fun _ h => absurd h List.not_mem_nil⟩⟩) (by decide +kernel)
def mlc_50 : en_Ct := (157, [(2, 107, 0), (0, 0, 999)], [], (0, 0, 1), [(107, [46, 51, 52, 53, 54, 59, 63, 64, 67, 68, 69, 70, 71, 72, 73, 74, 79, 80, 82, 84, 87, 90, 91, 92, 96]), (140, []), (141, []), (142, []), (143, []), (144, []), (145, []), (146, []), (147, []), (148, []), (149, []), (150, []), (151, []), (152, []), (153, []), (154, []), (155, []), (156, []), (157, []), (158, []), (159, []), (160, []), (161, []), (162, []), (163, []), (164, [])], 8)
def mlu_50 : List en_Cu := [(3, [(2, 107, 0), (0, 0, 10)], [], [], 21, [0, -2])]
/-! X12_laysSet -/
theorem mlh_50 {Sc : sm_C} : en_hold ml_tb mlX sm_P Sc mlc_50 := en_chk_ok mlX_ok (T := [mlc_3, mlc_14]) (cuts := mlu_50) (List.forall_mem_cons.mpr ⟨mlh_3, List.forall_mem_cons.mpr ⟨mlh_14, fun _ h => absurd h List.not_mem_nil⟩⟩) (by decide +kernel)

/-! methods checked by the engine -/
def mlc_17 : en_Ct := (135, [(2, 107, 0)], [], (9, 0, 0), [(107, [51, 52, 53, 59, 63, 64, 67, 68, 70, 71, 72, 73, 74]), (143, []), (148, []), (149, []), (150, []), (153, []), (154, []), (155, []), (156, [])], 8)
def mlu_17 : List en_Cu := []
/-! X12_goesAll -/
theorem mlh_17 {Sc : sm_C} : en_hold ml_tb mlX sm_P Sc mlc_17 := en_chk_ok mlX_ok (T := [mlc_5, mlc_9, mlc_16, mlc_10]) (cuts := mlu_17) (List.forall_mem_cons.mpr ⟨mlh_5, List.forall_mem_cons.mpr ⟨mlh_9, List.forall_mem_cons.mpr ⟨mlh_16, List.forall_mem_cons.mpr ⟨mlh_10, fun _ h => absurd h List.not_mem_nil⟩⟩⟩⟩) (by decide +kernel)
def mlc_21 : en_Ct := (138, [(2, 107, 0), (0, -2147483648, 2147483647)], [], (0, 0, 1), [(107, [51, 52, 53, 59, 63, 64]), (143, []), (148, []), (149, []), (150, []), (153, []), (154, []), (155, []), (156, [])], 8)
def mlu_21 : List en_Cu := []
/-! X12_hasWay -/
theorem mlh_21 {Sc : sm_C} : en_hold ml_tb mlX sm_P Sc mlc_21 := en_chk_ok mlX_ok (T := [mlc_5, mlc_9, mlc_16]) (cuts := mlu_21) (List.forall_mem_cons.mpr ⟨mlh_5, List.forall_mem_cons.mpr ⟨mlh_9, List.forall_mem_cons.mpr ⟨mlh_16, fun _ h => absurd h List.not_mem_nil⟩⟩⟩) (by decide +kernel)
def mlc_27 : en_Ct := (112, [(2, 107, 0), (0, -2147483648, 2147483647), (0, -2147483648, 2147483647)], [], (0, -3, 3), [(107, [51, 52, 53, 59, 63, 64, 67, 68, 70, 71, 72, 73, 74]), (143, []), (148, []), (149, []), (150, []), (153, []), (154, []), (155, []), (156, [])], 10)
def mlu_27 : List en_Cu := []
/-! X12_choice -/
theorem mlh_27 {Sc : sm_C} : en_hold ml_tb mlX sm_P Sc mlc_27 := en_chk_ok mlX_ok (T := [mlc_26, mlc_17, mlc_9, mlc_10]) (cuts := mlu_27) (List.forall_mem_cons.mpr ⟨mlh_26, List.forall_mem_cons.mpr ⟨mlh_17, List.forall_mem_cons.mpr ⟨mlh_9, List.forall_mem_cons.mpr ⟨mlh_10, fun _ h => absurd h List.not_mem_nil⟩⟩⟩⟩) (by decide +kernel)
def mlc_29 : en_Ct := (118, [(2, 107, 0), (0, -2147483648, 2147483647)], [], (0, -1, 2000), [(107, [51, 52, 53, 59, 63, 64, 67, 68, 70, 71, 72, 73, 74]), (143, []), (148, []), (149, []), (150, []), (153, []), (154, []), (155, []), (156, [])], 9)
def mlu_29 : List en_Cu := []
/-! X12_count -/
theorem mlh_29 {Sc : sm_C} : en_hold ml_tb mlX sm_P Sc mlc_29 := en_chk_ok mlX_ok (T := [mlc_17]) (cuts := mlu_29) (List.forall_mem_cons.mpr ⟨mlh_17, fun _ h => absurd h List.not_mem_nil⟩) (by decide +kernel)
def mlc_40 : en_Ct := (127, [(2, 107, 0), (0, -2147483648, 2147483647)], [], (0, -3, 3), [(107, [51, 52, 53, 59, 63, 64, 67, 68, 70, 71, 72, 73, 74]), (143, []), (148, []), (149, []), (150, []), (153, []), (154, []), (155, []), (156, [])], 9)
def mlu_40 : List en_Cu := [(6, [(2, 107, 0), (0, 0, 9), (0, -2, 3), (0, 0, 1000)], [], [], 2001, [0, 0, 0, -2])]
/-! X12_forced -/
theorem mlh_40 {Sc : sm_C} : en_hold ml_tb mlX sm_P Sc mlc_40 := en_chk_ok mlX_ok (T := [mlc_26, mlc_17, mlc_9, mlc_10]) (cuts := mlu_40) (List.forall_mem_cons.mpr ⟨mlh_26, List.forall_mem_cons.mpr ⟨mlh_17, List.forall_mem_cons.mpr ⟨mlh_9, List.forall_mem_cons.mpr ⟨mlh_10, fun _ h => absurd h List.not_mem_nil⟩⟩⟩⟩) (by decide +kernel)
def mlc_46 : en_Ct := (134, [(2, 107, 0), (0, -2147483648, 2147483647), (0, -2147483648, 2147483647)], [], (0, -3, 3), [(107, [51, 52, 53, 59, 63, 64, 67, 68, 70, 71, 72, 73, 74]), (143, []), (148, []), (149, []), (150, []), (153, []), (154, []), (155, []), (156, [])], 10)
def mlu_46 : List en_Cu := []
/-! X12_goes -/
theorem mlh_46 {Sc : sm_C} : en_hold ml_tb mlX sm_P Sc mlc_46 := en_chk_ok mlX_ok (T := [mlc_26, mlc_17, mlc_9, mlc_10]) (cuts := mlu_46) (List.forall_mem_cons.mpr ⟨mlh_26, List.forall_mem_cons.mpr ⟨mlh_17, List.forall_mem_cons.mpr ⟨mlh_9, List.forall_mem_cons.mpr ⟨mlh_10, fun _ h => absurd h List.not_mem_nil⟩⟩⟩⟩) (by decide +kernel)
def mlc_73 : en_Ct := (206, [(2, 107, 0), (0, -2147483648, 2147483647), (0, -2147483648, 2147483647)], [], (0, -128, 240), [(107, [51, 52, 53, 59, 63, 64, 67, 68, 70, 71, 72, 73, 74]), (143, []), (148, []), (149, []), (150, []), (153, []), (154, []), (155, []), (156, [])], 9)
def mlu_73 : List en_Cu := []
/-! X12_tried -/
theorem mlh_73 {Sc : sm_C} : en_hold ml_tb mlX sm_P Sc mlc_73 := en_chk_ok mlX_ok (T := [mlc_17]) (cuts := mlu_73) (List.forall_mem_cons.mpr ⟨mlh_17, fun _ h => absurd h List.not_mem_nil⟩) (by decide +kernel)
def mlc_75 : en_Ct := (211, [(2, 107, 0)], [], (0, -3, 1000), [(107, [51, 52, 53, 59, 63, 64, 67, 68, 70, 71, 72, 73, 74]), (143, []), (148, []), (149, []), (150, []), (153, []), (154, []), (155, []), (156, [])], 9)
def mlu_75 : List en_Cu := []
/-! X12_ways -/
theorem mlh_75 {Sc : sm_C} : en_hold ml_tb mlX sm_P Sc mlc_75 := en_chk_ok mlX_ok (T := [mlc_17]) (cuts := mlu_75) (List.forall_mem_cons.mpr ⟨mlh_17, fun _ h => absurd h List.not_mem_nil⟩) (by decide +kernel)

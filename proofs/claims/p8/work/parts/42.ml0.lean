/-! methods checked by the engine -/
def mlc_1 : en_Ct := (106, [(2, 107, 0), (0, 0, 11), (0, 0, 11), (0, -2147483648, 2147483647)], [], (0, 0, 1), [(143, [])], 0)
def mlu_1 : List en_Cu := [(5, [(2, 107, 0), (0, 0, 11), (0, 0, 11), (0, -2147483648, 1439), (0, 0, 11830), (0, 0, 13)], [], [], 419, [0, 0, 0, 0, 0, -30]),
  (7, [(2, 107, 0), (0, 0, 11), (0, 0, 11), (0, -2147483648, 1439), (0, 0, 11830), (0, 0, 12), (0, 0, 13)], [], [], 417, [0, 0, 0, 0, 0, -30, -2])]
/-! X12_bound -/
theorem mlh_1 {Sc : sm_C} : en_hold ml_tb mlX sm_P Sc mlc_1 := en_chk_ok mlX_ok (T := []) (cuts := mlu_1) (fun _ h => absurd h List.not_mem_nil) (by decide +kernel)
def mlc_2 : en_Ct := (98, [(2, 107, 0), (0, 0, 11), (0, 0, 11), (0, -2147483648, 2147483647)], [], (0, 0, 1), [(143, [])], 1)
def mlu_2 : List en_Cu := []
/-! X12_atMost -/
theorem mlh_2 {Sc : sm_C} : en_hold ml_tb mlX sm_P Sc mlc_2 := en_chk_ok mlX_ok (T := [mlc_1]) (cuts := mlu_2) (List.forall_mem_cons.mpr ⟨mlh_1, fun _ h => absurd h List.not_mem_nil⟩) (by decide +kernel)
def mlc_3 : en_Ct := (104, [(2, 107, 0), (0, 0, 11), (0, 0, 10), (0, -2147483648, 2147483647), (0, -2147483648, 2147483647)], [], (0, 0, 1), [(143, [])], 2)
def mlu_3 : List en_Cu := []
/-! X12_between -/
theorem mlh_3 {Sc : sm_C} : en_hold ml_tb mlX sm_P Sc mlc_3 := en_chk_ok mlX_ok (T := [mlc_2]) (cuts := mlu_3) (List.forall_mem_cons.mpr ⟨mlh_2, fun _ h => absurd h List.not_mem_nil⟩) (by decide +kernel)
def mlc_4 : en_Ct := (139, [(2, 107, 0), (0, 0, 248), (0, 0, 1441)], [], (0, 0, 1), [(143, [])], 3)
def mlu_4 : List en_Cu := []
/-! X12_holdsSpan -/
theorem mlh_4 {Sc : sm_C} : en_hold ml_tb mlX sm_P Sc mlc_4 := en_chk_ok mlX_ok (T := [mlc_3]) (cuts := mlu_4) (List.forall_mem_cons.mpr ⟨mlh_3, fun _ h => absurd h List.not_mem_nil⟩) (by decide +kernel)
def mlc_5 : en_Ct := (103, [(2, 107, 0), (0, 1, 12)], [], (0, 0, 1), [(107, [51, 52]), (143, [])], 4)
def mlu_5 : List en_Cu := [(1, [(2, 107, 0), (0, 0, 169)], [], [], 371, [0, -2]),
  (19, [(2, 107, 0), (0, 0, 1), (0, 0, 6)], [], [], 13, [0, 0, -2]),
  (8, [(2, 107, 0), (0, 0, 1), (0, 240, 248)], [], [], 511, [0, 0, -2])]
/-! X12_begins -/
theorem mlh_5 {Sc : sm_C} : en_hold ml_tb mlX sm_P Sc mlc_5 := en_chk_ok mlX_ok (T := [mlc_3, mlc_1, mlc_4]) (cuts := mlu_5) (List.forall_mem_cons.mpr ⟨mlh_3, List.forall_mem_cons.mpr ⟨mlh_1, List.forall_mem_cons.mpr ⟨mlh_4, fun _ h => absurd h List.not_mem_nil⟩⟩⟩) (by decide +kernel)
def mlc_6 : en_Ct := (115, [(2, 107, 0), (0, 0, 54), (0, 0, 3)], [], (0, 0, 1), [(143, [])], 4)
def mlu_6 : List en_Cu := [(5, [(2, 107, 0), (0, 0, 79), (0, 0, 1441), (0, 0, 240)], [], [], 481, [0, 0, 0, -2])]
/-! X12_chooses -/
theorem mlh_6 {Sc : sm_C} : en_hold ml_tb mlX sm_P Sc mlc_6 := en_chk_ok mlX_ok (T := [mlc_4, mlc_2]) (cuts := mlu_6) (List.forall_mem_cons.mpr ⟨mlh_4, List.forall_mem_cons.mpr ⟨mlh_2, fun _ h => absurd h List.not_mem_nil⟩⟩) (by decide +kernel)
def mlc_7 : en_Ct := (115, [(2, 107, 0), (0, 60, 69), (0, 0, 3)], [], (0, 0, 1), [(143, [])], 2)
def mlu_7 : List en_Cu := []
/-! X12_chooses -/
theorem mlh_7 {Sc : sm_C} : en_hold ml_tb mlX sm_P Sc mlc_7 := en_chk_ok mlX_ok (T := [mlc_2]) (cuts := mlu_7) (List.forall_mem_cons.mpr ⟨mlh_2, fun _ h => absurd h List.not_mem_nil⟩) (by decide +kernel)
def mlc_8 : en_Ct := (116, [(2, 107, 0), (0, 0, 69), (0, 1, 70)], [], (9, 0, 0), [(143, [])], 0)
def mlu_8 : List en_Cu := [(1, [(2, 107, 0), (0, 0, 69), (0, 1, 70), (0, 0, 169)], [], [], 339, [0, 0, 0, -2])]
/-! X12_copies -/
theorem mlh_8 {Sc : sm_C} : en_hold ml_tb mlX sm_P Sc mlc_8 := en_chk_ok mlX_ok (T := []) (cuts := mlu_8) (fun _ h => absurd h List.not_mem_nil) (by decide +kernel)
def mlc_10 : en_Ct := (208, [(2, 107, 0)], [], (0, 0, 1023), [], 0)
def mlu_10 : List en_Cu := [(1, [(2, 107, 0), (0, 0, 1023), (0, 0, 10)], [], [], 21, [0, 0, -2])]
/-! X12_undoubted -/
theorem mlh_10 {Sc : sm_C} : en_hold ml_tb mlX sm_P Sc mlc_10 := en_chk_ok mlX_ok (T := []) (cuts := mlu_10) (fun _ h => absurd h List.not_mem_nil) (by decide +kernel)
def mlc_12 : en_Ct := (187, [(2, 107, 0), (0, 0, 70)], [], (9, 0, 0), [(107, [90, 91, 92])], 0)
def mlu_12 : List en_Cu := []
/-! X12_sees -/
theorem mlh_12 {Sc : sm_C} : en_hold ml_tb mlX sm_P Sc mlc_12 := en_chk_ok mlX_ok (T := []) (cuts := mlu_12) (fun _ h => absurd h List.not_mem_nil) (by decide +kernel)
def mlc_14 : en_Ct := (107, [(2, 107, 0)], [], (0, -2, 44), [], 0)
def mlu_14 : List en_Cu := [(1, [(2, 107, 0), (0, 0, 45)], [], [], 91, [0, -2])]
/-! X12_breaks -/
theorem mlh_14 {Sc : sm_C} : en_hold ml_tb mlX sm_P Sc mlc_14 := en_chk_ok mlX_ok (T := []) (cuts := mlu_14) (fun _ h => absurd h List.not_mem_nil) (by decide +kernel)
def mlc_15 : en_Ct := (168, [(2, 107, 0), (0, 0, 69), (0, 0, 3), (0, 0, 1)], [(107, 63, 1, 1000)], (9, 0, 0), [(154, []), (155, []), (156, [])], 0)
def mlu_15 : List en_Cu := []
/-! X12_notes -/
theorem mlh_15 {Sc : sm_C} : en_hold ml_tb mlX sm_P Sc mlc_15 := en_chk_ok mlX_ok (T := []) (cuts := mlu_15) (fun _ h => absurd h List.not_mem_nil) (by decide +kernel)
def mlc_20 : en_Ct := (110, [(2, 107, 0)], [], (9, 0, 0), [(107, [70, 79])], 0)
def mlu_20 : List en_Cu := []
/-! X12_changes -/
theorem mlh_20 {Sc : sm_C} : en_hold ml_tb mlX sm_P Sc mlc_20 := en_chk_ok mlX_ok (T := []) (cuts := mlu_20) (fun _ h => absurd h List.not_mem_nil) (by decide +kernel)
def mlc_22 : en_Ct := (194, [(2, 107, 0)], [], (0, 0, 1023), [], 0)
def mlu_22 : List en_Cu := [(1, [(2, 107, 0), (0, 0, 1023), (0, 0, 10)], [], [], 21, [0, 0, -2])]
/-! X12_sureOnes -/
theorem mlh_22 {Sc : sm_C} : en_hold ml_tb mlX sm_P Sc mlc_22 := en_chk_ok mlX_ok (T := []) (cuts := mlu_22) (fun _ h => absurd h List.not_mem_nil) (by decide +kernel)
def mlc_24 : en_Ct := (207, [(2, 107, 0), (0, -1, 1023)], [], (0, -2147483648, 2147483647), [], 0)
def mlu_24 : List en_Cu := [(1, [(2, 107, 0), (0, -1, 1023), (0, -2147483648, 2147483647), (0, 0, 10)], [], [], 21, [0, 0, 0, -2])]
/-! X12_trustIn -/
theorem mlh_24 {Sc : sm_C} : en_hold ml_tb mlX sm_P Sc mlc_24 := en_chk_ok mlX_ok (T := []) (cuts := mlu_24) (fun _ h => absurd h List.not_mem_nil) (by decide +kernel)
def mlc_26 : en_Ct := (113, [(2, 107, 0), (0, 0, 999), (0, 0, 54)], [], (0, -1, 3), [], 0)
def mlu_26 : List en_Cu := [(1, [(2, 107, 0), (0, 0, 999), (0, 0, 54), (0, -1, 3), (0, 0, 70)], [], [], 141, [0, 0, 0, 0, -2])]
/-! X12_choiceOf -/
theorem mlh_26 {Sc : sm_C} : en_hold ml_tb mlX sm_P Sc mlc_26 := en_chk_ok mlX_ok (T := []) (cuts := mlu_26) (fun _ h => absurd h List.not_mem_nil) (by decide +kernel)
def mlc_30 : en_Ct := (120, [(2, 107, 0), (0, -2147483648, 2147483647), (0, 0, 1)], [], (0, 0, 1), [(107, [70, 79]), (137, []), (160, [])], 2)
def mlu_30 : List en_Cu := []
/-! X12_doubt -/
theorem mlh_30 {Sc : sm_C} : en_hold ml_tb mlX sm_P Sc mlc_30 := en_chk_ok mlX_ok (T := []) (cuts := mlu_30) (fun _ h => absurd h List.not_mem_nil) (by decide +kernel)
def mlc_34 : en_Ct := (125, [(2, 107, 0)], [], (0, -1, 5), [(107, [54, 70, 79])], 1)
def mlu_34 : List en_Cu := []
/-! X12_fewer -/
theorem mlh_34 {Sc : sm_C} : en_hold ml_tb mlX sm_P Sc mlc_34 := en_chk_ok mlX_ok (T := []) (cuts := mlu_34) (fun _ h => absurd h List.not_mem_nil) (by decide +kernel)
def mlc_35 : en_Ct := (94, [(2, 107, 0), (0, 0, 4), (0, 0, 2)], [], (0, 0, 1), [(143, [])], 3)
def mlu_35 : List en_Cu := []
/-! X12_answers -/
theorem mlh_35 {Sc : sm_C} : en_hold ml_tb mlX sm_P Sc mlc_35 := en_chk_ok mlX_ok (T := [mlc_3, mlc_1]) (cuts := mlu_35) (List.forall_mem_cons.mpr ⟨mlh_3, List.forall_mem_cons.mpr ⟨mlh_1, fun _ h => absurd h List.not_mem_nil⟩⟩) (by decide +kernel)
def mlc_36 : en_Ct := (145, [(2, 107, 0), (0, -2147483648, 2147483647), (0, -2147483648, 2147483647)], [], (0, 0, 1), [(107, [52]), (143, [])], 4)
def mlu_36 : List en_Cu := [(1, [(2, 107, 0), (0, -2147483648, 2147483647), (0, -2147483648, 2147483647), (0, 0, 35)], [], [], 503, [0, 0, 0, -14]),
  (5, [(2, 107, 0), (0, -2147483648, 2147483647), (0, -2147483648, 2147483647), (0, 0, 34), (0, 0, 1), (0, 0, 5)], [], [], 501, [0, 0, 0, -14, 0, -2])]
/-! X12_isLeft -/
theorem mlh_36 {Sc : sm_C} : en_hold ml_tb mlX sm_P Sc mlc_36 := en_chk_ok mlX_ok (T := [mlc_8, mlc_35]) (cuts := mlu_36) (List.forall_mem_cons.mpr ⟨mlh_8, List.forall_mem_cons.mpr ⟨mlh_35, fun _ h => absurd h List.not_mem_nil⟩⟩) (by decide +kernel)
def mlc_54 : en_Ct := (163, [(2, 107, 0), (0, -2147483648, 2147483647), (0, -2147483648, 2147483647), (0, -2147483648, 2147483647), (0, -2147483648, 2147483647)], [], (0, -1, 6), [(107, [54, 70, 79]), (144, []), (145, []), (146, []), (147, [])], 2)
def mlu_54 : List en_Cu := []
/-! X12_more -/
theorem mlh_54 {Sc : sm_C} : en_hold ml_tb mlX sm_P Sc mlc_54 := en_chk_ok mlX_ok (T := []) (cuts := mlu_54) (fun _ h => absurd h List.not_mem_nil) (by decide +kernel)
def mlc_55 : en_Ct := (164, [(2, 107, 0), (0, -2147483648, 2147483647), (0, -2147483648, 2147483647)], [], (0, -2147483648, 2147483647), [], 1)
def mlu_55 : List en_Cu := []
/-! X12_move -/
theorem mlh_55 {Sc : sm_C} : en_hold ml_tb mlX sm_P Sc mlc_55 := en_chk_ok mlX_ok (T := []) (cuts := mlu_55) (fun _ h => absurd h List.not_mem_nil) (by decide +kernel)
def mlc_57 : en_Ct := (172, [(2, 107, 0), (0, -2147483648, 2147483647), (0, -2147483648, 2147483647)], [], (0, 0, 1), [(160, [])], 3)
def mlu_57 : List en_Cu := []
/-! X12_pick -/
theorem mlh_57 {Sc : sm_C} : en_hold ml_tb mlX sm_P Sc mlc_57 := en_chk_ok mlX_ok (T := []) (cuts := mlu_57) (fun _ h => absurd h List.not_mem_nil) (by decide +kernel)
def mlc_58 : en_Ct := (173, [(2, 107, 0)], [], (0, 0, 1), [(107, [51, 52, 53, 68]), (143, [])], 5)
def mlu_58 : List en_Cu := [(3, [(2, 107, 0), (0, 0, 55)], [], [], 111, [0, -2])]
/-! X12_pickedStands -/
theorem mlh_58 {Sc : sm_C} : en_hold ml_tb mlX sm_P Sc mlc_58 := en_chk_ok mlX_ok (T := [mlc_5, mlc_6]) (cuts := mlu_58) (List.forall_mem_cons.mpr ⟨mlh_5, List.forall_mem_cons.mpr ⟨mlh_6, fun _ h => absurd h List.not_mem_nil⟩⟩) (by decide +kernel)
def mlc_59 : en_Ct := (174, [(2, 107, 0)], [], (0, -1, 2000), [], 0)
def mlu_59 : List en_Cu := []
/-! X12_place -/
theorem mlh_59 {Sc : sm_C} : en_hold ml_tb mlX sm_P Sc mlc_59 := en_chk_ok mlX_ok (T := []) (cuts := mlu_59) (fun _ h => absurd h List.not_mem_nil) (by decide +kernel)
def mlc_64 : en_Ct := (210, [(2, 107, 0)], [], (9, 0, 0), [(139, [])], 0)
def mlu_64 : List en_Cu := [(1, [(2, 107, 0), (0, 0, 36)], [], [], 605, [0, -2]),
  (4, [(2, 107, 0), (0, 0, 6)], [], [], 531, [0, -76]),
  (6, [(2, 107, 0), (0, 0, 5), (0, 0, 36)], [], [], 529, [0, -76, -2])]
/-! X12_walks -/
theorem mlh_64 {Sc : sm_C} : en_hold ml_tb mlX sm_P Sc mlc_64 := en_chk_ok mlX_ok (T := []) (cuts := mlu_64) (fun _ h => absurd h List.not_mem_nil) (by decide +kernel)
def mlc_66 : en_Ct := (193, [(2, 107, 0)], [], (0, 0, 1), [(107, [51, 52, 53, 68]), (143, []), (162, [])], 6)
def mlu_66 : List en_Cu := [(1, [(2, 107, 0), (0, 0, 60)], [], [], 121, [0, -2])]
/-! X12_stands -/
theorem mlh_66 {Sc : sm_C} : en_hold ml_tb mlX sm_P Sc mlc_66 := en_chk_ok mlX_ok (T := [mlc_58]) (cuts := mlu_66) (List.forall_mem_cons.mpr ⟨mlh_58, fun _ h => absurd h List.not_mem_nil⟩) (by decide +kernel)
def mlc_67 : en_Ct := (185, [(2, 107, 0)], [], (0, 0, 1), [(107, [51, 52, 53, 68, 87]), (143, []), (161, []), (162, [])], 7)
def mlu_67 : List en_Cu := [(3, [(2, 107, 0), (0, 0, 0)], [], [(107, 87, 0, 0)], 111, [0, -2]),
  (3, [(2, 107, 0), (0, 1, 1)], [], [(107, 87, 0, 1)], 111, [0, -2]),
  (3, [(2, 107, 0), (0, 10, 10)], [], [(107, 87, 0, 10)], 111, [0, -2]),
  (3, [(2, 107, 0), (0, 11, 11)], [], [(107, 87, 0, 11)], 111, [0, -2]),
  (3, [(2, 107, 0), (0, 12, 12)], [], [(107, 87, 0, 12)], 111, [0, -2]),
  (3, [(2, 107, 0), (0, 13, 13)], [], [(107, 87, 0, 13)], 111, [0, -2]),
  (3, [(2, 107, 0), (0, 14, 14)], [], [(107, 87, 0, 14)], 111, [0, -2]),
  (3, [(2, 107, 0), (0, 15, 15)], [], [(107, 87, 0, 15)], 111, [0, -2]),
  (3, [(2, 107, 0), (0, 16, 16)], [], [(107, 87, 0, 16)], 111, [0, -2]),
  (3, [(2, 107, 0), (0, 17, 17)], [], [(107, 87, 0, 17)], 111, [0, -2]),
  (3, [(2, 107, 0), (0, 18, 18)], [], [(107, 87, 0, 18)], 111, [0, -2]),
  (3, [(2, 107, 0), (0, 19, 19)], [], [(107, 87, 0, 19)], 111, [0, -2]),
  (3, [(2, 107, 0), (0, 2, 2)], [], [(107, 87, 0, 2)], 111, [0, -2]),
  (3, [(2, 107, 0), (0, 20, 20)], [], [(107, 87, 0, 20)], 111, [0, -2]),
  (3, [(2, 107, 0), (0, 21, 21)], [], [(107, 87, 0, 21)], 111, [0, -2]),
  (3, [(2, 107, 0), (0, 22, 22)], [], [(107, 87, 0, 22)], 111, [0, -2]),
  (3, [(2, 107, 0), (0, 23, 23)], [], [(107, 87, 0, 23)], 111, [0, -2]),
  (3, [(2, 107, 0), (0, 24, 24)], [], [(107, 87, 0, 24)], 111, [0, -2]),
  (3, [(2, 107, 0), (0, 25, 25)], [], [(107, 87, 0, 25)], 111, [0, -2]),
  (3, [(2, 107, 0), (0, 26, 26)], [], [(107, 87, 0, 26)], 111, [0, -2]),
  (3, [(2, 107, 0), (0, 27, 27)], [], [(107, 87, 0, 27)], 111, [0, -2]),
  (3, [(2, 107, 0), (0, 28, 28)], [], [(107, 87, 0, 28)], 111, [0, -2]),
  (3, [(2, 107, 0), (0, 29, 29)], [], [(107, 87, 0, 29)], 111, [0, -2]),
  (3, [(2, 107, 0), (0, 3, 3)], [], [(107, 87, 0, 3)], 111, [0, -2]),
  (3, [(2, 107, 0), (0, 30, 30)], [], [(107, 87, 0, 30)], 111, [0, -2]),
  (3, [(2, 107, 0), (0, 31, 31)], [], [(107, 87, 0, 31)], 111, [0, -2]),
  (3, [(2, 107, 0), (0, 32, 32)], [], [(107, 87, 0, 32)], 111, [0, -2]),
  (3, [(2, 107, 0), (0, 33, 33)], [], [(107, 87, 0, 33)], 111, [0, -2]),
  (3, [(2, 107, 0), (0, 34, 34)], [], [(107, 87, 0, 34)], 111, [0, -2]),
  (3, [(2, 107, 0), (0, 35, 35)], [], [(107, 87, 0, 35)], 111, [0, -2]),
  (3, [(2, 107, 0), (0, 36, 36)], [], [(107, 87, 0, 36)], 111, [0, -2]),
  (3, [(2, 107, 0), (0, 37, 37)], [], [(107, 87, 0, 37)], 111, [0, -2]),
  (3, [(2, 107, 0), (0, 38, 38)], [], [(107, 87, 0, 38)], 111, [0, -2]),
  (3, [(2, 107, 0), (0, 39, 39)], [], [(107, 87, 0, 39)], 111, [0, -2]),
  (3, [(2, 107, 0), (0, 4, 4)], [], [(107, 87, 0, 4)], 111, [0, -2]),
  (3, [(2, 107, 0), (0, 40, 40)], [], [(107, 87, 0, 40)], 111, [0, -2]),
  (3, [(2, 107, 0), (0, 41, 41)], [], [(107, 87, 0, 41)], 111, [0, -2]),
  (3, [(2, 107, 0), (0, 42, 42)], [], [(107, 87, 0, 42)], 111, [0, -2]),
  (3, [(2, 107, 0), (0, 43, 43)], [], [(107, 87, 0, 43)], 111, [0, -2]),
  (3, [(2, 107, 0), (0, 44, 44)], [], [(107, 87, 0, 44)], 111, [0, -2]),
  (3, [(2, 107, 0), (0, 45, 45)], [], [(107, 87, 0, 45)], 111, [0, -2]),
  (3, [(2, 107, 0), (0, 46, 46)], [], [(107, 87, 0, 46)], 111, [0, -2]),
  (3, [(2, 107, 0), (0, 47, 47)], [], [(107, 87, 0, 47)], 111, [0, -2]),
  (3, [(2, 107, 0), (0, 48, 48)], [], [(107, 87, 0, 48)], 111, [0, -2]),
  (3, [(2, 107, 0), (0, 49, 49)], [], [(107, 87, 0, 49)], 111, [0, -2]),
  (3, [(2, 107, 0), (0, 5, 5)], [], [(107, 87, 0, 5)], 111, [0, -2]),
  (3, [(2, 107, 0), (0, 50, 50)], [], [(107, 87, 0, 50)], 111, [0, -2]),
  (3, [(2, 107, 0), (0, 51, 51)], [], [(107, 87, 0, 51)], 111, [0, -2]),
  (3, [(2, 107, 0), (0, 52, 52)], [], [(107, 87, 0, 52)], 111, [0, -2]),
  (3, [(2, 107, 0), (0, 53, 53)], [], [(107, 87, 0, 53)], 111, [0, -2]),
  (3, [(2, 107, 0), (0, 54, 54)], [], [(107, 87, 0, 54)], 111, [0, -2]),
  (3, [(2, 107, 0), (0, 55, 55)], [], [(107, 87, 0, 55)], 111, [0, -2]),
  (3, [(2, 107, 0), (0, 6, 6)], [], [(107, 87, 0, 6)], 111, [0, -2]),
  (3, [(2, 107, 0), (0, 7, 7)], [], [(107, 87, 0, 7)], 111, [0, -2]),
  (3, [(2, 107, 0), (0, 8, 8)], [], [(107, 87, 0, 8)], 111, [0, -2]),
  (3, [(2, 107, 0), (0, 9, 9)], [], [(107, 87, 0, 9)], 111, [0, -2])]
/-! X12_rings -/
theorem mlh_67 {Sc : sm_C} : en_hold ml_tb mlX sm_P Sc mlc_67 := en_chk_ok mlX_ok (T := [mlc_58, mlc_66]) (cuts := mlu_67) (List.forall_mem_cons.mpr ⟨mlh_58, List.forall_mem_cons.mpr ⟨mlh_66, fun _ h => absurd h List.not_mem_nil⟩⟩) (by decide +kernel)
def mlc_68 : en_Ct := (183, [(2, 107, 0)], [], (0, -2, 60), [(107, [51, 52, 53, 68, 87]), (143, []), (161, []), (162, [])], 8)
def mlu_68 : List en_Cu := []
/-! X12_ring -/
theorem mlh_68 {Sc : sm_C} : en_hold ml_tb mlX sm_P Sc mlc_68 := en_chk_ok mlX_ok (T := [mlc_67]) (cuts := mlu_68) (List.forall_mem_cons.mpr ⟨mlh_67, fun _ h => absurd h List.not_mem_nil⟩) (by decide +kernel)
def mlc_69 : en_Ct := (184, [(2, 107, 0), (0, -2147483648, 2147483647)], [], (0, -1, 144), [(107, [51, 52, 53, 68, 87]), (143, []), (161, []), (162, [])], 8)
def mlu_69 : List en_Cu := []
/-! X12_ringAt -/
theorem mlh_69 {Sc : sm_C} : en_hold ml_tb mlX sm_P Sc mlc_69 := en_chk_ok mlX_ok (T := [mlc_67]) (cuts := mlu_69) (List.forall_mem_cons.mpr ⟨mlh_67, fun _ h => absurd h List.not_mem_nil⟩) (by decide +kernel)
def mlc_70 : en_Ct := (188, [(2, 107, 0), (0, -2147483648, 2147483647), (0, -2147483648, 2147483647)], [], (0, 0, 1), [(138, [])], 2)
def mlu_70 : List en_Cu := []
/-! X12_set -/
theorem mlh_70 {Sc : sm_C} : en_hold ml_tb mlX sm_P Sc mlc_70 := en_chk_ok mlX_ok (T := []) (cuts := mlu_70) (fun _ h => absurd h List.not_mem_nil) (by decide +kernel)
def mlc_74 : en_Ct := (209, [(2, 107, 0), (0, -2147483648, 2147483647), (0, -2147483648, 2147483647)], [], (0, -2147483648, 2147483647), [], 1)
def mlu_74 : List en_Cu := []
/-! X12_walk -/
theorem mlh_74 {Sc : sm_C} : en_hold ml_tb mlX sm_P Sc mlc_74 := en_chk_ok mlX_ok (T := []) (cuts := mlu_74) (fun _ h => absurd h List.not_mem_nil) (by decide +kernel)

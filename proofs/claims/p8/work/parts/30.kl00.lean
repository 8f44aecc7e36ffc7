/-! methods checked by the engine -/
def klc_1 : en_Ct := (221, [(2, 74, 0), (0, 0, 66), (0, 0, 9), (0, -1, 9), (0, -2147483648, 2147483647), (0, -2147483648, 2147483647)], [], (0, 0, 1), [(76, [])], 3)
def klu_1 : List en_Cu := []
/-! X2_bind -/
theorem klh_1 {Sc : sm_C} : en_hold kl_tb klX sm_P Sc klc_1 := en_chk_ok klX_ok (T := [klc_0]) (cuts := klu_1) (List.forall_mem_cons.mpr ⟨klh_0, fun _ h => absurd h List.not_mem_nil⟩) (by decide +kernel)
def klc_3 : en_Ct := (0, [(2, 103, 0), (2, 12, 0), (0, 0, 4), (0, 0, 65), (0, 0, 2)], [], (0, 0, 1), [(76, [])], 4)
def klu_3 : List en_Cu := []
/-! X0_answer -/
theorem klh_3 {Sc : sm_C} : en_hold kl_tb klX sm_P Sc klc_3 := en_chk_ok klX_ok (T := [klc_1, klc_2, klc_0]) (cuts := klu_3) (List.forall_mem_cons.mpr ⟨klh_1, List.forall_mem_cons.mpr ⟨klh_2, List.forall_mem_cons.mpr ⟨klh_0, fun _ h => absurd h List.not_mem_nil⟩⟩⟩) (by decide +kernel)
def klc_4 : en_Ct := (0, [(2, 103, 0), (2, 49, 0), (0, 0, 4), (0, 0, 65), (0, 0, 2)], [], (0, 0, 1), [(76, [])], 4)
def klu_4 : List en_Cu := []
/-! X0_answer -/
theorem klh_4 {Sc : sm_C} : en_hold kl_tb klX sm_P Sc klc_4 := en_chk_ok klX_ok (T := [klc_1, klc_2, klc_0]) (cuts := klu_4) (List.forall_mem_cons.mpr ⟨klh_1, List.forall_mem_cons.mpr ⟨klh_2, List.forall_mem_cons.mpr ⟨klh_0, fun _ h => absurd h List.not_mem_nil⟩⟩⟩) (by decide +kernel)
def klc_5 : en_Ct := (216, [(2, 45, 0), (0, -2147483648, 2147483647), (0, 0, 144)], [], (0, -2147483648, 2147483647), [], 0)
def klu_5 : List en_Cu := []
/-! X1_choiceOf -/
theorem klh_5 {Sc : sm_C} : en_hold kl_tb klX sm_P Sc klc_5 := en_chk_ok klX_ok (T := []) (cuts := klu_5) (fun _ h => absurd h List.not_mem_nil) (by decide +kernel)
def klc_6 : en_Ct := (19, [(2, 12, 0), (0, -1, 100), (0, -2147483648, 2147483647)], [], (0, -2147483648, 2147483647), [], 0)
def klu_6 : List en_Cu := []
/-! X10_firstSpan -/
theorem klh_6 {Sc : sm_C} : en_hold kl_tb klX sm_P Sc klc_6 := en_chk_ok klX_ok (T := []) (cuts := klu_6) (fun _ h => absurd h List.not_mem_nil) (by decide +kernel)
def klc_7 : en_Ct := (19, [(2, 49, 0), (0, -1, 100), (0, -2147483648, 2147483647)], [], (0, -2147483648, 2147483647), [], 0)
def klu_7 : List en_Cu := []
/-! X10_firstSpan -/
theorem klh_7 {Sc : sm_C} : en_hold kl_tb klX sm_P Sc klc_7 := en_chk_ok klX_ok (T := []) (cuts := klu_7) (fun _ h => absurd h List.not_mem_nil) (by decide +kernel)
def klc_8 : en_Ct := (23, [(2, 12, 0), (0, -1, 100), (0, -2147483648, 2147483647)], [], (0, 0, 3), [], 0)
def klu_8 : List en_Cu := []
/-! X10_partsOf -/
theorem klh_8 {Sc : sm_C} : en_hold kl_tb klX sm_P Sc klc_8 := en_chk_ok klX_ok (T := []) (cuts := klu_8) (fun _ h => absurd h List.not_mem_nil) (by decide +kernel)
def klc_9 : en_Ct := (23, [(2, 49, 0), (0, -1, 100), (0, -2147483648, 2147483647)], [], (0, 0, 3), [], 0)
def klu_9 : List en_Cu := []
/-! X10_partsOf -/
theorem klh_9 {Sc : sm_C} : en_hold kl_tb klX sm_P Sc klc_9 := en_chk_ok klX_ok (T := []) (cuts := klu_9) (fun _ h => absurd h List.not_mem_nil) (by decide +kernel)
def klc_10 : en_Ct := (89, [(2, 36, 0), (0, 0, 99), (0, -2, -2)], [], (0, -2147483648, 2147483647), [], 0)
def klu_10 : List en_Cu := []
/-! X11_valueAt -/
theorem klh_10 {Sc : sm_C} : en_hold kl_tb klX sm_P Sc klc_10 := en_chk_ok klX_ok (T := []) (cuts := klu_10) (fun _ h => absurd h List.not_mem_nil) (by decide +kernel)
def klc_11 : en_Ct := (89, [(2, 73, 0), (0, 0, 99), (0, -2, -2)], [], (0, -2147483648, 2147483647), [], 0)
def klu_11 : List en_Cu := []
/-! X11_valueAt -/
theorem klh_11 {Sc : sm_C} : en_hold kl_tb klX sm_P Sc klc_11 := en_chk_ok klX_ok (T := []) (cuts := klu_11) (fun _ h => absurd h List.not_mem_nil) (by decide +kernel)
def klc_12 : en_Ct := (237, [(2, 74, 0), (0, 100, 144)], [], (0, -2147483648, 2147483647), [], 1)
def klu_12 : List en_Cu := []
/-! X2_walkOf -/
theorem klh_12 {Sc : sm_C} : en_hold kl_tb klX sm_P Sc klc_12 := en_chk_ok klX_ok (T := [klc_10, klc_11]) (cuts := klu_12) (List.forall_mem_cons.mpr ⟨klh_10, List.forall_mem_cons.mpr ⟨klh_11, fun _ h => absurd h List.not_mem_nil⟩⟩) (by decide +kernel)
def klc_13 : en_Ct := (89, [(2, 34, 0), (0, 0, 99), (0, -1, -1)], [], (0, -1, 9), [], 0)
def klu_13 : List en_Cu := []
/-! X11_valueAt -/
theorem klh_13 {Sc : sm_C} : en_hold kl_tb klX sm_P Sc klc_13 := en_chk_ok klX_ok (T := []) (cuts := klu_13) (fun _ h => absurd h List.not_mem_nil) (by decide +kernel)
def klc_14 : en_Ct := (89, [(2, 35, 0), (0, 0, 99), (0, -1, -1)], [], (0, -1, 9), [], 0)
def klu_14 : List en_Cu := []
/-! X11_valueAt -/
theorem klh_14 {Sc : sm_C} : en_hold kl_tb klX sm_P Sc klc_14 := en_chk_ok klX_ok (T := []) (cuts := klu_14) (fun _ h => absurd h List.not_mem_nil) (by decide +kernel)
def klc_15 : en_Ct := (89, [(2, 71, 0), (0, 0, 99), (0, -1, -1)], [], (0, -1, 9), [], 0)
def klu_15 : List en_Cu := []
/-! X11_valueAt -/
theorem klh_15 {Sc : sm_C} : en_hold kl_tb klX sm_P Sc klc_15 := en_chk_ok klX_ok (T := []) (cuts := klu_15) (fun _ h => absurd h List.not_mem_nil) (by decide +kernel)
def klc_16 : en_Ct := (89, [(2, 72, 0), (0, 0, 99), (0, -1, -1)], [], (0, -1, 9), [], 0)
def klu_16 : List en_Cu := []
/-! X11_valueAt -/
theorem klh_16 {Sc : sm_C} : en_hold kl_tb klX sm_P Sc klc_16 := en_chk_ok klX_ok (T := []) (cuts := klu_16) (fun _ h => absurd h List.not_mem_nil) (by decide +kernel)
def klc_17 : en_Ct := (235, [(2, 74, 0), (0, 1, 60), (0, 100, 144), (0, -2147483648, 2147483647)], [], (0, 0, 1), [(76, [])], 3)
def klu_17 : List en_Cu := []
/-! X2_pushMove -/
theorem klh_17 {Sc : sm_C} : en_hold kl_tb klX sm_P Sc klc_17 := en_chk_ok klX_ok (T := [klc_12, klc_0, klc_13, klc_14, klc_15, klc_16]) (cuts := klu_17) (List.forall_mem_cons.mpr ⟨klh_12, List.forall_mem_cons.mpr ⟨klh_0, List.forall_mem_cons.mpr ⟨klh_13, List.forall_mem_cons.mpr ⟨klh_14, List.forall_mem_cons.mpr ⟨klh_15, List.forall_mem_cons.mpr ⟨klh_16, fun _ h => absurd h List.not_mem_nil⟩⟩⟩⟩⟩⟩) (by decide +kernel)
def klc_18 : en_Ct := (234, [(2, 74, 0), (0, 0, 59), (0, 0, 144), (0, -2147483648, 2147483647)], [], (0, 0, 1), [(76, [])], 4)
def klu_18 : List en_Cu := [(6, [(2, 74, 0), (0, 0, 59), (2, 24, 0), (0, 0, 0), (0, -2147483648, 120), (0, 0, 2147483647)], [], [], 4294967295, [0, 0, 0, 0, 0, -2]),
  (6, [(2, 74, 0), (0, 0, 59), (2, 61, 0), (0, 0, 0), (0, -2147483648, 120), (0, 0, 2147483647)], [], [], 4294967295, [0, 0, 0, 0, 0, -2])]
/-! X2_push -/
theorem klh_18 {Sc : sm_C} : en_hold kl_tb klX sm_P Sc klc_18 := en_chk_ok klX_ok (T := [klc_6, klc_7, klc_1, klc_8, klc_9, klc_17, klc_2]) (cuts := klu_18) (List.forall_mem_cons.mpr ⟨klh_6, List.forall_mem_cons.mpr ⟨klh_7, List.forall_mem_cons.mpr ⟨klh_1, List.forall_mem_cons.mpr ⟨klh_8, List.forall_mem_cons.mpr ⟨klh_9, List.forall_mem_cons.mpr ⟨klh_17, List.forall_mem_cons.mpr ⟨klh_2, fun _ h => absurd h List.not_mem_nil⟩⟩⟩⟩⟩⟩⟩) (by decide +kernel)
def klc_19 : en_Ct := (222, [(2, 74, 0), (2, 45, 0), (0, 0, 2147483647)], [], (0, 0, 1), [(74, [6]), (76, []), (81, [])], 5)
def klu_19 : List en_Cu := [(1, [(2, 74, 0), (2, 45, 0), (0, 0, 2147483647), (0, 0, 60)], [], [], 121, [0, 0, 0, -2])]
/-! X2_bring -/
theorem klh_19 {Sc : sm_C} : en_hold kl_tb klX sm_P Sc klc_19 := en_chk_ok klX_ok (T := [klc_5, klc_18]) (cuts := klu_19) (List.forall_mem_cons.mpr ⟨klh_5, List.forall_mem_cons.mpr ⟨klh_18, fun _ h => absurd h List.not_mem_nil⟩⟩) (by decide +kernel)
def klc_21 : en_Ct := (224, [(2, 74, 0), (0, -3, 60), (0, 0, 9), (0, -1, 9), (0, 0, 1)], [], (0, -2147483648, 2147483647), [], 3)
def klu_21 : List en_Cu := []
/-! X2_distance -/
theorem klh_21 {Sc : sm_C} : en_hold kl_tb klX sm_P Sc klc_21 := en_chk_ok klX_ok (T := [klc_20]) (cuts := klu_21) (List.forall_mem_cons.mpr ⟨klh_20, fun _ h => absurd h List.not_mem_nil⟩) (by decide +kernel)
def klc_22 : en_Ct := (1, [(2, 103, 0), (2, 12, 0), (0, 0, 4), (0, 0, 1)], [], (0, -2147483648, 2147483647), [(74, [6]), (76, []), (81, [])], 6)
def klu_22 : List en_Cu := [(1, [(2, 103, 0), (2, 12, 0), (0, 0, 4), (0, 0, 1), (0, -2147483648, 2147483647), (0, 0, 2147483647)], [], [], 4294967295, [0, 0, 0, 0, 0, -2])]
/-! X0_answered -/
theorem klh_22 {Sc : sm_C} : en_hold kl_tb klX sm_P Sc klc_22 := en_chk_ok klX_ok (T := [klc_19, klc_21]) (cuts := klu_22) (List.forall_mem_cons.mpr ⟨klh_19, List.forall_mem_cons.mpr ⟨klh_21, fun _ h => absurd h List.not_mem_nil⟩⟩) (by decide +kernel)
def klc_23 : en_Ct := (1, [(2, 103, 0), (2, 49, 0), (0, 0, 4), (0, 0, 1)], [], (0, -2147483648, 2147483647), [(74, [6]), (76, []), (81, [])], 6)
def klu_23 : List en_Cu := [(1, [(2, 103, 0), (2, 49, 0), (0, 0, 4), (0, 0, 1), (0, -2147483648, 2147483647), (0, 0, 2147483647)], [], [], 4294967295, [0, 0, 0, 0, 0, -2])]
/-! X0_answered -/
theorem klh_23 {Sc : sm_C} : en_hold kl_tb klX sm_P Sc klc_23 := en_chk_ok klX_ok (T := [klc_19, klc_21]) (cuts := klu_23) (List.forall_mem_cons.mpr ⟨klh_19, List.forall_mem_cons.mpr ⟨klh_21, fun _ h => absurd h List.not_mem_nil⟩⟩) (by decide +kernel)
def klc_24 : en_Ct := (10, [(2, 103, 0), (2, 12, 0), (0, 0, 63), (0, 5, 5), (0, 5, 66), (0, -2147483648, 2147483647)], [], (9, 0, 0), [(104, [])], 0)
def klu_24 : List en_Cu := []
/-! X0_spread -/
theorem klh_24 {Sc : sm_C} : en_hold kl_tb klX sm_P Sc klc_24 := en_chk_ok klX_ok (T := []) (cuts := klu_24) (fun _ h => absurd h List.not_mem_nil) (by decide +kernel)
def klc_25 : en_Ct := (10, [(2, 103, 0), (2, 12, 0), (0, 0, 63), (0, 4, 4), (0, 4, 65), (0, -2147483648, 2147483647)], [], (9, 0, 0), [(76, []), (104, [])], 5)
def klu_25 : List en_Cu := [(6, [(2, 103, 0), (2, 12, 0), (0, 0, 63), (0, 4, 4), (0, 4, 65), (0, -2147483648, 2147483647), (0, 0, 3)], [], [], 7, [0, 0, 0, 0, 0, 0, -2])]
/-! X0_spread -/
theorem klh_25 {Sc : sm_C} : en_hold kl_tb klX sm_P Sc klc_25 := en_chk_ok klX_ok (T := [klc_3, klc_24]) (cuts := klu_25) (List.forall_mem_cons.mpr ⟨klh_3, List.forall_mem_cons.mpr ⟨klh_24, fun _ h => absurd h List.not_mem_nil⟩⟩) (by decide +kernel)
def klc_26 : en_Ct := (10, [(2, 103, 0), (2, 12, 0), (0, 0, 63), (0, 3, 3), (0, 3, 64), (0, -2147483648, 2147483647)], [], (9, 0, 0), [(76, []), (104, [])], 6)
def klu_26 : List en_Cu := [(6, [(2, 103, 0), (2, 12, 0), (0, 0, 63), (0, 3, 3), (0, 3, 64), (0, -2147483648, 2147483647), (0, 0, 3)], [], [], 7, [0, 0, 0, 0, 0, 0, -2])]
/-! X0_spread -/
theorem klh_26 {Sc : sm_C} : en_hold kl_tb klX sm_P Sc klc_26 := en_chk_ok klX_ok (T := [klc_3, klc_25]) (cuts := klu_26) (List.forall_mem_cons.mpr ⟨klh_3, List.forall_mem_cons.mpr ⟨klh_25, fun _ h => absurd h List.not_mem_nil⟩⟩) (by decide +kernel)
def klc_27 : en_Ct := (10, [(2, 103, 0), (2, 12, 0), (0, 0, 63), (0, 2, 2), (0, 2, 63), (0, -2147483648, 2147483647)], [], (9, 0, 0), [(76, []), (104, [])], 7)
def klu_27 : List en_Cu := [(6, [(2, 103, 0), (2, 12, 0), (0, 0, 63), (0, 2, 2), (0, 2, 63), (0, -2147483648, 2147483647), (0, 0, 3)], [], [], 7, [0, 0, 0, 0, 0, 0, -2])]
/-! X0_spread -/
theorem klh_27 {Sc : sm_C} : en_hold kl_tb klX sm_P Sc klc_27 := en_chk_ok klX_ok (T := [klc_3, klc_26]) (cuts := klu_27) (List.forall_mem_cons.mpr ⟨klh_3, List.forall_mem_cons.mpr ⟨klh_26, fun _ h => absurd h List.not_mem_nil⟩⟩) (by decide +kernel)
def klc_28 : en_Ct := (10, [(2, 103, 0), (2, 12, 0), (0, 0, 63), (0, 1, 1), (0, 1, 61), (0, -2147483648, 2147483647)], [], (9, 0, 0), [(76, []), (104, [])], 8)
def klu_28 : List en_Cu := [(6, [(2, 103, 0), (2, 12, 0), (0, 0, 63), (0, 1, 1), (0, 1, 61), (0, -2147483648, 2147483647), (0, 0, 3)], [], [], 7, [0, 0, 0, 0, 0, 0, -2])]
/-! X0_spread -/
theorem klh_28 {Sc : sm_C} : en_hold kl_tb klX sm_P Sc klc_28 := en_chk_ok klX_ok (T := [klc_3, klc_27]) (cuts := klu_28) (List.forall_mem_cons.mpr ⟨klh_3, List.forall_mem_cons.mpr ⟨klh_27, fun _ h => absurd h List.not_mem_nil⟩⟩) (by decide +kernel)
def klc_29 : en_Ct := (10, [(2, 103, 0), (2, 12, 0), (0, 0, 63), (0, 0, 0), (0, 0, 60), (0, -1, -1)], [], (9, 0, 0), [(76, []), (104, [])], 9)
def klu_29 : List en_Cu := [(6, [(2, 103, 0), (2, 12, 0), (0, 0, 63), (0, 0, 0), (0, 0, 60), (0, -1, -1), (0, 0, 3)], [], [], 7, [0, 0, 0, 0, 0, 0, -2])]
/-! X0_spread -/
theorem klh_29 {Sc : sm_C} : en_hold kl_tb klX sm_P Sc klc_29 := en_chk_ok klX_ok (T := [klc_3, klc_28]) (cuts := klu_29) (List.forall_mem_cons.mpr ⟨klh_3, List.forall_mem_cons.mpr ⟨klh_28, fun _ h => absurd h List.not_mem_nil⟩⟩) (by decide +kernel)
def klc_30 : en_Ct := (10, [(2, 103, 0), (2, 49, 0), (0, 0, 63), (0, 5, 5), (0, 5, 66), (0, -2147483648, 2147483647)], [], (9, 0, 0), [(104, [])], 0)
def klu_30 : List en_Cu := []
/-! X0_spread -/
theorem klh_30 {Sc : sm_C} : en_hold kl_tb klX sm_P Sc klc_30 := en_chk_ok klX_ok (T := []) (cuts := klu_30) (fun _ h => absurd h List.not_mem_nil) (by decide +kernel)
def klc_31 : en_Ct := (10, [(2, 103, 0), (2, 49, 0), (0, 0, 63), (0, 4, 4), (0, 4, 65), (0, -2147483648, 2147483647)], [], (9, 0, 0), [(76, []), (104, [])], 5)
def klu_31 : List en_Cu := [(6, [(2, 103, 0), (2, 49, 0), (0, 0, 63), (0, 4, 4), (0, 4, 65), (0, -2147483648, 2147483647), (0, 0, 3)], [], [], 7, [0, 0, 0, 0, 0, 0, -2])]
/-! X0_spread -/
theorem klh_31 {Sc : sm_C} : en_hold kl_tb klX sm_P Sc klc_31 := en_chk_ok klX_ok (T := [klc_4, klc_30]) (cuts := klu_31) (List.forall_mem_cons.mpr ⟨klh_4, List.forall_mem_cons.mpr ⟨klh_30, fun _ h => absurd h List.not_mem_nil⟩⟩) (by decide +kernel)
def klc_32 : en_Ct := (10, [(2, 103, 0), (2, 49, 0), (0, 0, 63), (0, 3, 3), (0, 3, 64), (0, -2147483648, 2147483647)], [], (9, 0, 0), [(76, []), (104, [])], 6)
def klu_32 : List en_Cu := [(6, [(2, 103, 0), (2, 49, 0), (0, 0, 63), (0, 3, 3), (0, 3, 64), (0, -2147483648, 2147483647), (0, 0, 3)], [], [], 7, [0, 0, 0, 0, 0, 0, -2])]
/-! X0_spread -/
theorem klh_32 {Sc : sm_C} : en_hold kl_tb klX sm_P Sc klc_32 := en_chk_ok klX_ok (T := [klc_4, klc_31]) (cuts := klu_32) (List.forall_mem_cons.mpr ⟨klh_4, List.forall_mem_cons.mpr ⟨klh_31, fun _ h => absurd h List.not_mem_nil⟩⟩) (by decide +kernel)
def klc_33 : en_Ct := (10, [(2, 103, 0), (2, 49, 0), (0, 0, 63), (0, 2, 2), (0, 2, 63), (0, -2147483648, 2147483647)], [], (9, 0, 0), [(76, []), (104, [])], 7)
def klu_33 : List en_Cu := [(6, [(2, 103, 0), (2, 49, 0), (0, 0, 63), (0, 2, 2), (0, 2, 63), (0, -2147483648, 2147483647), (0, 0, 3)], [], [], 7, [0, 0, 0, 0, 0, 0, -2])]
/-! X0_spread -/
theorem klh_33 {Sc : sm_C} : en_hold kl_tb klX sm_P Sc klc_33 := en_chk_ok klX_ok (T := [klc_4, klc_32]) (cuts := klu_33) (List.forall_mem_cons.mpr ⟨klh_4, List.forall_mem_cons.mpr ⟨klh_32, fun _ h => absurd h List.not_mem_nil⟩⟩) (by decide +kernel)
def klc_34 : en_Ct := (10, [(2, 103, 0), (2, 49, 0), (0, 0, 63), (0, 1, 1), (0, 1, 61), (0, -2147483648, 2147483647)], [], (9, 0, 0), [(76, []), (104, [])], 8)
def klu_34 : List en_Cu := [(6, [(2, 103, 0), (2, 49, 0), (0, 0, 63), (0, 1, 1), (0, 1, 61), (0, -2147483648, 2147483647), (0, 0, 3)], [], [], 7, [0, 0, 0, 0, 0, 0, -2])]
/-! X0_spread -/
theorem klh_34 {Sc : sm_C} : en_hold kl_tb klX sm_P Sc klc_34 := en_chk_ok klX_ok (T := [klc_4, klc_33]) (cuts := klu_34) (List.forall_mem_cons.mpr ⟨klh_4, List.forall_mem_cons.mpr ⟨klh_33, fun _ h => absurd h List.not_mem_nil⟩⟩) (by decide +kernel)
def klc_35 : en_Ct := (10, [(2, 103, 0), (2, 49, 0), (0, 0, 63), (0, 0, 0), (0, 0, 60), (0, -1, -1)], [], (9, 0, 0), [(76, []), (104, [])], 9)
def klu_35 : List en_Cu := [(6, [(2, 103, 0), (2, 49, 0), (0, 0, 63), (0, 0, 0), (0, 0, 60), (0, -1, -1), (0, 0, 3)], [], [], 7, [0, 0, 0, 0, 0, 0, -2])]
/-! X0_spread -/
theorem klh_35 {Sc : sm_C} : en_hold kl_tb klX sm_P Sc klc_35 := en_chk_ok klX_ok (T := [klc_4, klc_34]) (cuts := klu_35) (List.forall_mem_cons.mpr ⟨klh_4, List.forall_mem_cons.mpr ⟨klh_34, fun _ h => absurd h List.not_mem_nil⟩⟩) (by decide +kernel)
def klc_36 : en_Ct := (9, [(2, 103, 0), (0, 0, 1023), (0, 0, 4)], [], (0, 1, 6), [], 0)
def klu_36 : List en_Cu := []
/-! X0_neededWith -/
theorem klh_36 {Sc : sm_C} : en_hold kl_tb klX sm_P Sc klc_36 := en_chk_ok klX_ok (T := []) (cuts := klu_36) (fun _ h => absurd h List.not_mem_nil) (by decide +kernel)
def klc_37 : en_Ct := (11, [(2, 103, 0), (2, 12, 0), (0, 0, 1000)], [], (9, 0, 0), [(106, [])], 1)
def klu_37 : List en_Cu := [(1, [(2, 103, 0), (2, 12, 0), (0, 0, 1000), (0, -1, 1023)], [], [], 27, [0, 0, 0, 14]),
  (6, [(2, 103, 0), (2, 12, 0), (0, 0, 1000), (0, 0, 1023), (0, 0, 6), (0, 0, 5)], [], [], 25, [0, 0, 0, 14, 0, -2])]
/-! X0_workOut -/
theorem klh_37 {Sc : sm_C} : en_hold kl_tb klX sm_P Sc klc_37 := en_chk_ok klX_ok (T := [klc_36]) (cuts := klu_37) (List.forall_mem_cons.mpr ⟨klh_36, fun _ h => absurd h List.not_mem_nil⟩) (by decide +kernel)
def klc_38 : en_Ct := (11, [(2, 103, 0), (2, 49, 0), (0, 0, 1000)], [], (9, 0, 0), [(106, [])], 1)
def klu_38 : List en_Cu := [(1, [(2, 103, 0), (2, 49, 0), (0, 0, 1000), (0, -1, 1023)], [], [], 27, [0, 0, 0, 14]),
  (6, [(2, 103, 0), (2, 49, 0), (0, 0, 1000), (0, 0, 1023), (0, 0, 6), (0, 0, 5)], [], [], 25, [0, 0, 0, 14, 0, -2])]
/-! X0_workOut -/
theorem klh_38 {Sc : sm_C} : en_hold kl_tb klX sm_P Sc klc_38 := en_chk_ok klX_ok (T := [klc_36]) (cuts := klu_38) (List.forall_mem_cons.mpr ⟨klh_36, fun _ h => absurd h List.not_mem_nil⟩) (by decide +kernel)
def klc_39 : en_Ct := (12, [(2, 12, 0), (0, 0, 1)], [], (9, 0, 0), [(22, []), (23, [])], 0)
def klu_39 : List en_Cu := []
/-! X10_addPart -/
theorem klh_39 {Sc : sm_C} : en_hold kl_tb klX sm_P Sc klc_39 := en_chk_ok klX_ok (T := []) (cuts := klu_39) (fun _ h => absurd h List.not_mem_nil) (by decide +kernel)
def klc_40 : en_Ct := (12, [(2, 49, 0), (0, 0, 1)], [], (9, 0, 0), [(59, []), (60, [])], 0)
def klu_40 : List en_Cu := []
/-! X10_addPart -/
theorem klh_40 {Sc : sm_C} : en_hold kl_tb klX sm_P Sc klc_40 := en_chk_ok klX_ok (T := []) (cuts := klu_40) (fun _ h => absurd h List.not_mem_nil) (by decide +kernel)
def klc_41 : en_Ct := (13, [(2, 12, 0), (0, 0, 9), (0, -1, 9), (0, -2147483648, 2147483647)], [], (9, 0, 0), [(13, [])], 0)
def klu_41 : List en_Cu := []
/-! X10_addPath -/
theorem klh_41 {Sc : sm_C} : en_hold kl_tb klX sm_P Sc klc_41 := en_chk_ok klX_ok (T := []) (cuts := klu_41) (fun _ h => absurd h List.not_mem_nil) (by decide +kernel)
def klc_42 : en_Ct := (13, [(2, 49, 0), (0, 0, 9), (0, -1, 9), (0, -2147483648, 2147483647)], [], (9, 0, 0), [(50, [])], 0)
def klu_42 : List en_Cu := []
/-! X10_addPath -/
theorem klh_42 {Sc : sm_C} : en_hold kl_tb klX sm_P Sc klc_42 := en_chk_ok klX_ok (T := []) (cuts := klu_42) (fun _ h => absurd h List.not_mem_nil) (by decide +kernel)

section
/-! methods checked by the engine -/
def klc_43 : en_Ct := (14, [(2, 12, 0), (0, 0, 1)], [], (9, 0, 0), [(12, [3, 6]), (22, []), (23, [])], 0)
def klu_43 : List en_Cu := []
/-! X10_addSaying -/
theorem klh_43 {Sc : sm_C} : en_hold kl_tb klX sm_P Sc klc_43 := en_chk_ok klX_ok (T := []) (cuts := klu_43) (fun _ h => absurd h List.not_mem_nil) (by decide +kernel)
def klc_44 : en_Ct := (14, [(2, 49, 0), (0, 0, 1)], [], (9, 0, 0), [(49, [3, 6]), (59, []), (60, [])], 0)
def klu_44 : List en_Cu := []
/-! X10_addSaying -/
theorem klh_44 {Sc : sm_C} : en_hold kl_tb klX sm_P Sc klc_44 := en_chk_ok klX_ok (T := []) (cuts := klu_44) (fun _ h => absurd h List.not_mem_nil) (by decide +kernel)
def klc_45 : en_Ct := (15, [(2, 12, 0)], [], (0, 0, 1023), [], 0)
def klu_45 : List en_Cu := []
/-! X10_allBits -/
theorem klh_45 {Sc : sm_C} : en_hold kl_tb klX sm_P Sc klc_45 := en_chk_ok klX_ok (T := []) (cuts := klu_45) (fun _ h => absurd h List.not_mem_nil) (by decide +kernel)
def klc_46 : en_Ct := (15, [(2, 49, 0)], [], (0, 0, 1023), [], 0)
def klu_46 : List en_Cu := []
/-! X10_allBits -/
theorem klh_46 {Sc : sm_C} : en_hold kl_tb klX sm_P Sc klc_46 := en_chk_ok klX_ok (T := []) (cuts := klu_46) (fun _ h => absurd h List.not_mem_nil) (by decide +kernel)
def klc_47 : en_Ct := (306, [(2, 13, 0), (0, -2, -2)], [], (9, 0, 0), [(13, [])], 0)
def klu_47 : List en_Cu := [(1, [(2, 13, 0), (0, -2, -2), (0, 0, 36), (0, 36, 36)], [], [], 73, [0, 0, -2, 0])]
/-! J7_fill_53178 -/
theorem klh_47 {Sc : sm_C} : en_hold kl_tb klX sm_P Sc klc_47 := en_chk_ok klX_ok (T := []) (cuts := klu_47) (fun _ h => absurd h List.not_mem_nil) (by decide +kernel)
def klc_48 : en_Ct := (306, [(2, 14, 0), (0, -1, -1)], [], (9, 0, 0), [(14, [])], 0)
def klu_48 : List en_Cu := [(1, [(2, 14, 0), (0, -1, -1), (0, 0, 10), (0, 10, 10)], [], [], 21, [0, 0, -2, 0])]
/-! J7_fill_53178 -/
theorem klh_48 {Sc : sm_C} : en_hold kl_tb klX sm_P Sc klc_48 := en_chk_ok klX_ok (T := []) (cuts := klu_48) (fun _ h => absurd h List.not_mem_nil) (by decide +kernel)
def klc_49 : en_Ct := (306, [(2, 15, 0), (0, -1, -1)], [], (9, 0, 0), [(15, [])], 0)
def klu_49 : List en_Cu := [(1, [(2, 15, 0), (0, -1, -1), (0, 0, 10), (0, 10, 10)], [], [], 21, [0, 0, -2, 0])]
/-! J7_fill_53178 -/
theorem klh_49 {Sc : sm_C} : en_hold kl_tb klX sm_P Sc klc_49 := en_chk_ok klX_ok (T := []) (cuts := klu_49) (fun _ h => absurd h List.not_mem_nil) (by decide +kernel)
def klc_50 : en_Ct := (306, [(2, 18, 0), (0, -1, -1)], [], (9, 0, 0), [(18, [])], 0)
def klu_50 : List en_Cu := [(1, [(2, 18, 0), (0, -1, -1), (0, 0, 10), (0, 10, 10)], [], [], 21, [0, 0, -2, 0])]
/-! J7_fill_53178 -/
theorem klh_50 {Sc : sm_C} : en_hold kl_tb klX sm_P Sc klc_50 := en_chk_ok klX_ok (T := []) (cuts := klu_50) (fun _ h => absurd h List.not_mem_nil) (by decide +kernel)
def klc_51 : en_Ct := (306, [(2, 21, 0), (0, 1, 1)], [], (9, 0, 0), [(21, [])], 0)
def klu_51 : List en_Cu := [(1, [(2, 21, 0), (0, 1, 1), (0, 0, 10), (0, 10, 10)], [], [], 21, [0, 0, -2, 0])]
/-! J7_fill_53178 -/
theorem klh_51 {Sc : sm_C} : en_hold kl_tb klX sm_P Sc klc_51 := en_chk_ok klX_ok (T := []) (cuts := klu_51) (fun _ h => absurd h List.not_mem_nil) (by decide +kernel)
def klc_52 : en_Ct := (306, [(2, 22, 0), (0, 0, 0)], [], (9, 0, 0), [(22, [])], 0)
def klu_52 : List en_Cu := [(1, [(2, 22, 0), (0, 0, 0), (0, 0, 10), (0, 10, 10)], [], [], 21, [0, 0, -2, 0])]
/-! J7_fill_53178 -/
theorem klh_52 {Sc : sm_C} : en_hold kl_tb klX sm_P Sc klc_52 := en_chk_ok klX_ok (T := []) (cuts := klu_52) (fun _ h => absurd h List.not_mem_nil) (by decide +kernel)
def klc_53 : en_Ct := (306, [(2, 23, 0), (0, 0, 0)], [], (9, 0, 0), [(23, [])], 0)
def klu_53 : List en_Cu := [(1, [(2, 23, 0), (0, 0, 0), (0, 0, 40), (0, 40, 40)], [], [], 81, [0, 0, -2, 0])]
/-! J7_fill_53178 -/
theorem klh_53 {Sc : sm_C} : en_hold kl_tb klX sm_P Sc klc_53 := en_chk_ok klX_ok (T := []) (cuts := klu_53) (fun _ h => absurd h List.not_mem_nil) (by decide +kernel)
def klc_54 : en_Ct := (16, [(2, 12, 0)], [], (9, 0, 0), [(12, [0, 1, 2, 3, 4, 5, 6]), (13, []), (14, []), (15, []), (18, []), (21, []), (22, []), (23, [])], 1)
def klu_54 : List en_Cu := [(1, [(2, 12, 0), (0, 0, 6)], [], [], 13, [0, -2])]
/-! X10_clear -/
theorem klh_54 {Sc : sm_C} : en_hold kl_tb klX sm_P Sc klc_54 := en_chk_ok klX_ok (T := [klc_47, klc_48, klc_49, klc_50, klc_51, klc_52, klc_53]) (cuts := klu_54) (List.forall_mem_cons.mpr ⟨klh_47, List.forall_mem_cons.mpr ⟨klh_48, List.forall_mem_cons.mpr ⟨klh_49, List.forall_mem_cons.mpr ⟨klh_50, List.forall_mem_cons.mpr ⟨klh_51, List.forall_mem_cons.mpr ⟨klh_52, List.forall_mem_cons.mpr ⟨klh_53, fun _ h => absurd h List.not_mem_nil⟩⟩⟩⟩⟩⟩⟩) (by decide +kernel)
def klc_55 : en_Ct := (306, [(2, 50, 0), (0, -2, -2)], [], (9, 0, 0), [(50, [])], 0)
def klu_55 : List en_Cu := [(1, [(2, 50, 0), (0, -2, -2), (0, 0, 36), (0, 36, 36)], [], [], 73, [0, 0, -2, 0])]
/-! J7_fill_53178 -/
theorem klh_55 {Sc : sm_C} : en_hold kl_tb klX sm_P Sc klc_55 := en_chk_ok klX_ok (T := []) (cuts := klu_55) (fun _ h => absurd h List.not_mem_nil) (by decide +kernel)
def klc_56 : en_Ct := (306, [(2, 51, 0), (0, -1, -1)], [], (9, 0, 0), [(51, [])], 0)
def klu_56 : List en_Cu := [(1, [(2, 51, 0), (0, -1, -1), (0, 0, 10), (0, 10, 10)], [], [], 21, [0, 0, -2, 0])]
/-! J7_fill_53178 -/
theorem klh_56 {Sc : sm_C} : en_hold kl_tb klX sm_P Sc klc_56 := en_chk_ok klX_ok (T := []) (cuts := klu_56) (fun _ h => absurd h List.not_mem_nil) (by decide +kernel)
def klc_57 : en_Ct := (306, [(2, 52, 0), (0, -1, -1)], [], (9, 0, 0), [(52, [])], 0)
def klu_57 : List en_Cu := [(1, [(2, 52, 0), (0, -1, -1), (0, 0, 10), (0, 10, 10)], [], [], 21, [0, 0, -2, 0])]
/-! J7_fill_53178 -/
theorem klh_57 {Sc : sm_C} : en_hold kl_tb klX sm_P Sc klc_57 := en_chk_ok klX_ok (T := []) (cuts := klu_57) (fun _ h => absurd h List.not_mem_nil) (by decide +kernel)
def klc_58 : en_Ct := (306, [(2, 55, 0), (0, -1, -1)], [], (9, 0, 0), [(55, [])], 0)
def klu_58 : List en_Cu := [(1, [(2, 55, 0), (0, -1, -1), (0, 0, 10), (0, 10, 10)], [], [], 21, [0, 0, -2, 0])]
/-! J7_fill_53178 -/
theorem klh_58 {Sc : sm_C} : en_hold kl_tb klX sm_P Sc klc_58 := en_chk_ok klX_ok (T := []) (cuts := klu_58) (fun _ h => absurd h List.not_mem_nil) (by decide +kernel)
def klc_59 : en_Ct := (306, [(2, 58, 0), (0, 1, 1)], [], (9, 0, 0), [(58, [])], 0)
def klu_59 : List en_Cu := [(1, [(2, 58, 0), (0, 1, 1), (0, 0, 10), (0, 10, 10)], [], [], 21, [0, 0, -2, 0])]
/-! J7_fill_53178 -/
theorem klh_59 {Sc : sm_C} : en_hold kl_tb klX sm_P Sc klc_59 := en_chk_ok klX_ok (T := []) (cuts := klu_59) (fun _ h => absurd h List.not_mem_nil) (by decide +kernel)
def klc_60 : en_Ct := (306, [(2, 59, 0), (0, 0, 0)], [], (9, 0, 0), [(59, [])], 0)
def klu_60 : List en_Cu := [(1, [(2, 59, 0), (0, 0, 0), (0, 0, 10), (0, 10, 10)], [], [], 21, [0, 0, -2, 0])]
/-! J7_fill_53178 -/
theorem klh_60 {Sc : sm_C} : en_hold kl_tb klX sm_P Sc klc_60 := en_chk_ok klX_ok (T := []) (cuts := klu_60) (fun _ h => absurd h List.not_mem_nil) (by decide +kernel)
def klc_61 : en_Ct := (306, [(2, 60, 0), (0, 0, 0)], [], (9, 0, 0), [(60, [])], 0)
def klu_61 : List en_Cu := [(1, [(2, 60, 0), (0, 0, 0), (0, 0, 40), (0, 40, 40)], [], [], 81, [0, 0, -2, 0])]
/-! J7_fill_53178 -/
theorem klh_61 {Sc : sm_C} : en_hold kl_tb klX sm_P Sc klc_61 := en_chk_ok klX_ok (T := []) (cuts := klu_61) (fun _ h => absurd h List.not_mem_nil) (by decide +kernel)
def klc_62 : en_Ct := (16, [(2, 49, 0)], [], (9, 0, 0), [(49, [0, 1, 2, 3, 4, 5, 6]), (50, []), (51, []), (52, []), (55, []), (58, []), (59, []), (60, [])], 1)
def klu_62 : List en_Cu := [(1, [(2, 49, 0), (0, 0, 6)], [], [], 13, [0, -2])]
/-! X10_clear -/
theorem klh_62 {Sc : sm_C} : en_hold kl_tb klX sm_P Sc klc_62 := en_chk_ok klX_ok (T := [klc_55, klc_56, klc_57, klc_58, klc_59, klc_60, klc_61]) (cuts := klu_62) (List.forall_mem_cons.mpr ⟨klh_55, List.forall_mem_cons.mpr ⟨klh_56, List.forall_mem_cons.mpr ⟨klh_57, List.forall_mem_cons.mpr ⟨klh_58, List.forall_mem_cons.mpr ⟨klh_59, List.forall_mem_cons.mpr ⟨klh_60, List.forall_mem_cons.mpr ⟨klh_61, fun _ h => absurd h List.not_mem_nil⟩⟩⟩⟩⟩⟩⟩) (by decide +kernel)
def klc_63 : en_Ct := (27, [(2, 12, 0), (0, -1, 9), (0, -1, 9)], [], (0, -2147483648, 2147483647), [], 0)
def klu_63 : List en_Cu := []
/-! X10_walkBetween -/
theorem klh_63 {Sc : sm_C} : en_hold kl_tb klX sm_P Sc klc_63 := en_chk_ok klX_ok (T := []) (cuts := klu_63) (fun _ h => absurd h List.not_mem_nil) (by decide +kernel)
def klc_64 : en_Ct := (17, [(2, 12, 0)], [], (9, 0, 0), [(12, [5]), (34, []), (35, []), (36, [])], 1)
def klu_64 : List en_Cu := [(1, [(2, 12, 0), (0, 0, 10)], [], [], 241, [0, -22]),
  (3, [(2, 12, 0), (0, 0, 9), (0, 1, 10)], [], [], 241, [0, -22, -2])]
/-! X10_findMoves -/
theorem klh_64 {Sc : sm_C} : en_hold kl_tb klX sm_P Sc klc_64 := en_chk_ok klX_ok (T := [klc_63]) (cuts := klu_64) (List.forall_mem_cons.mpr ⟨klh_63, fun _ h => absurd h List.not_mem_nil⟩) (by decide +kernel)
def klc_65 : en_Ct := (27, [(2, 49, 0), (0, -1, 9), (0, -1, 9)], [], (0, -2147483648, 2147483647), [], 0)
def klu_65 : List en_Cu := []
/-! X10_walkBetween -/
theorem klh_65 {Sc : sm_C} : en_hold kl_tb klX sm_P Sc klc_65 := en_chk_ok klX_ok (T := []) (cuts := klu_65) (fun _ h => absurd h List.not_mem_nil) (by decide +kernel)
def klc_66 : en_Ct := (17, [(2, 49, 0)], [], (9, 0, 0), [(49, [5]), (71, []), (72, []), (73, [])], 1)
def klu_66 : List en_Cu := [(1, [(2, 49, 0), (0, 0, 10)], [], [], 241, [0, -22]),
  (3, [(2, 49, 0), (0, 0, 9), (0, 1, 10)], [], [], 241, [0, -22, -2])]
/-! X10_findMoves -/
theorem klh_66 {Sc : sm_C} : en_hold kl_tb klX sm_P Sc klc_66 := en_chk_ok klX_ok (T := [klc_65]) (cuts := klu_66) (List.forall_mem_cons.mpr ⟨klh_65, fun _ h => absurd h List.not_mem_nil⟩) (by decide +kernel)
def klc_67 : en_Ct := (18, [(2, 12, 0)], [], (9, 0, 0), [(13, [])], 1)
def klu_67 : List en_Cu := [(1, [(2, 12, 0), (0, 0, 6)], [], [], 699, [0, -100]),
  (3, [(2, 12, 0), (0, 0, 5), (0, 0, 6)], [], [], 697, [0, -100, -14]),
  (5, [(2, 12, 0), (0, 0, 5), (0, 0, 5), (0, 0, 5)], [], [], 695, [0, -100, -14, -2])]
/-! X10_findWalks -/
theorem klh_67 {Sc : sm_C} : en_hold kl_tb klX sm_P Sc klc_67 := en_chk_ok klX_ok (T := [klc_41, klc_63]) (cuts := klu_67) (List.forall_mem_cons.mpr ⟨klh_41, List.forall_mem_cons.mpr ⟨klh_63, fun _ h => absurd h List.not_mem_nil⟩⟩) (by decide +kernel)
def klc_68 : en_Ct := (18, [(2, 49, 0)], [], (9, 0, 0), [(50, [])], 1)
def klu_68 : List en_Cu := [(1, [(2, 49, 0), (0, 0, 6)], [], [], 699, [0, -100]),
  (3, [(2, 49, 0), (0, 0, 5), (0, 0, 6)], [], [], 697, [0, -100, -14]),
  (5, [(2, 49, 0), (0, 0, 5), (0, 0, 5), (0, 0, 5)], [], [], 695, [0, -100, -14, -2])]
/-! X10_findWalks -/
theorem klh_68 {Sc : sm_C} : en_hold kl_tb klX sm_P Sc klc_68 := en_chk_ok klX_ok (T := [klc_42, klc_65]) (cuts := klu_68) (List.forall_mem_cons.mpr ⟨klh_42, List.forall_mem_cons.mpr ⟨klh_65, fun _ h => absurd h List.not_mem_nil⟩⟩) (by decide +kernel)
def klc_69 : en_Ct := (2, [(2, 12, 0), (0, 0, 1023)], [], (0, -2147483648, 2147483647), [], 0)
def klu_69 : List en_Cu := [(1, [(2, 12, 0), (0, 0, 1023), (0, -2147483648, 2147483647), (0, 0, 5)], [], [], 11, [0, 0, 0, -2])]
/-! X0_answersOf -/
theorem klh_69 {Sc : sm_C} : en_hold kl_tb klX sm_P Sc klc_69 := en_chk_ok klX_ok (T := []) (cuts := klu_69) (fun _ h => absurd h List.not_mem_nil) (by decide +kernel)
def klc_70 : en_Ct := (2, [(2, 49, 0), (0, 0, 1023)], [], (0, -2147483648, 2147483647), [], 0)
def klu_70 : List en_Cu := [(1, [(2, 49, 0), (0, 0, 1023), (0, -2147483648, 2147483647), (0, 0, 5)], [], [], 11, [0, 0, 0, -2])]
/-! X0_answersOf -/
theorem klh_70 {Sc : sm_C} : en_hold kl_tb klX sm_P Sc klc_70 := en_chk_ok klX_ok (T := []) (cuts := klu_70) (fun _ h => absurd h List.not_mem_nil) (by decide +kernel)
def klc_71 : en_Ct := (89, [(2, 18, 0), (0, 0, 9), (0, -1, -1)], [], (0, -1, 9), [], 0)
def klu_71 : List en_Cu := []
/-! X11_valueAt -/
theorem klh_71 {Sc : sm_C} : en_hold kl_tb klX sm_P Sc klc_71 := en_chk_ok klX_ok (T := []) (cuts := klu_71) (fun _ h => absurd h List.not_mem_nil) (by decide +kernel)
def klc_72 : en_Ct := (21, [(2, 12, 0), (0, 0, 9)], [], (0, 0, 1), [], 1)
def klu_72 : List en_Cu := []
/-! X10_isOpen -/
theorem klh_72 {Sc : sm_C} : en_hold kl_tb klX sm_P Sc klc_72 := en_chk_ok klX_ok (T := [klc_71]) (cuts := klu_72) (List.forall_mem_cons.mpr ⟨klh_71, fun _ h => absurd h List.not_mem_nil⟩) (by decide +kernel)
def klc_73 : en_Ct := (89, [(2, 55, 0), (0, 0, 9), (0, -1, -1)], [], (0, -1, 9), [], 0)
def klu_73 : List en_Cu := []
/-! X11_valueAt -/
theorem klh_73 {Sc : sm_C} : en_hold kl_tb klX sm_P Sc klc_73 := en_chk_ok klX_ok (T := []) (cuts := klu_73) (fun _ h => absurd h List.not_mem_nil) (by decide +kernel)
def klc_74 : en_Ct := (21, [(2, 49, 0), (0, 0, 9)], [], (0, 0, 1), [], 1)
def klu_74 : List en_Cu := []
/-! X10_isOpen -/
theorem klh_74 {Sc : sm_C} : en_hold kl_tb klX sm_P Sc klc_74 := en_chk_ok klX_ok (T := [klc_73]) (cuts := klu_74) (List.forall_mem_cons.mpr ⟨klh_73, fun _ h => absurd h List.not_mem_nil⟩) (by decide +kernel)
def klc_75 : en_Ct := (214, [(2, 45, 0), (0, -2147483648, 2147483647), (0, 0, 144), (0, -2147483648, 3), (0, 0, 1)], [], (9, 0, 0), [(46, [])], 0)
def klu_75 : List en_Cu := []
/-! X1_addTry -/
theorem klh_75 {Sc : sm_C} : en_hold kl_tb klX sm_P Sc klc_75 := en_chk_ok klX_ok (T := []) (cuts := klu_75) (fun _ h => absurd h List.not_mem_nil) (by decide +kernel)
def klc_76 : en_Ct := (215, [(2, 45, 0), (0, -2147483648, 2147483647), (2, 80, 0), (2, 81, 0), (0, 0, 60)], [], (9, 0, 0), [(47, [])], 0)
def klu_76 : List en_Cu := [(4, [(2, 45, 0), (0, 0, 999), (2, 80, 0), (2, 81, 0), (0, 0, 60), (0, 0, 60)], [], [], 121, [0, 0, 0, 0, 0, -2])]
/-! X1_addWay -/
theorem klh_76 {Sc : sm_C} : en_hold kl_tb klX sm_P Sc klc_76 := en_chk_ok klX_ok (T := []) (cuts := klu_76) (fun _ h => absurd h List.not_mem_nil) (by decide +kernel)
def klc_77 : en_Ct := (89, [(2, 46, 0), (0, 0, 999), (0, 0, 0)], [], (0, -2147483648, 2147483647), [], 0)
def klu_77 : List en_Cu := []
/-! X11_valueAt -/
def klc_78 : en_Ct := (218, [(2, 45, 0), (0, 0, 999), (0, -2147483648, 2147483647)], [], (0, -2147483648, 2147483647), [], 1)
def klu_78 : List en_Cu := []
/-! X1_tryOf -/
def klc_79 : en_Ct := (219, [(2, 74, 0), (0, 0, 144)], [], (9, 0, 0), [(74, [11]), (80, [])], 0)
def klu_79 : List en_Cu := []
/-! X2_addItem -/
theorem klh_79 {Sc : sm_C} : en_hold kl_tb klX sm_P Sc klc_79 := en_chk_ok klX_ok (T := []) (cuts := klu_79) (fun _ h => absurd h List.not_mem_nil) (by decide +kernel)
def klc_80 : en_Ct := (219, [(2, 82, 0), (0, 0, 144)], [], (9, 0, 0), [(82, [11]), (88, [])], 0)
def klu_80 : List en_Cu := []
/-! X2_addItem -/
def klc_81 : en_Ct := (219, [(2, 90, 0), (0, 0, 240)], [], (9, 0, 0), [(90, [11]), (96, [])], 0)
def klu_81 : List en_Cu := []
/-! X2_addItem -/
def klc_82 : en_Ct := (89, [(2, 22, 0), (0, -1, 100), (0, 0, 0)], [], (0, 0, 4), [], 0)
def klu_82 : List en_Cu := []
/-! X11_valueAt -/
theorem klh_82 {Sc : sm_C} : en_hold kl_tb klX sm_P Sc klc_82 := en_chk_ok klX_ok (T := []) (cuts := klu_82) (fun _ h => absurd h List.not_mem_nil) (by decide +kernel)
end
section
/-! methods checked by the engine -/
def klc_83 : en_Ct := (22, [(2, 12, 0)], [], (0, -2147483648, 2147483647), [], 1)
def klu_83 : List en_Cu := []
/-! X10_lastSpan -/
theorem klh_83 {Sc : sm_C} : en_hold kl_tb klX sm_P Sc klc_83 := en_chk_ok klX_ok (T := [klc_6, klc_8, klc_82]) (cuts := klu_83) (List.forall_mem_cons.mpr ⟨klh_6, List.forall_mem_cons.mpr ⟨klh_8, List.forall_mem_cons.mpr ⟨klh_82, fun _ h => absurd h List.not_mem_nil⟩⟩⟩) (by decide +kernel)
def klc_84 : en_Ct := (89, [(2, 59, 0), (0, -1, 100), (0, 0, 0)], [], (0, 0, 4), [], 0)
def klu_84 : List en_Cu := []
/-! X11_valueAt -/
theorem klh_84 {Sc : sm_C} : en_hold kl_tb klX sm_P Sc klc_84 := en_chk_ok klX_ok (T := []) (cuts := klu_84) (fun _ h => absurd h List.not_mem_nil) (by decide +kernel)
def klc_85 : en_Ct := (22, [(2, 49, 0)], [], (0, -2147483648, 2147483647), [], 1)
def klu_85 : List en_Cu := []
/-! X10_lastSpan -/
theorem klh_85 {Sc : sm_C} : en_hold kl_tb klX sm_P Sc klc_85 := en_chk_ok klX_ok (T := [klc_7, klc_9, klc_84]) (cuts := klu_85) (List.forall_mem_cons.mpr ⟨klh_7, List.forall_mem_cons.mpr ⟨klh_9, List.forall_mem_cons.mpr ⟨klh_84, fun _ h => absurd h List.not_mem_nil⟩⟩⟩) (by decide +kernel)
def klc_87 : en_Ct := (230, [(2, 74, 0), (0, 0, 0)], [], (9, 0, 0), [(74, [6, 12]), (75, [4, 5]), (76, []), (77, []), (78, []), (79, [])], 4)
def klu_87 : List en_Cu := [(1, [(2, 74, 0), (2, 16, 0), (0, 0, 10)], [], [], 35, [0, 0, -2]),
  (1, [(2, 74, 0), (2, 53, 0), (0, 0, 10)], [], [], 35, [0, 0, -2]),
  (17, [(2, 74, 0), (2, 40, 0), (0, 0, 6)], [], [], 13, [0, 0, -2])]
/-! X2_layBase -/
theorem klh_87 {Sc : sm_C} : en_hold kl_tb klX sm_P Sc klc_87 := en_chk_ok klX_ok (T := [klc_1, klc_86]) (cuts := klu_87) (List.forall_mem_cons.mpr ⟨klh_1, List.forall_mem_cons.mpr ⟨klh_86, fun _ h => absurd h List.not_mem_nil⟩⟩) (by decide +kernel)
def klc_88 : en_Ct := (220, [(2, 74, 0), (2, 12, 0), (2, 37, 0), (0, 0, 1023), (0, 0, 0)], [], (9, 0, 0), [(74, [4, 5, 6, 7, 8, 10, 11, 12]), (75, [4, 5]), (76, []), (77, []), (78, []), (79, []), (80, [])], 5)
def klu_88 : List en_Cu := [(4, [(2, 74, 0), (0, 0, 1023), (0, 0, 10)], [], [], 113, [0, 0, -2]),
  (9, [(2, 74, 0), (0, 0, 45)], [], [], 91, [0, -2])]
/-! X2_begin -/
theorem klh_88 {Sc : sm_C} : en_hold kl_tb klX sm_P Sc klc_88 := en_chk_ok klX_ok (T := [klc_79, klc_87]) (cuts := klu_88) (List.forall_mem_cons.mpr ⟨klh_79, List.forall_mem_cons.mpr ⟨klh_87, fun _ h => absurd h List.not_mem_nil⟩⟩) (by decide +kernel)
def klc_89 : en_Ct := (220, [(2, 74, 0), (2, 49, 0), (2, 37, 0), (0, 0, 1023), (0, 0, 0)], [], (9, 0, 0), [(74, [4, 5, 6, 7, 8, 10, 11, 12]), (75, [4, 5]), (76, []), (77, []), (78, []), (79, []), (80, [])], 5)
def klu_89 : List en_Cu := [(4, [(2, 74, 0), (0, 0, 1023), (0, 0, 10)], [], [], 113, [0, 0, -2]),
  (9, [(2, 74, 0), (0, 0, 45)], [], [], 91, [0, -2])]
/-! X2_begin -/
theorem klh_89 {Sc : sm_C} : en_hold kl_tb klX sm_P Sc klc_89 := en_chk_ok klX_ok (T := [klc_79, klc_87]) (cuts := klu_89) (List.forall_mem_cons.mpr ⟨klh_79, List.forall_mem_cons.mpr ⟨klh_87, fun _ h => absurd h List.not_mem_nil⟩⟩) (by decide +kernel)
def klc_91 : en_Ct := (221, [(2, 82, 0), (0, 0, 55), (0, 0, 9), (0, -1, 9), (0, -2147483648, 2147483647), (0, -2147483648, 2147483647)], [], (0, 0, 1), [(84, [])], 3)
def klu_91 : List en_Cu := []
/-! X2_bind -/
def klc_94 : en_Ct := (230, [(2, 82, 0), (0, 0, 0)], [], (9, 0, 0), [(82, [6, 12]), (83, [4, 5]), (84, []), (85, []), (86, []), (87, [])], 4)
def klu_94 : List en_Cu := [(1, [(2, 82, 0), (2, 16, 0), (0, 0, 10)], [], [], 35, [0, 0, -2]),
  (1, [(2, 82, 0), (2, 53, 0), (0, 0, 10)], [], [], 35, [0, 0, -2]),
  (17, [(2, 82, 0), (2, 40, 0), (0, 0, 6)], [], [], 13, [0, 0, -2])]
/-! X2_layBase -/
def klc_95 : en_Ct := (220, [(2, 82, 0), (2, 12, 0), (2, 37, 0), (0, 0, 1023), (0, 0, 0)], [], (9, 0, 0), [(82, [4, 5, 6, 7, 8, 10, 11, 12]), (83, [4, 5]), (84, []), (85, []), (86, []), (87, []), (88, [])], 5)
def klu_95 : List en_Cu := [(4, [(2, 82, 0), (0, 0, 1023), (0, 0, 10)], [], [], 113, [0, 0, -2]),
  (9, [(2, 82, 0), (0, 0, 45)], [], [], 91, [0, -2])]
/-! X2_begin -/
def klc_96 : en_Ct := (220, [(2, 82, 0), (2, 49, 0), (2, 37, 0), (0, 0, 1023), (0, 0, 0)], [], (9, 0, 0), [(82, [4, 5, 6, 7, 8, 10, 11, 12]), (83, [4, 5]), (84, []), (85, []), (86, []), (87, []), (88, [])], 5)
def klu_96 : List en_Cu := [(4, [(2, 82, 0), (0, 0, 1023), (0, 0, 10)], [], [], 113, [0, 0, -2]),
  (9, [(2, 82, 0), (0, 0, 45)], [], [], 91, [0, -2])]
/-! X2_begin -/
def klc_98 : en_Ct := (221, [(2, 90, 0), (0, 0, 117), (0, 0, 10), (0, -1, 9), (0, -2147483648, 2147483647), (0, -2147483648, 2147483647)], [], (0, 0, 1), [(92, [])], 3)
def klu_98 : List en_Cu := []
/-! X2_bind -/
def klc_100 : en_Ct := (230, [(2, 90, 0), (0, 0, 1)], [], (9, 0, 0), [(90, [6, 12]), (91, [4, 5]), (92, []), (93, []), (94, []), (95, [])], 4)
def klu_100 : List en_Cu := [(1, [(2, 90, 0), (2, 16, 0), (0, 0, 10)], [], [], 35, [0, 0, -2]),
  (1, [(2, 90, 0), (2, 53, 0), (0, 0, 10)], [], [], 35, [0, 0, -2]),
  (17, [(2, 90, 0), (2, 40, 0), (0, 0, 6)], [], [], 13, [0, 0, -2])]
/-! X2_layBase -/
def klc_101 : en_Ct := (220, [(2, 90, 0), (2, 12, 0), (2, 37, 0), (0, 0, 1023), (0, 0, 1)], [], (9, 0, 0), [(90, [4, 5, 6, 7, 8, 10, 11, 12]), (91, [4, 5]), (92, []), (93, []), (94, []), (95, []), (96, [])], 5)
def klu_101 : List en_Cu := [(4, [(2, 90, 0), (0, 0, 1023), (0, 0, 10)], [], [], 113, [0, 0, -2]),
  (9, [(2, 90, 0), (0, 0, 45)], [], [], 91, [0, -2])]
/-! X2_begin -/
def klc_102 : en_Ct := (220, [(2, 90, 0), (2, 49, 0), (2, 37, 0), (0, 0, 1023), (0, 0, 1)], [], (9, 0, 0), [(90, [4, 5, 6, 7, 8, 10, 11, 12]), (91, [4, 5]), (92, []), (93, []), (94, []), (95, []), (96, [])], 5)
def klu_102 : List en_Cu := [(4, [(2, 90, 0), (0, 0, 1023), (0, 0, 10)], [], [], 113, [0, 0, -2]),
  (9, [(2, 90, 0), (0, 0, 45)], [], [], 91, [0, -2])]
/-! X2_begin -/
def klc_103 : en_Ct := (237, [(2, 82, 0), (0, 100, 144)], [], (0, -2147483648, 2147483647), [], 1)
def klu_103 : List en_Cu := []
/-! X2_walkOf -/
def klc_104 : en_Ct := (235, [(2, 82, 0), (0, 1, 55), (0, 100, 144), (0, -2147483648, 2147483647)], [], (0, 0, 1), [(84, [])], 3)
def klu_104 : List en_Cu := []
/-! X2_pushMove -/
def klc_106 : en_Ct := (234, [(2, 82, 0), (0, 0, 54), (0, 0, 144), (0, -2147483648, 2147483647)], [], (0, 0, 1), [(84, [])], 4)
def klu_106 : List en_Cu := [(6, [(2, 82, 0), (0, 0, 54), (2, 24, 0), (0, 0, 0), (0, -2147483648, 120), (0, 0, 2147483647)], [], [], 4294967295, [0, 0, 0, 0, 0, -2]),
  (6, [(2, 82, 0), (0, 0, 54), (2, 61, 0), (0, 0, 0), (0, -2147483648, 120), (0, 0, 2147483647)], [], [], 4294967295, [0, 0, 0, 0, 0, -2])]
/-! X2_push -/
def klc_107 : en_Ct := (222, [(2, 82, 0), (2, 45, 0), (0, -2147483648, 2147483647)], [], (0, 0, 1), [(82, [6]), (84, []), (89, [])], 5)
def klu_107 : List en_Cu := [(1, [(2, 82, 0), (2, 45, 0), (0, -2147483648, 2147483647), (0, 0, 55)], [], [], 111, [0, 0, 0, -2])]
/-! X2_bring -/
def klc_108 : en_Ct := (223, [(2, 74, 0), (0, 0, 144)], [], (0, 0, 4), [], 2)
def klu_108 : List en_Cu := []
/-! X2_choicesOf -/
theorem klh_108 {Sc : sm_C} : en_hold kl_tb klX sm_P Sc klc_108 := en_chk_ok klX_ok (T := [klc_12, klc_82, klc_84]) (cuts := klu_108) (List.forall_mem_cons.mpr ⟨klh_12, List.forall_mem_cons.mpr ⟨klh_82, List.forall_mem_cons.mpr ⟨klh_84, fun _ h => absurd h List.not_mem_nil⟩⟩⟩) (by decide +kernel)
def klc_109 : en_Ct := (89, [(2, 15, 0), (0, 0, 40), (0, -1, -1)], [], (0, -1, 9), [], 0)
def klu_109 : List en_Cu := []
/-! X11_valueAt -/
def klc_110 : en_Ct := (89, [(2, 52, 0), (0, 0, 40), (0, -1, -1)], [], (0, -1, 9), [], 0)
def klu_110 : List en_Cu := []
/-! X11_valueAt -/
def klc_111 : en_Ct := (237, [(2, 90, 0), (0, 100, 240)], [], (0, -2147483648, 2147483647), [], 1)
def klu_111 : List en_Cu := []
/-! X2_walkOf -/
def klc_112 : en_Ct := (223, [(2, 90, 0), (0, 0, 240)], [], (0, 0, 4), [], 2)
def klu_112 : List en_Cu := []
/-! X2_choicesOf -/
def klc_114 : en_Ct := (224, [(2, 82, 0), (0, 0, 55), (0, 0, 9), (0, -1, -1), (0, 0, 0)], [], (0, -2147483648, 2147483647), [], 3)
def klu_114 : List en_Cu := []
/-! X2_distance -/
def klc_115 : en_Ct := (233, [(2, 74, 0), (2, 45, 0)], [], (9, 0, 0), [(47, []), (74, [14])], 1)
def klu_115 : List en_Cu := []
/-! X2_noteWay -/
theorem klh_115 {Sc : sm_C} : en_hold kl_tb klX sm_P Sc klc_115 := en_chk_ok klX_ok (T := [klc_76]) (cuts := klu_115) (List.forall_mem_cons.mpr ⟨klh_76, fun _ h => absurd h List.not_mem_nil⟩) (by decide +kernel)
def klc_116 : en_Ct := (225, [(2, 74, 0), (2, 45, 0), (0, 0, 0)], [], (9, 0, 0), [(46, []), (47, []), (74, [6, 13, 14, 15]), (76, []), (81, [])], 5)
def klu_116 : List en_Cu := [(5, [(2, 74, 0), (2, 45, 0), (0, 0, 0), (0, -1, 59), (0, 0, 2010)], [], [], 4021, [0, 0, 0, 0, -2])]
/-! X2_goThrough -/
theorem klh_116 {Sc : sm_C} : en_hold kl_tb klX sm_P Sc klc_116 := en_chk_ok klX_ok (T := [klc_75, klc_108, klc_115, klc_18]) (cuts := klu_116) (List.forall_mem_cons.mpr ⟨klh_75, List.forall_mem_cons.mpr ⟨klh_108, List.forall_mem_cons.mpr ⟨klh_115, List.forall_mem_cons.mpr ⟨klh_18, fun _ h => absurd h List.not_mem_nil⟩⟩⟩⟩) (by decide +kernel)
def klc_118 : en_Ct := (233, [(2, 90, 0), (1, 0, 0)], [], (9, 0, 0), [(90, [14, 16, 17])], 3)
def klu_118 : List en_Cu := []
/-! X2_noteWay -/
def klc_119 : en_Ct := (235, [(2, 90, 0), (0, 1, 117), (0, 100, 240), (0, -2147483648, 3)], [], (0, 0, 1), [(92, [])], 3)
def klu_119 : List en_Cu := []
/-! X2_pushMove -/
def klc_121 : en_Ct := (234, [(2, 90, 0), (0, 0, 100), (0, 0, 240), (0, -2147483648, 3)], [], (0, 0, 1), [(92, [])], 4)
def klu_121 : List en_Cu := [(6, [(2, 90, 0), (0, 0, 100), (2, 24, 0), (0, 0, 1440), (0, -2147483648, 120), (0, 0, 2147483647)], [], [], 4294967295, [0, 0, 0, 0, 0, -2]),
  (6, [(2, 90, 0), (0, 0, 100), (2, 61, 0), (0, 0, 1440), (0, -2147483648, 120), (0, 0, 2147483647)], [], [], 4294967295, [0, 0, 0, 0, 0, -2])]
/-! X2_push -/
def klc_122 : en_Ct := (225, [(2, 90, 0), (1, 0, 0), (0, 0, 1)], [], (9, 0, 0), [(90, [6, 13, 14, 15, 16, 17]), (92, []), (97, [])], 5)
def klu_122 : List en_Cu := [(5, [(2, 90, 0), (1, 0, 0), (0, 0, 1), (0, -1, 64), (0, 0, 2010)], [], [], 4021, [0, 0, 0, 0, -2])]
/-! X2_goThrough -/
def klc_123 : en_Ct := (226, [(2, 90, 0), (0, 0, 3), (0, 0, 5), (0, 0, 1440), (0, 0, 1440)], [], (9, 0, 0), [(90, [9, 11, 12, 16, 17]), (92, []), (96, [])], 4)
def klu_123 : List en_Cu := [(5, [(2, 90, 0), (0, 0, 3), (0, 0, 5), (0, 0, 10)], [], [], 21, [0, 0, 0, -2])]
/-! X2_host -/
def klc_124 : en_Ct := (231, [(2, 74, 0), (0, -3, 60), (0, 0, 9), (0, 0, 1)], [], (0, -2147483648, 2147483647), [], 4)
def klu_124 : List en_Cu := []
/-! X2_minute -/
def klc_125 : en_Ct := (231, [(2, 82, 0), (0, 0, 55), (0, 0, 9), (0, 0, 0)], [], (0, -2147483648, 2147483647), [], 4)
def klu_125 : List en_Cu := []
/-! X2_minute -/
def klc_126 : en_Ct := (232, [(2, 74, 0), (0, -3, 60), (0, 0, 9), (2, 38, 0), (0, 0, 1)], [], (0, -2147483648, 2147483647), [], 5)
def klu_126 : List en_Cu := [(1, [(2, 74, 0), (0, -3, 60), (0, 0, 9), (2, 38, 0), (0, 0, 1), (0, -2147483648, 2147483647), (0, 0, 10)], [], [], 21, [0, 0, 0, 0, 0, 0, -2])]
/-! X2_minuteWith -/
def klc_127 : en_Ct := (236, [(2, 74, 0), (0, -3, 60), (2, 38, 0)], [], (0, 0, 1), [], 6)
def klu_127 : List en_Cu := [(1, [(2, 74, 0), (0, -3, 60), (2, 38, 0), (0, 0, 10)], [], [], 21, [0, 0, 0, -2])]
/-! X2_takes -/
def klc_128 : en_Ct := (238, [(2, 90, 0), (0, 0, 1023), (0, 0, 1440)], [], (9, 0, 0), [(90, [7, 8])], 0)
def klu_128 : List en_Cu := []
/-! X2_widen -/
def klc_129 : en_Ct := (306, [(2, 8, 0), (0, 0, 0)], [], (9, 0, 0), [(8, [])], 0)
def klu_129 : List en_Cu := [(1, [(2, 8, 0), (0, 0, 0), (0, 0, 15), (0, 15, 15)], [], [], 31, [0, 0, -2, 0])]
/-! J7_fill_53178 -/
theorem klh_129 {Sc : sm_C} : en_hold kl_tb klX sm_P Sc klc_129 := en_chk_ok klX_ok (T := []) (cuts := klu_129) (fun _ h => absurd h List.not_mem_nil) (by decide +kernel)
def klc_130 : en_Ct := (239, [(2, 7, 0)], [], (9, 0, 0), [(7, [1]), (8, [])], 1)
def klu_130 : List en_Cu := []
/-! X3_clear -/
theorem klh_130 {Sc : sm_C} : en_hold kl_tb klX sm_P Sc klc_130 := en_chk_ok klX_ok (T := [klc_129]) (cuts := klu_130) (List.forall_mem_cons.mpr ⟨klh_129, fun _ h => absurd h List.not_mem_nil⟩) (by decide +kernel)
def klc_131 : en_Ct := (24, [(2, 12, 0), (2, 14, 0), (0, 0, 9)], [], (9, 0, 0), [(14, [])], 0)
def klu_131 : List en_Cu := []
/-! X10_putLastTime -/
theorem klh_131 {Sc : sm_C} : en_hold kl_tb klX sm_P Sc klc_131 := en_chk_ok klX_ok (T := []) (cuts := klu_131) (fun _ h => absurd h List.not_mem_nil) (by decide +kernel)
def klc_132 : en_Ct := (24, [(2, 12, 0), (2, 15, 0), (0, 0, 9)], [], (9, 0, 0), [(15, [])], 0)
def klu_132 : List en_Cu := []
/-! X10_putLastTime -/
theorem klh_132 {Sc : sm_C} : en_hold kl_tb klX sm_P Sc klc_132 := en_chk_ok klX_ok (T := []) (cuts := klu_132) (fun _ h => absurd h List.not_mem_nil) (by decide +kernel)
end
section
/-! methods checked by the engine -/
def klc_133 : en_Ct := (24, [(2, 49, 0), (2, 51, 0), (0, 0, 9)], [], (9, 0, 0), [(51, [])], 0)
def klu_133 : List en_Cu := []
/-! X10_putLastTime -/
theorem klh_133 {Sc : sm_C} : en_hold kl_tb klX sm_P Sc klc_133 := en_chk_ok klX_ok (T := []) (cuts := klu_133) (fun _ h => absurd h List.not_mem_nil) (by decide +kernel)
def klc_134 : en_Ct := (24, [(2, 49, 0), (2, 52, 0), (0, 0, 9)], [], (9, 0, 0), [(52, [])], 0)
def klu_134 : List en_Cu := []
/-! X10_putLastTime -/
theorem klh_134 {Sc : sm_C} : en_hold kl_tb klX sm_P Sc klc_134 := en_chk_ok klX_ok (T := []) (cuts := klu_134) (fun _ h => absurd h List.not_mem_nil) (by decide +kernel)
def klc_135 : en_Ct := (241, [(0, -1, 30), (0, 0, 21)], [], (0, -1, 30), [], 0)
def klu_135 : List en_Cu := [(1, [(0, -1, 30), (0, 0, 21), (0, 0, 144)], [], [], 289, [0, 0, -2])]
/-! X3_follow -/
theorem klh_135 {Sc : sm_C} : en_hold kl_tb klX sm_P Sc klc_135 := en_chk_ok klX_ok (T := []) (cuts := klu_135) (fun _ h => absurd h List.not_mem_nil) (by decide +kernel)
def klc_136 : en_Ct := (242, [(2, 7, 0), (0, -1, 30), (0, 0, 20)], [], (0, 0, 1), [(7, [1, 2, 3]), (8, [])], 0)
def klu_136 : List en_Cu := []
/-! X3_hasRoom -/
theorem klh_136 {Sc : sm_C} : en_hold kl_tb klX sm_P Sc klc_136 := en_chk_ok klX_ok (T := []) (cuts := klu_136) (fun _ h => absurd h List.not_mem_nil) (by decide +kernel)
def klc_137 : en_Ct := (240, [(2, 7, 0), (0, -1, 30), (0, 0, 21), (0, 0, 501)], [], (0, 0, 2), [(7, [1, 2, 3]), (8, [])], 1)
def klu_137 : List en_Cu := []
/-! X3_faultOf -/
theorem klh_137 {Sc : sm_C} : en_hold kl_tb klX sm_P Sc klc_137 := en_chk_ok klX_ok (T := [klc_135, klc_136]) (cuts := klu_137) (List.forall_mem_cons.mpr ⟨klh_135, List.forall_mem_cons.mpr ⟨klh_136, fun _ h => absurd h List.not_mem_nil⟩⟩) (by decide +kernel)
def klc_138 : en_Ct := (244, [(0, -1, 30)], [], (0, 0, 1), [], 0)
def klu_138 : List en_Cu := []
/-! X3_isBehindMinus -/
theorem klh_138 {Sc : sm_C} : en_hold kl_tb klX sm_P Sc klc_138 := en_chk_ok klX_ok (T := []) (cuts := klu_138) (fun _ h => absurd h List.not_mem_nil) (by decide +kernel)
def klc_139 : en_Ct := (306, [(2, 38, 0), (0, -1, -1)], [], (9, 0, 0), [(38, [])], 0)
def klu_139 : List en_Cu := [(1, [(2, 38, 0), (0, -1, -1), (0, 0, 10), (0, 10, 10)], [], [], 21, [0, 0, -2, 0])]
/-! J7_fill_53178 -/
theorem klh_139 {Sc : sm_C} : en_hold kl_tb klX sm_P Sc klc_139 := en_chk_ok klX_ok (T := []) (cuts := klu_139) (fun _ h => absurd h List.not_mem_nil) (by decide +kernel)
def klc_140 : en_Ct := (306, [(2, 39, 0), (0, -1, -1)], [], (9, 0, 0), [(39, [])], 0)
def klu_140 : List en_Cu := [(1, [(2, 39, 0), (0, -1, -1), (0, 0, 55), (0, 55, 55)], [], [], 111, [0, 0, -2, 0])]
/-! J7_fill_53178 -/
theorem klh_140 {Sc : sm_C} : en_hold kl_tb klX sm_P Sc klc_140 := en_chk_ok klX_ok (T := []) (cuts := klu_140) (fun _ h => absurd h List.not_mem_nil) (by decide +kernel)
def klc_141 : en_Ct := (245, [(2, 37, 0)], [], (9, 0, 0), [(37, [0, 1]), (38, []), (39, [])], 1)
def klu_141 : List en_Cu := []
/-! X4_clear -/
theorem klh_141 {Sc : sm_C} : en_hold kl_tb klX sm_P Sc klc_141 := en_chk_ok klX_ok (T := [klc_139, klc_140]) (cuts := klu_141) (List.forall_mem_cons.mpr ⟨klh_139, List.forall_mem_cons.mpr ⟨klh_140, fun _ h => absurd h List.not_mem_nil⟩⟩) (by decide +kernel)
def klc_142 : en_Ct := (25, [(2, 12, 0), (0, -2147483648, 100)], [], (9, 0, 0), [(21, [])], 0)
def klu_142 : List en_Cu := []
/-! X10_trustLast -/
theorem klh_142 {Sc : sm_C} : en_hold kl_tb klX sm_P Sc klc_142 := en_chk_ok klX_ok (T := []) (cuts := klu_142) (fun _ h => absurd h List.not_mem_nil) (by decide +kernel)
def klc_143 : en_Ct := (25, [(2, 49, 0), (0, -2147483648, 100)], [], (9, 0, 0), [(58, [])], 0)
def klu_143 : List en_Cu := []
/-! X10_trustLast -/
theorem klh_143 {Sc : sm_C} : en_hold kl_tb klX sm_P Sc klc_143 := en_chk_ok klX_ok (T := []) (cuts := klu_143) (fun _ h => absurd h List.not_mem_nil) (by decide +kernel)
def klc_144 : en_Ct := (26, [(2, 12, 0), (0, 0, 1023)], [], (0, -2147483648, 2147483647), [], 0)
def klu_144 : List en_Cu := [(1, [(2, 12, 0), (0, 0, 1023), (0, -2147483648, 2147483647), (0, 0, 10)], [], [], 21, [0, 0, 0, -2])]
/-! X10_trustOf -/
def klc_145 : en_Ct := (258, [(2, 98, 0), (2, 12, 0)], [], (0, -1, 251), [], 1)
def klu_145 : List en_Cu := [(1, [(2, 98, 0), (2, 12, 0), (0, -1, 251), (0, -2147483648, 2147483647), (0, 0, 252)], [], [], 505, [0, 0, 0, 0, -2])]
/-! X6_cheapestGiving -/
def klc_146 : en_Ct := (26, [(2, 49, 0), (0, 0, 1023)], [], (0, -2147483648, 2147483647), [], 0)
def klu_146 : List en_Cu := [(1, [(2, 49, 0), (0, 0, 1023), (0, -2147483648, 2147483647), (0, 0, 10)], [], [], 21, [0, 0, 0, -2])]
/-! X10_trustOf -/
def klc_147 : en_Ct := (258, [(2, 98, 0), (2, 49, 0)], [], (0, -1, 251), [], 1)
def klu_147 : List en_Cu := [(1, [(2, 98, 0), (2, 49, 0), (0, -1, 251), (0, -2147483648, 2147483647), (0, 0, 252)], [], [], 505, [0, 0, 0, 0, -2])]
/-! X6_cheapestGiving -/
def klc_148 : en_Ct := (259, [(2, 98, 0), (2, 12, 0), (2, 37, 0), (0, 0, 1023)], [], (0, 0, 1), [(90, [4, 5, 6, 7, 8, 10, 11, 12, 13, 14, 15, 16, 17]), (91, [4, 5]), (92, []), (93, []), (94, []), (95, []), (96, []), (97, []), (99, [])], 6)
def klu_148 : List en_Cu := [(1, [(2, 98, 0), (2, 12, 0), (2, 37, 0), (0, 0, 1023), (0, 0, 1024)], [], [], 2049, [0, 0, 0, 0, -2])]
/-! X6_goThroughAll -/
def klc_149 : en_Ct := (259, [(2, 98, 0), (2, 49, 0), (2, 37, 0), (0, 0, 1023)], [], (0, 0, 1), [(90, [4, 5, 6, 7, 8, 10, 11, 12, 13, 14, 15, 16, 17]), (91, [4, 5]), (92, []), (93, []), (94, []), (95, []), (96, []), (97, []), (99, [])], 6)
def klu_149 : List en_Cu := [(1, [(2, 98, 0), (2, 49, 0), (2, 37, 0), (0, 0, 1023), (0, 0, 1024)], [], [], 2049, [0, 0, 0, 0, -2])]
/-! X6_goThroughAll -/
def klc_150 : en_Ct := (266, [(0, 0, 54)], [], (0, 0, 144), [], 0)
def klu_150 : List en_Cu := []
/-! X6_itemOf -/
def klc_151 : en_Ct := (260, [(2, 98, 0), (2, 37, 0), (5, 0, 0)], [], (0, 0, 1), [(92, [])], 5)
def klu_151 : List en_Cu := [(1, [(2, 98, 0), (2, 37, 0), (5, 0, 0), (0, 0, 1), (0, 0, 0), (0, 0, 0)], [], [], 111, [0, 0, 0, 0, 0, -2]),
  (1, [(2, 98, 0), (2, 37, 0), (5, 0, 0), (0, 0, 1), (0, 0, 1), (0, 1, 1)], [], [], 111, [0, 0, 0, 0, 0, -2]),
  (1, [(2, 98, 0), (2, 37, 0), (5, 0, 0), (0, 0, 1), (0, 0, 11), (0, 10, 10)], [], [], 111, [0, 0, 0, 0, 0, -2]),
  (1, [(2, 98, 0), (2, 37, 0), (5, 0, 0), (0, 0, 1), (0, 0, 12), (0, 11, 11)], [], [], 111, [0, 0, 0, 0, 0, -2]),
  (1, [(2, 98, 0), (2, 37, 0), (5, 0, 0), (0, 0, 1), (0, 0, 13), (0, 12, 12)], [], [], 111, [0, 0, 0, 0, 0, -2]),
  (1, [(2, 98, 0), (2, 37, 0), (5, 0, 0), (0, 0, 1), (0, 0, 14), (0, 13, 13)], [], [], 111, [0, 0, 0, 0, 0, -2]),
  (1, [(2, 98, 0), (2, 37, 0), (5, 0, 0), (0, 0, 1), (0, 0, 15), (0, 14, 14)], [], [], 111, [0, 0, 0, 0, 0, -2]),
  (1, [(2, 98, 0), (2, 37, 0), (5, 0, 0), (0, 0, 1), (0, 0, 16), (0, 15, 15)], [], [], 111, [0, 0, 0, 0, 0, -2]),
  (1, [(2, 98, 0), (2, 37, 0), (5, 0, 0), (0, 0, 1), (0, 0, 19), (0, 16, 16)], [], [], 111, [0, 0, 0, 0, 0, -2]),
  (1, [(2, 98, 0), (2, 37, 0), (5, 0, 0), (0, 0, 1), (0, 0, 20), (0, 17, 17)], [], [], 111, [0, 0, 0, 0, 0, -2]),
  (1, [(2, 98, 0), (2, 37, 0), (5, 0, 0), (0, 0, 1), (0, 0, 21), (0, 18, 18)], [], [], 111, [0, 0, 0, 0, 0, -2]),
  (1, [(2, 98, 0), (2, 37, 0), (5, 0, 0), (0, 0, 1), (0, 0, 30), (0, 19, 19)], [], [], 111, [0, 0, 0, 0, 0, -2]),
  (1, [(2, 98, 0), (2, 37, 0), (5, 0, 0), (0, 0, 1), (0, 0, 2), (0, 2, 2)], [], [], 111, [0, 0, 0, 0, 0, -2]),
  (1, [(2, 98, 0), (2, 37, 0), (5, 0, 0), (0, 0, 1), (0, 0, 34), (0, 20, 20)], [], [], 111, [0, 0, 0, 0, 0, -2]),
  (1, [(2, 98, 0), (2, 37, 0), (5, 0, 0), (0, 0, 1), (0, 0, 35), (0, 21, 21)], [], [], 111, [0, 0, 0, 0, 0, -2]),
  (1, [(2, 98, 0), (2, 37, 0), (5, 0, 0), (0, 0, 1), (0, 0, 36), (0, 22, 22)], [], [], 111, [0, 0, 0, 0, 0, -2]),
  (1, [(2, 98, 0), (2, 37, 0), (5, 0, 0), (0, 0, 1), (0, 0, 37), (0, 23, 23)], [], [], 111, [0, 0, 0, 0, 0, -2]),
  (1, [(2, 98, 0), (2, 37, 0), (5, 0, 0), (0, 0, 1), (0, 0, 39), (0, 24, 24)], [], [], 111, [0, 0, 0, 0, 0, -2]),
  (1, [(2, 98, 0), (2, 37, 0), (5, 0, 0), (0, 0, 1), (0, 0, 40), (0, 25, 25)], [], [], 111, [0, 0, 0, 0, 0, -2]),
  (1, [(2, 98, 0), (2, 37, 0), (5, 0, 0), (0, 0, 1), (0, 0, 41), (0, 26, 26)], [], [], 111, [0, 0, 0, 0, 0, -2]),
  (1, [(2, 98, 0), (2, 37, 0), (5, 0, 0), (0, 0, 1), (0, 0, 44), (0, 27, 27)], [], [], 111, [0, 0, 0, 0, 0, -2]),
  (1, [(2, 98, 0), (2, 37, 0), (5, 0, 0), (0, 0, 1), (0, 0, 45), (0, 28, 28)], [], [], 111, [0, 0, 0, 0, 0, -2]),
  (1, [(2, 98, 0), (2, 37, 0), (5, 0, 0), (0, 0, 1), (0, 0, 46), (0, 29, 29)], [], [], 111, [0, 0, 0, 0, 0, -2]),
  (1, [(2, 98, 0), (2, 37, 0), (5, 0, 0), (0, 0, 1), (0, 0, 3), (0, 3, 3)], [], [], 111, [0, 0, 0, 0, 0, -2]),
  (1, [(2, 98, 0), (2, 37, 0), (5, 0, 0), (0, 0, 1), (0, 0, 49), (0, 30, 30)], [], [], 111, [0, 0, 0, 0, 0, -2]),
  (1, [(2, 98, 0), (2, 37, 0), (5, 0, 0), (0, 0, 1), (0, 0, 50), (0, 31, 31)], [], [], 111, [0, 0, 0, 0, 0, -2]),
  (1, [(2, 98, 0), (2, 37, 0), (5, 0, 0), (0, 0, 1), (0, 0, 51), (0, 32, 32)], [], [], 111, [0, 0, 0, 0, 0, -2]),
  (1, [(2, 98, 0), (2, 37, 0), (5, 0, 0), (0, 0, 1), (0, 0, 53), (0, 33, 33)], [], [], 111, [0, 0, 0, 0, 0, -2]),
  (1, [(2, 98, 0), (2, 37, 0), (5, 0, 0), (0, 0, 1), (0, 0, 54), (0, 34, 34)], [], [], 111, [0, 0, 0, 0, 0, -2]),
  (1, [(2, 98, 0), (2, 37, 0), (5, 0, 0), (0, 0, 1), (0, 0, 55), (0, 35, 35)], [], [], 111, [0, 0, 0, 0, 0, -2]),
  (1, [(2, 98, 0), (2, 37, 0), (5, 0, 0), (0, 0, 1), (0, 0, 56), (0, 36, 36)], [], [], 111, [0, 0, 0, 0, 0, -2]),
  (1, [(2, 98, 0), (2, 37, 0), (5, 0, 0), (0, 0, 1), (0, 0, 57), (0, 37, 37)], [], [], 111, [0, 0, 0, 0, 0, -2]),
  (1, [(2, 98, 0), (2, 37, 0), (5, 0, 0), (0, 0, 1), (0, 0, 58), (0, 38, 38)], [], [], 111, [0, 0, 0, 0, 0, -2]),
  (1, [(2, 98, 0), (2, 37, 0), (5, 0, 0), (0, 0, 1), (0, 0, 59), (0, 39, 39)], [], [], 111, [0, 0, 0, 0, 0, -2]),
  (1, [(2, 98, 0), (2, 37, 0), (5, 0, 0), (0, 0, 1), (0, 0, 4), (0, 4, 4)], [], [], 111, [0, 0, 0, 0, 0, -2]),
  (1, [(2, 98, 0), (2, 37, 0), (5, 0, 0), (0, 0, 1), (0, 0, 60), (0, 40, 40)], [], [], 111, [0, 0, 0, 0, 0, -2]),
  (1, [(2, 98, 0), (2, 37, 0), (5, 0, 0), (0, 0, 1), (0, 0, 61), (0, 41, 41)], [], [], 111, [0, 0, 0, 0, 0, -2]),
  (1, [(2, 98, 0), (2, 37, 0), (5, 0, 0), (0, 0, 1), (0, 0, 63), (0, 42, 42)], [], [], 111, [0, 0, 0, 0, 0, -2]),
  (1, [(2, 98, 0), (2, 37, 0), (5, 0, 0), (0, 0, 1), (0, 0, 64), (0, 43, 43)], [], [], 111, [0, 0, 0, 0, 0, -2]),
  (1, [(2, 98, 0), (2, 37, 0), (5, 0, 0), (0, 0, 1), (0, 0, 65), (0, 44, 44)], [], [], 111, [0, 0, 0, 0, 0, -2]),
  (1, [(2, 98, 0), (2, 37, 0), (5, 0, 0), (0, 0, 1), (0, 0, 66), (0, 45, 45)], [], [], 111, [0, 0, 0, 0, 0, -2]),
  (1, [(2, 98, 0), (2, 37, 0), (5, 0, 0), (0, 0, 1), (0, 0, 69), (0, 46, 46)], [], [], 111, [0, 0, 0, 0, 0, -2]),
  (1, [(2, 98, 0), (2, 37, 0), (5, 0, 0), (0, 0, 1), (0, 0, 70), (0, 47, 47)], [], [], 111, [0, 0, 0, 0, 0, -2]),
  (1, [(2, 98, 0), (2, 37, 0), (5, 0, 0), (0, 0, 1), (0, 0, 71), (0, 48, 48)], [], [], 111, [0, 0, 0, 0, 0, -2]),
  (1, [(2, 98, 0), (2, 37, 0), (5, 0, 0), (0, 0, 1), (0, 0, 72), (0, 49, 49)], [], [], 111, [0, 0, 0, 0, 0, -2]),
  (1, [(2, 98, 0), (2, 37, 0), (5, 0, 0), (0, 0, 1), (0, 0, 5), (0, 5, 5)], [], [], 111, [0, 0, 0, 0, 0, -2]),
  (1, [(2, 98, 0), (2, 37, 0), (5, 0, 0), (0, 0, 1), (0, 0, 73), (0, 50, 50)], [], [], 111, [0, 0, 0, 0, 0, -2]),
  (1, [(2, 98, 0), (2, 37, 0), (5, 0, 0), (0, 0, 1), (0, 0, 79), (0, 51, 51)], [], [], 111, [0, 0, 0, 0, 0, -2]),
  (1, [(2, 98, 0), (2, 37, 0), (5, 0, 0), (0, 0, 1), (0, 0, 80), (0, 52, 52)], [], [], 111, [0, 0, 0, 0, 0, -2]),
  (1, [(2, 98, 0), (2, 37, 0), (5, 0, 0), (0, 0, 1), (0, 0, 81), (0, 53, 53)], [], [], 111, [0, 0, 0, 0, 0, -2]),
  (1, [(2, 98, 0), (2, 37, 0), (5, 0, 0), (0, 0, 1), (0, 0, 100), (0, 54, 54)], [], [], 111, [0, 0, 0, 0, 0, -2]),
  (1, [(2, 98, 0), (2, 37, 0), (5, 0, 0), (0, 0, 1), (0, 0, 117), (0, 55, 55)], [], [], 111, [0, 0, 0, 0, 0, -2]),
  (1, [(2, 98, 0), (2, 37, 0), (5, 0, 0), (0, 0, 1), (0, 0, 6), (0, 6, 6)], [], [], 111, [0, 0, 0, 0, 0, -2]),
  (1, [(2, 98, 0), (2, 37, 0), (5, 0, 0), (0, 0, 1), (0, 0, 7), (0, 7, 7)], [], [], 111, [0, 0, 0, 0, 0, -2]),
  (1, [(2, 98, 0), (2, 37, 0), (5, 0, 0), (0, 0, 1), (0, 0, 9), (0, 8, 8)], [], [], 111, [0, 0, 0, 0, 0, -2]),
  (1, [(2, 98, 0), (2, 37, 0), (5, 0, 0), (0, 0, 1), (0, 0, 10), (0, 9, 9)], [], [], 111, [0, 0, 0, 0, 0, -2])]
/-! X6_holdTogether -/
def klc_152 : en_Ct := (262, [(2, 98, 0), (0, 0, 1023), (0, 0, 1023)], [], (0, 0, 1), [], 0)
def klu_152 : List en_Cu := [(3, [(2, 98, 0), (0, 0, 1023), (0, 0, 1023), (0, 0, 10)], [], [], 21, [0, 0, 0, -2])]
/-! X6_isGivingUp -/
def klc_153 : en_Ct := (264, [(2, 98, 0), (0, 0, 1023)], [], (0, 0, 1), [], 0)
def klu_153 : List en_Cu := [(3, [(2, 98, 0), (0, 0, 1023), (0, 0, 10)], [], [], 21, [0, 0, -2])]
/-! X6_isQuarrel -/
def klc_154 : en_Ct := (305, [(0, 0, 1023)], [], (0, 0, 63), [], 0)
def klu_154 : List en_Cu := []
/-! J6_bitCount_0f7a4 -/
def klc_155 : en_Ct := (268, [(2, 98, 0), (0, 0, 1023), (0, 0, 10)], [], (9, 0, 0), [(98, [4, 5]), (100, []), (101, [])], 1)
def klu_155 : List en_Cu := [(1, [(2, 98, 0), (0, 0, 1023), (0, 0, 10), (0, 0, 1024)], [], [], 2049, [0, 0, 0, -2])]
/-! X6_listSets -/
def klc_156 : en_Ct := (263, [(2, 98, 0), (2, 12, 0), (2, 37, 0)], [], (0, 0, 1), [(90, [4, 5, 6, 7, 8, 10, 11, 12, 13, 14, 15, 16, 17]), (91, [4, 5]), (92, []), (93, []), (94, []), (95, []), (96, []), (97, []), (98, [4, 5, 8, 10]), (99, []), (100, []), (101, [])], 7)
def klu_156 : List en_Cu := [(5, [(2, 98, 0), (0, 0, 1023), (0, 0, 11)], [], [], 23, [0, 0, -2])]
/-! X6_isKnown -/
def klc_157 : en_Ct := (263, [(2, 98, 0), (2, 49, 0), (2, 37, 0)], [], (0, 0, 1), [(90, [4, 5, 6, 7, 8, 10, 11, 12, 13, 14, 15, 16, 17]), (91, [4, 5]), (92, []), (93, []), (94, []), (95, []), (96, []), (97, []), (98, [4, 5, 8, 10]), (99, []), (100, []), (101, [])], 7)
def klu_157 : List en_Cu := [(5, [(2, 98, 0), (0, 0, 1023), (0, 0, 11)], [], [], 23, [0, 0, -2])]
/-! X6_isKnown -/
def klc_158 : en_Ct := (267, [(2, 98, 0), (2, 37, 0)], [(98, 7, 0, 0)], (9, 0, 0), [(92, []), (98, [7]), (102, [])], 6)
def klu_158 : List en_Cu := [(1, [(2, 98, 0), (2, 37, 0), (5, 0, 0), (0, 0, 0)], [], [(98, 7, 0, 0)], 111, [0, 0, 0, -2]),
  (1, [(2, 98, 0), (2, 37, 0), (5, 0, 0), (0, 1, 1)], [], [(98, 7, 0, 1)], 111, [0, 0, 0, -2]),
  (1, [(2, 98, 0), (2, 37, 0), (5, 0, 0), (0, 10, 10)], [], [(98, 7, 0, 10)], 111, [0, 0, 0, -2]),
  (1, [(2, 98, 0), (2, 37, 0), (5, 0, 0), (0, 11, 11)], [], [(98, 7, 0, 11)], 111, [0, 0, 0, -2]),
  (1, [(2, 98, 0), (2, 37, 0), (5, 0, 0), (0, 12, 12)], [], [(98, 7, 0, 12)], 111, [0, 0, 0, -2]),
  (1, [(2, 98, 0), (2, 37, 0), (5, 0, 0), (0, 13, 13)], [], [(98, 7, 0, 13)], 111, [0, 0, 0, -2]),
  (1, [(2, 98, 0), (2, 37, 0), (5, 0, 0), (0, 14, 14)], [], [(98, 7, 0, 14)], 111, [0, 0, 0, -2]),
  (1, [(2, 98, 0), (2, 37, 0), (5, 0, 0), (0, 15, 15)], [], [(98, 7, 0, 15)], 111, [0, 0, 0, -2]),
  (1, [(2, 98, 0), (2, 37, 0), (5, 0, 0), (0, 16, 16)], [], [(98, 7, 0, 16)], 111, [0, 0, 0, -2]),
  (1, [(2, 98, 0), (2, 37, 0), (5, 0, 0), (0, 17, 17)], [], [(98, 7, 0, 17)], 111, [0, 0, 0, -2]),
  (1, [(2, 98, 0), (2, 37, 0), (5, 0, 0), (0, 18, 18)], [], [(98, 7, 0, 18)], 111, [0, 0, 0, -2]),
  (1, [(2, 98, 0), (2, 37, 0), (5, 0, 0), (0, 19, 19)], [], [(98, 7, 0, 19)], 111, [0, 0, 0, -2]),
  (1, [(2, 98, 0), (2, 37, 0), (5, 0, 0), (0, 2, 2)], [], [(98, 7, 0, 2)], 111, [0, 0, 0, -2]),
  (1, [(2, 98, 0), (2, 37, 0), (5, 0, 0), (0, 20, 20)], [], [(98, 7, 0, 20)], 111, [0, 0, 0, -2]),
  (1, [(2, 98, 0), (2, 37, 0), (5, 0, 0), (0, 21, 21)], [], [(98, 7, 0, 21)], 111, [0, 0, 0, -2]),
  (1, [(2, 98, 0), (2, 37, 0), (5, 0, 0), (0, 22, 22)], [], [(98, 7, 0, 22)], 111, [0, 0, 0, -2]),
  (1, [(2, 98, 0), (2, 37, 0), (5, 0, 0), (0, 23, 23)], [], [(98, 7, 0, 23)], 111, [0, 0, 0, -2]),
  (1, [(2, 98, 0), (2, 37, 0), (5, 0, 0), (0, 24, 24)], [], [(98, 7, 0, 24)], 111, [0, 0, 0, -2]),
  (1, [(2, 98, 0), (2, 37, 0), (5, 0, 0), (0, 25, 25)], [], [(98, 7, 0, 25)], 111, [0, 0, 0, -2]),
  (1, [(2, 98, 0), (2, 37, 0), (5, 0, 0), (0, 26, 26)], [], [(98, 7, 0, 26)], 111, [0, 0, 0, -2]),
  (1, [(2, 98, 0), (2, 37, 0), (5, 0, 0), (0, 27, 27)], [], [(98, 7, 0, 27)], 111, [0, 0, 0, -2]),
  (1, [(2, 98, 0), (2, 37, 0), (5, 0, 0), (0, 28, 28)], [], [(98, 7, 0, 28)], 111, [0, 0, 0, -2]),
  (1, [(2, 98, 0), (2, 37, 0), (5, 0, 0), (0, 29, 29)], [], [(98, 7, 0, 29)], 111, [0, 0, 0, -2]),
  (1, [(2, 98, 0), (2, 37, 0), (5, 0, 0), (0, 3, 3)], [], [(98, 7, 0, 3)], 111, [0, 0, 0, -2]),
  (1, [(2, 98, 0), (2, 37, 0), (5, 0, 0), (0, 30, 30)], [], [(98, 7, 0, 30)], 111, [0, 0, 0, -2]),
  (1, [(2, 98, 0), (2, 37, 0), (5, 0, 0), (0, 31, 31)], [], [(98, 7, 0, 31)], 111, [0, 0, 0, -2]),
  (1, [(2, 98, 0), (2, 37, 0), (5, 0, 0), (0, 32, 32)], [], [(98, 7, 0, 32)], 111, [0, 0, 0, -2]),
  (1, [(2, 98, 0), (2, 37, 0), (5, 0, 0), (0, 33, 33)], [], [(98, 7, 0, 33)], 111, [0, 0, 0, -2]),
  (1, [(2, 98, 0), (2, 37, 0), (5, 0, 0), (0, 34, 34)], [], [(98, 7, 0, 34)], 111, [0, 0, 0, -2]),
  (1, [(2, 98, 0), (2, 37, 0), (5, 0, 0), (0, 35, 35)], [], [(98, 7, 0, 35)], 111, [0, 0, 0, -2]),
  (1, [(2, 98, 0), (2, 37, 0), (5, 0, 0), (0, 36, 36)], [], [(98, 7, 0, 36)], 111, [0, 0, 0, -2]),
  (1, [(2, 98, 0), (2, 37, 0), (5, 0, 0), (0, 37, 37)], [], [(98, 7, 0, 37)], 111, [0, 0, 0, -2]),
  (1, [(2, 98, 0), (2, 37, 0), (5, 0, 0), (0, 38, 38)], [], [(98, 7, 0, 38)], 111, [0, 0, 0, -2]),
  (1, [(2, 98, 0), (2, 37, 0), (5, 0, 0), (0, 39, 39)], [], [(98, 7, 0, 39)], 111, [0, 0, 0, -2]),
  (1, [(2, 98, 0), (2, 37, 0), (5, 0, 0), (0, 4, 4)], [], [(98, 7, 0, 4)], 111, [0, 0, 0, -2]),
  (1, [(2, 98, 0), (2, 37, 0), (5, 0, 0), (0, 40, 40)], [], [(98, 7, 0, 40)], 111, [0, 0, 0, -2]),
  (1, [(2, 98, 0), (2, 37, 0), (5, 0, 0), (0, 41, 41)], [], [(98, 7, 0, 41)], 111, [0, 0, 0, -2]),
  (1, [(2, 98, 0), (2, 37, 0), (5, 0, 0), (0, 42, 42)], [], [(98, 7, 0, 42)], 111, [0, 0, 0, -2]),
  (1, [(2, 98, 0), (2, 37, 0), (5, 0, 0), (0, 43, 43)], [], [(98, 7, 0, 43)], 111, [0, 0, 0, -2]),
  (1, [(2, 98, 0), (2, 37, 0), (5, 0, 0), (0, 44, 44)], [], [(98, 7, 0, 44)], 111, [0, 0, 0, -2]),
  (1, [(2, 98, 0), (2, 37, 0), (5, 0, 0), (0, 45, 45)], [], [(98, 7, 0, 45)], 111, [0, 0, 0, -2]),
  (1, [(2, 98, 0), (2, 37, 0), (5, 0, 0), (0, 46, 46)], [], [(98, 7, 0, 46)], 111, [0, 0, 0, -2]),
  (1, [(2, 98, 0), (2, 37, 0), (5, 0, 0), (0, 47, 47)], [], [(98, 7, 0, 47)], 111, [0, 0, 0, -2]),
  (1, [(2, 98, 0), (2, 37, 0), (5, 0, 0), (0, 48, 48)], [], [(98, 7, 0, 48)], 111, [0, 0, 0, -2]),
  (1, [(2, 98, 0), (2, 37, 0), (5, 0, 0), (0, 49, 49)], [], [(98, 7, 0, 49)], 111, [0, 0, 0, -2]),
  (1, [(2, 98, 0), (2, 37, 0), (5, 0, 0), (0, 5, 5)], [], [(98, 7, 0, 5)], 111, [0, 0, 0, -2]),
  (1, [(2, 98, 0), (2, 37, 0), (5, 0, 0), (0, 50, 50)], [], [(98, 7, 0, 50)], 111, [0, 0, 0, -2]),
  (1, [(2, 98, 0), (2, 37, 0), (5, 0, 0), (0, 51, 51)], [], [(98, 7, 0, 51)], 111, [0, 0, 0, -2]),
  (1, [(2, 98, 0), (2, 37, 0), (5, 0, 0), (0, 52, 52)], [], [(98, 7, 0, 52)], 111, [0, 0, 0, -2]),
  (1, [(2, 98, 0), (2, 37, 0), (5, 0, 0), (0, 53, 53)], [], [(98, 7, 0, 53)], 111, [0, 0, 0, -2]),
  (1, [(2, 98, 0), (2, 37, 0), (5, 0, 0), (0, 54, 54)], [], [(98, 7, 0, 54)], 111, [0, 0, 0, -2]),
  (1, [(2, 98, 0), (2, 37, 0), (5, 0, 0), (0, 55, 55)], [], [(98, 7, 0, 55)], 111, [0, 0, 0, -2]),
  (1, [(2, 98, 0), (2, 37, 0), (5, 0, 0), (0, 6, 6)], [], [(98, 7, 0, 6)], 111, [0, 0, 0, -2]),
  (1, [(2, 98, 0), (2, 37, 0), (5, 0, 0), (0, 7, 7)], [], [(98, 7, 0, 7)], 111, [0, 0, 0, -2]),
  (1, [(2, 98, 0), (2, 37, 0), (5, 0, 0), (0, 8, 8)], [], [(98, 7, 0, 8)], 111, [0, 0, 0, -2]),
  (1, [(2, 98, 0), (2, 37, 0), (5, 0, 0), (0, 9, 9)], [], [(98, 7, 0, 9)], 111, [0, 0, 0, -2])]
/-! X6_listRing -/
def klc_159 : en_Ct := (265, [(2, 98, 0), (2, 12, 0), (2, 37, 0)], [], (0, 0, 1), [(90, [4, 5, 6, 7, 8, 10, 11, 12]), (91, [4, 5]), (92, []), (93, []), (94, []), (95, []), (96, []), (98, [7, 9, 11]), (102, [])], 7)
def klu_159 : List en_Cu := []
/-! X6_isTight -/
def klc_160 : en_Ct := (265, [(2, 98, 0), (2, 49, 0), (2, 37, 0)], [], (0, 0, 1), [(90, [4, 5, 6, 7, 8, 10, 11, 12]), (91, [4, 5]), (92, []), (93, []), (94, []), (95, []), (96, []), (98, [7, 9, 11]), (102, [])], 7)
def klu_160 : List en_Cu := []
/-! X6_isTight -/
def klc_161 : en_Ct := (269, [(2, 2, 0), (2, 12, 0)], [], (3, 12, 49), [(2, [6])], 0)
def klu_161 : List en_Cu := []
/-! X7_changePlaces -/
theorem klh_161 {Sc : sm_C} : en_hold kl_tb klX sm_P Sc klc_161 := en_chk_ok klX_ok (T := []) (cuts := klu_161) (fun _ h => absurd h List.not_mem_nil) (by decide +kernel)
def klc_162 : en_Ct := (269, [(2, 2, 0), (2, 49, 0)], [], (3, 12, 49), [(2, [6])], 0)
def klu_162 : List en_Cu := []
/-! X7_changePlaces -/
theorem klh_162 {Sc : sm_C} : en_hold kl_tb klX sm_P Sc klc_162 := en_chk_ok klX_ok (T := []) (cuts := klu_162) (fun _ h => absurd h List.not_mem_nil) (by decide +kernel)
def klc_163 : en_Ct := (286, [(2, 16, 0), (0, 0, 9), (0, -2147483648, 2147483647), (0, -2147483648, 2147483647)], [], (9, 0, 0), [(19, []), (20, [])], 1)
def klu_163 : List en_Cu := []
/-! X8_bound -/
theorem klh_163 {Sc : sm_C} : en_hold kl_tb klX sm_P Sc klc_163 := en_chk_ok klX_ok (T := []) (cuts := klu_163) (fun _ h => absurd h List.not_mem_nil) (by decide +kernel)
def klc_164 : en_Ct := (286, [(2, 53, 0), (0, 0, 9), (0, -2147483648, 2147483647), (0, -2147483648, 2147483647)], [], (9, 0, 0), [(56, []), (57, [])], 1)
def klu_164 : List en_Cu := []
/-! X8_bound -/
theorem klh_164 {Sc : sm_C} : en_hold kl_tb klX sm_P Sc klc_164 := en_chk_ok klX_ok (T := []) (cuts := klu_164) (fun _ h => absurd h List.not_mem_nil) (by decide +kernel)
def klc_165 : en_Ct := (294, [(2, 16, 0), (0, 0, 9), (0, 0, 9), (0, -1, 9)], [], (9, 0, 0), [(17, []), (18, [])], 1)
def klu_165 : List en_Cu := []
/-! X8_put -/
theorem klh_165 {Sc : sm_C} : en_hold kl_tb klX sm_P Sc klc_165 := en_chk_ok klX_ok (T := []) (cuts := klu_165) (fun _ h => absurd h List.not_mem_nil) (by decide +kernel)
def klc_166 : en_Ct := (294, [(2, 53, 0), (0, 0, 9), (0, 0, 9), (0, -1, 9)], [], (9, 0, 0), [(54, []), (55, [])], 1)
def klu_166 : List en_Cu := []
/-! X8_put -/
theorem klh_166 {Sc : sm_C} : en_hold kl_tb klX sm_P Sc klc_166 := en_chk_ok klX_ok (T := []) (cuts := klu_166) (fun _ h => absurd h List.not_mem_nil) (by decide +kernel)
def klc_167 : en_Ct := (270, [(2, 2, 0), (0, -2147483648, 2147483647)], [], (9, 0, 0), [(13, []), (17, []), (18, []), (19, []), (20, []), (50, []), (54, []), (55, []), (56, []), (57, [])], 2)
def klu_167 : List en_Cu := []
/-! X7_endPathOrOpen -/
theorem klh_167 {Sc : sm_C} : en_hold kl_tb klX sm_P Sc klc_167 := en_chk_ok klX_ok (T := [klc_41, klc_42, klc_163, klc_164, klc_165, klc_166]) (cuts := klu_167) (List.forall_mem_cons.mpr ⟨klh_41, List.forall_mem_cons.mpr ⟨klh_42, List.forall_mem_cons.mpr ⟨klh_163, List.forall_mem_cons.mpr ⟨klh_164, List.forall_mem_cons.mpr ⟨klh_165, List.forall_mem_cons.mpr ⟨klh_166, fun _ h => absurd h List.not_mem_nil⟩⟩⟩⟩⟩⟩) (by decide +kernel)
def klc_168 : en_Ct := (286, [(2, 24, 0), (0, -2147483648, 2147483647), (0, -2147483648, 2147483647), (0, -2147483648, 2147483647)], [], (9, 0, 0), [(27, []), (28, [])], 1)
def klu_168 : List en_Cu := []
/-! X8_bound -/
theorem klh_168 {Sc : sm_C} : en_hold kl_tb klX sm_P Sc klc_168 := en_chk_ok klX_ok (T := []) (cuts := klu_168) (fun _ h => absurd h List.not_mem_nil) (by decide +kernel)
def klc_169 : en_Ct := (286, [(2, 29, 0), (0, -1, 4), (0, -2147483648, 2147483647), (0, -2147483648, 2147483647)], [], (9, 0, 0), [(32, []), (33, [])], 1)
def klu_169 : List en_Cu := []
/-! X8_bound -/
theorem klh_169 {Sc : sm_C} : en_hold kl_tb klX sm_P Sc klc_169 := en_chk_ok klX_ok (T := []) (cuts := klu_169) (fun _ h => absurd h List.not_mem_nil) (by decide +kernel)
def klc_170 : en_Ct := (286, [(2, 61, 0), (0, -2147483648, 2147483647), (0, -2147483648, 2147483647), (0, -2147483648, 2147483647)], [], (9, 0, 0), [(64, []), (65, [])], 1)
def klu_170 : List en_Cu := []
/-! X8_bound -/
theorem klh_170 {Sc : sm_C} : en_hold kl_tb klX sm_P Sc klc_170 := en_chk_ok klX_ok (T := []) (cuts := klu_170) (fun _ h => absurd h List.not_mem_nil) (by decide +kernel)
def klc_171 : en_Ct := (286, [(2, 66, 0), (0, -1, 4), (0, -2147483648, 2147483647), (0, -2147483648, 2147483647)], [], (9, 0, 0), [(69, []), (70, [])], 1)
def klu_171 : List en_Cu := []
/-! X8_bound -/
theorem klh_171 {Sc : sm_C} : en_hold kl_tb klX sm_P Sc klc_171 := en_chk_ok klX_ok (T := []) (cuts := klu_171) (fun _ h => absurd h List.not_mem_nil) (by decide +kernel)
def klc_172 : en_Ct := (294, [(2, 24, 0), (0, -2147483648, 2147483647), (0, 0, 9), (0, -1, 9)], [], (9, 0, 0), [(25, []), (26, [])], 1)
def klu_172 : List en_Cu := []
/-! X8_put -/
theorem klh_172 {Sc : sm_C} : en_hold kl_tb klX sm_P Sc klc_172 := en_chk_ok klX_ok (T := []) (cuts := klu_172) (fun _ h => absurd h List.not_mem_nil) (by decide +kernel)
end
section
/-! methods checked by the engine -/
def klc_173 : en_Ct := (294, [(2, 29, 0), (0, -1, 4), (0, 0, 9), (0, -1, 9)], [], (9, 0, 0), [(30, []), (31, [])], 1)
def klu_173 : List en_Cu := []
/-! X8_put -/
theorem klh_173 {Sc : sm_C} : en_hold kl_tb klX sm_P Sc klc_173 := en_chk_ok klX_ok (T := []) (cuts := klu_173) (fun _ h => absurd h List.not_mem_nil) (by decide +kernel)
def klc_174 : en_Ct := (294, [(2, 61, 0), (0, -2147483648, 2147483647), (0, 0, 9), (0, -1, 9)], [], (9, 0, 0), [(62, []), (63, [])], 1)
def klu_174 : List en_Cu := []
/-! X8_put -/
theorem klh_174 {Sc : sm_C} : en_hold kl_tb klX sm_P Sc klc_174 := en_chk_ok klX_ok (T := []) (cuts := klu_174) (fun _ h => absurd h List.not_mem_nil) (by decide +kernel)
def klc_175 : en_Ct := (294, [(2, 66, 0), (0, -1, 4), (0, 0, 9), (0, -1, 9)], [], (9, 0, 0), [(67, []), (68, [])], 1)
def klu_175 : List en_Cu := []
/-! X8_put -/
theorem klh_175 {Sc : sm_C} : en_hold kl_tb klX sm_P Sc klc_175 := en_chk_ok klX_ok (T := []) (cuts := klu_175) (fun _ h => absurd h List.not_mem_nil) (by decide +kernel)
def klc_176 : en_Ct := (271, [(2, 2, 0), (0, -2147483648, 2147483647)], [], (9, 0, 0), [(25, []), (26, []), (27, []), (28, []), (30, []), (31, []), (32, []), (33, []), (62, []), (63, []), (64, []), (65, []), (67, []), (68, []), (69, []), (70, [])], 2)
def klu_176 : List en_Cu := []
/-! X7_endSpan -/
theorem klh_176 {Sc : sm_C} : en_hold kl_tb klX sm_P Sc klc_176 := en_chk_ok klX_ok (T := [klc_83, klc_85, klc_168, klc_169, klc_170, klc_171, klc_172, klc_173, klc_174, klc_175]) (cuts := klu_176) (List.forall_mem_cons.mpr ⟨klh_83, List.forall_mem_cons.mpr ⟨klh_85, List.forall_mem_cons.mpr ⟨klh_168, List.forall_mem_cons.mpr ⟨klh_169, List.forall_mem_cons.mpr ⟨klh_170, List.forall_mem_cons.mpr ⟨klh_171, List.forall_mem_cons.mpr ⟨klh_172, List.forall_mem_cons.mpr ⟨klh_173, List.forall_mem_cons.mpr ⟨klh_174, List.forall_mem_cons.mpr ⟨klh_175, fun _ h => absurd h List.not_mem_nil⟩⟩⟩⟩⟩⟩⟩⟩⟩⟩) (by decide +kernel)
def klc_177 : en_Ct := (272, [(2, 2, 0), (5, 0, 0), (0, 0, 3)], [], (0, -1, 9), [], 0)
def klu_177 : List en_Cu := [(1, [(2, 2, 0), (5, 0, 0), (0, 0, 3), (0, 0, 35)], [], [], 71, [0, 0, 0, -2])]
/-! X7_find -/
theorem klh_177 {Sc : sm_C} : en_hold kl_tb klX sm_P Sc klc_177 := en_chk_ok klX_ok (T := []) (cuts := klu_177) (fun _ h => absurd h List.not_mem_nil) (by decide +kernel)
def klc_178 : en_Ct := (279, [(2, 2, 0), (0, -1, 30), (0, 0, 21), (0, -2147483648, 2147483647)], [], (0, 0, 0), [(2, [10]), (13, []), (17, []), (18, []), (19, []), (20, []), (25, []), (26, []), (27, []), (28, []), (30, []), (31, []), (32, []), (33, []), (50, []), (54, []), (55, []), (56, []), (57, []), (62, []), (63, []), (64, []), (65, []), (67, []), (68, []), (69, []), (70, [])], 3)
def klu_178 : List en_Cu := []
/-! X7_takeInt -/
theorem klh_178 {Sc : sm_C} : en_hold kl_tb klX sm_P Sc klc_178 := en_chk_ok klX_ok (T := [klc_135, klc_138, klc_167, klc_176]) (cuts := klu_178) (List.forall_mem_cons.mpr ⟨klh_135, List.forall_mem_cons.mpr ⟨klh_138, List.forall_mem_cons.mpr ⟨klh_167, List.forall_mem_cons.mpr ⟨klh_176, fun _ h => absurd h List.not_mem_nil⟩⟩⟩⟩) (by decide +kernel)
def klc_179 : en_Ct := (275, [(2, 2, 0), (0, 0, 21)], [], (0, -1, 9), [(12, [0, 1, 2, 3, 4, 6]), (22, []), (23, []), (49, [0, 1, 2, 3, 4, 6]), (59, []), (60, [])], 1)
def klu_179 : List en_Cu := []
/-! X7_numberNew -/
theorem klh_179 {Sc : sm_C} : en_hold kl_tb klX sm_P Sc klc_179 := en_chk_ok klX_ok (T := [klc_43, klc_44]) (cuts := klu_179) (List.forall_mem_cons.mpr ⟨klh_43, List.forall_mem_cons.mpr ⟨klh_44, fun _ h => absurd h List.not_mem_nil⟩⟩) (by decide +kernel)
def klc_180 : en_Ct := (280, [(2, 2, 0), (5, 0, 0)], [], (0, 0, 3), [(2, [5]), (10, []), (11, []), (12, [0, 1, 2, 3, 4, 6]), (22, []), (23, []), (49, [0, 1, 2, 3, 4, 6]), (59, []), (60, [])], 2)
def klu_180 : List en_Cu := [(1, [(2, 2, 0), (5, 0, 0), (0, 0, 35)], [], [], 71, [0, 0, -2])]
/-! X7_takeNew -/
theorem klh_180 {Sc : sm_C} : en_hold kl_tb klX sm_P Sc klc_180 := en_chk_ok klX_ok (T := [klc_179]) (cuts := klu_180) (List.forall_mem_cons.mpr ⟨klh_179, fun _ h => absurd h List.not_mem_nil⟩) (by decide +kernel)
def klc_181 : en_Ct := (281, [(2, 2, 0), (0, 27, 30), (5, 0, 0)], [], (0, 0, 5), [(2, [8, 9])], 2)
def klu_181 : List en_Cu := [(11, [(2, 2, 0), (0, 0, 10)], [], [], 21, [0, -2])]
/-! X7_takeOpen -/
theorem klh_181 {Sc : sm_C} : en_hold kl_tb klX sm_P Sc klc_181 := en_chk_ok klX_ok (T := [klc_72, klc_74, klc_177]) (cuts := klu_181) (List.forall_mem_cons.mpr ⟨klh_72, List.forall_mem_cons.mpr ⟨klh_74, List.forall_mem_cons.mpr ⟨klh_177, fun _ h => absurd h List.not_mem_nil⟩⟩⟩) (by decide +kernel)
def klc_182 : en_Ct := (282, [(2, 2, 0), (0, 3, 4), (5, 0, 0)], [], (0, 0, 5), [(2, [8, 9])], 1)
def klu_182 : List en_Cu := []
/-! X7_takePath -/
theorem klh_182 {Sc : sm_C} : en_hold kl_tb klX sm_P Sc klc_182 := en_chk_ok klX_ok (T := [klc_177]) (cuts := klu_182) (List.forall_mem_cons.mpr ⟨klh_177, fun _ h => absurd h List.not_mem_nil⟩) (by decide +kernel)
def klc_183 : en_Ct := (283, [(2, 2, 0), (0, 17, 20), (5, 0, 0)], [], (0, 0, 4), [(2, [8, 9])], 1)
def klu_183 : List en_Cu := []
/-! X7_takeSpanTime -/
theorem klh_183 {Sc : sm_C} : en_hold kl_tb klX sm_P Sc klc_183 := en_chk_ok klX_ok (T := [klc_177]) (cuts := klu_183) (List.forall_mem_cons.mpr ⟨klh_177, fun _ h => absurd h List.not_mem_nil⟩) (by decide +kernel)
def klc_184 : en_Ct := (284, [(2, 2, 0), (0, -2147483648, 2147483647)], [], (0, 0, 5), [(21, []), (58, [])], 1)
def klu_184 : List en_Cu := []
/-! X7_takeTrust -/
theorem klh_184 {Sc : sm_C} : en_hold kl_tb klX sm_P Sc klc_184 := en_chk_ok klX_ok (T := [klc_142, klc_143]) (cuts := klu_184) (List.forall_mem_cons.mpr ⟨klh_142, List.forall_mem_cons.mpr ⟨klh_143, fun _ h => absurd h List.not_mem_nil⟩⟩) (by decide +kernel)
def klc_185 : en_Ct := (285, [(2, 2, 0), (0, 8, 10), (5, 0, 0)], [], (0, 0, 4), [(14, []), (15, []), (51, []), (52, [])], 1)
def klu_185 : List en_Cu := []
/-! X7_takeWhere -/
theorem klh_185 {Sc : sm_C} : en_hold kl_tb klX sm_P Sc klc_185 := en_chk_ok klX_ok (T := [klc_131, klc_132, klc_133, klc_134, klc_177]) (cuts := klu_185) (List.forall_mem_cons.mpr ⟨klh_131, List.forall_mem_cons.mpr ⟨klh_132, List.forall_mem_cons.mpr ⟨klh_133, List.forall_mem_cons.mpr ⟨klh_134, List.forall_mem_cons.mpr ⟨klh_177, fun _ h => absurd h List.not_mem_nil⟩⟩⟩⟩⟩) (by decide +kernel)
def klc_186 : en_Ct := (278, [(2, 2, 0), (0, -1, 30), (0, 0, 21), (5, 0, 0)], [], (0, 0, 5), [(2, [5, 7, 8, 9, 10]), (10, []), (11, []), (12, [0, 1, 2, 3, 4, 6]), (13, []), (14, []), (15, []), (17, []), (18, []), (19, []), (20, []), (21, []), (22, []), (23, []), (25, []), (26, []), (27, []), (28, []), (30, []), (31, []), (32, []), (33, []), (49, [0, 1, 2, 3, 4, 6]), (50, []), (51, []), (52, []), (54, []), (55, []), (56, []), (57, []), (58, []), (59, []), (60, []), (62, []), (63, []), (64, []), (65, []), (67, []), (68, []), (69, []), (70, [])], 4)
def klu_186 : List en_Cu := []
/-! X7_take -/
theorem klh_186 {Sc : sm_C} : en_hold kl_tb klX sm_P Sc klc_186 := en_chk_ok klX_ok (T := [klc_39, klc_40, klc_178, klc_180, klc_181, klc_182, klc_183, klc_184, klc_185]) (cuts := klu_186) (List.forall_mem_cons.mpr ⟨klh_39, List.forall_mem_cons.mpr ⟨klh_40, List.forall_mem_cons.mpr ⟨klh_178, List.forall_mem_cons.mpr ⟨klh_180, List.forall_mem_cons.mpr ⟨klh_181, List.forall_mem_cons.mpr ⟨klh_182, List.forall_mem_cons.mpr ⟨klh_183, List.forall_mem_cons.mpr ⟨klh_184, List.forall_mem_cons.mpr ⟨klh_185, fun _ h => absurd h List.not_mem_nil⟩⟩⟩⟩⟩⟩⟩⟩⟩) (by decide +kernel)
def klc_187 : en_Ct := (274, [(2, 2, 0)], [], (0, 0, 5), [(2, [5, 7, 8, 9, 10, 11]), (10, []), (11, []), (12, [0, 1, 2, 3, 4, 6]), (13, []), (14, []), (15, []), (17, []), (18, []), (19, []), (20, []), (21, []), (22, []), (23, []), (25, []), (26, []), (27, []), (28, []), (30, []), (31, []), (32, []), (33, []), (49, [0, 1, 2, 3, 4, 6]), (50, []), (51, []), (52, []), (54, []), (55, []), (56, []), (57, []), (58, []), (59, []), (60, []), (62, []), (63, []), (64, []), (65, []), (67, []), (68, []), (69, []), (70, [])], 5)
def klu_187 : List en_Cu := [(1, [(2, 2, 0), (0, -1, 30), (0, 0, 501)], [], [], 1003, [0, 0, -2])]
/-! X7_meaningFault -/
theorem klh_187 {Sc : sm_C} : en_hold kl_tb klX sm_P Sc klc_187 := en_chk_ok klX_ok (T := [klc_135, klc_186]) (cuts := klu_187) (List.forall_mem_cons.mpr ⟨klh_135, List.forall_mem_cons.mpr ⟨klh_186, fun _ h => absurd h List.not_mem_nil⟩⟩) (by decide +kernel)
def klc_188 : en_Ct := (277, [(2, 2, 0)], [], (0, 0, 2), [(2, [11]), (7, [1, 2, 3]), (8, [])], 2)
def klu_188 : List en_Cu := [(1, [(2, 2, 0), (0, -1, 30), (0, 0, 502)], [], [], 1005, [0, 0, -2])]
/-! X7_syntaxFault -/
theorem klh_188 {Sc : sm_C} : en_hold kl_tb klX sm_P Sc klc_188 := en_chk_ok klX_ok (T := [klc_130, klc_137, klc_135]) (cuts := klu_188) (List.forall_mem_cons.mpr ⟨klh_130, List.forall_mem_cons.mpr ⟨klh_137, List.forall_mem_cons.mpr ⟨klh_135, fun _ h => absurd h List.not_mem_nil⟩⟩⟩) (by decide +kernel)
def klc_189 : en_Ct := (298, [(0, -128, 127)], [], (0, 0, 1), [], 0)
def klu_189 : List en_Cu := []
/-! X9_isBlank -/
theorem klh_189 {Sc : sm_C} : en_hold kl_tb klX sm_P Sc klc_189 := en_chk_ok klX_ok (T := []) (cuts := klu_189) (fun _ h => absurd h List.not_mem_nil) (by decide +kernel)
def klc_190 : en_Ct := (299, [(0, -128, 127)], [], (0, 0, 1), [], 0)
def klu_190 : List en_Cu := []
/-! X9_isDigit -/
theorem klh_190 {Sc : sm_C} : en_hold kl_tb klX sm_P Sc klc_190 := en_chk_ok klX_ok (T := []) (cuts := klu_190) (fun _ h => absurd h List.not_mem_nil) (by decide +kernel)
def klc_191 : en_Ct := (295, [(2, 1, 0), (0, 0, 1999), (0, 1, 2000)], [], (0, 0, 2000), [], 1)
def klu_191 : List en_Cu := [(1, [(2, 1, 0), (0, 1, 2000), (0, 0, 2000)], [], [], 4001, [0, 0, -2])]
/-! X9_endOfDigits -/
theorem klh_191 {Sc : sm_C} : en_hold kl_tb klX sm_P Sc klc_191 := en_chk_ok klX_ok (T := [klc_190]) (cuts := klu_191) (List.forall_mem_cons.mpr ⟨klh_190, fun _ h => absurd h List.not_mem_nil⟩) (by decide +kernel)
def klc_192 : en_Ct := (300, [(0, -128, 127)], [], (0, 0, 1), [], 0)
def klu_192 : List en_Cu := []
/-! X9_isLetter -/
theorem klh_192 {Sc : sm_C} : en_hold kl_tb klX sm_P Sc klc_192 := en_chk_ok klX_ok (T := []) (cuts := klu_192) (fun _ h => absurd h List.not_mem_nil) (by decide +kernel)
def klc_193 : en_Ct := (296, [(2, 1, 0), (0, 0, 1999), (0, 1, 2000)], [], (0, 0, 2000), [], 1)
def klu_193 : List en_Cu := [(1, [(2, 1, 0), (0, 1, 2000), (0, 0, 2000)], [], [], 4001, [0, 0, -2])]
/-! X9_endOfLetters -/
theorem klh_193 {Sc : sm_C} : en_hold kl_tb klX sm_P Sc klc_193 := en_chk_ok klX_ok (T := [klc_192]) (cuts := klu_193) (List.forall_mem_cons.mpr ⟨klh_192, fun _ h => absurd h List.not_mem_nil⟩) (by decide +kernel)
def klc_194 : en_Ct := (303, [(0, -128, 127)], [], (0, 16, 20), [], 0)
def klu_194 : List en_Cu := []
/-! X9_sign -/
theorem klh_194 {Sc : sm_C} : en_hold kl_tb klX sm_P Sc klc_194 := en_chk_ok klX_ok (T := []) (cuts := klu_194) (fun _ h => absurd h List.not_mem_nil) (by decide +kernel)
def klc_195 : en_Ct := (304, [(5, 0, 0)], [], (0, 0, 15), [], 0)
def klu_195 : List en_Cu := [(1, [(5, 0, 0), (0, 0, 15)], [], [], 31, [0, -2])]
/-! X9_wordOrName -/
theorem klh_195 {Sc : sm_C} : en_hold kl_tb klX sm_P Sc klc_195 := en_chk_ok klX_ok (T := []) (cuts := klu_195) (fun _ h => absurd h List.not_mem_nil) (by decide +kernel)
def klc_196 : en_Ct := (302, [(2, 3, 0), (2, 1, 0), (0, 0, 1999), (0, 1, 2000)], [(3, 3, 0, 500)], (0, 0, 2000), [(3, [3]), (4, []), (5, [])], 2)
def klu_196 : List en_Cu := [(10, [(2, 3, 0), (2, 1, 0), (0, 0, 1999), (0, 0, 2000), (5, 0, 0), (0, 0, 2000)], [], [(3, 3, 0, 500)], 4001, [0, 0, 0, 0, 0, -2]),
  (2, [(2, 3, 0), (2, 1, 0), (0, 0, 1999), (0, 0, 2000), (5, 0, 0), (0, 0, 2000)], [], [(3, 3, 0, 500)], 8003, [0, 0, 0, 0, 0, -2])]
/-! X9_scanOne -/
theorem klh_196 {Sc : sm_C} : en_hold kl_tb klX sm_P Sc klc_196 := en_chk_ok klX_ok (T := [klc_191, klc_193, klc_190, klc_192, klc_194, klc_195]) (cuts := klu_196) (List.forall_mem_cons.mpr ⟨klh_191, List.forall_mem_cons.mpr ⟨klh_193, List.forall_mem_cons.mpr ⟨klh_190, List.forall_mem_cons.mpr ⟨klh_192, List.forall_mem_cons.mpr ⟨klh_194, List.forall_mem_cons.mpr ⟨klh_195, fun _ h => absurd h List.not_mem_nil⟩⟩⟩⟩⟩⟩) (by decide +kernel)
def klc_197 : en_Ct := (301, [(2, 3, 0), (2, 1, 0), (0, 0, 2000)], [], (9, 0, 0), [(3, [3]), (4, []), (5, [])], 3)
def klu_197 : List en_Cu := [(1, [(2, 3, 0), (2, 1, 0), (0, 0, 2000), (0, 0, 2000), (0, 0, 2000)], [], [], 4001, [0, 0, 0, 0, -2])]
/-! X9_scan -/
theorem klh_197 {Sc : sm_C} : en_hold kl_tb klX sm_P Sc klc_197 := en_chk_ok klX_ok (T := [klc_189, klc_196]) (cuts := klu_197) (List.forall_mem_cons.mpr ⟨klh_189, List.forall_mem_cons.mpr ⟨klh_196, fun _ h => absurd h List.not_mem_nil⟩⟩) (by decide +kernel)
def klc_198 : en_Ct := (276, [(2, 2, 0), (2, 1, 0), (0, 0, 2000)], [], (0, 0, 5), [(2, [5, 7, 8, 9, 10, 11]), (3, [3]), (4, []), (5, []), (7, [1, 2, 3]), (8, []), (10, []), (11, []), (12, [0, 1, 2, 3, 4, 5, 6]), (13, []), (14, []), (15, []), (17, []), (18, []), (19, []), (20, []), (21, []), (22, []), (23, []), (25, []), (26, []), (27, []), (28, []), (30, []), (31, []), (32, []), (33, []), (34, []), (35, []), (36, []), (49, [0, 1, 2, 3, 4, 5, 6]), (50, []), (51, []), (52, []), (54, []), (55, []), (56, []), (57, []), (58, []), (59, []), (60, []), (62, []), (63, []), (64, []), (65, []), (67, []), (68, []), (69, []), (70, []), (71, []), (72, []), (73, [])], 6)
def klu_198 : List en_Cu := []
/-! X7_readTape -/
theorem klh_198 {Sc : sm_C} : en_hold kl_tb klX sm_P Sc klc_198 := en_chk_ok klX_ok (T := [klc_54, klc_62, klc_64, klc_66, klc_67, klc_68, klc_187, klc_188, klc_197]) (cuts := klu_198) (List.forall_mem_cons.mpr ⟨klh_54, List.forall_mem_cons.mpr ⟨klh_62, List.forall_mem_cons.mpr ⟨klh_64, List.forall_mem_cons.mpr ⟨klh_66, List.forall_mem_cons.mpr ⟨klh_67, List.forall_mem_cons.mpr ⟨klh_68, List.forall_mem_cons.mpr ⟨klh_187, List.forall_mem_cons.mpr ⟨klh_188, List.forall_mem_cons.mpr ⟨klh_197, fun _ h => absurd h List.not_mem_nil⟩⟩⟩⟩⟩⟩⟩⟩⟩) (by decide +kernel)
def klc_199 : en_Ct := (66, [(2, 0, 0), (0, 0, 1023)], [], (0, -3, 1441), [(90, [4, 5, 6, 7, 8, 10, 11, 12, 13, 14, 15, 16, 17]), (91, [4, 5]), (92, []), (93, []), (94, []), (95, []), (96, []), (97, [])], 6)
def klu_199 : List en_Cu := [(1, [(2, 0, 0), (0, 0, 1023), (0, 0, 1441), (0, 0, 1441), (0, 0, 1441)], [], [], 2883, [0, 0, 0, 0, -2])]
/-! X11_leastGive -/
def klc_200 : en_Ct := (28, [(2, 0, 0), (0, -2147483648, 2147483647)], [], (0, -3, 1441), [(90, [4, 5, 6, 7, 8, 10, 11, 12, 13, 14, 15, 16, 17]), (91, [4, 5]), (92, []), (93, []), (94, []), (95, []), (96, []), (97, [])], 7)
def klu_200 : List en_Cu := []
/-! X11_alone -/
def klc_201 : en_Ct := (286, [(2, 40, 0), (0, 0, 5), (0, -2147483648, 2147483647), (0, -2147483648, 2147483647)], [], (9, 0, 0), [(43, []), (44, [])], 1)
def klu_201 : List en_Cu := []
/-! X8_bound -/
def klc_202 : en_Ct := (89, [(2, 38, 0), (0, -1, 9), (0, -1, 0)], [], (0, -1, 1440), [], 0)
def klu_202 : List en_Cu := []
/-! X11_valueAt -/
def klc_203 : en_Ct := (288, [(2, 24, 0), (0, -2147483648, 2147483646), (2, 38, 0)], [], (0, 0, 1), [], 1)
def klu_203 : List en_Cu := []
/-! X8_holds -/
def klc_204 : en_Ct := (288, [(2, 61, 0), (0, -2147483648, 2147483646), (2, 38, 0)], [], (0, 0, 1), [], 1)
def klu_204 : List en_Cu := []
/-! X8_holds -/
def klc_205 : en_Ct := (56, [(2, 0, 0)], [], (0, 0, 1), [(0, [12]), (46, []), (47, []), (74, [4, 5, 6, 7, 8, 10, 11, 12, 13, 14, 15]), (75, [4, 5]), (76, []), (77, []), (78, []), (79, []), (80, []), (81, [])], 6)
def klu_205 : List en_Cu := []
/-! X11_isGoneThrough -/
theorem klh_205 {Sc : sm_C} : en_hold kl_tb klX sm_P Sc klc_205 := en_chk_ok klX_ok (T := [klc_45, klc_46, klc_88, klc_89, klc_116]) (cuts := klu_205) (List.forall_mem_cons.mpr ⟨klh_45, List.forall_mem_cons.mpr ⟨klh_46, List.forall_mem_cons.mpr ⟨klh_88, List.forall_mem_cons.mpr ⟨klh_89, List.forall_mem_cons.mpr ⟨klh_116, fun _ h => absurd h List.not_mem_nil⟩⟩⟩⟩⟩) (by decide +kernel)
def klc_206 : en_Ct := (29, [(2, 0, 0), (0, -2147483648, 2147483647), (0, 0, 1)], [], (0, -2147483648, 2147483647), [(0, [12]), (46, []), (47, []), (74, [4, 5, 6, 7, 8, 10, 11, 12, 13, 14, 15]), (75, [4, 5]), (76, []), (77, []), (78, []), (79, []), (80, []), (81, [])], 7)
def klu_206 : List en_Cu := []
/-! X11_ask -/
def klc_207 : en_Ct := (293, [(2, 24, 0), (0, -2147483648, 2147483646), (2, 38, 0)], [], (0, 0, 1), [], 1)
def klu_207 : List en_Cu := []
/-! X8_isSet -/
def klc_208 : en_Ct := (293, [(2, 61, 0), (0, -2147483648, 2147483646), (2, 38, 0)], [], (0, 0, 1), [], 1)
def klu_208 : List en_Cu := []
/-! X8_isSet -/
def klc_209 : en_Ct := (294, [(2, 40, 0), (0, 0, 5), (0, 0, 9), (0, -1, 9)], [], (9, 0, 0), [(41, []), (42, [])], 1)
def klu_209 : List en_Cu := []
/-! X8_put -/
def klc_210 : en_Ct := (3, [(2, 103, 0), (0, -2147483648, 64), (0, -2147483648, 2147483647)], [], (0, -2147483648, 2147483647), [], 0)
def klu_210 : List en_Cu := [(1, [(2, 103, 0), (0, -2147483648, 64), (0, -2147483648, 2147483647), (0, -2147483648, 2147483647), (0, 0, 64)], [], [], 129, [0, 0, 0, 0, -2])]
/-! X0_countLeft -/
theorem klh_210 {Sc : sm_C} : en_hold kl_tb klX sm_P Sc klc_210 := en_chk_ok klX_ok (T := []) (cuts := klu_210) (fun _ h => absurd h List.not_mem_nil) (by decide +kernel)
def klc_212 : en_Ct := (31, [(2, 0, 0), (0, -2147483648, 2147483647)], [], (0, -4, 3), [], 2)
def klu_212 : List en_Cu := [(3, [(2, 0, 0), (0, 0, 9), (0, -2, 3), (0, -1, 3)], [], [], 17179869187, [0, 0, 0, 8589934594]),
  (5, [(2, 0, 0), (0, 0, 9), (0, -2, 3), (0, 0, 3), (0, -2147483648, 2147483647), (0, 0, 1), (0, -2147483648, 2147483647)], [], [], 12884901889, [0, 0, 0, 8589934594, 0, 0, -2])]
/-! X11_bears -/
def klc_213 : en_Ct := (50, [(2, 0, 0), (0, 0, 3), (0, 0, 5), (0, 0, 1440), (0, 0, 1440)], [], (9, 0, 0), [(90, [4, 5, 6, 7, 8, 9, 10, 11, 12, 13, 14, 15, 16, 17]), (91, [4, 5]), (92, []), (93, []), (94, []), (95, []), (96, []), (97, [])], 6)
def klu_213 : List en_Cu := []
/-! X11_goWithGuest -/
end
section
/-! methods checked by the engine -/
def klc_214 : en_Ct := (32, [(2, 0, 0), (0, -2147483648, 2147483647), (0, -2147483648, 2147483647), (0, 0, 1)], [], (0, -2147483648, 2147483647), [(90, [4, 5, 6, 7, 8, 9, 10, 11, 12, 13, 14, 15, 16, 17]), (91, [4, 5]), (92, []), (93, []), (94, []), (95, []), (96, []), (97, [])], 7)
def klu_214 : List en_Cu := []
/-! X11_been -/
def klc_215 : en_Ct := (33, [(2, 0, 0)], [], (0, -2, 44), [], 1)
def klu_215 : List en_Cu := [(1, [(2, 0, 0), (0, 0, 45)], [], [], 91, [0, -2])]
/-! X11_breaks -/
def klc_216 : en_Ct := (68, [(2, 0, 0), (0, -2147483648, 2147483647)], [], (0, -3, 60), [(0, [12]), (46, []), (47, []), (74, [4, 5, 6, 7, 8, 10, 11, 12, 13, 14, 15]), (75, [4, 5]), (76, []), (77, []), (78, []), (79, []), (80, []), (81, [])], 7)
def klu_216 : List en_Cu := []
/-! X11_levelOf -/
theorem klh_216 {Sc : sm_C} : en_hold kl_tb klX sm_P Sc klc_216 := en_chk_ok klX_ok (T := [klc_19, klc_205]) (cuts := klu_216) (List.forall_mem_cons.mpr ⟨klh_19, List.forall_mem_cons.mpr ⟨klh_205, fun _ h => absurd h List.not_mem_nil⟩⟩) (by decide +kernel)
def klc_217 : en_Ct := (34, [(2, 0, 0), (0, -2147483648, 2147483647), (0, -2147483648, 2147483647)], [], (0, -2147483648, 2147483647), [(0, [12]), (46, []), (47, []), (74, [4, 5, 6, 7, 8, 10, 11, 12, 13, 14, 15]), (75, [4, 5]), (76, []), (77, []), (78, []), (79, []), (80, []), (81, [])], 8)
def klu_217 : List en_Cu := [(6, [(2, 0, 0), (0, 0, 9), (0, 0, 1440), (0, -2147483648, 2147483647), (0, 0, 2147483647)], [], [], 4294967295, [0, 0, 0, 0, -2])]
/-! X11_can -/
def klc_218 : en_Ct := (35, [(2, 0, 0)], [], (0, -3, 1023), [(90, [4, 5, 6, 7, 8, 10, 11, 12, 13, 14, 15, 16, 17]), (91, [4, 5]), (92, []), (93, []), (94, []), (95, []), (96, []), (97, []), (98, [4, 5, 8, 10]), (99, []), (100, []), (101, [])], 8)
def klu_218 : List en_Cu := []
/-! X11_cheapest -/
def klc_219 : en_Ct := (36, [(2, 0, 0), (0, -2147483648, 2147483647), (0, -2147483648, 2147483647)], [], (0, -2147483648, 2147483647), [(0, [12]), (46, []), (47, []), (74, [4, 5, 6, 7, 8, 10, 11, 12, 13, 14, 15]), (75, [4, 5]), (76, []), (77, []), (78, []), (79, []), (80, []), (81, [])], 8)
def klu_219 : List en_Cu := []
/-! X11_choice -/
def klc_220 : en_Ct := (37, [(2, 0, 0), (0, -2147483648, 2147483647), (0, -2147483648, 2147483647), (0, -2147483648, 2147483647), (0, -2147483648, 2147483647)], [], (0, -3, 1), [(90, [4, 5, 6, 7, 8, 9, 10, 11, 12, 13, 14, 15, 16, 17]), (91, [4, 5]), (92, []), (93, []), (94, []), (95, []), (96, []), (97, [])], 7)
def klu_220 : List en_Cu := []
/-! X11_could -/
def klc_221 : en_Ct := (38, [(2, 0, 0), (0, -2147483648, 2147483647)], [], (0, -2147483648, 2147483647), [(0, [12]), (46, []), (47, []), (74, [4, 5, 6, 7, 8, 10, 11, 12, 13, 14, 15]), (75, [4, 5]), (76, []), (77, []), (78, []), (79, []), (80, []), (81, [])], 7)
def klu_221 : List en_Cu := []
/-! X11_count -/
def klc_222 : en_Ct := (86, [(2, 0, 0)], [], (9, 0, 0), [(0, [12, 13]), (98, [8, 9]), (103, [5])], 0)
def klu_222 : List en_Cu := []
/-! X11_stale -/
theorem klh_222 {Sc : sm_C} : en_hold kl_tb klX sm_P Sc klc_222 := en_chk_ok klX_ok (T := []) (cuts := klu_222) (fun _ h => absurd h List.not_mem_nil) (by decide +kernel)
def klc_223 : en_Ct := (39, [(2, 0, 0), (0, -2147483648, 2147483647), (0, 0, 1)], [], (0, 0, 1), [(0, [12, 13]), (37, [0]), (39, []), (98, [8, 9]), (103, [5])], 2)
def klu_223 : List en_Cu := []
/-! X11_doubt -/
def klc_224 : en_Ct := (4, [(2, 103, 0), (2, 12, 0)], [], (9, 0, 0), [(74, [6]), (76, []), (81, []), (103, [5]), (104, []), (105, [])], 10)
def klu_224 : List en_Cu := [(3, [(2, 103, 0), (2, 12, 0), (0, -2147483648, 64), (0, 0, 64)], [], [], 2179, [0, 0, 0, -2]),
  (6, [(2, 103, 0), (2, 12, 0), (0, -2147483648, 64), (0, 0, 1024)], [], [], 2049, [0, 0, 0, -2])]
/-! X0_countStates -/
theorem klh_224 {Sc : sm_C} : en_hold kl_tb klX sm_P Sc klc_224 := en_chk_ok klX_ok (T := [klc_29, klc_69, klc_19, klc_210]) (cuts := klu_224) (List.forall_mem_cons.mpr ⟨klh_29, List.forall_mem_cons.mpr ⟨klh_69, List.forall_mem_cons.mpr ⟨klh_19, List.forall_mem_cons.mpr ⟨klh_210, fun _ h => absurd h List.not_mem_nil⟩⟩⟩⟩) (by decide +kernel)
def klc_225 : en_Ct := (4, [(2, 103, 0), (2, 49, 0)], [], (9, 0, 0), [(74, [6]), (76, []), (81, []), (103, [5]), (104, []), (105, [])], 10)
def klu_225 : List en_Cu := [(3, [(2, 103, 0), (2, 49, 0), (0, -2147483648, 64), (0, 0, 64)], [], [], 2179, [0, 0, 0, -2]),
  (6, [(2, 103, 0), (2, 49, 0), (0, -2147483648, 64), (0, 0, 1024)], [], [], 2049, [0, 0, 0, -2])]
/-! X0_countStates -/
theorem klh_225 {Sc : sm_C} : en_hold kl_tb klX sm_P Sc klc_225 := en_chk_ok klX_ok (T := [klc_35, klc_70, klc_19, klc_210]) (cuts := klu_225) (List.forall_mem_cons.mpr ⟨klh_35, List.forall_mem_cons.mpr ⟨klh_70, List.forall_mem_cons.mpr ⟨klh_19, List.forall_mem_cons.mpr ⟨klh_210, fun _ h => absurd h List.not_mem_nil⟩⟩⟩⟩) (by decide +kernel)
def klc_226 : en_Ct := (92, [(2, 0, 0), (0, 0, 60), (0, 0, 3), (0, 0, 1440)], [], (0, -4, 9), [], 5)
def klu_226 : List en_Cu := [(1, [(2, 0, 0), (0, 0, 60), (0, 0, 3), (0, 0, 1440), (0, -1, 9), (0, -1, 9), (0, -1, 1440), (0, -1, 2147483647), (0, 0, 10)], [], [], 21, [0, 0, 0, 0, 0, 0, 0, 0, -2])]
/-! X11_whereAt -/
def klc_227 : en_Ct := (40, [(2, 0, 0), (0, -2147483648, 2147483647), (0, -2147483648, 2147483647), (0, -2147483648, 2147483647)], [], (0, -4, 9), [(0, [12]), (46, []), (47, []), (74, [4, 5, 6, 7, 8, 10, 11, 12, 13, 14, 15]), (75, [4, 5]), (76, []), (77, []), (78, []), (79, []), (80, []), (81, [])], 8)
def klu_227 : List en_Cu := []
/-! X11_drawn -/
def klc_228 : en_Ct := (41, [(2, 0, 0), (0, -2147483648, 2147483647), (0, 0, 1)], [], (0, -2147483648, 2147483647), [(0, [12]), (46, []), (47, []), (74, [4, 5, 6, 7, 8, 10, 11, 12, 13, 14, 15]), (75, [4, 5]), (76, []), (77, []), (78, []), (79, []), (80, []), (81, [])], 8)
def klu_228 : List en_Cu := [(5, [(2, 0, 0), (0, 0, 9), (0, 0, 1), (0, -2147483648, 2147483647), (0, 0, 2147483647)], [], [], 4294967295, [0, 0, 0, 0, -2])]
/-! X11_ends -/
def klc_229 : en_Ct := (77, [(2, 0, 0), (0, -2147483648, 2147483647)], [], (9, 0, 0), [(0, [10]), (1, [])], 0)
def klu_229 : List en_Cu := [(1, [(2, 0, 0), (0, -2147483648, 2147483647), (0, -128, 24)], [], [], 257, [0, 0, 2])]
/-! X11_putFour -/
def klc_230 : en_Ct := (42, [(2, 0, 0), (0, -2147483648, 2147483647), (0, -2147483648, 2147483647), (0, -2147483648, 2147483647), (0, -2147483648, 2147483647), (0, -2147483648, 2147483647)], [], (0, -1, 2000), [(0, [10]), (1, [])], 1)
def klu_230 : List en_Cu := []
/-! X11_feed -/
def klc_231 : en_Ct := (43, [(2, 0, 0)], [], (0, -1, 5), [(0, [12, 13]), (37, [1]), (98, [8, 9]), (103, [5])], 1)
def klu_231 : List en_Cu := []
/-! X11_fewer -/
def klc_232 : en_Ct := (5, [(2, 103, 0), (2, 12, 0)], [], (0, -2, 4), [], 1)
def klu_232 : List en_Cu := [(1, [(2, 103, 0), (2, 12, 0), (0, 0, 5)], [], [], 11, [0, 0, -2])]
/-! X0_firstQuestion -/
def klc_233 : en_Ct := (5, [(2, 103, 0), (2, 49, 0)], [], (0, -2, 4), [], 1)
def klu_233 : List en_Cu := [(1, [(2, 103, 0), (2, 49, 0), (0, 0, 5)], [], [], 11, [0, 0, -2])]
/-! X0_firstQuestion -/
def klc_234 : en_Ct := (75, [(2, 0, 0), (0, -2147483648, 2147483647)], [], (0, -3, 0), [(0, [12]), (46, []), (47, []), (74, [4, 5, 6, 7, 8, 10, 11, 12, 13, 14, 15]), (75, [4, 5]), (76, []), (77, []), (78, []), (79, []), (80, []), (81, []), (103, [5]), (104, []), (105, []), (106, [])], 11)
def klu_234 : List en_Cu := []
/-! X11_planTo -/
def klc_235 : en_Ct := (44, [(2, 0, 0), (0, -2147483648, 2147483647)], [], (0, -3, 4), [(0, [12]), (46, []), (47, []), (74, [4, 5, 6, 7, 8, 10, 11, 12, 13, 14, 15]), (75, [4, 5]), (76, []), (77, []), (78, []), (79, []), (80, []), (81, []), (103, [5]), (104, []), (105, []), (106, [])], 12)
def klu_235 : List en_Cu := []
/-! X11_first -/
def klc_236 : en_Ct := (45, [(2, 0, 0), (0, -2147483648, 2147483647)], [], (0, -2147483648, 2147483647), [(0, [12]), (46, []), (47, []), (74, [4, 5, 6, 7, 8, 10, 11, 12, 13, 14, 15]), (75, [4, 5]), (76, []), (77, []), (78, []), (79, []), (80, []), (81, [])], 7)
def klu_236 : List en_Cu := [(6, [(2, 0, 0), (0, 0, 9), (0, -2147483648, 2147483647), (0, 0, 2147483647)], [], [], 4294967295, [0, 0, 0, -2])]
/-! X11_forced -/
def klc_237 : en_Ct := (46, [(2, 0, 0), (0, -2147483648, 2147483647), (0, -2147483648, 2147483647), (0, -2147483648, 2147483647), (0, 0, 1)], [], (0, -2147483648, 2147483647), [(0, [12]), (46, []), (47, []), (74, [4, 5, 6, 7, 8, 10, 11, 12, 13, 14, 15]), (75, [4, 5]), (76, []), (77, []), (78, []), (79, []), (80, []), (81, [])], 8)
def klu_237 : List en_Cu := []
/-! X11_gap -/
def klc_238 : en_Ct := (47, [(2, 0, 0)], [], (0, -3, 1441), [(90, [4, 5, 6, 7, 8, 10, 11, 12, 13, 14, 15, 16, 17]), (91, [4, 5]), (92, []), (93, []), (94, []), (95, []), (96, []), (97, [])], 7)
def klu_238 : List en_Cu := []
/-! X11_give -/
def klc_239 : en_Ct := (48, [(2, 0, 0), (0, -2147483648, 2147483647)], [], (0, -3, 1023), [(90, [4, 5, 6, 7, 8, 10, 11, 12, 13, 14, 15, 16, 17]), (91, [4, 5]), (92, []), (93, []), (94, []), (95, []), (96, []), (97, []), (98, [4, 5, 8, 10]), (99, []), (100, []), (101, [])], 8)
def klu_239 : List en_Cu := []
/-! X11_givingUp -/
def klc_240 : en_Ct := (49, [(2, 0, 0)], [], (0, -3, 252), [(90, [4, 5, 6, 7, 8, 10, 11, 12, 13, 14, 15, 16, 17]), (91, [4, 5]), (92, []), (93, []), (94, []), (95, []), (96, []), (97, []), (98, [4, 5, 8, 10]), (99, []), (100, []), (101, [])], 8)
def klu_240 : List en_Cu := []
/-! X11_givingUps -/
def klc_241 : en_Ct := (51, [(2, 0, 0), (0, -2147483648, 2147483647), (0, -2147483648, 2147483647)], [], (0, -2147483648, 2147483647), [(0, [12]), (46, []), (47, []), (74, [4, 5, 6, 7, 8, 10, 11, 12, 13, 14, 15]), (75, [4, 5]), (76, []), (77, []), (78, []), (79, []), (80, []), (81, [])], 8)
def klu_241 : List en_Cu := []
/-! X11_goes -/
def klc_242 : en_Ct := (57, [(2, 0, 0), (0, -2147483648, 2147483647)], [], (0, 0, 1), [(0, [13]), (82, [4, 5, 6, 7, 8, 10, 11, 12]), (83, [4, 5]), (84, []), (85, []), (86, []), (87, []), (88, []), (89, [])], 6)
def klu_242 : List en_Cu := []
/-! X11_isKept -/
def klc_243 : en_Ct := (52, [(2, 0, 0), (0, -2147483648, 2147483647), (0, -2147483648, 2147483647)], [], (0, -2147483648, 2147483647), [(0, [12, 13]), (46, []), (47, []), (74, [4, 5, 6, 7, 8, 10, 11, 12, 13, 14, 15]), (75, [4, 5]), (76, []), (77, []), (78, []), (79, []), (80, []), (81, []), (82, [4, 5, 6, 7, 8, 10, 11, 12]), (83, [4, 5]), (84, []), (85, []), (86, []), (87, []), (88, []), (89, [])], 8)
def klu_243 : List en_Cu := []
/-! X11_hand -/
def klc_244 : en_Ct := (53, [(2, 0, 0), (0, -2147483648, 2147483647), (0, -2147483648, 2147483647), (0, 0, 1)], [], (0, -2147483648, 2147483647), [(0, [12]), (46, []), (47, []), (74, [4, 5, 6, 7, 8, 10, 11, 12, 13, 14, 15]), (75, [4, 5]), (76, []), (77, []), (78, []), (79, []), (80, []), (81, [])], 8)
def klu_244 : List en_Cu := []
/-! X11_hour -/
def klc_245 : en_Ct := (64, [(2, 0, 0)], [], (0, -3, 2147483647), [(0, [12, 13]), (46, []), (47, []), (74, [4, 5, 6, 7, 8, 10, 11, 12, 13, 14, 15]), (75, [4, 5]), (76, []), (77, []), (78, []), (79, []), (80, []), (81, []), (82, [4, 5, 6, 7, 8, 10, 11, 12]), (83, [4, 5]), (84, []), (85, []), (86, []), (87, []), (88, []), (89, [])], 7)
def klu_245 : List en_Cu := [(3, [(2, 0, 0), (0, 0, 2147483647)], [], [], 4294967295, [0, -2])]
/-! X11_keep -/
def klc_246 : en_Ct := (65, [(2, 0, 0), (0, -2147483648, 2147483647)], [], (0, -3, 1), [(0, [12, 13]), (46, []), (47, []), (74, [4, 5, 6, 7, 8, 10, 11, 12, 13, 14, 15]), (75, [4, 5]), (76, []), (77, []), (78, []), (79, []), (80, []), (81, []), (82, [4, 5, 6, 7, 8, 10, 11, 12]), (83, [4, 5]), (84, []), (85, []), (86, []), (87, []), (88, []), (89, [])], 8)
def klu_246 : List en_Cu := []
/-! X11_kept -/
def klc_247 : en_Ct := (7, [(2, 103, 0), (2, 12, 0), (0, 5, 5), (0, 0, 66), (0, -2147483648, 2147483647), (0, -2147483648, 2147483647)], [], (0, 1, 1), [], 0)
def klu_247 : List en_Cu := []
/-! X0_isLeft -/
theorem klh_247 {Sc : sm_C} : en_hold kl_tb klX sm_P Sc klc_247 := en_chk_ok klX_ok (T := []) (cuts := klu_247) (fun _ h => absurd h List.not_mem_nil) (by decide +kernel)
def klc_248 : en_Ct := (7, [(2, 103, 0), (2, 12, 0), (0, 4, 4), (0, 0, 65), (0, -2147483648, 2147483647), (0, -2147483648, 2147483647)], [], (0, 0, 1), [(76, [])], 5)
def klu_248 : List en_Cu := []
/-! X0_isLeft -/
theorem klh_248 {Sc : sm_C} : en_hold kl_tb klX sm_P Sc klc_248 := en_chk_ok klX_ok (T := [klc_3, klc_247]) (cuts := klu_248) (List.forall_mem_cons.mpr ⟨klh_3, List.forall_mem_cons.mpr ⟨klh_247, fun _ h => absurd h List.not_mem_nil⟩⟩) (by decide +kernel)
def klc_249 : en_Ct := (7, [(2, 103, 0), (2, 12, 0), (0, 3, 3), (0, 0, 64), (0, -2147483648, 2147483647), (0, -2147483648, 2147483647)], [], (0, 0, 1), [(76, [])], 6)
def klu_249 : List en_Cu := []
/-! X0_isLeft -/
theorem klh_249 {Sc : sm_C} : en_hold kl_tb klX sm_P Sc klc_249 := en_chk_ok klX_ok (T := [klc_3, klc_248]) (cuts := klu_249) (List.forall_mem_cons.mpr ⟨klh_3, List.forall_mem_cons.mpr ⟨klh_248, fun _ h => absurd h List.not_mem_nil⟩⟩) (by decide +kernel)
def klc_250 : en_Ct := (7, [(2, 103, 0), (2, 12, 0), (0, 2, 2), (0, 0, 63), (0, -2147483648, 2147483647), (0, -2147483648, 2147483647)], [], (0, 0, 1), [(76, [])], 7)
def klu_250 : List en_Cu := []
/-! X0_isLeft -/
theorem klh_250 {Sc : sm_C} : en_hold kl_tb klX sm_P Sc klc_250 := en_chk_ok klX_ok (T := [klc_3, klc_249]) (cuts := klu_250) (List.forall_mem_cons.mpr ⟨klh_3, List.forall_mem_cons.mpr ⟨klh_249, fun _ h => absurd h List.not_mem_nil⟩⟩) (by decide +kernel)
def klc_251 : en_Ct := (7, [(2, 103, 0), (2, 12, 0), (0, 1, 1), (0, 0, 61), (0, -2147483648, 2147483647), (0, -2147483648, 2147483647)], [], (0, 0, 1), [(76, [])], 8)
def klu_251 : List en_Cu := []
/-! X0_isLeft -/
theorem klh_251 {Sc : sm_C} : en_hold kl_tb klX sm_P Sc klc_251 := en_chk_ok klX_ok (T := [klc_3, klc_250]) (cuts := klu_251) (List.forall_mem_cons.mpr ⟨klh_3, List.forall_mem_cons.mpr ⟨klh_250, fun _ h => absurd h List.not_mem_nil⟩⟩) (by decide +kernel)
def klc_252 : en_Ct := (7, [(2, 103, 0), (2, 12, 0), (0, 0, 0), (0, 0, 60), (0, -2147483648, 2147483647), (0, -2147483648, 2147483647)], [], (0, 0, 1), [(76, [])], 9)
def klu_252 : List en_Cu := []
/-! X0_isLeft -/
theorem klh_252 {Sc : sm_C} : en_hold kl_tb klX sm_P Sc klc_252 := en_chk_ok klX_ok (T := [klc_3, klc_251]) (cuts := klu_252) (List.forall_mem_cons.mpr ⟨klh_3, List.forall_mem_cons.mpr ⟨klh_251, fun _ h => absurd h List.not_mem_nil⟩⟩) (by decide +kernel)
def klc_253 : en_Ct := (8, [(2, 103, 0), (2, 12, 0), (0, -2147483648, 2147483647), (0, -2147483648, 2147483647)], [], (0, -2147483648, 2147483647), [(74, [6]), (76, []), (81, [])], 10)
def klu_253 : List en_Cu := [(1, [(2, 103, 0), (2, 12, 0), (0, -2147483648, 2147483647), (0, -2147483648, 2147483647), (0, -2147483648, 2147483647), (0, 0, 2147483647)], [], [], 4294967295, [0, 0, 0, 0, 0, -2])]
/-! X0_leftWith -/
theorem klh_253 {Sc : sm_C} : en_hold kl_tb klX sm_P Sc klc_253 := en_chk_ok klX_ok (T := [klc_19, klc_252]) (cuts := klu_253) (List.forall_mem_cons.mpr ⟨klh_19, List.forall_mem_cons.mpr ⟨klh_252, fun _ h => absurd h List.not_mem_nil⟩⟩) (by decide +kernel)
end
section
/-! methods checked by the engine -/
def klc_254 : en_Ct := (7, [(2, 103, 0), (2, 49, 0), (0, 5, 5), (0, 0, 66), (0, -2147483648, 2147483647), (0, -2147483648, 2147483647)], [], (0, 1, 1), [], 0)
def klu_254 : List en_Cu := []
/-! X0_isLeft -/
theorem klh_254 {Sc : sm_C} : en_hold kl_tb klX sm_P Sc klc_254 := en_chk_ok klX_ok (T := []) (cuts := klu_254) (fun _ h => absurd h List.not_mem_nil) (by decide +kernel)
def klc_255 : en_Ct := (7, [(2, 103, 0), (2, 49, 0), (0, 4, 4), (0, 0, 65), (0, -2147483648, 2147483647), (0, -2147483648, 2147483647)], [], (0, 0, 1), [(76, [])], 5)
def klu_255 : List en_Cu := []
/-! X0_isLeft -/
theorem klh_255 {Sc : sm_C} : en_hold kl_tb klX sm_P Sc klc_255 := en_chk_ok klX_ok (T := [klc_4, klc_254]) (cuts := klu_255) (List.forall_mem_cons.mpr ⟨klh_4, List.forall_mem_cons.mpr ⟨klh_254, fun _ h => absurd h List.not_mem_nil⟩⟩) (by decide +kernel)
def klc_256 : en_Ct := (7, [(2, 103, 0), (2, 49, 0), (0, 3, 3), (0, 0, 64), (0, -2147483648, 2147483647), (0, -2147483648, 2147483647)], [], (0, 0, 1), [(76, [])], 6)
def klu_256 : List en_Cu := []
/-! X0_isLeft -/
theorem klh_256 {Sc : sm_C} : en_hold kl_tb klX sm_P Sc klc_256 := en_chk_ok klX_ok (T := [klc_4, klc_255]) (cuts := klu_256) (List.forall_mem_cons.mpr ⟨klh_4, List.forall_mem_cons.mpr ⟨klh_255, fun _ h => absurd h List.not_mem_nil⟩⟩) (by decide +kernel)
def klc_257 : en_Ct := (7, [(2, 103, 0), (2, 49, 0), (0, 2, 2), (0, 0, 63), (0, -2147483648, 2147483647), (0, -2147483648, 2147483647)], [], (0, 0, 1), [(76, [])], 7)
def klu_257 : List en_Cu := []
/-! X0_isLeft -/
theorem klh_257 {Sc : sm_C} : en_hold kl_tb klX sm_P Sc klc_257 := en_chk_ok klX_ok (T := [klc_4, klc_256]) (cuts := klu_257) (List.forall_mem_cons.mpr ⟨klh_4, List.forall_mem_cons.mpr ⟨klh_256, fun _ h => absurd h List.not_mem_nil⟩⟩) (by decide +kernel)
def klc_258 : en_Ct := (7, [(2, 103, 0), (2, 49, 0), (0, 1, 1), (0, 0, 61), (0, -2147483648, 2147483647), (0, -2147483648, 2147483647)], [], (0, 0, 1), [(76, [])], 8)
def klu_258 : List en_Cu := []
/-! X0_isLeft -/
theorem klh_258 {Sc : sm_C} : en_hold kl_tb klX sm_P Sc klc_258 := en_chk_ok klX_ok (T := [klc_4, klc_257]) (cuts := klu_258) (List.forall_mem_cons.mpr ⟨klh_4, List.forall_mem_cons.mpr ⟨klh_257, fun _ h => absurd h List.not_mem_nil⟩⟩) (by decide +kernel)
def klc_259 : en_Ct := (7, [(2, 103, 0), (2, 49, 0), (0, 0, 0), (0, 0, 60), (0, -2147483648, 2147483647), (0, -2147483648, 2147483647)], [], (0, 0, 1), [(76, [])], 9)
def klu_259 : List en_Cu := []
/-! X0_isLeft -/
theorem klh_259 {Sc : sm_C} : en_hold kl_tb klX sm_P Sc klc_259 := en_chk_ok klX_ok (T := [klc_4, klc_258]) (cuts := klu_259) (List.forall_mem_cons.mpr ⟨klh_4, List.forall_mem_cons.mpr ⟨klh_258, fun _ h => absurd h List.not_mem_nil⟩⟩) (by decide +kernel)
def klc_260 : en_Ct := (8, [(2, 103, 0), (2, 49, 0), (0, -2147483648, 2147483647), (0, -2147483648, 2147483647)], [], (0, -2147483648, 2147483647), [(74, [6]), (76, []), (81, [])], 10)
def klu_260 : List en_Cu := [(1, [(2, 103, 0), (2, 49, 0), (0, -2147483648, 2147483647), (0, -2147483648, 2147483647), (0, -2147483648, 2147483647), (0, 0, 2147483647)], [], [], 4294967295, [0, 0, 0, 0, 0, -2])]
/-! X0_leftWith -/
theorem klh_260 {Sc : sm_C} : en_hold kl_tb klX sm_P Sc klc_260 := en_chk_ok klX_ok (T := [klc_19, klc_259]) (cuts := klu_260) (List.forall_mem_cons.mpr ⟨klh_19, List.forall_mem_cons.mpr ⟨klh_259, fun _ h => absurd h List.not_mem_nil⟩⟩) (by decide +kernel)
def klc_261 : en_Ct := (67, [(2, 0, 0), (0, -2147483648, 2147483647), (0, -2147483648, 2147483647)], [], (0, -2147483648, 2147483647), [(0, [12]), (46, []), (47, []), (74, [4, 5, 6, 7, 8, 10, 11, 12, 13, 14, 15]), (75, [4, 5]), (76, []), (77, []), (78, []), (79, []), (80, []), (81, [])], 11)
def klu_261 : List en_Cu := []
/-! X11_left -/
def klc_262 : en_Ct := (69, [(2, 0, 0), (0, -2147483648, 2147483647), (0, -2147483648, 2147483647), (0, -2147483648, 2147483647), (0, -2147483648, 2147483647)], [], (0, -1, 6), [(0, [12, 13]), (37, [1]), (41, []), (42, []), (43, []), (44, []), (98, [8, 9]), (103, [5])], 2)
def klu_262 : List en_Cu := []
/-! X11_more -/
def klc_263 : en_Ct := (70, [(2, 0, 0), (0, -2147483648, 2147483647), (0, -2147483648, 2147483647)], [], (0, -2147483648, 2147483647), [], 0)
def klu_263 : List en_Cu := []
/-! X11_move -/
def klc_264 : en_Ct := (71, [(2, 0, 0)], [], (0, -3, 4), [(0, [12]), (46, []), (47, []), (74, [4, 5, 6, 7, 8, 10, 11, 12, 13, 14, 15]), (75, [4, 5]), (76, []), (77, []), (78, []), (79, []), (80, []), (81, [])], 7)
def klu_264 : List en_Cu := [(5, [(2, 0, 0), (0, -1, 4), (0, -2147483648, 2147483647), (0, 0, 5)], [], [], 11, [0, 0, 0, -2])]
/-! X11_next -/
def klc_265 : en_Ct := (72, [(2, 0, 0), (0, -2147483648, 2147483647), (0, -2147483648, 2147483647)], [], (0, 0, 1), [(39, []), (98, [9])], 1)
def klu_265 : List en_Cu := []
/-! X11_pick -/
def klc_266 : en_Ct := (73, [(2, 0, 0)], [], (0, -1, 2000), [], 0)
def klu_266 : List en_Cu := []
/-! X11_place -/
def klc_267 : en_Ct := (74, [(2, 0, 0), (0, -2147483648, 2147483647)], [], (0, -3, 6), [(0, [12]), (46, []), (47, []), (74, [4, 5, 6, 7, 8, 10, 11, 12, 13, 14, 15]), (75, [4, 5]), (76, []), (77, []), (78, []), (79, []), (80, []), (81, []), (103, [5]), (104, []), (105, []), (106, [])], 12)
def klu_267 : List en_Cu := []
/-! X11_plan -/
def klc_268 : en_Ct := (76, [(2, 0, 0)], [], (0, -2147483648, 2147483647), [(90, [4, 5, 6, 7, 8, 10, 11, 12, 13, 14, 15, 16, 17]), (91, [4, 5]), (92, []), (93, []), (94, []), (95, []), (96, []), (97, []), (98, [4, 5, 8, 10]), (99, []), (100, []), (101, [])], 8)
def klu_268 : List en_Cu := []
/-! X11_price -/
def klc_269 : en_Ct := (78, [(2, 0, 0), (0, -2147483648, 2147483647)], [], (0, -3, 1023), [(90, [4, 5, 6, 7, 8, 10, 11, 12, 13, 14, 15, 16, 17]), (91, [4, 5]), (92, []), (93, []), (94, []), (95, []), (96, []), (97, []), (98, [4, 5, 8, 10]), (99, []), (100, []), (101, [])], 8)
def klu_269 : List en_Cu := []
/-! X11_quarrel -/
def klc_270 : en_Ct := (79, [(2, 0, 0)], [], (0, -3, 252), [(90, [4, 5, 6, 7, 8, 10, 11, 12, 13, 14, 15, 16, 17]), (91, [4, 5]), (92, []), (93, []), (94, []), (95, []), (96, []), (97, []), (98, [4, 5, 8, 10]), (99, []), (100, []), (101, [])], 8)
def klu_270 : List en_Cu := []
/-! X11_quarrels -/
def klc_271 : en_Ct := (80, [(2, 0, 0)], [], (0, 0, 5), [(0, [9, 10, 11, 12, 13]), (2, [5, 6, 7, 8, 9, 10, 11]), (3, [3]), (4, []), (5, []), (7, [1, 2, 3]), (8, []), (10, []), (11, []), (12, [0, 1, 2, 3, 4, 5, 6]), (13, []), (14, []), (15, []), (17, []), (18, []), (19, []), (20, []), (21, []), (22, []), (23, []), (25, []), (26, []), (27, []), (28, []), (30, []), (31, []), (32, []), (33, []), (34, []), (35, []), (36, []), (37, [0, 1]), (38, []), (39, []), (49, [0, 1, 2, 3, 4, 5, 6]), (50, []), (51, []), (52, []), (54, []), (55, []), (56, []), (57, []), (58, []), (59, []), (60, []), (62, []), (63, []), (64, []), (65, []), (67, []), (68, []), (69, []), (70, []), (71, []), (72, []), (73, []), (98, [8, 9]), (103, [5])], 7)
def klu_271 : List en_Cu := []
/-! X11_read -/
def klc_272 : en_Ct := (81, [(2, 0, 0)], [], (0, -2, 55), [(90, [4, 5, 6, 7, 8, 10, 11, 12]), (91, [4, 5]), (92, []), (93, []), (94, []), (95, []), (96, []), (98, [7, 9, 11]), (102, [])], 8)
def klu_272 : List en_Cu := []
/-! X11_ring -/
def klc_273 : en_Ct := (82, [(2, 0, 0), (0, -2147483648, 2147483647)], [], (0, -1, 144), [(90, [4, 5, 6, 7, 8, 10, 11, 12]), (91, [4, 5]), (92, []), (93, []), (94, []), (95, []), (96, []), (98, [7, 9, 11]), (102, [])], 8)
def klu_273 : List en_Cu := []
/-! X11_ringAt -/
def klc_274 : en_Ct := (83, [(2, 0, 0), (0, -2147483648, 2147483647), (0, -2147483648, 2147483647)], [], (0, 0, 1), [(38, [])], 1)
def klu_274 : List en_Cu := []
/-! X11_set -/
def klc_275 : en_Ct := (84, [(2, 0, 0)], [], (0, -2147483648, 2147483647), [(0, [12]), (46, []), (47, []), (74, [4, 5, 6, 7, 8, 10, 11, 12, 13, 14, 15]), (75, [4, 5]), (76, []), (77, []), (78, []), (79, []), (80, []), (81, [])], 8)
def klu_275 : List en_Cu := [(3, [(2, 0, 0), (0, -2147483648, 2147483647), (0, 0, 2147483647)], [], [], 4294967295, [0, 0, -2])]
/-! X11_setWays -/
def klc_276 : en_Ct := (85, [(2, 0, 0), (0, -2147483648, 2147483647), (0, -2147483648, 2147483647), (0, 0, 1)], [], (0, -2147483648, 2147483647), [(0, [12]), (46, []), (47, []), (74, [4, 5, 6, 7, 8, 10, 11, 12, 13, 14, 15]), (75, [4, 5]), (76, []), (77, []), (78, []), (79, []), (80, []), (81, [])], 8)
def klu_276 : List en_Cu := []
/-! X11_slack -/
def klc_277 : en_Ct := (87, [(2, 0, 0)], [], (0, 0, 1), [(90, [4, 5, 6, 7, 8, 10, 11, 12]), (91, [4, 5]), (92, []), (93, []), (94, []), (95, []), (96, []), (98, [7, 9, 11]), (102, [])], 8)
def klu_277 : List en_Cu := []
/-! X11_stands -/
def klc_278 : en_Ct := (88, [(2, 0, 0), (0, -2147483648, 2147483647), (0, -2147483648, 2147483647)], [], (0, -2147483648, 2147483647), [(0, [12]), (46, []), (47, []), (74, [4, 5, 6, 7, 8, 10, 11, 12, 13, 14, 15]), (75, [4, 5]), (76, []), (77, []), (78, []), (79, []), (80, []), (81, [])], 7)
def klu_278 : List en_Cu := []
/-! X11_tried -/
def klc_279 : en_Ct := (90, [(2, 0, 0), (0, -2147483648, 2147483647), (0, -2147483648, 2147483647)], [], (0, -2147483648, 2147483647), [], 1)
def klu_279 : List en_Cu := []
/-! X11_walk -/
def klc_280 : en_Ct := (91, [(2, 0, 0)], [], (0, -2147483648, 2147483647), [(0, [12]), (46, []), (47, []), (74, [4, 5, 6, 7, 8, 10, 11, 12, 13, 14, 15]), (75, [4, 5]), (76, []), (77, []), (78, []), (79, []), (80, []), (81, [])], 7)
def klu_280 : List en_Cu := []
/-! X11_ways -/
end

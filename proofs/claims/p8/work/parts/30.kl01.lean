/-! methods checked by the engine -/
def klc_43 : en_Ct := (14, [(2, 12, 0), (0, 0, 1)], [], (9, 0, 0), [(12, [3, 6]), (22, []), (23, [])], 0)
def klu_43 : List en_Cu := []
/-! X10_addSaying -/
theorem klh_43 {Sc : sm_C} : en_hold kl_tb klX sm_P Sc klc_43 := en_chk_ok klX_ok (T := []) (cuts := klu_43) (fun _ h => absurd h List.not_mem_nil) (by decide +kernel)
def klc_44 : en_Ct := (14, [(2, 49, 0), (0, 0, 1)], [], (9, 0, 0), [(49, [3, 6]), (59, []), (60, [])], 0)
def klu_44 : List en_Cu := []
/-! X10_addSaying -/
theorem klh_44 {Sc : sm_C} : en_hold kl_tb klX sm_P Sc klc_44 := en_chk_ok klX_ok (T := []) (cuts := klu_44) (fun _ h => absurd h List.not_mem_nil) (by decide +kernel)
def klc_45 : en_Ct := (15, [(2, 12, 0)], [], (0, 0, 1023), [], 0)
def klu_45 : List en_Cu := []
/-! X10_allBits -/
theorem klh_45 {Sc : sm_C} : en_hold kl_tb klX sm_P Sc klc_45 := en_chk_ok klX_ok (T := []) (cuts := klu_45) (fun _ h => absurd h List.not_mem_nil) (by decide +kernel)
def klc_46 : en_Ct := (15, [(2, 49, 0)], [], (0, 0, 1023), [], 0)
def klu_46 : List en_Cu := []
/-! X10_allBits -/
theorem klh_46 {Sc : sm_C} : en_hold kl_tb klX sm_P Sc klc_46 := en_chk_ok klX_ok (T := []) (cuts := klu_46) (fun _ h => absurd h List.not_mem_nil) (by decide +kernel)
def klc_47 : en_Ct := (306, [(2, 13, 0), (0, -2, -2)], [], (9, 0, 0), [(13, [])], 0)
def klu_47 : List en_Cu := [(1, [(2, 13, 0), (0, -2, -2), (0, 0, 36), (0, 36, 36)], [], [], 73, [0, 0, -2, 0])]
/-! J7_fill_53178 -/
theorem klh_47 {Sc : sm_C} : en_hold kl_tb klX sm_P Sc klc_47 := en_chk_ok klX_ok (T := []) (cuts := klu_47) (fun _ h => absurd h List.not_mem_nil) (by decide +kernel)
def klc_48 : en_Ct := (306, [(2, 14, 0), (0, -1, -1)], [], (9, 0, 0), [(14, [])], 0)
def klu_48 : List en_Cu := [(1, [(2, 14, 0), (0, -1, -1), (0, 0, 10), (0, 10, 10)], [], [], 21, [0, 0, -2, 0])]
/-! J7_fill_53178 -/
theorem klh_48 {Sc : sm_C} : en_hold kl_tb klX sm_P Sc klc_48 := en_chk_ok klX_ok (T := []) (cuts := klu_48) (fun _ h => absurd h List.not_mem_nil) (by decide +kernel)
def klc_49 : en_Ct := (306, [(2, 15, 0), (0, -1, -1)], [], (9, 0, 0), [(15, [])], 0)
def klu_49 : List en_Cu := [(1, [(2, 15, 0), (0, -1, -1), (0, 0, 10), (0, 10, 10)], [], [], 21, [0, 0, -2, 0])]
/-! J7_fill_53178 -/
theorem klh_49 {Sc : sm_C} : en_hold kl_tb klX sm_P Sc klc_49 := en_chk_ok klX_ok (T := []) (cuts := klu_49) (fun _ h => absurd h List.not_mem_nil) (by decide +kernel)
def klc_50 : en_Ct := (306, [(2, 18, 0), (0, -1, -1)], [], (9, 0, 0), [(18, [])], 0)
def klu_50 : List en_Cu := [(1, [(2, 18, 0), (0, -1, -1), (0, 0, 10), (0, 10, 10)], [], [], 21, [0, 0, -2, 0])]
/-! J7_fill_53178 -/
theorem klh_50 {Sc : sm_C} : en_hold kl_tb klX sm_P Sc klc_50 := en_chk_ok klX_ok (T := []) (cuts := klu_50) (fun _ h => absurd h List.not_mem_nil) (by decide +kernel)
def klc_51 : en_Ct := (306, [(2, 21, 0), (0, 1, 1)], [], (9, 0, 0), [(21, [])], 0)
def klu_51 : List en_Cu := [(1, [(2, 21, 0), (0, 1, 1), (0, 0, 10), (0, 10, 10)], [], [], 21, [0, 0, -2, 0])]
/-! J7_fill_53178 -/
theorem klh_51 {Sc : sm_C} : en_hold kl_tb klX sm_P Sc klc_51 := en_chk_ok klX_ok (T := []) (cuts := klu_51) (fun _ h => absurd h List.not_mem_nil) (by decide +kernel)
def klc_52 : en_Ct := (306, [(2, 22, 0), (0, 0, 0)], [], (9, 0, 0), [(22, [])], 0)
def klu_52 : List en_Cu := [(1, [(2, 22, 0), (0, 0, 0), (0, 0, 10), (0, 10, 10)], [], [], 21, [0, 0, -2, 0])]
/-! J7_fill_53178 -/
theorem klh_52 {Sc : sm_C} : en_hold kl_tb klX sm_P Sc klc_52 := en_chk_ok klX_ok (T := []) (cuts := klu_52) (fun _ h => absurd h List.not_mem_nil) (by decide +kernel)
def klc_53 : en_Ct := (306, [(2, 23, 0), (0, 0, 0)], [], (9, 0, 0), [(23, [])], 0)
def klu_53 : List en_Cu := [(1, [(2, 23, 0), (0, 0, 0), (0, 0, 40), (0, 40, 40)], [], [], 81, [0, 0, -2, 0])]
/-! J7_fill_53178 -/
theorem klh_53 {Sc : sm_C} : en_hold kl_tb klX sm_P Sc klc_53 := en_chk_ok klX_ok (T := []) (cuts := klu_53) (fun _ h => absurd h List.not_mem_nil) (by decide +kernel)
def klc_54 : en_Ct := (16, [(2, 12, 0)], [], (9, 0, 0), [(12, [0, 1, 2, 3, 4, 5, 6]), (13, []), (14, []), (15, []), (18, []), (21, []), (22, []), (23, [])], 1)
def klu_54 : List en_Cu := [(1, [(2, 12, 0), (0, 0, 6)], [], [], 13, [0, -2])]
/-! X10_clear -/
theorem klh_54 {Sc : sm_C} : en_hold kl_tb klX sm_P Sc klc_54 := en_chk_ok klX_ok (T := [klc_47, klc_48, klc_49, klc_50, klc_51, klc_52, klc_53]) (cuts := klu_54) (List.forall_mem_cons.mpr ⟨klh_47, List.forall_mem_cons.mpr ⟨klh_48, List.forall_mem_cons.mpr ⟨klh_49, List.forall_mem_cons.mpr ⟨klh_50, List.forall_mem_cons.mpr ⟨klh_51, List.forall_mem_cons.mpr ⟨klh_52, List.forall_mem_cons.mpr ⟨klh_53, fun _ h => absurd h List.not_mem_nil⟩⟩⟩⟩⟩⟩⟩) (by decide +kernel)
def klc_55 : en_Ct := (306, [(2, 50, 0), (0, -2, -2)], [], (9, 0, 0), [(50, [])], 0)
def klu_55 : List en_Cu := [(1, [(2, 50, 0), (0, -2, -2), (0, 0, 36), (0, 36, 36)], [], [], 73, [0, 0, -2, 0])]
/-! J7_fill_53178 -/
theorem klh_55 {Sc : sm_C} : en_hold kl_tb klX sm_P Sc klc_55 := en_chk_ok klX_ok (T := []) (cuts := klu_55) (fun _ h => absurd h List.not_mem_nil) (by decide +kernel)
def klc_56 : en_Ct := (306, [(2, 51, 0), (0, -1, -1)], [], (9, 0, 0), [(51, [])], 0)
def klu_56 : List en_Cu := [(1, [(2, 51, 0), (0, -1, -1), (0, 0, 10), (0, 10, 10)], [], [], 21, [0, 0, -2, 0])]
/-! J7_fill_53178 -/
theorem klh_56 {Sc : sm_C} : en_hold kl_tb klX sm_P Sc klc_56 := en_chk_ok klX_ok (T := []) (cuts := klu_56) (fun _ h => absurd h List.not_mem_nil) (by decide +kernel)
def klc_57 : en_Ct := (306, [(2, 52, 0), (0, -1, -1)], [], (9, 0, 0), [(52, [])], 0)
def klu_57 : List en_Cu := [(1, [(2, 52, 0), (0, -1, -1), (0, 0, 10), (0, 10, 10)], [], [], 21, [0, 0, -2, 0])]
/-! J7_fill_53178 -/
theorem klh_57 {Sc : sm_C} : en_hold kl_tb klX sm_P Sc klc_57 := en_chk_ok klX_ok (T := []) (cuts := klu_57) (fun _ h => absurd h List.not_mem_nil) (by decide +kernel)
def klc_58 : en_Ct := (306, [(2, 55, 0), (0, -1, -1)], [], (9, 0, 0), [(55, [])], 0)
def klu_58 : List en_Cu := [(1, [(2, 55, 0), (0, -1, -1), (0, 0, 10), (0, 10, 10)], [], [], 21, [0, 0, -2, 0])]
/-! J7_fill_53178 -/
theorem klh_58 {Sc : sm_C} : en_hold kl_tb klX sm_P Sc klc_58 := en_chk_ok klX_ok (T := []) (cuts := klu_58) (fun _ h => absurd h List.not_mem_nil) (by decide +kernel)
def klc_59 : en_Ct := (306, [(2, 58, 0), (0, 1, 1)], [], (9, 0, 0), [(58, [])], 0)
def klu_59 : List en_Cu := [(1, [(2, 58, 0), (0, 1, 1), (0, 0, 10), (0, 10, 10)], [], [], 21, [0, 0, -2, 0])]
/-! J7_fill_53178 -/
theorem klh_59 {Sc : sm_C} : en_hold kl_tb klX sm_P Sc klc_59 := en_chk_ok klX_ok (T := []) (cuts := klu_59) (fun _ h => absurd h List.not_mem_nil) (by decide +kernel)
def klc_60 : en_Ct := (306, [(2, 59, 0), (0, 0, 0)], [], (9, 0, 0), [(59, [])], 0)
def klu_60 : List en_Cu := [(1, [(2, 59, 0), (0, 0, 0), (0, 0, 10), (0, 10, 10)], [], [], 21, [0, 0, -2, 0])]
/-! J7_fill_53178 -/
theorem klh_60 {Sc : sm_C} : en_hold kl_tb klX sm_P Sc klc_60 := en_chk_ok klX_ok (T := []) (cuts := klu_60) (fun _ h => absurd h List.not_mem_nil) (by decide +kernel)
def klc_61 : en_Ct := (306, [(2, 60, 0), (0, 0, 0)], [], (9, 0, 0), [(60, [])], 0)
def klu_61 : List en_Cu := [(1, [(2, 60, 0), (0, 0, 0), (0, 0, 40), (0, 40, 40)], [], [], 81, [0, 0, -2, 0])]
/-! J7_fill_53178 -/
theorem klh_61 {Sc : sm_C} : en_hold kl_tb klX sm_P Sc klc_61 := en_chk_ok klX_ok (T := []) (cuts := klu_61) (fun _ h => absurd h List.not_mem_nil) (by decide +kernel)
def klc_62 : en_Ct := (16, [(2, 49, 0)], [], (9, 0, 0), [(49, [0, 1, 2, 3, 4, 5, 6]), (50, []), (51, []), (52, []), (55, []), (58, []), (59, []), (60, [])], 1)
def klu_62 : List en_Cu := [(1, [(2, 49, 0), (0, 0, 6)], [], [], 13, [0, -2])]
/-! X10_clear -/
theorem klh_62 {Sc : sm_C} : en_hold kl_tb klX sm_P Sc klc_62 := en_chk_ok klX_ok (T := [klc_55, klc_56, klc_57, klc_58, klc_59, klc_60, klc_61]) (cuts := klu_62) (List.forall_mem_cons.mpr ⟨klh_55, List.forall_mem_cons.mpr ⟨klh_56, List.forall_mem_cons.mpr ⟨klh_57, List.forall_mem_cons.mpr ⟨klh_58, List.forall_mem_cons.mpr ⟨klh_59, List.forall_mem_cons.mpr ⟨klh_60, List.forall_mem_cons.mpr ⟨klh_61, fun _ h => absurd h List.not_mem_nil⟩⟩⟩⟩⟩⟩⟩) (by decide +kernel)
def klc_63 : en_Ct := (27, [(2, 12, 0), (0, -1, 9), (0, -1, 9)], [], (0, -2147483648, 2147483647), [], 0)
def klu_63 : List en_Cu := []
/-! X10_walkBetween -/
theorem klh_63 {Sc : sm_C} : en_hold kl_tb klX sm_P Sc klc_63 := en_chk_ok klX_ok (T := []) (cuts := klu_63) (fun _ h => absurd h List.not_mem_nil) (by decide +kernel)
def klc_64 : en_Ct := (17, [(2, 12, 0)], [], (9, 0, 0), [(12, [5]), (34, []), (35, []), (36, [])], 1)
def klu_64 : List en_Cu := [(1, [(2, 12, 0), (0, 0, 10)], [], [], 241, [0, -22]),
  (3, [(2, 12, 0), (0, 0, 9), (0, 1, 10)], [], [], 241, [0, -22, -2])]
/-! X10_findMoves -/
theorem klh_64 {Sc : sm_C} : en_hold kl_tb klX sm_P Sc klc_64 := en_chk_ok klX_ok (T := [klc_63]) (cuts := klu_64) (List.forall_mem_cons.mpr ⟨klh_63, fun _ h => absurd h List.not_mem_nil⟩) (by decide +kernel)
def klc_65 : en_Ct := (27, [(2, 49, 0), (0, -1, 9), (0, -1, 9)], [], (0, -2147483648, 2147483647), [], 0)
def klu_65 : List en_Cu := []
/-! X10_walkBetween -/
theorem klh_65 {Sc : sm_C} : en_hold kl_tb klX sm_P Sc klc_65 := en_chk_ok klX_ok (T := []) (cuts := klu_65) (fun _ h => absurd h List.not_mem_nil) (by decide +kernel)
def klc_66 : en_Ct := (17, [(2, 49, 0)], [], (9, 0, 0), [(49, [5]), (71, []), (72, []), (73, [])], 1)
def klu_66 : List en_Cu := [(1, [(2, 49, 0), (0, 0, 10)], [], [], 241, [0, -22]),
  (3, [(2, 49, 0), (0, 0, 9), (0, 1, 10)], [], [], 241, [0, -22, -2])]
/-! X10_findMoves -/
theorem klh_66 {Sc : sm_C} : en_hold kl_tb klX sm_P Sc klc_66 := en_chk_ok klX_ok (T := [klc_65]) (cuts := klu_66) (List.forall_mem_cons.mpr ⟨klh_65, fun _ h => absurd h List.not_mem_nil⟩) (by decide +kernel)
def klc_67 : en_Ct := (18, [(2, 12, 0)], [], (9, 0, 0), [(13, [])], 1)
def klu_67 : List en_Cu := [(1, [(2, 12, 0), (0, 0, 6)], [], [], 699, [0, -100]),
  (3, [(2, 12, 0), (0, 0, 5), (0, 0, 6)], [], [], 697, [0, -100, -14]),
  (5, [(2, 12, 0), (0, 0, 5), (0, 0, 5), (0, 0, 5)], [], [], 695, [0, -100, -14, -2])]
/-! X10_findWalks -/
theorem klh_67 {Sc : sm_C} : en_hold kl_tb klX sm_P Sc klc_67 := en_chk_ok klX_ok (T := [klc_41, klc_63]) (cuts := klu_67) (List.forall_mem_cons.mpr ⟨klh_41, List.forall_mem_cons.mpr ⟨klh_63, fun _ h => absurd h List.not_mem_nil⟩⟩) (by decide +kernel)
def klc_68 : en_Ct := (18, [(2, 49, 0)], [], (9, 0, 0), [(50, [])], 1)
def klu_68 : List en_Cu := [(1, [(2, 49, 0), (0, 0, 6)], [], [], 699, [0, -100]),
  (3, [(2, 49, 0), (0, 0, 5), (0, 0, 6)], [], [], 697, [0, -100, -14]),
  (5, [(2, 49, 0), (0, 0, 5), (0, 0, 5), (0, 0, 5)], [], [], 695, [0, -100, -14, -2])]
/-! X10_findWalks -/
theorem klh_68 {Sc : sm_C} : en_hold kl_tb klX sm_P Sc klc_68 := en_chk_ok klX_ok (T := [klc_42, klc_65]) (cuts := klu_68) (List.forall_mem_cons.mpr ⟨klh_42, List.forall_mem_cons.mpr ⟨klh_65, fun _ h => absurd h List.not_mem_nil⟩⟩) (by decide +kernel)
def klc_69 : en_Ct := (2, [(2, 12, 0), (0, 0, 1023)], [], (0, -2147483648, 2147483647), [], 0)
def klu_69 : List en_Cu := [(1, [(2, 12, 0), (0, 0, 1023), (0, -2147483648, 2147483647), (0, 0, 5)], [], [], 11, [0, 0, 0, -2])]
/-! X0_answersOf -/
theorem klh_69 {Sc : sm_C} : en_hold kl_tb klX sm_P Sc klc_69 := en_chk_ok klX_ok (T := []) (cuts := klu_69) (fun _ h => absurd h List.not_mem_nil) (by decide +kernel)
def klc_70 : en_Ct := (2, [(2, 49, 0), (0, 0, 1023)], [], (0, -2147483648, 2147483647), [], 0)
def klu_70 : List en_Cu := [(1, [(2, 49, 0), (0, 0, 1023), (0, -2147483648, 2147483647), (0, 0, 5)], [], [], 11, [0, 0, 0, -2])]
/-! X0_answersOf -/
theorem klh_70 {Sc : sm_C} : en_hold kl_tb klX sm_P Sc klc_70 := en_chk_ok klX_ok (T := []) (cuts := klu_70) (fun _ h => absurd h List.not_mem_nil) (by decide +kernel)
def klc_71 : en_Ct := (89, [(2, 18, 0), (0, 0, 9), (0, -1, -1)], [], (0, -1, 9), [], 0)
def klu_71 : List en_Cu := []
/-! X11_valueAt -/
theorem klh_71 {Sc : sm_C} : en_hold kl_tb klX sm_P Sc klc_71 := en_chk_ok klX_ok (T := []) (cuts := klu_71) (fun _ h => absurd h List.not_mem_nil) (by decide +kernel)
def klc_72 : en_Ct := (21, [(2, 12, 0), (0, 0, 9)], [], (0, 0, 1), [], 1)
def klu_72 : List en_Cu := []
/-! X10_isOpen -/
theorem klh_72 {Sc : sm_C} : en_hold kl_tb klX sm_P Sc klc_72 := en_chk_ok klX_ok (T := [klc_71]) (cuts := klu_72) (List.forall_mem_cons.mpr ⟨klh_71, fun _ h => absurd h List.not_mem_nil⟩) (by decide +kernel)
def klc_73 : en_Ct := (89, [(2, 55, 0), (0, 0, 9), (0, -1, -1)], [], (0, -1, 9), [], 0)
def klu_73 : List en_Cu := []
/-! X11_valueAt -/
theorem klh_73 {Sc : sm_C} : en_hold kl_tb klX sm_P Sc klc_73 := en_chk_ok klX_ok (T := []) (cuts := klu_73) (fun _ h => absurd h List.not_mem_nil) (by decide +kernel)
def klc_74 : en_Ct := (21, [(2, 49, 0), (0, 0, 9)], [], (0, 0, 1), [], 1)
def klu_74 : List en_Cu := []
/-! X10_isOpen -/
theorem klh_74 {Sc : sm_C} : en_hold kl_tb klX sm_P Sc klc_74 := en_chk_ok klX_ok (T := [klc_73]) (cuts := klu_74) (List.forall_mem_cons.mpr ⟨klh_73, fun _ h => absurd h List.not_mem_nil⟩) (by decide +kernel)
def klc_75 : en_Ct := (214, [(2, 45, 0), (0, -2147483648, 2147483647), (0, 0, 144), (0, -2147483648, 3), (0, 0, 1)], [], (9, 0, 0), [(46, [])], 0)
def klu_75 : List en_Cu := []
/-! X1_addTry -/
theorem klh_75 {Sc : sm_C} : en_hold kl_tb klX sm_P Sc klc_75 := en_chk_ok klX_ok (T := []) (cuts := klu_75) (fun _ h => absurd h List.not_mem_nil) (by decide +kernel)
def klc_76 : en_Ct := (215, [(2, 45, 0), (0, -2147483648, 2147483647), (2, 80, 0), (2, 81, 0), (0, 0, 60)], [], (9, 0, 0), [(47, [])], 0)
def klu_76 : List en_Cu := [(4, [(2, 45, 0), (0, 0, 999), (2, 80, 0), (2, 81, 0), (0, 0, 60), (0, 0, 60)], [], [], 121, [0, 0, 0, 0, 0, -2])]
/-! X1_addWay -/
theorem klh_76 {Sc : sm_C} : en_hold kl_tb klX sm_P Sc klc_76 := en_chk_ok klX_ok (T := []) (cuts := klu_76) (fun _ h => absurd h List.not_mem_nil) (by decide +kernel)
def klc_77 : en_Ct := (89, [(2, 46, 0), (0, 0, 999), (0, 0, 0)], [], (0, -2147483648, 2147483647), [], 0)
def klu_77 : List en_Cu := []
/-! X11_valueAt -/
theorem klh_77 {Sc : sm_C} : en_hold kl_tb klX sm_P Sc klc_77 := en_chk_ok klX_ok (T := []) (cuts := klu_77) (fun _ h => absurd h List.not_mem_nil) (by decide +kernel)
def klc_78 : en_Ct := (218, [(2, 45, 0), (0, 0, 999), (0, -2147483648, 2147483647)], [], (0, -2147483648, 2147483647), [], 1)
def klu_78 : List en_Cu := []
/-! X1_tryOf -/
theorem klh_78 {Sc : sm_C} : en_hold kl_tb klX sm_P Sc klc_78 := en_chk_ok klX_ok (T := [klc_77]) (cuts := klu_78) (List.forall_mem_cons.mpr ⟨klh_77, fun _ h => absurd h List.not_mem_nil⟩) (by decide +kernel)
def klc_79 : en_Ct := (219, [(2, 74, 0), (0, 0, 144)], [], (9, 0, 0), [(74, [11]), (80, [])], 0)
def klu_79 : List en_Cu := []
/-! X2_addItem -/
theorem klh_79 {Sc : sm_C} : en_hold kl_tb klX sm_P Sc klc_79 := en_chk_ok klX_ok (T := []) (cuts := klu_79) (fun _ h => absurd h List.not_mem_nil) (by decide +kernel)
def klc_80 : en_Ct := (219, [(2, 82, 0), (0, 0, 144)], [], (9, 0, 0), [(82, [11]), (88, [])], 0)
def klu_80 : List en_Cu := []
/-! X2_addItem -/
theorem klh_80 {Sc : sm_C} : en_hold kl_tb klX sm_P Sc klc_80 := en_chk_ok klX_ok (T := []) (cuts := klu_80) (fun _ h => absurd h List.not_mem_nil) (by decide +kernel)
def klc_81 : en_Ct := (219, [(2, 90, 0), (0, 0, 240)], [], (9, 0, 0), [(90, [11]), (96, [])], 0)
def klu_81 : List en_Cu := []
/-! X2_addItem -/
theorem klh_81 {Sc : sm_C} : en_hold kl_tb klX sm_P Sc klc_81 := en_chk_ok klX_ok (T := []) (cuts := klu_81) (fun _ h => absurd h List.not_mem_nil) (by decide +kernel)
def klc_82 : en_Ct := (89, [(2, 22, 0), (0, -1, 100), (0, 0, 0)], [], (0, 0, 4), [], 0)
def klu_82 : List en_Cu := []
/-! X11_valueAt -/
theorem klh_82 {Sc : sm_C} : en_hold kl_tb klX sm_P Sc klc_82 := en_chk_ok klX_ok (T := []) (cuts := klu_82) (fun _ h => absurd h List.not_mem_nil) (by decide +kernel)

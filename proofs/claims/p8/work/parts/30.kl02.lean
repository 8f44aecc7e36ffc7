/-! methods checked by the engine -/
def klc_83 : en_Ct := (22, [(2, 12, 0)], [], (0, -2147483648, 2147483647), [], 1)
def klu_83 : List en_Cu := []
/-! X10_lastSpan -/
theorem klh_83 {Sc : sm_C} : en_hold kl_tb klX sm_P Sc klc_83 := en_chk_ok klX_ok (T := [klc_6, klc_8, klc_82]) (cuts := klu_83) (List.forall_mem_cons.mpr ⟨klh_6, List.forall_mem_cons.mpr ⟨klh_8, List.forall_mem_cons.mpr ⟨klh_82, fun _ h => absurd h List.not_mem_nil⟩⟩⟩) (by decide +kernel)
def klc_84 : en_Ct := (89, [(2, 59, 0), (0, -1, 100), (0, 0, 0)], [], (0, 0, 4), [], 0)
def klu_84 : List en_Cu := []
/-! X11_valueAt -/
theorem klh_84 {Sc : sm_C} : en_hold kl_tb klX sm_P Sc klc_84 := en_chk_ok klX_ok (T := []) (cuts := klu_84) (fun _ h => absurd h List.not_mem_nil) (by decide +kernel)
def klc_85 : en_Ct := (22, [(2, 49, 0)], [], (0, -2147483648, 2147483647), [], 1)
def klu_85 : List en_Cu := []
/-! X10_lastSpan -/
theorem klh_85 {Sc : sm_C} : en_hold kl_tb klX sm_P Sc klc_85 := en_chk_ok klX_ok (T := [klc_7, klc_9, klc_84]) (cuts := klu_85) (List.forall_mem_cons.mpr ⟨klh_7, List.forall_mem_cons.mpr ⟨klh_9, List.forall_mem_cons.mpr ⟨klh_84, fun _ h => absurd h List.not_mem_nil⟩⟩⟩) (by decide +kernel)
def klc_87 : en_Ct := (230, [(2, 74, 0), (0, 0, 0)], [], (9, 0, 0), [(74, [6, 12]), (75, [4, 5]), (76, []), (77, []), (78, []), (79, [])], 4)
def klu_87 : List en_Cu := [(1, [(2, 74, 0), (2, 16, 0), (0, 0, 10)], [], [], 35, [0, 0, -2]),
  (1, [(2, 74, 0), (2, 53, 0), (0, 0, 10)], [], [], 35, [0, 0, -2]),
  (17, [(2, 74, 0), (2, 40, 0), (0, 0, 6)], [], [], 13, [0, 0, -2])]
/-! X2_layBase -/
theorem klh_87 {Sc : sm_C} : en_hold kl_tb klX sm_P Sc klc_87 := en_chk_ok klX_ok (T := [klc_1, klc_86]) (cuts := klu_87) (List.forall_mem_cons.mpr ⟨klh_1, List.forall_mem_cons.mpr ⟨klh_86, fun _ h => absurd h List.not_mem_nil⟩⟩) (by decide +kernel)
def klc_88 : en_Ct := (220, [(2, 74, 0), (2, 12, 0), (2, 37, 0), (0, 0, 1023), (0, 0, 0)], [], (9, 0, 0), [(74, [4, 5, 6, 7, 8, 10, 11, 12]), (75, [4, 5]), (76, []), (77, []), (78, []), (79, []), (80, [])], 5)
def klu_88 : List en_Cu := [(4, [(2, 74, 0), (0, 0, 1023), (0, 0, 10)], [], [], 113, [0, 0, -2]),
  (9, [(2, 74, 0), (0, 0, 45)], [], [], 91, [0, -2])]
/-! X2_begin -/
theorem klh_88 {Sc : sm_C} : en_hold kl_tb klX sm_P Sc klc_88 := en_chk_ok klX_ok (T := [klc_79, klc_87]) (cuts := klu_88) (List.forall_mem_cons.mpr ⟨klh_79, List.forall_mem_cons.mpr ⟨klh_87, fun _ h => absurd h List.not_mem_nil⟩⟩) (by decide +kernel)
def klc_89 : en_Ct := (220, [(2, 74, 0), (2, 49, 0), (2, 37, 0), (0, 0, 1023), (0, 0, 0)], [], (9, 0, 0), [(74, [4, 5, 6, 7, 8, 10, 11, 12]), (75, [4, 5]), (76, []), (77, []), (78, []), (79, []), (80, [])], 5)
def klu_89 : List en_Cu := [(4, [(2, 74, 0), (0, 0, 1023), (0, 0, 10)], [], [], 113, [0, 0, -2]),
  (9, [(2, 74, 0), (0, 0, 45)], [], [], 91, [0, -2])]
/-! X2_begin -/
theorem klh_89 {Sc : sm_C} : en_hold kl_tb klX sm_P Sc klc_89 := en_chk_ok klX_ok (T := [klc_79, klc_87]) (cuts := klu_89) (List.forall_mem_cons.mpr ⟨klh_79, List.forall_mem_cons.mpr ⟨klh_87, fun _ h => absurd h List.not_mem_nil⟩⟩) (by decide +kernel)
def klc_91 : en_Ct := (221, [(2, 82, 0), (0, 0, 55), (0, 0, 9), (0, -1, 9), (0, -2147483648, 2147483647), (0, -2147483648, 2147483647)], [], (0, 0, 1), [(84, [])], 3)
def klu_91 : List en_Cu := []
/-! X2_bind -/
theorem klh_91 {Sc : sm_C} : en_hold kl_tb klX sm_P Sc klc_91 := en_chk_ok klX_ok (T := [klc_90]) (cuts := klu_91) (List.forall_mem_cons.mpr ⟨klh_90, fun _ h => absurd h List.not_mem_nil⟩) (by decide +kernel)
def klc_94 : en_Ct := (230, [(2, 82, 0), (0, 0, 0)], [], (9, 0, 0), [(82, [6, 12]), (83, [4, 5]), (84, []), (85, []), (86, []), (87, [])], 4)
def klu_94 : List en_Cu := [(1, [(2, 82, 0), (2, 16, 0), (0, 0, 10)], [], [], 35, [0, 0, -2]),
  (1, [(2, 82, 0), (2, 53, 0), (0, 0, 10)], [], [], 35, [0, 0, -2]),
  (17, [(2, 82, 0), (2, 40, 0), (0, 0, 6)], [], [], 13, [0, 0, -2])]
/-! X2_layBase -/
theorem klh_94 {Sc : sm_C} : en_hold kl_tb klX sm_P Sc klc_94 := en_chk_ok klX_ok (T := [klc_91, klc_92, klc_93]) (cuts := klu_94) (List.forall_mem_cons.mpr ⟨klh_91, List.forall_mem_cons.mpr ⟨klh_92, List.forall_mem_cons.mpr ⟨klh_93, fun _ h => absurd h List.not_mem_nil⟩⟩⟩) (by decide +kernel)
def klc_95 : en_Ct := (220, [(2, 82, 0), (2, 12, 0), (2, 37, 0), (0, 0, 1023), (0, 0, 0)], [], (9, 0, 0), [(82, [4, 5, 6, 7, 8, 10, 11, 12]), (83, [4, 5]), (84, []), (85, []), (86, []), (87, []), (88, [])], 5)
def klu_95 : List en_Cu := [(4, [(2, 82, 0), (0, 0, 1023), (0, 0, 10)], [], [], 113, [0, 0, -2]),
  (9, [(2, 82, 0), (0, 0, 45)], [], [], 91, [0, -2])]
/-! X2_begin -/
theorem klh_95 {Sc : sm_C} : en_hold kl_tb klX sm_P Sc klc_95 := en_chk_ok klX_ok (T := [klc_80, klc_94]) (cuts := klu_95) (List.forall_mem_cons.mpr ⟨klh_80, List.forall_mem_cons.mpr ⟨klh_94, fun _ h => absurd h List.not_mem_nil⟩⟩) (by decide +kernel)
def klc_96 : en_Ct := (220, [(2, 82, 0), (2, 49, 0), (2, 37, 0), (0, 0, 1023), (0, 0, 0)], [], (9, 0, 0), [(82, [4, 5, 6, 7, 8, 10, 11, 12]), (83, [4, 5]), (84, []), (85, []), (86, []), (87, []), (88, [])], 5)
def klu_96 : List en_Cu := [(4, [(2, 82, 0), (0, 0, 1023), (0, 0, 10)], [], [], 113, [0, 0, -2]),
  (9, [(2, 82, 0), (0, 0, 45)], [], [], 91, [0, -2])]
/-! X2_begin -/
theorem klh_96 {Sc : sm_C} : en_hold kl_tb klX sm_P Sc klc_96 := en_chk_ok klX_ok (T := [klc_80, klc_94]) (cuts := klu_96) (List.forall_mem_cons.mpr ⟨klh_80, List.forall_mem_cons.mpr ⟨klh_94, fun _ h => absurd h List.not_mem_nil⟩⟩) (by decide +kernel)
def klc_98 : en_Ct := (221, [(2, 90, 0), (0, 0, 117), (0, 0, 10), (0, -1, 9), (0, -2147483648, 2147483647), (0, -2147483648, 2147483647)], [], (0, 0, 1), [(92, [])], 3)
def klu_98 : List en_Cu := []
/-! X2_bind -/
theorem klh_98 {Sc : sm_C} : en_hold kl_tb klX sm_P Sc klc_98 := en_chk_ok klX_ok (T := [klc_97]) (cuts := klu_98) (List.forall_mem_cons.mpr ⟨klh_97, fun _ h => absurd h List.not_mem_nil⟩) (by decide +kernel)
def klc_100 : en_Ct := (230, [(2, 90, 0), (0, 0, 1)], [], (9, 0, 0), [(90, [6, 12]), (91, [4, 5]), (92, []), (93, []), (94, []), (95, [])], 4)
def klu_100 : List en_Cu := [(1, [(2, 90, 0), (2, 16, 0), (0, 0, 10)], [], [], 35, [0, 0, -2]),
  (1, [(2, 90, 0), (2, 53, 0), (0, 0, 10)], [], [], 35, [0, 0, -2]),
  (17, [(2, 90, 0), (2, 40, 0), (0, 0, 6)], [], [], 13, [0, 0, -2])]
/-! X2_layBase -/
theorem klh_100 {Sc : sm_C} : en_hold kl_tb klX sm_P Sc klc_100 := en_chk_ok klX_ok (T := [klc_98, klc_99]) (cuts := klu_100) (List.forall_mem_cons.mpr ⟨klh_98, List.forall_mem_cons.mpr ⟨klh_99, fun _ h => absurd h List.not_mem_nil⟩⟩) (by decide +kernel)
def klc_101 : en_Ct := (220, [(2, 90, 0), (2, 12, 0), (2, 37, 0), (0, 0, 1023), (0, 0, 1)], [], (9, 0, 0), [(90, [4, 5, 6, 7, 8, 10, 11, 12]), (91, [4, 5]), (92, []), (93, []), (94, []), (95, []), (96, [])], 5)
def klu_101 : List en_Cu := [(4, [(2, 90, 0), (0, 0, 1023), (0, 0, 10)], [], [], 113, [0, 0, -2]),
  (9, [(2, 90, 0), (0, 0, 45)], [], [], 91, [0, -2])]
/-! X2_begin -/
theorem klh_101 {Sc : sm_C} : en_hold kl_tb klX sm_P Sc klc_101 := en_chk_ok klX_ok (T := [klc_81, klc_100]) (cuts := klu_101) (List.forall_mem_cons.mpr ⟨klh_81, List.forall_mem_cons.mpr ⟨klh_100, fun _ h => absurd h List.not_mem_nil⟩⟩) (by decide +kernel)
def klc_102 : en_Ct := (220, [(2, 90, 0), (2, 49, 0), (2, 37, 0), (0, 0, 1023), (0, 0, 1)], [], (9, 0, 0), [(90, [4, 5, 6, 7, 8, 10, 11, 12]), (91, [4, 5]), (92, []), (93, []), (94, []), (95, []), (96, [])], 5)
def klu_102 : List en_Cu := [(4, [(2, 90, 0), (0, 0, 1023), (0, 0, 10)], [], [], 113, [0, 0, -2]),
  (9, [(2, 90, 0), (0, 0, 45)], [], [], 91, [0, -2])]
/-! X2_begin -/
theorem klh_102 {Sc : sm_C} : en_hold kl_tb klX sm_P Sc klc_102 := en_chk_ok klX_ok (T := [klc_81, klc_100]) (cuts := klu_102) (List.forall_mem_cons.mpr ⟨klh_81, List.forall_mem_cons.mpr ⟨klh_100, fun _ h => absurd h List.not_mem_nil⟩⟩) (by decide +kernel)
def klc_103 : en_Ct := (237, [(2, 82, 0), (0, 100, 144)], [], (0, -2147483648, 2147483647), [], 1)
def klu_103 : List en_Cu := []
/-! X2_walkOf -/
theorem klh_103 {Sc : sm_C} : en_hold kl_tb klX sm_P Sc klc_103 := en_chk_ok klX_ok (T := [klc_10, klc_11]) (cuts := klu_103) (List.forall_mem_cons.mpr ⟨klh_10, List.forall_mem_cons.mpr ⟨klh_11, fun _ h => absurd h List.not_mem_nil⟩⟩) (by decide +kernel)
def klc_104 : en_Ct := (235, [(2, 82, 0), (0, 1, 55), (0, 100, 144), (0, -2147483648, 2147483647)], [], (0, 0, 1), [(84, [])], 3)
def klu_104 : List en_Cu := []
/-! X2_pushMove -/
theorem klh_104 {Sc : sm_C} : en_hold kl_tb klX sm_P Sc klc_104 := en_chk_ok klX_ok (T := [klc_103, klc_90, klc_13, klc_14, klc_15, klc_16]) (cuts := klu_104) (List.forall_mem_cons.mpr ⟨klh_103, List.forall_mem_cons.mpr ⟨klh_90, List.forall_mem_cons.mpr ⟨klh_13, List.forall_mem_cons.mpr ⟨klh_14, List.forall_mem_cons.mpr ⟨klh_15, List.forall_mem_cons.mpr ⟨klh_16, fun _ h => absurd h List.not_mem_nil⟩⟩⟩⟩⟩⟩) (by decide +kernel)
def klc_106 : en_Ct := (234, [(2, 82, 0), (0, 0, 54), (0, 0, 144), (0, -2147483648, 2147483647)], [], (0, 0, 1), [(84, [])], 4)
def klu_106 : List en_Cu := [(6, [(2, 82, 0), (0, 0, 54), (2, 24, 0), (0, 0, 0), (0, -2147483648, 120), (0, 0, 2147483647)], [], [], 4294967295, [0, 0, 0, 0, 0, -2]),
  (6, [(2, 82, 0), (0, 0, 54), (2, 61, 0), (0, 0, 0), (0, -2147483648, 120), (0, 0, 2147483647)], [], [], 4294967295, [0, 0, 0, 0, 0, -2])]
/-! X2_push -/
theorem klh_106 {Sc : sm_C} : en_hold kl_tb klX sm_P Sc klc_106 := en_chk_ok klX_ok (T := [klc_6, klc_7, klc_91, klc_8, klc_9, klc_104, klc_105]) (cuts := klu_106) (List.forall_mem_cons.mpr ⟨klh_6, List.forall_mem_cons.mpr ⟨klh_7, List.forall_mem_cons.mpr ⟨klh_91, List.forall_mem_cons.mpr ⟨klh_8, List.forall_mem_cons.mpr ⟨klh_9, List.forall_mem_cons.mpr ⟨klh_104, List.forall_mem_cons.mpr ⟨klh_105, fun _ h => absurd h List.not_mem_nil⟩⟩⟩⟩⟩⟩⟩) (by decide +kernel)
def klc_107 : en_Ct := (222, [(2, 82, 0), (2, 45, 0), (0, -2147483648, 2147483647)], [], (0, 0, 1), [(82, [6]), (84, []), (89, [])], 5)
def klu_107 : List en_Cu := [(1, [(2, 82, 0), (2, 45, 0), (0, -2147483648, 2147483647), (0, 0, 55)], [], [], 111, [0, 0, 0, -2])]
/-! X2_bring -/
theorem klh_107 {Sc : sm_C} : en_hold kl_tb klX sm_P Sc klc_107 := en_chk_ok klX_ok (T := [klc_5, klc_106]) (cuts := klu_107) (List.forall_mem_cons.mpr ⟨klh_5, List.forall_mem_cons.mpr ⟨klh_106, fun _ h => absurd h List.not_mem_nil⟩⟩) (by decide +kernel)
def klc_108 : en_Ct := (223, [(2, 74, 0), (0, 0, 144)], [], (0, 0, 4), [], 2)
def klu_108 : List en_Cu := []
/-! X2_choicesOf -/
theorem klh_108 {Sc : sm_C} : en_hold kl_tb klX sm_P Sc klc_108 := en_chk_ok klX_ok (T := [klc_12, klc_82, klc_84]) (cuts := klu_108) (List.forall_mem_cons.mpr ⟨klh_12, List.forall_mem_cons.mpr ⟨klh_82, List.forall_mem_cons.mpr ⟨klh_84, fun _ h => absurd h List.not_mem_nil⟩⟩⟩) (by decide +kernel)
def klc_109 : en_Ct := (89, [(2, 15, 0), (0, 0, 40), (0, -1, -1)], [], (0, -1, 9), [], 0)
def klu_109 : List en_Cu := []
/-! X11_valueAt -/
theorem klh_109 {Sc : sm_C} : en_hold kl_tb klX sm_P Sc klc_109 := en_chk_ok klX_ok (T := []) (cuts := klu_109) (fun _ h => absurd h List.not_mem_nil) (by decide +kernel)
def klc_110 : en_Ct := (89, [(2, 52, 0), (0, 0, 40), (0, -1, -1)], [], (0, -1, 9), [], 0)
def klu_110 : List en_Cu := []
/-! X11_valueAt -/
theorem klh_110 {Sc : sm_C} : en_hold kl_tb klX sm_P Sc klc_110 := en_chk_ok klX_ok (T := []) (cuts := klu_110) (fun _ h => absurd h List.not_mem_nil) (by decide +kernel)
def klc_111 : en_Ct := (237, [(2, 90, 0), (0, 100, 240)], [], (0, -2147483648, 2147483647), [], 1)
def klu_111 : List en_Cu := []
/-! X2_walkOf -/
theorem klh_111 {Sc : sm_C} : en_hold kl_tb klX sm_P Sc klc_111 := en_chk_ok klX_ok (T := [klc_63, klc_65, klc_109, klc_10, klc_110, klc_11]) (cuts := klu_111) (List.forall_mem_cons.mpr ⟨klh_63, List.forall_mem_cons.mpr ⟨klh_65, List.forall_mem_cons.mpr ⟨klh_109, List.forall_mem_cons.mpr ⟨klh_10, List.forall_mem_cons.mpr ⟨klh_110, List.forall_mem_cons.mpr ⟨klh_11, fun _ h => absurd h List.not_mem_nil⟩⟩⟩⟩⟩⟩) (by decide +kernel)
def klc_112 : en_Ct := (223, [(2, 90, 0), (0, 0, 240)], [], (0, 0, 4), [], 2)
def klu_112 : List en_Cu := []
/-! X2_choicesOf -/
theorem klh_112 {Sc : sm_C} : en_hold kl_tb klX sm_P Sc klc_112 := en_chk_ok klX_ok (T := [klc_111, klc_82, klc_84]) (cuts := klu_112) (List.forall_mem_cons.mpr ⟨klh_111, List.forall_mem_cons.mpr ⟨klh_82, List.forall_mem_cons.mpr ⟨klh_84, fun _ h => absurd h List.not_mem_nil⟩⟩⟩) (by decide +kernel)
def klc_114 : en_Ct := (224, [(2, 82, 0), (0, 0, 55), (0, 0, 9), (0, -1, -1), (0, 0, 0)], [], (0, -2147483648, 2147483647), [], 3)
def klu_114 : List en_Cu := []
/-! X2_distance -/
theorem klh_114 {Sc : sm_C} : en_hold kl_tb klX sm_P Sc klc_114 := en_chk_ok klX_ok (T := [klc_113]) (cuts := klu_114) (List.forall_mem_cons.mpr ⟨klh_113, fun _ h => absurd h List.not_mem_nil⟩) (by decide +kernel)
def klc_115 : en_Ct := (233, [(2, 74, 0), (2, 45, 0)], [], (9, 0, 0), [(47, []), (74, [14])], 1)
def klu_115 : List en_Cu := []
/-! X2_noteWay -/
theorem klh_115 {Sc : sm_C} : en_hold kl_tb klX sm_P Sc klc_115 := en_chk_ok klX_ok (T := [klc_76]) (cuts := klu_115) (List.forall_mem_cons.mpr ⟨klh_76, fun _ h => absurd h List.not_mem_nil⟩) (by decide +kernel)
def klc_116 : en_Ct := (225, [(2, 74, 0), (2, 45, 0), (0, 0, 0)], [], (9, 0, 0), [(46, []), (47, []), (74, [6, 13, 14, 15]), (76, []), (81, [])], 5)
def klu_116 : List en_Cu := [(5, [(2, 74, 0), (2, 45, 0), (0, 0, 0), (0, -1, 59), (0, 0, 2010)], [], [], 4021, [0, 0, 0, 0, -2])]
/-! X2_goThrough -/
theorem klh_116 {Sc : sm_C} : en_hold kl_tb klX sm_P Sc klc_116 := en_chk_ok klX_ok (T := [klc_75, klc_108, klc_115, klc_18]) (cuts := klu_116) (List.forall_mem_cons.mpr ⟨klh_75, List.forall_mem_cons.mpr ⟨klh_108, List.forall_mem_cons.mpr ⟨klh_115, List.forall_mem_cons.mpr ⟨klh_18, fun _ h => absurd h List.not_mem_nil⟩⟩⟩⟩) (by decide +kernel)
def klc_118 : en_Ct := (233, [(2, 90, 0), (1, 0, 0)], [], (9, 0, 0), [(90, [14, 16, 17])], 3)
def klu_118 : List en_Cu := []
/-! X2_noteWay -/
theorem klh_118 {Sc : sm_C} : en_hold kl_tb klX sm_P Sc klc_118 := en_chk_ok klX_ok (T := [klc_117]) (cuts := klu_118) (List.forall_mem_cons.mpr ⟨klh_117, fun _ h => absurd h List.not_mem_nil⟩) (by decide +kernel)
def klc_119 : en_Ct := (235, [(2, 90, 0), (0, 1, 117), (0, 100, 240), (0, -2147483648, 3)], [], (0, 0, 1), [(92, [])], 3)
def klu_119 : List en_Cu := []
/-! X2_pushMove -/
theorem klh_119 {Sc : sm_C} : en_hold kl_tb klX sm_P Sc klc_119 := en_chk_ok klX_ok (T := [klc_111, klc_97, klc_13, klc_14, klc_15, klc_16]) (cuts := klu_119) (List.forall_mem_cons.mpr ⟨klh_111, List.forall_mem_cons.mpr ⟨klh_97, List.forall_mem_cons.mpr ⟨klh_13, List.forall_mem_cons.mpr ⟨klh_14, List.forall_mem_cons.mpr ⟨klh_15, List.forall_mem_cons.mpr ⟨klh_16, fun _ h => absurd h List.not_mem_nil⟩⟩⟩⟩⟩⟩) (by decide +kernel)
def klc_121 : en_Ct := (234, [(2, 90, 0), (0, 0, 100), (0, 0, 240), (0, -2147483648, 3)], [], (0, 0, 1), [(92, [])], 4)
def klu_121 : List en_Cu := [(6, [(2, 90, 0), (0, 0, 100), (2, 24, 0), (0, 0, 1440), (0, -2147483648, 120), (0, 0, 2147483647)], [], [], 4294967295, [0, 0, 0, 0, 0, -2]),
  (6, [(2, 90, 0), (0, 0, 100), (2, 61, 0), (0, 0, 1440), (0, -2147483648, 120), (0, 0, 2147483647)], [], [], 4294967295, [0, 0, 0, 0, 0, -2])]
/-! X2_push -/
theorem klh_121 {Sc : sm_C} : en_hold kl_tb klX sm_P Sc klc_121 := en_chk_ok klX_ok (T := [klc_6, klc_7, klc_98, klc_8, klc_9, klc_119, klc_120]) (cuts := klu_121) (List.forall_mem_cons.mpr ⟨klh_6, List.forall_mem_cons.mpr ⟨klh_7, List.forall_mem_cons.mpr ⟨klh_98, List.forall_mem_cons.mpr ⟨klh_8, List.forall_mem_cons.mpr ⟨klh_9, List.forall_mem_cons.mpr ⟨klh_119, List.forall_mem_cons.mpr ⟨klh_120, fun _ h => absurd h List.not_mem_nil⟩⟩⟩⟩⟩⟩⟩) (by decide +kernel)
def klc_122 : en_Ct := (225, [(2, 90, 0), (1, 0, 0), (0, 0, 1)], [], (9, 0, 0), [(90, [6, 13, 14, 15, 16, 17]), (92, []), (97, [])], 5)
def klu_122 : List en_Cu := [(5, [(2, 90, 0), (1, 0, 0), (0, 0, 1), (0, -1, 64), (0, 0, 2010)], [], [], 4021, [0, 0, 0, 0, -2])]
/-! X2_goThrough -/
theorem klh_122 {Sc : sm_C} : en_hold kl_tb klX sm_P Sc klc_122 := en_chk_ok klX_ok (T := [klc_112, klc_118, klc_121]) (cuts := klu_122) (List.forall_mem_cons.mpr ⟨klh_112, List.forall_mem_cons.mpr ⟨klh_118, List.forall_mem_cons.mpr ⟨klh_121, fun _ h => absurd h List.not_mem_nil⟩⟩⟩) (by decide +kernel)
def klc_123 : en_Ct := (226, [(2, 90, 0), (0, 0, 3), (0, 0, 5), (0, 0, 1440), (0, 0, 1440)], [], (9, 0, 0), [(90, [9, 11, 12, 16, 17]), (92, []), (96, [])], 4)
def klu_123 : List en_Cu := [(5, [(2, 90, 0), (0, 0, 3), (0, 0, 5), (0, 0, 10)], [], [], 21, [0, 0, 0, -2])]
/-! X2_host -/
theorem klh_123 {Sc : sm_C} : en_hold kl_tb klX sm_P Sc klc_123 := en_chk_ok klX_ok (T := [klc_81, klc_98]) (cuts := klu_123) (List.forall_mem_cons.mpr ⟨klh_81, List.forall_mem_cons.mpr ⟨klh_98, fun _ h => absurd h List.not_mem_nil⟩⟩) (by decide +kernel)
def klc_124 : en_Ct := (231, [(2, 74, 0), (0, -3, 60), (0, 0, 9), (0, 0, 1)], [], (0, -2147483648, 2147483647), [], 4)
def klu_124 : List en_Cu := []
/-! X2_minute -/
theorem klh_124 {Sc : sm_C} : en_hold kl_tb klX sm_P Sc klc_124 := en_chk_ok klX_ok (T := [klc_21]) (cuts := klu_124) (List.forall_mem_cons.mpr ⟨klh_21, fun _ h => absurd h List.not_mem_nil⟩) (by decide +kernel)
def klc_125 : en_Ct := (231, [(2, 82, 0), (0, 0, 55), (0, 0, 9), (0, 0, 0)], [], (0, -2147483648, 2147483647), [], 4)
def klu_125 : List en_Cu := []
/-! X2_minute -/
theorem klh_125 {Sc : sm_C} : en_hold kl_tb klX sm_P Sc klc_125 := en_chk_ok klX_ok (T := [klc_114]) (cuts := klu_125) (List.forall_mem_cons.mpr ⟨klh_114, fun _ h => absurd h List.not_mem_nil⟩) (by decide +kernel)
def klc_126 : en_Ct := (232, [(2, 74, 0), (0, -3, 60), (0, 0, 9), (2, 38, 0), (0, 0, 1)], [], (0, -2147483648, 2147483647), [], 5)
def klu_126 : List en_Cu := [(1, [(2, 74, 0), (0, -3, 60), (0, 0, 9), (2, 38, 0), (0, 0, 1), (0, -2147483648, 2147483647), (0, 0, 10)], [], [], 21, [0, 0, 0, 0, 0, 0, -2])]
/-! X2_minuteWith -/
theorem klh_126 {Sc : sm_C} : en_hold kl_tb klX sm_P Sc klc_126 := en_chk_ok klX_ok (T := [klc_21, klc_124]) (cuts := klu_126) (List.forall_mem_cons.mpr ⟨klh_21, List.forall_mem_cons.mpr ⟨klh_124, fun _ h => absurd h List.not_mem_nil⟩⟩) (by decide +kernel)
def klc_127 : en_Ct := (236, [(2, 74, 0), (0, -3, 60), (2, 38, 0)], [], (0, 0, 1), [], 6)
def klu_127 : List en_Cu := [(1, [(2, 74, 0), (0, -3, 60), (2, 38, 0), (0, 0, 10)], [], [], 21, [0, 0, 0, -2])]
/-! X2_takes -/
theorem klh_127 {Sc : sm_C} : en_hold kl_tb klX sm_P Sc klc_127 := en_chk_ok klX_ok (T := [klc_126]) (cuts := klu_127) (List.forall_mem_cons.mpr ⟨klh_126, fun _ h => absurd h List.not_mem_nil⟩) (by decide +kernel)
def klc_128 : en_Ct := (238, [(2, 90, 0), (0, 0, 1023), (0, 0, 1440)], [], (9, 0, 0), [(90, [7, 8])], 0)
def klu_128 : List en_Cu := []
/-! X2_widen -/
theorem klh_128 {Sc : sm_C} : en_hold kl_tb klX sm_P Sc klc_128 := en_chk_ok klX_ok (T := []) (cuts := klu_128) (fun _ h => absurd h List.not_mem_nil) (by decide +kernel)
def klc_129 : en_Ct := (306, [(2, 8, 0), (0, 0, 0)], [], (9, 0, 0), [(8, [])], 0)
def klu_129 : List en_Cu := [(1, [(2, 8, 0), (0, 0, 0), (0, 0, 15), (0, 15, 15)], [], [], 31, [0, 0, -2, 0])]
/-! J7_fill_53178 -/
theorem klh_129 {Sc : sm_C} : en_hold kl_tb klX sm_P Sc klc_129 := en_chk_ok klX_ok (T := []) (cuts := klu_129) (fun _ h => absurd h List.not_mem_nil) (by decide +kernel)
def klc_130 : en_Ct := (239, [(2, 7, 0)], [], (9, 0, 0), [(7, [1]), (8, [])], 1)
def klu_130 : List en_Cu := []
/-! X3_clear -/
theorem klh_130 {Sc : sm_C} : en_hold kl_tb klX sm_P Sc klc_130 := en_chk_ok klX_ok (T := [klc_129]) (cuts := klu_130) (List.forall_mem_cons.mpr ⟨klh_129, fun _ h => absurd h List.not_mem_nil⟩) (by decide +kernel)
def klc_131 : en_Ct := (24, [(2, 12, 0), (2, 14, 0), (0, 0, 9)], [], (9, 0, 0), [(14, [])], 0)
def klu_131 : List en_Cu := []
/-! X10_putLastTime -/
theorem klh_131 {Sc : sm_C} : en_hold kl_tb klX sm_P Sc klc_131 := en_chk_ok klX_ok (T := []) (cuts := klu_131) (fun _ h => absurd h List.not_mem_nil) (by decide +kernel)
def klc_132 : en_Ct := (24, [(2, 12, 0), (2, 15, 0), (0, 0, 9)], [], (9, 0, 0), [(15, [])], 0)
def klu_132 : List en_Cu := []
/-! X10_putLastTime -/
theorem klh_132 {Sc : sm_C} : en_hold kl_tb klX sm_P Sc klc_132 := en_chk_ok klX_ok (T := []) (cuts := klu_132) (fun _ h => absurd h List.not_mem_nil) (by decide +kernel)

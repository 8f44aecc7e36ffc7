/-! methods checked by the engine -/
def klc_173 : en_Ct := (294, [(2, 29, 0), (0, -1, 4), (0, 0, 9), (0, -1, 9)], [], (9, 0, 0), [(30, []), (31, [])], 1)
def klu_173 : List en_Cu := []
/-! X8_put -/
theorem klh_173 {Sc : sm_C} : en_hold kl_tb klX sm_P Sc klc_173 := en_chk_ok klX_ok (T := []) (cuts := klu_173) (fun _ h => absurd h List.not_mem_nil) (by decide +kernel)
def klc_174 : en_Ct := (294, [(2, 61, 0), (0, -2147483648, 2147483647), (0, 0, 9), (0, -1, 9)], [], (9, 0, 0), [(62, []), (63, [])], 1)
def klu_174 : List en_Cu := []
/-! X8_put -/
theorem klh_174 {Sc : sm_C} : en_hold kl_tb klX sm_P Sc klc_174 := en_chk_ok klX_ok (T := []) (cuts := klu_174) (fun _ h => absurd h List.not_mem_nil) (by decide +kernel)
def klc_175 : en_Ct := (294, [(2, 66, 0), (0, -1, 4), (0, 0, 9), (0, -1, 9)], [], (9, 0, 0), [(67, []), (68, [])], 1)
def klu_175 : List en_Cu := []
/-! X8_put -/
theorem klh_175 {Sc : sm_C} : en_hold kl_tb klX sm_P Sc klc_175 := en_chk_ok klX_ok (T := []) (cuts := klu_175) (fun _ h => absurd h List.not_mem_nil) (by decide +kernel)
def klc_176 : en_Ct := (271, [(2, 2, 0), (0, -2147483648, 2147483647)], [], (9, 0, 0), [(25, []), (26, []), (27, []), (28, []), (30, []), (31, []), (32, []), (33, []), (62, []), (63, []), (64, []), (65, []), (67, []), (68, []), (69, []), (70, [])], 2)
def klu_176 : List en_Cu := []
/-! X7_endSpan -/
theorem klh_176 {Sc : sm_C} : en_hold kl_tb klX sm_P Sc klc_176 := en_chk_ok klX_ok (T := [klc_83, klc_85, klc_168, klc_169, klc_170, klc_171, klc_172, klc_173, klc_174, klc_175]) (cuts := klu_176) (List.forall_mem_cons.mpr ⟨klh_83, List.forall_mem_cons.mpr ⟨klh_85, List.forall_mem_cons.mpr ⟨klh_168, List.forall_mem_cons.mpr ⟨klh_169, List.forall_mem_cons.mpr ⟨klh_170, List.forall_mem_cons.mpr ⟨klh_171, List.forall_mem_cons.mpr ⟨klh_172, List.forall_mem_cons.mpr ⟨klh_173, List.forall_mem_cons.mpr ⟨klh_174, List.forall_mem_cons.mpr ⟨klh_175, fun _ h => absurd h List.not_mem_nil⟩⟩⟩⟩⟩⟩⟩⟩⟩⟩) (by decide +kernel)
def klc_177 : en_Ct := (272, [(2, 2, 0), (5, 0, 0), (0, 0, 3)], [], (0, -1, 9), [], 0)
def klu_177 : List en_Cu := [(1, [(2, 2, 0), (5, 0, 0), (0, 0, 3), (0, 0, 35)], [], [], 71, [0, 0, 0, -2])]
/-! X7_find -/
theorem klh_177 {Sc : sm_C} : en_hold kl_tb klX sm_P Sc klc_177 := en_chk_ok klX_ok (T := []) (cuts := klu_177) (fun _ h => absurd h List.not_mem_nil) (by decide +kernel)
def klc_178 : en_Ct := (279, [(2, 2, 0), (0, -1, 30), (0, 0, 21), (0, -2147483648, 2147483647)], [], (0, 0, 0), [(2, [10]), (13, []), (17, []), (18, []), (19, []), (20, []), (25, []), (26, []), (27, []), (28, []), (30, []), (31, []), (32, []), (33, []), (50, []), (54, []), (55, []), (56, []), (57, []), (62, []), (63, []), (64, []), (65, []), (67, []), (68, []), (69, []), (70, [])], 3)
def klu_178 : List en_Cu := []
/-! X7_takeInt -/
theorem klh_178 {Sc : sm_C} : en_hold kl_tb klX sm_P Sc klc_178 := en_chk_ok klX_ok (T := [klc_135, klc_138, klc_167, klc_176]) (cuts := klu_178) (List.forall_mem_cons.mpr ⟨klh_135, List.forall_mem_cons.mpr ⟨klh_138, List.forall_mem_cons.mpr ⟨klh_167, List.forall_mem_cons.mpr ⟨klh_176, fun _ h => absurd h List.not_mem_nil⟩⟩⟩⟩) (by decide +kernel)
def klc_179 : en_Ct := (275, [(2, 2, 0), (0, 0, 21)], [], (0, -1, 9), [(12, [0, 1, 2, 3, 4, 6]), (22, []), (23, []), (49, [0, 1, 2, 3, 4, 6]), (59, []), (60, [])], 1)
def klu_179 : List en_Cu := []
/-! X7_numberNew -/
theorem klh_179 {Sc : sm_C} : en_hold kl_tb klX sm_P Sc klc_179 := en_chk_ok klX_ok (T := [klc_43, klc_44]) (cuts := klu_179) (List.forall_mem_cons.mpr ⟨klh_43, List.forall_mem_cons.mpr ⟨klh_44, fun _ h => absurd h List.not_mem_nil⟩⟩) (by decide +kernel)
def klc_180 : en_Ct := (280, [(2, 2, 0), (5, 0, 0)], [], (0, 0, 3), [(2, [5]), (10, []), (11, []), (12, [0, 1, 2, 3, 4, 6]), (22, []), (23, []), (49, [0, 1, 2, 3, 4, 6]), (59, []), (60, [])], 2)
def klu_180 : List en_Cu := [(1, [(2, 2, 0), (5, 0, 0), (0, 0, 35)], [], [], 71, [0, 0, -2])]
/-! X7_takeNew -/
theorem klh_180 {Sc : sm_C} : en_hold kl_tb klX sm_P Sc klc_180 := en_chk_ok klX_ok (T := [klc_179]) (cuts := klu_180) (List.forall_mem_cons.mpr ⟨klh_179, fun _ h => absurd h List.not_mem_nil⟩) (by decide +kernel)
def klc_181 : en_Ct := (281, [(2, 2, 0), (0, 27, 30), (5, 0, 0)], [], (0, 0, 5), [(2, [8, 9])], 2)
def klu_181 : List en_Cu := [(11, [(2, 2, 0), (0, 0, 10)], [], [], 21, [0, -2])]
/-! X7_takeOpen -/
theorem klh_181 {Sc : sm_C} : en_hold kl_tb klX sm_P Sc klc_181 := en_chk_ok klX_ok (T := [klc_72, klc_74, klc_177]) (cuts := klu_181) (List.forall_mem_cons.mpr ⟨klh_72, List.forall_mem_cons.mpr ⟨klh_74, List.forall_mem_cons.mpr ⟨klh_177, fun _ h => absurd h List.not_mem_nil⟩⟩⟩) (by decide +kernel)
def klc_182 : en_Ct := (282, [(2, 2, 0), (0, 3, 4), (5, 0, 0)], [], (0, 0, 5), [(2, [8, 9])], 1)
def klu_182 : List en_Cu := []
/-! X7_takePath -/
theorem klh_182 {Sc : sm_C} : en_hold kl_tb klX sm_P Sc klc_182 := en_chk_ok klX_ok (T := [klc_177]) (cuts := klu_182) (List.forall_mem_cons.mpr ⟨klh_177, fun _ h => absurd h List.not_mem_nil⟩) (by decide +kernel)
def klc_183 : en_Ct := (283, [(2, 2, 0), (0, 17, 20), (5, 0, 0)], [], (0, 0, 4), [(2, [8, 9])], 1)
def klu_183 : List en_Cu := []
/-! X7_takeSpanTime -/
theorem klh_183 {Sc : sm_C} : en_hold kl_tb klX sm_P Sc klc_183 := en_chk_ok klX_ok (T := [klc_177]) (cuts := klu_183) (List.forall_mem_cons.mpr ⟨klh_177, fun _ h => absurd h List.not_mem_nil⟩) (by decide +kernel)
def klc_184 : en_Ct := (284, [(2, 2, 0), (0, -2147483648, 2147483647)], [], (0, 0, 5), [(21, []), (58, [])], 1)
def klu_184 : List en_Cu := []
/-! X7_takeTrust -/
theorem klh_184 {Sc : sm_C} : en_hold kl_tb klX sm_P Sc klc_184 := en_chk_ok klX_ok (T := [klc_142, klc_143]) (cuts := klu_184) (List.forall_mem_cons.mpr ⟨klh_142, List.forall_mem_cons.mpr ⟨klh_143, fun _ h => absurd h List.not_mem_nil⟩⟩) (by decide +kernel)
def klc_185 : en_Ct := (285, [(2, 2, 0), (0, 8, 10), (5, 0, 0)], [], (0, 0, 4), [(14, []), (15, []), (51, []), (52, [])], 1)
def klu_185 : List en_Cu := []
/-! X7_takeWhere -/
theorem klh_185 {Sc : sm_C} : en_hold kl_tb klX sm_P Sc klc_185 := en_chk_ok klX_ok (T := [klc_131, klc_132, klc_133, klc_134, klc_177]) (cuts := klu_185) (List.forall_mem_cons.mpr ⟨klh_131, List.forall_mem_cons.mpr ⟨klh_132, List.forall_mem_cons.mpr ⟨klh_133, List.forall_mem_cons.mpr ⟨klh_134, List.forall_mem_cons.mpr ⟨klh_177, fun _ h => absurd h List.not_mem_nil⟩⟩⟩⟩⟩) (by decide +kernel)
def klc_186 : en_Ct := (278, [(2, 2, 0), (0, -1, 30), (0, 0, 21), (5, 0, 0)], [], (0, 0, 5), [(2, [5, 7, 8, 9, 10]), (10, []), (11, []), (12, [0, 1, 2, 3, 4, 6]), (13, []), (14, []), (15, []), (17, []), (18, []), (19, []), (20, []), (21, []), (22, []), (23, []), (25, []), (26, []), (27, []), (28, []), (30, []), (31, []), (32, []), (33, []), (49, [0, 1, 2, 3, 4, 6]), (50, []), (51, []), (52, []), (54, []), (55, []), (56, []), (57, []), (58, []), (59, []), (60, []), (62, []), (63, []), (64, []), (65, []), (67, []), (68, []), (69, []), (70, [])], 4)
def klu_186 : List en_Cu := []
/-! X7_take -/
theorem klh_186 {Sc : sm_C} : en_hold kl_tb klX sm_P Sc klc_186 := en_chk_ok klX_ok (T := [klc_39, klc_40, klc_178, klc_180, klc_181, klc_182, klc_183, klc_184, klc_185]) (cuts := klu_186) (List.forall_mem_cons.mpr ⟨klh_39, List.forall_mem_cons.mpr ⟨klh_40, List.forall_mem_cons.mpr ⟨klh_178, List.forall_mem_cons.mpr ⟨klh_180, List.forall_mem_cons.mpr ⟨klh_181, List.forall_mem_cons.mpr ⟨klh_182, List.forall_mem_cons.mpr ⟨klh_183, List.forall_mem_cons.mpr ⟨klh_184, List.forall_mem_cons.mpr ⟨klh_185, fun _ h => absurd h List.not_mem_nil⟩⟩⟩⟩⟩⟩⟩⟩⟩) (by decide +kernel)
def klc_187 : en_Ct := (274, [(2, 2, 0)], [], (0, 0, 5), [(2, [5, 7, 8, 9, 10, 11]), (10, []), (11, []), (12, [0, 1, 2, 3, 4, 6]), (13, []), (14, []), (15, []), (17, []), (18, []), (19, []), (20, []), (21, []), (22, []), (23, []), (25, []), (26, []), (27, []), (28, []), (30, []), (31, []), (32, []), (33, []), (49, [0, 1, 2, 3, 4, 6]), (50, []), (51, []), (52, []), (54, []), (55, []), (56, []), (57, []), (58, []), (59, []), (60, []), (62, []), (63, []), (64, []), (65, []), (67, []), (68, []), (69, []), (70, [])], 5)
def klu_187 : List en_Cu := [(1, [(2, 2, 0), (0, -1, 30), (0, 0, 501)], [], [], 1003, [0, 0, -2])]
/-! X7_meaningFault -/
theorem klh_187 {Sc : sm_C} : en_hold kl_tb klX sm_P Sc klc_187 := en_chk_ok klX_ok (T := [klc_135, klc_186]) (cuts := klu_187) (List.forall_mem_cons.mpr ⟨klh_135, List.forall_mem_cons.mpr ⟨klh_186, fun _ h => absurd h List.not_mem_nil⟩⟩) (by decide +kernel)
def klc_188 : en_Ct := (277, [(2, 2, 0)], [], (0, 0, 2), [(2, [11]), (7, [1, 2, 3]), (8, [])], 2)
def klu_188 : List en_Cu := [(1, [(2, 2, 0), (0, -1, 30), (0, 0, 502)], [], [], 1005, [0, 0, -2])]
/-! X7_syntaxFault -/
theorem klh_188 {Sc : sm_C} : en_hold kl_tb klX sm_P Sc klc_188 := en_chk_ok klX_ok (T := [klc_130, klc_137, klc_135]) (cuts := klu_188) (List.forall_mem_cons.mpr ⟨klh_130, List.forall_mem_cons.mpr ⟨klh_137, List.forall_mem_cons.mpr ⟨klh_135, fun _ h => absurd h List.not_mem_nil⟩⟩⟩) (by decide +kernel)
def klc_189 : en_Ct := (298, [(0, -128, 127)], [], (0, 0, 1), [], 0)
def klu_189 : List en_Cu := []
/-! X9_isBlank -/
theorem klh_189 {Sc : sm_C} : en_hold kl_tb klX sm_P Sc klc_189 := en_chk_ok klX_ok (T := []) (cuts := klu_189) (fun _ h => absurd h List.not_mem_nil) (by decide +kernel)
def klc_190 : en_Ct := (299, [(0, -128, 127)], [], (0, 0, 1), [], 0)
def klu_190 : List en_Cu := []
/-! X9_isDigit -/
theorem klh_190 {Sc : sm_C} : en_hold kl_tb klX sm_P Sc klc_190 := en_chk_ok klX_ok (T := []) (cuts := klu_190) (fun _ h => absurd h List.not_mem_nil) (by decide +kernel)
def klc_191 : en_Ct := (295, [(2, 1, 0), (0, 0, 1999), (0, 1, 2000)], [], (0, 0, 2000), [], 1)
def klu_191 : List en_Cu := [(1, [(2, 1, 0), (0, 1, 2000), (0, 0, 2000)], [], [], 4001, [0, 0, -2])]
/-! X9_endOfDigits -/
theorem klh_191 {Sc : sm_C} : en_hold kl_tb klX sm_P Sc klc_191 := en_chk_ok klX_ok (T := [klc_190]) (cuts := klu_191) (List.forall_mem_cons.mpr ⟨klh_190, fun _ h => absurd h List.not_mem_nil⟩) (by decide +kernel)
def klc_192 : en_Ct := (300, [(0, -128, 127)], [], (0, 0, 1), [], 0)
def klu_192 : List en_Cu := []
/-! X9_isLetter -/
theorem klh_192 {Sc : sm_C} : en_hold kl_tb klX sm_P Sc klc_192 := en_chk_ok klX_ok (T := []) (cuts := klu_192) (fun _ h => absurd h List.not_mem_nil) (by decide +kernel)
def klc_193 : en_Ct := (296, [(2, 1, 0), (0, 0, 1999), (0, 1, 2000)], [], (0, 0, 2000), [], 1)
def klu_193 : List en_Cu := [(1, [(2, 1, 0), (0, 1, 2000), (0, 0, 2000)], [], [], 4001, [0, 0, -2])]
/-! X9_endOfLetters -/
theorem klh_193 {Sc : sm_C} : en_hold kl_tb klX sm_P Sc klc_193 := en_chk_ok klX_ok (T := [klc_192]) (cuts := klu_193) (List.forall_mem_cons.mpr ⟨klh_192, fun _ h => absurd h List.not_mem_nil⟩) (by decide +kernel)
def klc_194 : en_Ct := (303, [(0, -128, 127)], [], (0, 16, 20), [], 0)
def klu_194 : List en_Cu := []
/-! X9_sign -/
theorem klh_194 {Sc : sm_C} : en_hold kl_tb klX sm_P Sc klc_194 := en_chk_ok klX_ok (T := []) (cuts := klu_194) (fun _ h => absurd h List.not_mem_nil) (by decide +kernel)
def klc_195 : en_Ct := (304, [(5, 0, 0)], [], (0, 0, 15), [], 0)
def klu_195 : List en_Cu := [(1, [(5, 0, 0), (0, 0, 15)], [], [], 31, [0, -2])]
/-! X9_wordOrName -/
theorem klh_195 {Sc : sm_C} : en_hold kl_tb klX sm_P Sc klc_195 := en_chk_ok klX_ok (T := []) (cuts := klu_195) (fun _ h => absurd h List.not_mem_nil) (by decide +kernel)
def klc_196 : en_Ct := (302, [(2, 3, 0), (2, 1, 0), (0, 0, 1999), (0, 1, 2000)], [(3, 3, 0, 500)], (0, 0, 2000), [(3, [3]), (4, []), (5, [])], 2)
def klu_196 : List en_Cu := [(10, [(2, 3, 0), (2, 1, 0), (0, 0, 1999), (0, 0, 2000), (5, 0, 0), (0, 0, 2000)], [], [(3, 3, 0, 500)], 4001, [0, 0, 0, 0, 0, -2]),
  (2, [(2, 3, 0), (2, 1, 0), (0, 0, 1999), (0, 0, 2000), (5, 0, 0), (0, 0, 2000)], [], [(3, 3, 0, 500)], 8003, [0, 0, 0, 0, 0, -2])]
/-! X9_scanOne -/
theorem klh_196 {Sc : sm_C} : en_hold kl_tb klX sm_P Sc klc_196 := en_chk_ok klX_ok (T := [klc_191, klc_193, klc_190, klc_192, klc_194, klc_195]) (cuts := klu_196) (List.forall_mem_cons.mpr ⟨klh_191, List.forall_mem_cons.mpr ⟨klh_193, List.forall_mem_cons.mpr ⟨klh_190, List.forall_mem_cons.mpr ⟨klh_192, List.forall_mem_cons.mpr ⟨klh_194, List.forall_mem_cons.mpr ⟨klh_195, fun _ h => absurd h List.not_mem_nil⟩⟩⟩⟩⟩⟩) (by decide +kernel)
def klc_197 : en_Ct := (301, [(2, 3, 0), (2, 1, 0), (0, 0, 2000)], [], (9, 0, 0), [(3, [3]), (4, []), (5, [])], 3)
def klu_197 : List en_Cu := [(1, [(2, 3, 0), (2, 1, 0), (0, 0, 2000), (0, 0, 2000), (0, 0, 2000)], [], [], 4001, [0, 0, 0, 0, -2])]
/-! X9_scan -/
theorem klh_197 {Sc : sm_C} : en_hold kl_tb klX sm_P Sc klc_197 := en_chk_ok klX_ok (T := [klc_189, klc_196]) (cuts := klu_197) (List.forall_mem_cons.mpr ⟨klh_189, List.forall_mem_cons.mpr ⟨klh_196, fun _ h => absurd h List.not_mem_nil⟩⟩) (by decide +kernel)
def klc_198 : en_Ct := (276, [(2, 2, 0), (2, 1, 0), (0, 0, 2000)], [], (0, 0, 5), [(2, [5, 7, 8, 9, 10, 11]), (3, [3]), (4, []), (5, []), (7, [1, 2, 3]), (8, []), (10, []), (11, []), (12, [0, 1, 2, 3, 4, 5, 6]), (13, []), (14, []), (15, []), (17, []), (18, []), (19, []), (20, []), (21, []), (22, []), (23, []), (25, []), (26, []), (27, []), (28, []), (30, []), (31, []), (32, []), (33, []), (34, []), (35, []), (36, []), (49, [0, 1, 2, 3, 4, 5, 6]), (50, []), (51, []), (52, []), (54, []), (55, []), (56, []), (57, []), (58, []), (59, []), (60, []), (62, []), (63, []), (64, []), (65, []), (67, []), (68, []), (69, []), (70, []), (71, []), (72, []), (73, [])], 6)
def klu_198 : List en_Cu := []
/-! X7_readTape -/
theorem klh_198 {Sc : sm_C} : en_hold kl_tb klX sm_P Sc klc_198 := en_chk_ok klX_ok (T := [klc_54, klc_62, klc_64, klc_66, klc_67, klc_68, klc_187, klc_188, klc_197]) (cuts := klu_198) (List.forall_mem_cons.mpr ⟨klh_54, List.forall_mem_cons.mpr ⟨klh_62, List.forall_mem_cons.mpr ⟨klh_64, List.forall_mem_cons.mpr ⟨klh_66, List.forall_mem_cons.mpr ⟨klh_67, List.forall_mem_cons.mpr ⟨klh_68, List.forall_mem_cons.mpr ⟨klh_187, List.forall_mem_cons.mpr ⟨klh_188, List.forall_mem_cons.mpr ⟨klh_197, fun _ h => absurd h List.not_mem_nil⟩⟩⟩⟩⟩⟩⟩⟩⟩) (by decide +kernel)
def klc_199 : en_Ct := (66, [(2, 0, 0), (0, 0, 1023)], [], (0, -3, 1441), [(90, [4, 5, 6, 7, 8, 10, 11, 12, 13, 14, 15, 16, 17]), (91, [4, 5]), (92, []), (93, []), (94, []), (95, []), (96, []), (97, [])], 6)
def klu_199 : List en_Cu := [(1, [(2, 0, 0), (0, 0, 1023), (0, 0, 1441), (0, 0, 1441), (0, 0, 1441)], [], [], 2883, [0, 0, 0, 0, -2])]
/-! X11_leastGive -/
theorem klh_199 {Sc : sm_C} : en_hold kl_tb klX sm_P Sc klc_199 := en_chk_ok klX_ok (T := [klc_45, klc_46, klc_101, klc_102, klc_122, klc_128]) (cuts := klu_199) (List.forall_mem_cons.mpr ⟨klh_45, List.forall_mem_cons.mpr ⟨klh_46, List.forall_mem_cons.mpr ⟨klh_101, List.forall_mem_cons.mpr ⟨klh_102, List.forall_mem_cons.mpr ⟨klh_122, List.forall_mem_cons.mpr ⟨klh_128, fun _ h => absurd h List.not_mem_nil⟩⟩⟩⟩⟩⟩) (by decide +kernel)
def klc_200 : en_Ct := (28, [(2, 0, 0), (0, -2147483648, 2147483647)], [], (0, -3, 1441), [(90, [4, 5, 6, 7, 8, 10, 11, 12, 13, 14, 15, 16, 17]), (91, [4, 5]), (92, []), (93, []), (94, []), (95, []), (96, []), (97, [])], 7)
def klu_200 : List en_Cu := []
/-! X11_alone -/
theorem klh_200 {Sc : sm_C} : en_hold kl_tb klX sm_P Sc klc_200 := en_chk_ok klX_ok (T := [klc_199]) (cuts := klu_200) (List.forall_mem_cons.mpr ⟨klh_199, fun _ h => absurd h List.not_mem_nil⟩) (by decide +kernel)
def klc_201 : en_Ct := (286, [(2, 40, 0), (0, 0, 5), (0, -2147483648, 2147483647), (0, -2147483648, 2147483647)], [], (9, 0, 0), [(43, []), (44, [])], 1)
def klu_201 : List en_Cu := []
/-! X8_bound -/
theorem klh_201 {Sc : sm_C} : en_hold kl_tb klX sm_P Sc klc_201 := en_chk_ok klX_ok (T := []) (cuts := klu_201) (fun _ h => absurd h List.not_mem_nil) (by decide +kernel)
def klc_202 : en_Ct := (89, [(2, 38, 0), (0, -1, 9), (0, -1, 0)], [], (0, -1, 1440), [], 0)
def klu_202 : List en_Cu := []
/-! X11_valueAt -/
theorem klh_202 {Sc : sm_C} : en_hold kl_tb klX sm_P Sc klc_202 := en_chk_ok klX_ok (T := []) (cuts := klu_202) (fun _ h => absurd h List.not_mem_nil) (by decide +kernel)
def klc_203 : en_Ct := (288, [(2, 24, 0), (0, -2147483648, 2147483646), (2, 38, 0)], [], (0, 0, 1), [], 1)
def klu_203 : List en_Cu := []
/-! X8_holds -/
theorem klh_203 {Sc : sm_C} : en_hold kl_tb klX sm_P Sc klc_203 := en_chk_ok klX_ok (T := [klc_202]) (cuts := klu_203) (List.forall_mem_cons.mpr ⟨klh_202, fun _ h => absurd h List.not_mem_nil⟩) (by decide +kernel)
def klc_204 : en_Ct := (288, [(2, 61, 0), (0, -2147483648, 2147483646), (2, 38, 0)], [], (0, 0, 1), [], 1)
def klu_204 : List en_Cu := []
/-! X8_holds -/
theorem klh_204 {Sc : sm_C} : en_hold kl_tb klX sm_P Sc klc_204 := en_chk_ok klX_ok (T := [klc_202]) (cuts := klu_204) (List.forall_mem_cons.mpr ⟨klh_202, fun _ h => absurd h List.not_mem_nil⟩) (by decide +kernel)
def klc_205 : en_Ct := (56, [(2, 0, 0)], [], (0, 0, 1), [(0, [12]), (46, []), (47, []), (74, [4, 5, 6, 7, 8, 10, 11, 12, 13, 14, 15]), (75, [4, 5]), (76, []), (77, []), (78, []), (79, []), (80, []), (81, [])], 6)
def klu_205 : List en_Cu := []
/-! X11_isGoneThrough -/
theorem klh_205 {Sc : sm_C} : en_hold kl_tb klX sm_P Sc klc_205 := en_chk_ok klX_ok (T := [klc_45, klc_46, klc_88, klc_89, klc_116]) (cuts := klu_205) (List.forall_mem_cons.mpr ⟨klh_45, List.forall_mem_cons.mpr ⟨klh_46, List.forall_mem_cons.mpr ⟨klh_88, List.forall_mem_cons.mpr ⟨klh_89, List.forall_mem_cons.mpr ⟨klh_116, fun _ h => absurd h List.not_mem_nil⟩⟩⟩⟩⟩) (by decide +kernel)
def klc_206 : en_Ct := (29, [(2, 0, 0), (0, -2147483648, 2147483647), (0, 0, 1)], [], (0, -2147483648, 2147483647), [(0, [12]), (46, []), (47, []), (74, [4, 5, 6, 7, 8, 10, 11, 12, 13, 14, 15]), (75, [4, 5]), (76, []), (77, []), (78, []), (79, []), (80, []), (81, [])], 7)
def klu_206 : List en_Cu := []
/-! X11_ask -/
theorem klh_206 {Sc : sm_C} : en_hold kl_tb klX sm_P Sc klc_206 := en_chk_ok klX_ok (T := [klc_22, klc_23, klc_205]) (cuts := klu_206) (List.forall_mem_cons.mpr ⟨klh_22, List.forall_mem_cons.mpr ⟨klh_23, List.forall_mem_cons.mpr ⟨klh_205, fun _ h => absurd h List.not_mem_nil⟩⟩⟩) (by decide +kernel)
def klc_207 : en_Ct := (293, [(2, 24, 0), (0, -2147483648, 2147483646), (2, 38, 0)], [], (0, 0, 1), [], 1)
def klu_207 : List en_Cu := []
/-! X8_isSet -/
theorem klh_207 {Sc : sm_C} : en_hold kl_tb klX sm_P Sc klc_207 := en_chk_ok klX_ok (T := [klc_202]) (cuts := klu_207) (List.forall_mem_cons.mpr ⟨klh_202, fun _ h => absurd h List.not_mem_nil⟩) (by decide +kernel)
def klc_208 : en_Ct := (293, [(2, 61, 0), (0, -2147483648, 2147483646), (2, 38, 0)], [], (0, 0, 1), [], 1)
def klu_208 : List en_Cu := []
/-! X8_isSet -/
theorem klh_208 {Sc : sm_C} : en_hold kl_tb klX sm_P Sc klc_208 := en_chk_ok klX_ok (T := [klc_202]) (cuts := klu_208) (List.forall_mem_cons.mpr ⟨klh_202, fun _ h => absurd h List.not_mem_nil⟩) (by decide +kernel)
def klc_209 : en_Ct := (294, [(2, 40, 0), (0, 0, 5), (0, 0, 9), (0, -1, 9)], [], (9, 0, 0), [(41, []), (42, [])], 1)
def klu_209 : List en_Cu := []
/-! X8_put -/
theorem klh_209 {Sc : sm_C} : en_hold kl_tb klX sm_P Sc klc_209 := en_chk_ok klX_ok (T := []) (cuts := klu_209) (fun _ h => absurd h List.not_mem_nil) (by decide +kernel)
def klc_210 : en_Ct := (3, [(2, 103, 0), (0, -2147483648, 64), (0, -2147483648, 2147483647)], [], (0, -2147483648, 2147483647), [], 0)
def klu_210 : List en_Cu := [(1, [(2, 103, 0), (0, -2147483648, 64), (0, -2147483648, 2147483647), (0, -2147483648, 2147483647), (0, 0, 64)], [], [], 129, [0, 0, 0, 0, -2])]
/-! X0_countLeft -/
theorem klh_210 {Sc : sm_C} : en_hold kl_tb klX sm_P Sc klc_210 := en_chk_ok klX_ok (T := []) (cuts := klu_210) (fun _ h => absurd h List.not_mem_nil) (by decide +kernel)
def klc_212 : en_Ct := (31, [(2, 0, 0), (0, -2147483648, 2147483647)], [], (0, -4, 3), [], 2)
def klu_212 : List en_Cu := [(3, [(2, 0, 0), (0, 0, 9), (0, -2, 3), (0, -1, 3)], [], [], 17179869187, [0, 0, 0, 8589934594]),
  (5, [(2, 0, 0), (0, 0, 9), (0, -2, 3), (0, 0, 3), (0, -2147483648, 2147483647), (0, 0, 1), (0, -2147483648, 2147483647)], [], [], 12884901889, [0, 0, 0, 8589934594, 0, 0, -2])]
/-! X11_bears -/
theorem klh_212 {Sc : sm_C} : en_hold kl_tb klX sm_P Sc klc_212 := en_chk_ok klX_ok (T := [klc_6, klc_7, klc_8, klc_9, klc_203, klc_204, klc_207, klc_208]) (cuts := klu_212) (List.forall_mem_cons.mpr ⟨klh_6, List.forall_mem_cons.mpr ⟨klh_7, List.forall_mem_cons.mpr ⟨klh_8, List.forall_mem_cons.mpr ⟨klh_9, List.forall_mem_cons.mpr ⟨klh_203, List.forall_mem_cons.mpr ⟨klh_204, List.forall_mem_cons.mpr ⟨klh_207, List.forall_mem_cons.mpr ⟨klh_208, fun _ h => absurd h List.not_mem_nil⟩⟩⟩⟩⟩⟩⟩⟩) (by decide +kernel)
def klc_213 : en_Ct := (50, [(2, 0, 0), (0, 0, 3), (0, 0, 5), (0, 0, 1440), (0, 0, 1440)], [], (9, 0, 0), [(90, [4, 5, 6, 7, 8, 9, 10, 11, 12, 13, 14, 15, 16, 17]), (91, [4, 5]), (92, []), (93, []), (94, []), (95, []), (96, []), (97, [])], 6)
def klu_213 : List en_Cu := []
/-! X11_goWithGuest -/
theorem klh_213 {Sc : sm_C} : en_hold kl_tb klX sm_P Sc klc_213 := en_chk_ok klX_ok (T := [klc_45, klc_46, klc_101, klc_102, klc_122, klc_123]) (cuts := klu_213) (List.forall_mem_cons.mpr ⟨klh_45, List.forall_mem_cons.mpr ⟨klh_46, List.forall_mem_cons.mpr ⟨klh_101, List.forall_mem_cons.mpr ⟨klh_102, List.forall_mem_cons.mpr ⟨klh_122, List.forall_mem_cons.mpr ⟨klh_123, fun _ h => absurd h List.not_mem_nil⟩⟩⟩⟩⟩⟩) (by decide +kernel)

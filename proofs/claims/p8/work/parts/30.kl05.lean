/-! methods checked by the engine -/
def klc_214 : en_Ct := (32, [(2, 0, 0), (0, -2147483648, 2147483647), (0, -2147483648, 2147483647), (0, 0, 1)], [], (0, -2147483648, 2147483647), [(90, [4, 5, 6, 7, 8, 9, 10, 11, 12, 13, 14, 15, 16, 17]), (91, [4, 5]), (92, []), (93, []), (94, []), (95, []), (96, []), (97, [])], 7)
def klu_214 : List en_Cu := []
/-! X11_been -/
theorem klh_214 {Sc : sm_C} : en_hold kl_tb klX sm_P Sc klc_214 := en_chk_ok klX_ok (T := [klc_213]) (cuts := klu_214) (List.forall_mem_cons.mpr ⟨klh_213, fun _ h => absurd h List.not_mem_nil⟩) (by decide +kernel)
def klc_215 : en_Ct := (33, [(2, 0, 0)], [], (0, -2, 44), [], 1)
def klu_215 : List en_Cu := [(1, [(2, 0, 0), (0, 0, 45)], [], [], 91, [0, -2])]
/-! X11_breaks -/
theorem klh_215 {Sc : sm_C} : en_hold kl_tb klX sm_P Sc klc_215 := en_chk_ok klX_ok (T := [klc_202]) (cuts := klu_215) (List.forall_mem_cons.mpr ⟨klh_202, fun _ h => absurd h List.not_mem_nil⟩) (by decide +kernel)
def klc_216 : en_Ct := (68, [(2, 0, 0), (0, -2147483648, 2147483647)], [], (0, -3, 60), [(0, [12]), (46, []), (47, []), (74, [4, 5, 6, 7, 8, 10, 11, 12, 13, 14, 15]), (75, [4, 5]), (76, []), (77, []), (78, []), (79, []), (80, []), (81, [])], 7)
def klu_216 : List en_Cu := []
/-! X11_levelOf -/
theorem klh_216 {Sc : sm_C} : en_hold kl_tb klX sm_P Sc klc_216 := en_chk_ok klX_ok (T := [klc_19, klc_205]) (cuts := klu_216) (List.forall_mem_cons.mpr ⟨klh_19, List.forall_mem_cons.mpr ⟨klh_205, fun _ h => absurd h List.not_mem_nil⟩⟩) (by decide +kernel)
def klc_217 : en_Ct := (34, [(2, 0, 0), (0, -2147483648, 2147483647), (0, -2147483648, 2147483647)], [], (0, -2147483648, 2147483647), [(0, [12]), (46, []), (47, []), (74, [4, 5, 6, 7, 8, 10, 11, 12, 13, 14, 15]), (75, [4, 5]), (76, []), (77, []), (78, []), (79, []), (80, []), (81, [])], 8)
def klu_217 : List en_Cu := [(6, [(2, 0, 0), (0, 0, 9), (0, 0, 1440), (0, -2147483648, 2147483647), (0, 0, 2147483647)], [], [], 4294967295, [0, 0, 0, 0, -2])]
/-! X11_can -/
theorem klh_217 {Sc : sm_C} : en_hold kl_tb klX sm_P Sc klc_217 := en_chk_ok klX_ok (T := [klc_124, klc_205, klc_216]) (cuts := klu_217) (List.forall_mem_cons.mpr ⟨klh_124, List.forall_mem_cons.mpr ⟨klh_205, List.forall_mem_cons.mpr ⟨klh_216, fun _ h => absurd h List.not_mem_nil⟩⟩⟩) (by decide +kernel)
def klc_218 : en_Ct := (35, [(2, 0, 0)], [], (0, -3, 1023), [(90, [4, 5, 6, 7, 8, 10, 11, 12, 13, 14, 15, 16, 17]), (91, [4, 5]), (92, []), (93, []), (94, []), (95, []), (96, []), (97, []), (98, [4, 5, 8, 10]), (99, []), (100, []), (101, [])], 8)
def klu_218 : List en_Cu := []
/-! X11_cheapest -/
theorem klh_218 {Sc : sm_C} : en_hold kl_tb klX sm_P Sc klc_218 := en_chk_ok klX_ok (T := [klc_145, klc_147, klc_156, klc_157]) (cuts := klu_218) (List.forall_mem_cons.mpr ⟨klh_145, List.forall_mem_cons.mpr ⟨klh_147, List.forall_mem_cons.mpr ⟨klh_156, List.forall_mem_cons.mpr ⟨klh_157, fun _ h => absurd h List.not_mem_nil⟩⟩⟩⟩) (by decide +kernel)
def klc_219 : en_Ct := (36, [(2, 0, 0), (0, -2147483648, 2147483647), (0, -2147483648, 2147483647)], [], (0, -2147483648, 2147483647), [(0, [12]), (46, []), (47, []), (74, [4, 5, 6, 7, 8, 10, 11, 12, 13, 14, 15]), (75, [4, 5]), (76, []), (77, []), (78, []), (79, []), (80, []), (81, [])], 8)
def klu_219 : List en_Cu := []
/-! X11_choice -/
theorem klh_219 {Sc : sm_C} : en_hold kl_tb klX sm_P Sc klc_219 := en_chk_ok klX_ok (T := [klc_5, klc_216]) (cuts := klu_219) (List.forall_mem_cons.mpr ⟨klh_5, List.forall_mem_cons.mpr ⟨klh_216, fun _ h => absurd h List.not_mem_nil⟩⟩) (by decide +kernel)
def klc_220 : en_Ct := (37, [(2, 0, 0), (0, -2147483648, 2147483647), (0, -2147483648, 2147483647), (0, -2147483648, 2147483647), (0, -2147483648, 2147483647)], [], (0, -3, 1), [(90, [4, 5, 6, 7, 8, 9, 10, 11, 12, 13, 14, 15, 16, 17]), (91, [4, 5]), (92, []), (93, []), (94, []), (95, []), (96, []), (97, [])], 7)
def klu_220 : List en_Cu := []
/-! X11_could -/
theorem klh_220 {Sc : sm_C} : en_hold kl_tb klX sm_P Sc klc_220 := en_chk_ok klX_ok (T := [klc_213]) (cuts := klu_220) (List.forall_mem_cons.mpr ⟨klh_213, fun _ h => absurd h List.not_mem_nil⟩) (by decide +kernel)
def klc_221 : en_Ct := (38, [(2, 0, 0), (0, -2147483648, 2147483647)], [], (0, -2147483648, 2147483647), [(0, [12]), (46, []), (47, []), (74, [4, 5, 6, 7, 8, 10, 11, 12, 13, 14, 15]), (75, [4, 5]), (76, []), (77, []), (78, []), (79, []), (80, []), (81, [])], 7)
def klu_221 : List en_Cu := []
/-! X11_count -/
theorem klh_221 {Sc : sm_C} : en_hold kl_tb klX sm_P Sc klc_221 := en_chk_ok klX_ok (T := [klc_205]) (cuts := klu_221) (List.forall_mem_cons.mpr ⟨klh_205, fun _ h => absurd h List.not_mem_nil⟩) (by decide +kernel)
def klc_222 : en_Ct := (86, [(2, 0, 0)], [], (9, 0, 0), [(0, [12, 13]), (98, [8, 9]), (103, [5])], 0)
def klu_222 : List en_Cu := []
/-! X11_stale -/
theorem klh_222 {Sc : sm_C} : en_hold kl_tb klX sm_P Sc klc_222 := en_chk_ok klX_ok (T := []) (cuts := klu_222) (fun _ h => absurd h List.not_mem_nil) (by decide +kernel)
def klc_223 : en_Ct := (39, [(2, 0, 0), (0, -2147483648, 2147483647), (0, 0, 1)], [], (0, 0, 1), [(0, [12, 13]), (37, [0]), (39, []), (98, [8, 9]), (103, [5])], 2)
def klu_223 : List en_Cu := []
/-! X11_doubt -/
theorem klh_223 {Sc : sm_C} : en_hold kl_tb klX sm_P Sc klc_223 := en_chk_ok klX_ok (T := [klc_222]) (cuts := klu_223) (List.forall_mem_cons.mpr ⟨klh_222, fun _ h => absurd h List.not_mem_nil⟩) (by decide +kernel)
def klc_224 : en_Ct := (4, [(2, 103, 0), (2, 12, 0)], [], (9, 0, 0), [(74, [6]), (76, []), (81, []), (103, [5]), (104, []), (105, [])], 10)
def klu_224 : List en_Cu := [(3, [(2, 103, 0), (2, 12, 0), (0, -2147483648, 64), (0, 0, 64)], [], [], 2179, [0, 0, 0, -2]),
  (6, [(2, 103, 0), (2, 12, 0), (0, -2147483648, 64), (0, 0, 1024)], [], [], 2049, [0, 0, 0, -2])]
/-! X0_countStates -/
theorem klh_224 {Sc : sm_C} : en_hold kl_tb klX sm_P Sc klc_224 := en_chk_ok klX_ok (T := [klc_29, klc_69, klc_19, klc_210]) (cuts := klu_224) (List.forall_mem_cons.mpr ⟨klh_29, List.forall_mem_cons.mpr ⟨klh_69, List.forall_mem_cons.mpr ⟨klh_19, List.forall_mem_cons.mpr ⟨klh_210, fun _ h => absurd h List.not_mem_nil⟩⟩⟩⟩) (by decide +kernel)
def klc_225 : en_Ct := (4, [(2, 103, 0), (2, 49, 0)], [], (9, 0, 0), [(74, [6]), (76, []), (81, []), (103, [5]), (104, []), (105, [])], 10)
def klu_225 : List en_Cu := [(3, [(2, 103, 0), (2, 49, 0), (0, -2147483648, 64), (0, 0, 64)], [], [], 2179, [0, 0, 0, -2]),
  (6, [(2, 103, 0), (2, 49, 0), (0, -2147483648, 64), (0, 0, 1024)], [], [], 2049, [0, 0, 0, -2])]
/-! X0_countStates -/
theorem klh_225 {Sc : sm_C} : en_hold kl_tb klX sm_P Sc klc_225 := en_chk_ok klX_ok (T := [klc_35, klc_70, klc_19, klc_210]) (cuts := klu_225) (List.forall_mem_cons.mpr ⟨klh_35, List.forall_mem_cons.mpr ⟨klh_70, List.forall_mem_cons.mpr ⟨klh_19, List.forall_mem_cons.mpr ⟨klh_210, fun _ h => absurd h List.not_mem_nil⟩⟩⟩⟩) (by decide +kernel)
def klc_226 : en_Ct := (92, [(2, 0, 0), (0, 0, 60), (0, 0, 3), (0, 0, 1440)], [], (0, -4, 9), [], 5)
def klu_226 : List en_Cu := [(1, [(2, 0, 0), (0, 0, 60), (0, 0, 3), (0, 0, 1440), (0, -1, 9), (0, -1, 9), (0, -1, 1440), (0, -1, 2147483647), (0, 0, 10)], [], [], 21, [0, 0, 0, 0, 0, 0, 0, 0, -2])]
/-! X11_whereAt -/
theorem klh_226 {Sc : sm_C} : en_hold kl_tb klX sm_P Sc klc_226 := en_chk_ok klX_ok (T := [klc_124, klc_63, klc_65]) (cuts := klu_226) (List.forall_mem_cons.mpr ⟨klh_124, List.forall_mem_cons.mpr ⟨klh_63, List.forall_mem_cons.mpr ⟨klh_65, fun _ h => absurd h List.not_mem_nil⟩⟩⟩) (by decide +kernel)
def klc_227 : en_Ct := (40, [(2, 0, 0), (0, -2147483648, 2147483647), (0, -2147483648, 2147483647), (0, -2147483648, 2147483647)], [], (0, -4, 9), [(0, [12]), (46, []), (47, []), (74, [4, 5, 6, 7, 8, 10, 11, 12, 13, 14, 15]), (75, [4, 5]), (76, []), (77, []), (78, []), (79, []), (80, []), (81, [])], 8)
def klu_227 : List en_Cu := []
/-! X11_drawn -/
theorem klh_227 {Sc : sm_C} : en_hold kl_tb klX sm_P Sc klc_227 := en_chk_ok klX_ok (T := [klc_216, klc_226]) (cuts := klu_227) (List.forall_mem_cons.mpr ⟨klh_216, List.forall_mem_cons.mpr ⟨klh_226, fun _ h => absurd h List.not_mem_nil⟩⟩) (by decide +kernel)
def klc_228 : en_Ct := (41, [(2, 0, 0), (0, -2147483648, 2147483647), (0, 0, 1)], [], (0, -2147483648, 2147483647), [(0, [12]), (46, []), (47, []), (74, [4, 5, 6, 7, 8, 10, 11, 12, 13, 14, 15]), (75, [4, 5]), (76, []), (77, []), (78, []), (79, []), (80, []), (81, [])], 8)
def klu_228 : List en_Cu := [(5, [(2, 0, 0), (0, 0, 9), (0, 0, 1), (0, -2147483648, 2147483647), (0, 0, 2147483647)], [], [], 4294967295, [0, 0, 0, 0, -2])]
/-! X11_ends -/
theorem klh_228 {Sc : sm_C} : en_hold kl_tb klX sm_P Sc klc_228 := en_chk_ok klX_ok (T := [klc_124, klc_205, klc_216]) (cuts := klu_228) (List.forall_mem_cons.mpr ⟨klh_124, List.forall_mem_cons.mpr ⟨klh_205, List.forall_mem_cons.mpr ⟨klh_216, fun _ h => absurd h List.not_mem_nil⟩⟩⟩) (by decide +kernel)
def klc_229 : en_Ct := (77, [(2, 0, 0), (0, -2147483648, 2147483647)], [], (9, 0, 0), [(0, [10]), (1, [])], 0)
def klu_229 : List en_Cu := [(1, [(2, 0, 0), (0, -2147483648, 2147483647), (0, -128, 24)], [], [], 257, [0, 0, 2])]
/-! X11_putFour -/
theorem klh_229 {Sc : sm_C} : en_hold kl_tb klX sm_P Sc klc_229 := en_chk_ok klX_ok (T := []) (cuts := klu_229) (fun _ h => absurd h List.not_mem_nil) (by decide +kernel)
def klc_230 : en_Ct := (42, [(2, 0, 0), (0, -2147483648, 2147483647), (0, -2147483648, 2147483647), (0, -2147483648, 2147483647), (0, -2147483648, 2147483647), (0, -2147483648, 2147483647)], [], (0, -1, 2000), [(0, [10]), (1, [])], 1)
def klu_230 : List en_Cu := []
/-! X11_feed -/
theorem klh_230 {Sc : sm_C} : en_hold kl_tb klX sm_P Sc klc_230 := en_chk_ok klX_ok (T := [klc_229]) (cuts := klu_230) (List.forall_mem_cons.mpr ⟨klh_229, fun _ h => absurd h List.not_mem_nil⟩) (by decide +kernel)
def klc_231 : en_Ct := (43, [(2, 0, 0)], [], (0, -1, 5), [(0, [12, 13]), (37, [1]), (98, [8, 9]), (103, [5])], 1)
def klu_231 : List en_Cu := []
/-! X11_fewer -/
theorem klh_231 {Sc : sm_C} : en_hold kl_tb klX sm_P Sc klc_231 := en_chk_ok klX_ok (T := [klc_222]) (cuts := klu_231) (List.forall_mem_cons.mpr ⟨klh_222, fun _ h => absurd h List.not_mem_nil⟩) (by decide +kernel)
def klc_232 : en_Ct := (5, [(2, 103, 0), (2, 12, 0)], [], (0, -2, 4), [], 1)
def klu_232 : List en_Cu := [(1, [(2, 103, 0), (2, 12, 0), (0, 0, 5)], [], [], 11, [0, 0, -2])]
/-! X0_firstQuestion -/
theorem klh_232 {Sc : sm_C} : en_hold kl_tb klX sm_P Sc klc_232 := en_chk_ok klX_ok (T := [klc_36]) (cuts := klu_232) (List.forall_mem_cons.mpr ⟨klh_36, fun _ h => absurd h List.not_mem_nil⟩) (by decide +kernel)
def klc_233 : en_Ct := (5, [(2, 103, 0), (2, 49, 0)], [], (0, -2, 4), [], 1)
def klu_233 : List en_Cu := [(1, [(2, 103, 0), (2, 49, 0), (0, 0, 5)], [], [], 11, [0, 0, -2])]
/-! X0_firstQuestion -/
theorem klh_233 {Sc : sm_C} : en_hold kl_tb klX sm_P Sc klc_233 := en_chk_ok klX_ok (T := [klc_36]) (cuts := klu_233) (List.forall_mem_cons.mpr ⟨klh_36, fun _ h => absurd h List.not_mem_nil⟩) (by decide +kernel)
def klc_234 : en_Ct := (75, [(2, 0, 0), (0, -2147483648, 2147483647)], [], (0, -3, 0), [(0, [12]), (46, []), (47, []), (74, [4, 5, 6, 7, 8, 10, 11, 12, 13, 14, 15]), (75, [4, 5]), (76, []), (77, []), (78, []), (79, []), (80, []), (81, []), (103, [5]), (104, []), (105, []), (106, [])], 11)
def klu_234 : List en_Cu := []
/-! X11_planTo -/
theorem klh_234 {Sc : sm_C} : en_hold kl_tb klX sm_P Sc klc_234 := en_chk_ok klX_ok (T := [klc_37, klc_38, klc_224, klc_225, klc_205]) (cuts := klu_234) (List.forall_mem_cons.mpr ⟨klh_37, List.forall_mem_cons.mpr ⟨klh_38, List.forall_mem_cons.mpr ⟨klh_224, List.forall_mem_cons.mpr ⟨klh_225, List.forall_mem_cons.mpr ⟨klh_205, fun _ h => absurd h List.not_mem_nil⟩⟩⟩⟩⟩) (by decide +kernel)
def klc_235 : en_Ct := (44, [(2, 0, 0), (0, -2147483648, 2147483647)], [], (0, -3, 4), [(0, [12]), (46, []), (47, []), (74, [4, 5, 6, 7, 8, 10, 11, 12, 13, 14, 15]), (75, [4, 5]), (76, []), (77, []), (78, []), (79, []), (80, []), (81, []), (103, [5]), (104, []), (105, []), (106, [])], 12)
def klu_235 : List en_Cu := []
/-! X11_first -/
theorem klh_235 {Sc : sm_C} : en_hold kl_tb klX sm_P Sc klc_235 := en_chk_ok klX_ok (T := [klc_232, klc_233, klc_234]) (cuts := klu_235) (List.forall_mem_cons.mpr ⟨klh_232, List.forall_mem_cons.mpr ⟨klh_233, List.forall_mem_cons.mpr ⟨klh_234, fun _ h => absurd h List.not_mem_nil⟩⟩⟩) (by decide +kernel)
def klc_236 : en_Ct := (45, [(2, 0, 0), (0, -2147483648, 2147483647)], [], (0, -2147483648, 2147483647), [(0, [12]), (46, []), (47, []), (74, [4, 5, 6, 7, 8, 10, 11, 12, 13, 14, 15]), (75, [4, 5]), (76, []), (77, []), (78, []), (79, []), (80, []), (81, [])], 7)
def klu_236 : List en_Cu := [(6, [(2, 0, 0), (0, 0, 9), (0, -2147483648, 2147483647), (0, 0, 2147483647)], [], [], 4294967295, [0, 0, 0, -2])]
/-! X11_forced -/
theorem klh_236 {Sc : sm_C} : en_hold kl_tb klX sm_P Sc klc_236 := en_chk_ok klX_ok (T := [klc_5, klc_205]) (cuts := klu_236) (List.forall_mem_cons.mpr ⟨klh_5, List.forall_mem_cons.mpr ⟨klh_205, fun _ h => absurd h List.not_mem_nil⟩⟩) (by decide +kernel)
def klc_237 : en_Ct := (46, [(2, 0, 0), (0, -2147483648, 2147483647), (0, -2147483648, 2147483647), (0, -2147483648, 2147483647), (0, 0, 1)], [], (0, -2147483648, 2147483647), [(0, [12]), (46, []), (47, []), (74, [4, 5, 6, 7, 8, 10, 11, 12, 13, 14, 15]), (75, [4, 5]), (76, []), (77, []), (78, []), (79, []), (80, []), (81, [])], 8)
def klu_237 : List en_Cu := []
/-! X11_gap -/
theorem klh_237 {Sc : sm_C} : en_hold kl_tb klX sm_P Sc klc_237 := en_chk_ok klX_ok (T := [klc_21, klc_216]) (cuts := klu_237) (List.forall_mem_cons.mpr ⟨klh_21, List.forall_mem_cons.mpr ⟨klh_216, fun _ h => absurd h List.not_mem_nil⟩⟩) (by decide +kernel)
def klc_238 : en_Ct := (47, [(2, 0, 0)], [], (0, -3, 1441), [(90, [4, 5, 6, 7, 8, 10, 11, 12, 13, 14, 15, 16, 17]), (91, [4, 5]), (92, []), (93, []), (94, []), (95, []), (96, []), (97, [])], 7)
def klu_238 : List en_Cu := []
/-! X11_give -/
theorem klh_238 {Sc : sm_C} : en_hold kl_tb klX sm_P Sc klc_238 := en_chk_ok klX_ok (T := [klc_45, klc_46, klc_199]) (cuts := klu_238) (List.forall_mem_cons.mpr ⟨klh_45, List.forall_mem_cons.mpr ⟨klh_46, List.forall_mem_cons.mpr ⟨klh_199, fun _ h => absurd h List.not_mem_nil⟩⟩⟩) (by decide +kernel)
def klc_239 : en_Ct := (48, [(2, 0, 0), (0, -2147483648, 2147483647)], [], (0, -3, 1023), [(90, [4, 5, 6, 7, 8, 10, 11, 12, 13, 14, 15, 16, 17]), (91, [4, 5]), (92, []), (93, []), (94, []), (95, []), (96, []), (97, []), (98, [4, 5, 8, 10]), (99, []), (100, []), (101, [])], 8)
def klu_239 : List en_Cu := []
/-! X11_givingUp -/
theorem klh_239 {Sc : sm_C} : en_hold kl_tb klX sm_P Sc klc_239 := en_chk_ok klX_ok (T := [klc_156, klc_157]) (cuts := klu_239) (List.forall_mem_cons.mpr ⟨klh_156, List.forall_mem_cons.mpr ⟨klh_157, fun _ h => absurd h List.not_mem_nil⟩⟩) (by decide +kernel)
def klc_240 : en_Ct := (49, [(2, 0, 0)], [], (0, -3, 252), [(90, [4, 5, 6, 7, 8, 10, 11, 12, 13, 14, 15, 16, 17]), (91, [4, 5]), (92, []), (93, []), (94, []), (95, []), (96, []), (97, []), (98, [4, 5, 8, 10]), (99, []), (100, []), (101, [])], 8)
def klu_240 : List en_Cu := []
/-! X11_givingUps -/
theorem klh_240 {Sc : sm_C} : en_hold kl_tb klX sm_P Sc klc_240 := en_chk_ok klX_ok (T := [klc_156, klc_157]) (cuts := klu_240) (List.forall_mem_cons.mpr ⟨klh_156, List.forall_mem_cons.mpr ⟨klh_157, fun _ h => absurd h List.not_mem_nil⟩⟩) (by decide +kernel)
def klc_241 : en_Ct := (51, [(2, 0, 0), (0, -2147483648, 2147483647), (0, -2147483648, 2147483647)], [], (0, -2147483648, 2147483647), [(0, [12]), (46, []), (47, []), (74, [4, 5, 6, 7, 8, 10, 11, 12, 13, 14, 15]), (75, [4, 5]), (76, []), (77, []), (78, []), (79, []), (80, []), (81, [])], 8)
def klu_241 : List en_Cu := []
/-! X11_goes -/
theorem klh_241 {Sc : sm_C} : en_hold kl_tb klX sm_P Sc klc_241 := en_chk_ok klX_ok (T := [klc_5, klc_216]) (cuts := klu_241) (List.forall_mem_cons.mpr ⟨klh_5, List.forall_mem_cons.mpr ⟨klh_216, fun _ h => absurd h List.not_mem_nil⟩⟩) (by decide +kernel)
def klc_242 : en_Ct := (57, [(2, 0, 0), (0, -2147483648, 2147483647)], [], (0, 0, 1), [(0, [13]), (82, [4, 5, 6, 7, 8, 10, 11, 12]), (83, [4, 5]), (84, []), (85, []), (86, []), (87, []), (88, []), (89, [])], 6)
def klu_242 : List en_Cu := []
/-! X11_isKept -/
theorem klh_242 {Sc : sm_C} : en_hold kl_tb klX sm_P Sc klc_242 := en_chk_ok klX_ok (T := [klc_45, klc_46, klc_95, klc_96, klc_107]) (cuts := klu_242) (List.forall_mem_cons.mpr ⟨klh_45, List.forall_mem_cons.mpr ⟨klh_46, List.forall_mem_cons.mpr ⟨klh_95, List.forall_mem_cons.mpr ⟨klh_96, List.forall_mem_cons.mpr ⟨klh_107, fun _ h => absurd h List.not_mem_nil⟩⟩⟩⟩⟩) (by decide +kernel)
def klc_243 : en_Ct := (52, [(2, 0, 0), (0, -2147483648, 2147483647), (0, -2147483648, 2147483647)], [], (0, -2147483648, 2147483647), [(0, [12, 13]), (46, []), (47, []), (74, [4, 5, 6, 7, 8, 10, 11, 12, 13, 14, 15]), (75, [4, 5]), (76, []), (77, []), (78, []), (79, []), (80, []), (81, []), (82, [4, 5, 6, 7, 8, 10, 11, 12]), (83, [4, 5]), (84, []), (85, []), (86, []), (87, []), (88, []), (89, [])], 8)
def klu_243 : List en_Cu := []
/-! X11_hand -/
theorem klh_243 {Sc : sm_C} : en_hold kl_tb klX sm_P Sc klc_243 := en_chk_ok klX_ok (T := [klc_72, klc_74, klc_125, klc_242, klc_216]) (cuts := klu_243) (List.forall_mem_cons.mpr ⟨klh_72, List.forall_mem_cons.mpr ⟨klh_74, List.forall_mem_cons.mpr ⟨klh_125, List.forall_mem_cons.mpr ⟨klh_242, List.forall_mem_cons.mpr ⟨klh_216, fun _ h => absurd h List.not_mem_nil⟩⟩⟩⟩⟩) (by decide +kernel)
def klc_244 : en_Ct := (53, [(2, 0, 0), (0, -2147483648, 2147483647), (0, -2147483648, 2147483647), (0, 0, 1)], [], (0, -2147483648, 2147483647), [(0, [12]), (46, []), (47, []), (74, [4, 5, 6, 7, 8, 10, 11, 12, 13, 14, 15]), (75, [4, 5]), (76, []), (77, []), (78, []), (79, []), (80, []), (81, [])], 8)
def klu_244 : List en_Cu := []
/-! X11_hour -/
theorem klh_244 {Sc : sm_C} : en_hold kl_tb klX sm_P Sc klc_244 := en_chk_ok klX_ok (T := [klc_124, klc_216]) (cuts := klu_244) (List.forall_mem_cons.mpr ⟨klh_124, List.forall_mem_cons.mpr ⟨klh_216, fun _ h => absurd h List.not_mem_nil⟩⟩) (by decide +kernel)
def klc_245 : en_Ct := (64, [(2, 0, 0)], [], (0, -3, 2147483647), [(0, [12, 13]), (46, []), (47, []), (74, [4, 5, 6, 7, 8, 10, 11, 12, 13, 14, 15]), (75, [4, 5]), (76, []), (77, []), (78, []), (79, []), (80, []), (81, []), (82, [4, 5, 6, 7, 8, 10, 11, 12]), (83, [4, 5]), (84, []), (85, []), (86, []), (87, []), (88, []), (89, [])], 7)
def klu_245 : List en_Cu := [(3, [(2, 0, 0), (0, 0, 2147483647)], [], [], 4294967295, [0, -2])]
/-! X11_keep -/
theorem klh_245 {Sc : sm_C} : en_hold kl_tb klX sm_P Sc klc_245 := en_chk_ok klX_ok (T := [klc_205, klc_242]) (cuts := klu_245) (List.forall_mem_cons.mpr ⟨klh_205, List.forall_mem_cons.mpr ⟨klh_242, fun _ h => absurd h List.not_mem_nil⟩⟩) (by decide +kernel)
def klc_246 : en_Ct := (65, [(2, 0, 0), (0, -2147483648, 2147483647)], [], (0, -3, 1), [(0, [12, 13]), (46, []), (47, []), (74, [4, 5, 6, 7, 8, 10, 11, 12, 13, 14, 15]), (75, [4, 5]), (76, []), (77, []), (78, []), (79, []), (80, []), (81, []), (82, [4, 5, 6, 7, 8, 10, 11, 12]), (83, [4, 5]), (84, []), (85, []), (86, []), (87, []), (88, []), (89, [])], 8)
def klu_246 : List en_Cu := []
/-! X11_kept -/
theorem klh_246 {Sc : sm_C} : en_hold kl_tb klX sm_P Sc klc_246 := en_chk_ok klX_ok (T := [klc_242, klc_216]) (cuts := klu_246) (List.forall_mem_cons.mpr ⟨klh_242, List.forall_mem_cons.mpr ⟨klh_216, fun _ h => absurd h List.not_mem_nil⟩⟩) (by decide +kernel)
def klc_247 : en_Ct := (7, [(2, 103, 0), (2, 12, 0), (0, 5, 5), (0, 0, 66), (0, -2147483648, 2147483647), (0, -2147483648, 2147483647)], [], (0, 1, 1), [], 0)
def klu_247 : List en_Cu := []
/-! X0_isLeft -/
theorem klh_247 {Sc : sm_C} : en_hold kl_tb klX sm_P Sc klc_247 := en_chk_ok klX_ok (T := []) (cuts := klu_247) (fun _ h => absurd h List.not_mem_nil) (by decide +kernel)
def klc_248 : en_Ct := (7, [(2, 103, 0), (2, 12, 0), (0, 4, 4), (0, 0, 65), (0, -2147483648, 2147483647), (0, -2147483648, 2147483647)], [], (0, 0, 1), [(76, [])], 5)
def klu_248 : List en_Cu := []
/-! X0_isLeft -/
theorem klh_248 {Sc : sm_C} : en_hold kl_tb klX sm_P Sc klc_248 := en_chk_ok klX_ok (T := [klc_3, klc_247]) (cuts := klu_248) (List.forall_mem_cons.mpr ⟨klh_3, List.forall_mem_cons.mpr ⟨klh_247, fun _ h => absurd h List.not_mem_nil⟩⟩) (by decide +kernel)
def klc_249 : en_Ct := (7, [(2, 103, 0), (2, 12, 0), (0, 3, 3), (0, 0, 64), (0, -2147483648, 2147483647), (0, -2147483648, 2147483647)], [], (0, 0, 1), [(76, [])], 6)
def klu_249 : List en_Cu := []
/-! X0_isLeft -/
theorem klh_249 {Sc : sm_C} : en_hold kl_tb klX sm_P Sc klc_249 := en_chk_ok klX_ok (T := [klc_3, klc_248]) (cuts := klu_249) (List.forall_mem_cons.mpr ⟨klh_3, List.forall_mem_cons.mpr ⟨klh_248, fun _ h => absurd h List.not_mem_nil⟩⟩) (by decide +kernel)
def klc_250 : en_Ct := (7, [(2, 103, 0), (2, 12, 0), (0, 2, 2), (0, 0, 63), (0, -2147483648, 2147483647), (0, -2147483648, 2147483647)], [], (0, 0, 1), [(76, [])], 7)
def klu_250 : List en_Cu := []
/-! X0_isLeft -/
theorem klh_250 {Sc : sm_C} : en_hold kl_tb klX sm_P Sc klc_250 := en_chk_ok klX_ok (T := [klc_3, klc_249]) (cuts := klu_250) (List.forall_mem_cons.mpr ⟨klh_3, List.forall_mem_cons.mpr ⟨klh_249, fun _ h => absurd h List.not_mem_nil⟩⟩) (by decide +kernel)
def klc_251 : en_Ct := (7, [(2, 103, 0), (2, 12, 0), (0, 1, 1), (0, 0, 61), (0, -2147483648, 2147483647), (0, -2147483648, 2147483647)], [], (0, 0, 1), [(76, [])], 8)
def klu_251 : List en_Cu := []
/-! X0_isLeft -/
theorem klh_251 {Sc : sm_C} : en_hold kl_tb klX sm_P Sc klc_251 := en_chk_ok klX_ok (T := [klc_3, klc_250]) (cuts := klu_251) (List.forall_mem_cons.mpr ⟨klh_3, List.forall_mem_cons.mpr ⟨klh_250, fun _ h => absurd h List.not_mem_nil⟩⟩) (by decide +kernel)
def klc_252 : en_Ct := (7, [(2, 103, 0), (2, 12, 0), (0, 0, 0), (0, 0, 60), (0, -2147483648, 2147483647), (0, -2147483648, 2147483647)], [], (0, 0, 1), [(76, [])], 9)
def klu_252 : List en_Cu := []
/-! X0_isLeft -/
theorem klh_252 {Sc : sm_C} : en_hold kl_tb klX sm_P Sc klc_252 := en_chk_ok klX_ok (T := [klc_3, klc_251]) (cuts := klu_252) (List.forall_mem_cons.mpr ⟨klh_3, List.forall_mem_cons.mpr ⟨klh_251, fun _ h => absurd h List.not_mem_nil⟩⟩) (by decide +kernel)
def klc_253 : en_Ct := (8, [(2, 103, 0), (2, 12, 0), (0, -2147483648, 2147483647), (0, -2147483648, 2147483647)], [], (0, -2147483648, 2147483647), [(74, [6]), (76, []), (81, [])], 10)
def klu_253 : List en_Cu := [(1, [(2, 103, 0), (2, 12, 0), (0, -2147483648, 2147483647), (0, -2147483648, 2147483647), (0, -2147483648, 2147483647), (0, 0, 2147483647)], [], [], 4294967295, [0, 0, 0, 0, 0, -2])]
/-! X0_leftWith -/
theorem klh_253 {Sc : sm_C} : en_hold kl_tb klX sm_P Sc klc_253 := en_chk_ok klX_ok (T := [klc_19, klc_252]) (cuts := klu_253) (List.forall_mem_cons.mpr ⟨klh_19, List.forall_mem_cons.mpr ⟨klh_252, fun _ h => absurd h List.not_mem_nil⟩⟩) (by decide +kernel)

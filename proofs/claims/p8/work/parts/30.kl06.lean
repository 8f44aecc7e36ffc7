/-! methods checked by the engine -/
def klc_254 : en_Ct := (7, [(2, 103, 0), (2, 49, 0), (0, 5, 5), (0, 0, 66), (0, -2147483648, 2147483647), (0, -2147483648, 2147483647)], [], (0, 1, 1), [], 0)
def klu_254 : List en_Cu := []
/-! X0_isLeft -/
theorem klh_254 {Sc : sm_C} : en_hold kl_tb klX sm_P Sc klc_254 := en_chk_ok klX_ok (T := []) (cuts := klu_254) (fun _ h => absurd h List.not_mem_nil) (by decide +kernel)
def klc_255 : en_Ct := (7, [(2, 103, 0), (2, 49, 0), (0, 4, 4), (0, 0, 65), (0, -2147483648, 2147483647), (0, -2147483648, 2147483647)], [], (0, 0, 1), [(76, [])], 5)
def klu_255 : List en_Cu := []
/-! X0_isLeft -/
theorem klh_255 {Sc : sm_C} : en_hold kl_tb klX sm_P Sc klc_255 := en_chk_ok klX_ok (T := [klc_4, klc_254]) (cuts := klu_255) (List.forall_mem_cons.mpr ⟨klh_4, List.forall_mem_cons.mpr ⟨klh_254, fun _ h => absurd h List.not_mem_nil⟩⟩) (by decide +kernel)
def klc_256 : en_Ct := (7, [(2, 103, 0), (2, 49, 0), (0, 3, 3), (0, 0, 64), (0, -2147483648, 2147483647), (0, -2147483648, 2147483647)], [], (0, 0, 1), [(76, [])], 6)
def klu_256 : List en_Cu := []
/-! X0_isLeft -/
theorem klh_256 {Sc : sm_C} : en_hold kl_tb klX sm_P Sc klc_256 := en_chk_ok klX_ok (T := [klc_4, klc_255]) (cuts := klu_256) (List.forall_mem_cons.mpr ⟨klh_4, List.forall_mem_cons.mpr ⟨klh_255, fun _ h => absurd h List.not_mem_nil⟩⟩) (by decide +kernel)
def klc_257 : en_Ct := (7, [(2, 103, 0), (2, 49, 0), (0, 2, 2), (0, 0, 63), (0, -2147483648, 2147483647), (0, -2147483648, 2147483647)], [], (0, 0, 1), [(76, [])], 7)
def klu_257 : List en_Cu := []
/-! X0_isLeft -/
theorem klh_257 {Sc : sm_C} : en_hold kl_tb klX sm_P Sc klc_257 := en_chk_ok klX_ok (T := [klc_4, klc_256]) (cuts := klu_257) (List.forall_mem_cons.mpr ⟨klh_4, List.forall_mem_cons.mpr ⟨klh_256, fun _ h => absurd h List.not_mem_nil⟩⟩) (by decide +kernel)
def klc_258 : en_Ct := (7, [(2, 103, 0), (2, 49, 0), (0, 1, 1), (0, 0, 61), (0, -2147483648, 2147483647), (0, -2147483648, 2147483647)], [], (0, 0, 1), [(76, [])], 8)
def klu_258 : List en_Cu := []
/-! X0_isLeft -/
theorem klh_258 {Sc : sm_C} : en_hold kl_tb klX sm_P Sc klc_258 := en_chk_ok klX_ok (T := [klc_4, klc_257]) (cuts := klu_258) (List.forall_mem_cons.mpr ⟨klh_4, List.forall_mem_cons.mpr ⟨klh_257, fun _ h => absurd h List.not_mem_nil⟩⟩) (by decide +kernel)
def klc_259 : en_Ct := (7, [(2, 103, 0), (2, 49, 0), (0, 0, 0), (0, 0, 60), (0, -2147483648, 2147483647), (0, -2147483648, 2147483647)], [], (0, 0, 1), [(76, [])], 9)
def klu_259 : List en_Cu := []
/-! X0_isLeft -/
theorem klh_259 {Sc : sm_C} : en_hold kl_tb klX sm_P Sc klc_259 := en_chk_ok klX_ok (T := [klc_4, klc_258]) (cuts := klu_259) (List.forall_mem_cons.mpr ⟨klh_4, List.forall_mem_cons.mpr ⟨klh_258, fun _ h => absurd h List.not_mem_nil⟩⟩) (by decide +kernel)
def klc_260 : en_Ct := (8, [(2, 103, 0), (2, 49, 0), (0, -2147483648, 2147483647), (0, -2147483648, 2147483647)], [], (0, -2147483648, 2147483647), [(74, [6]), (76, []), (81, [])], 10)
def klu_260 : List en_Cu := [(1, [(2, 103, 0), (2, 49, 0), (0, -2147483648, 2147483647), (0, -2147483648, 2147483647), (0, -2147483648, 2147483647), (0, 0, 2147483647)], [], [], 4294967295, [0, 0, 0, 0, 0, -2])]
/-! X0_leftWith -/
theorem klh_260 {Sc : sm_C} : en_hold kl_tb klX sm_P Sc klc_260 := en_chk_ok klX_ok (T := [klc_19, klc_259]) (cuts := klu_260) (List.forall_mem_cons.mpr ⟨klh_19, List.forall_mem_cons.mpr ⟨klh_259, fun _ h => absurd h List.not_mem_nil⟩⟩) (by decide +kernel)
def klc_261 : en_Ct := (67, [(2, 0, 0), (0, -2147483648, 2147483647), (0, -2147483648, 2147483647)], [], (0, -2147483648, 2147483647), [(0, [12]), (46, []), (47, []), (74, [4, 5, 6, 7, 8, 10, 11, 12, 13, 14, 15]), (75, [4, 5]), (76, []), (77, []), (78, []), (79, []), (80, []), (81, [])], 11)
def klu_261 : List en_Cu := []
/-! X11_left -/
theorem klh_261 {Sc : sm_C} : en_hold kl_tb klX sm_P Sc klc_261 := en_chk_ok klX_ok (T := [klc_205, klc_253, klc_260]) (cuts := klu_261) (List.forall_mem_cons.mpr ⟨klh_205, List.forall_mem_cons.mpr ⟨klh_253, List.forall_mem_cons.mpr ⟨klh_260, fun _ h => absurd h List.not_mem_nil⟩⟩⟩) (by decide +kernel)
def klc_262 : en_Ct := (69, [(2, 0, 0), (0, -2147483648, 2147483647), (0, -2147483648, 2147483647), (0, -2147483648, 2147483647), (0, -2147483648, 2147483647)], [], (0, -1, 6), [(0, [12, 13]), (37, [1]), (41, []), (42, []), (43, []), (44, []), (98, [8, 9]), (103, [5])], 2)
def klu_262 : List en_Cu := []
/-! X11_more -/
theorem klh_262 {Sc : sm_C} : en_hold kl_tb klX sm_P Sc klc_262 := en_chk_ok klX_ok (T := [klc_201, klc_209, klc_222]) (cuts := klu_262) (List.forall_mem_cons.mpr ⟨klh_201, List.forall_mem_cons.mpr ⟨klh_209, List.forall_mem_cons.mpr ⟨klh_222, fun _ h => absurd h List.not_mem_nil⟩⟩⟩) (by decide +kernel)
def klc_263 : en_Ct := (70, [(2, 0, 0), (0, -2147483648, 2147483647), (0, -2147483648, 2147483647)], [], (0, -2147483648, 2147483647), [], 0)
def klu_263 : List en_Cu := []
/-! X11_move -/
theorem klh_263 {Sc : sm_C} : en_hold kl_tb klX sm_P Sc klc_263 := en_chk_ok klX_ok (T := []) (cuts := klu_263) (fun _ h => absurd h List.not_mem_nil) (by decide +kernel)
def klc_264 : en_Ct := (71, [(2, 0, 0)], [], (0, -3, 4), [(0, [12]), (46, []), (47, []), (74, [4, 5, 6, 7, 8, 10, 11, 12, 13, 14, 15]), (75, [4, 5]), (76, []), (77, []), (78, []), (79, []), (80, []), (81, [])], 7)
def klu_264 : List en_Cu := [(5, [(2, 0, 0), (0, -1, 4), (0, -2147483648, 2147483647), (0, 0, 5)], [], [], 11, [0, 0, 0, -2])]
/-! X11_next -/
theorem klh_264 {Sc : sm_C} : en_hold kl_tb klX sm_P Sc klc_264 := en_chk_ok klX_ok (T := [klc_22, klc_23, klc_205]) (cuts := klu_264) (List.forall_mem_cons.mpr ⟨klh_22, List.forall_mem_cons.mpr ⟨klh_23, List.forall_mem_cons.mpr ⟨klh_205, fun _ h => absurd h List.not_mem_nil⟩⟩⟩) (by decide +kernel)
def klc_265 : en_Ct := (72, [(2, 0, 0), (0, -2147483648, 2147483647), (0, -2147483648, 2147483647)], [], (0, 0, 1), [(39, []), (98, [9])], 1)
def klu_265 : List en_Cu := []
/-! X11_pick -/
theorem klh_265 {Sc : sm_C} : en_hold kl_tb klX sm_P Sc klc_265 := en_chk_ok klX_ok (T := []) (cuts := klu_265) (fun _ h => absurd h List.not_mem_nil) (by decide +kernel)
def klc_266 : en_Ct := (73, [(2, 0, 0)], [], (0, -1, 2000), [], 0)
def klu_266 : List en_Cu := []
/-! X11_place -/
theorem klh_266 {Sc : sm_C} : en_hold kl_tb klX sm_P Sc klc_266 := en_chk_ok klX_ok (T := []) (cuts := klu_266) (fun _ h => absurd h List.not_mem_nil) (by decide +kernel)
def klc_267 : en_Ct := (74, [(2, 0, 0), (0, -2147483648, 2147483647)], [], (0, -3, 6), [(0, [12]), (46, []), (47, []), (74, [4, 5, 6, 7, 8, 10, 11, 12, 13, 14, 15]), (75, [4, 5]), (76, []), (77, []), (78, []), (79, []), (80, []), (81, []), (103, [5]), (104, []), (105, []), (106, [])], 12)
def klu_267 : List en_Cu := []
/-! X11_plan -/
theorem klh_267 {Sc : sm_C} : en_hold kl_tb klX sm_P Sc klc_267 := en_chk_ok klX_ok (T := [klc_234]) (cuts := klu_267) (List.forall_mem_cons.mpr ⟨klh_234, fun _ h => absurd h List.not_mem_nil⟩) (by decide +kernel)
def klc_268 : en_Ct := (76, [(2, 0, 0)], [], (0, -2147483648, 2147483647), [(90, [4, 5, 6, 7, 8, 10, 11, 12, 13, 14, 15, 16, 17]), (91, [4, 5]), (92, []), (93, []), (94, []), (95, []), (96, []), (97, []), (98, [4, 5, 8, 10]), (99, []), (100, []), (101, [])], 8)
def klu_268 : List en_Cu := []
/-! X11_price -/
theorem klh_268 {Sc : sm_C} : en_hold kl_tb klX sm_P Sc klc_268 := en_chk_ok klX_ok (T := [klc_145, klc_147, klc_144, klc_146, klc_156, klc_157]) (cuts := klu_268) (List.forall_mem_cons.mpr ⟨klh_145, List.forall_mem_cons.mpr ⟨klh_147, List.forall_mem_cons.mpr ⟨klh_144, List.forall_mem_cons.mpr ⟨klh_146, List.forall_mem_cons.mpr ⟨klh_156, List.forall_mem_cons.mpr ⟨klh_157, fun _ h => absurd h List.not_mem_nil⟩⟩⟩⟩⟩⟩) (by decide +kernel)
def klc_269 : en_Ct := (78, [(2, 0, 0), (0, -2147483648, 2147483647)], [], (0, -3, 1023), [(90, [4, 5, 6, 7, 8, 10, 11, 12, 13, 14, 15, 16, 17]), (91, [4, 5]), (92, []), (93, []), (94, []), (95, []), (96, []), (97, []), (98, [4, 5, 8, 10]), (99, []), (100, []), (101, [])], 8)
def klu_269 : List en_Cu := []
/-! X11_quarrel -/
theorem klh_269 {Sc : sm_C} : en_hold kl_tb klX sm_P Sc klc_269 := en_chk_ok klX_ok (T := [klc_156, klc_157]) (cuts := klu_269) (List.forall_mem_cons.mpr ⟨klh_156, List.forall_mem_cons.mpr ⟨klh_157, fun _ h => absurd h List.not_mem_nil⟩⟩) (by decide +kernel)
def klc_270 : en_Ct := (79, [(2, 0, 0)], [], (0, -3, 252), [(90, [4, 5, 6, 7, 8, 10, 11, 12, 13, 14, 15, 16, 17]), (91, [4, 5]), (92, []), (93, []), (94, []), (95, []), (96, []), (97, []), (98, [4, 5, 8, 10]), (99, []), (100, []), (101, [])], 8)
def klu_270 : List en_Cu := []
/-! X11_quarrels -/
theorem klh_270 {Sc : sm_C} : en_hold kl_tb klX sm_P Sc klc_270 := en_chk_ok klX_ok (T := [klc_156, klc_157]) (cuts := klu_270) (List.forall_mem_cons.mpr ⟨klh_156, List.forall_mem_cons.mpr ⟨klh_157, fun _ h => absurd h List.not_mem_nil⟩⟩) (by decide +kernel)
def klc_271 : en_Ct := (80, [(2, 0, 0)], [], (0, 0, 5), [(0, [9, 10, 11, 12, 13]), (2, [5, 6, 7, 8, 9, 10, 11]), (3, [3]), (4, []), (5, []), (7, [1, 2, 3]), (8, []), (10, []), (11, []), (12, [0, 1, 2, 3, 4, 5, 6]), (13, []), (14, []), (15, []), (17, []), (18, []), (19, []), (20, []), (21, []), (22, []), (23, []), (25, []), (26, []), (27, []), (28, []), (30, []), (31, []), (32, []), (33, []), (34, []), (35, []), (36, []), (37, [0, 1]), (38, []), (39, []), (49, [0, 1, 2, 3, 4, 5, 6]), (50, []), (51, []), (52, []), (54, []), (55, []), (56, []), (57, []), (58, []), (59, []), (60, []), (62, []), (63, []), (64, []), (65, []), (67, []), (68, []), (69, []), (70, []), (71, []), (72, []), (73, []), (98, [8, 9]), (103, [5])], 7)
def klu_271 : List en_Cu := []
/-! X11_read -/
theorem klh_271 {Sc : sm_C} : en_hold kl_tb klX sm_P Sc klc_271 := en_chk_ok klX_ok (T := [klc_141, klc_161, klc_162, klc_198, klc_222]) (cuts := klu_271) (List.forall_mem_cons.mpr ⟨klh_141, List.forall_mem_cons.mpr ⟨klh_161, List.forall_mem_cons.mpr ⟨klh_162, List.forall_mem_cons.mpr ⟨klh_198, List.forall_mem_cons.mpr ⟨klh_222, fun _ h => absurd h List.not_mem_nil⟩⟩⟩⟩⟩) (by decide +kernel)
def klc_272 : en_Ct := (81, [(2, 0, 0)], [], (0, -2, 55), [(90, [4, 5, 6, 7, 8, 10, 11, 12]), (91, [4, 5]), (92, []), (93, []), (94, []), (95, []), (96, []), (98, [7, 9, 11]), (102, [])], 8)
def klu_272 : List en_Cu := []
/-! X11_ring -/
theorem klh_272 {Sc : sm_C} : en_hold kl_tb klX sm_P Sc klc_272 := en_chk_ok klX_ok (T := [klc_159, klc_160]) (cuts := klu_272) (List.forall_mem_cons.mpr ⟨klh_159, List.forall_mem_cons.mpr ⟨klh_160, fun _ h => absurd h List.not_mem_nil⟩⟩) (by decide +kernel)
def klc_273 : en_Ct := (82, [(2, 0, 0), (0, -2147483648, 2147483647)], [], (0, -1, 144), [(90, [4, 5, 6, 7, 8, 10, 11, 12]), (91, [4, 5]), (92, []), (93, []), (94, []), (95, []), (96, []), (98, [7, 9, 11]), (102, [])], 8)
def klu_273 : List en_Cu := []
/-! X11_ringAt -/
theorem klh_273 {Sc : sm_C} : en_hold kl_tb klX sm_P Sc klc_273 := en_chk_ok klX_ok (T := [klc_159, klc_160]) (cuts := klu_273) (List.forall_mem_cons.mpr ⟨klh_159, List.forall_mem_cons.mpr ⟨klh_160, fun _ h => absurd h List.not_mem_nil⟩⟩) (by decide +kernel)
def klc_274 : en_Ct := (83, [(2, 0, 0), (0, -2147483648, 2147483647), (0, -2147483648, 2147483647)], [], (0, 0, 1), [(38, [])], 1)
def klu_274 : List en_Cu := []
/-! X11_set -/
theorem klh_274 {Sc : sm_C} : en_hold kl_tb klX sm_P Sc klc_274 := en_chk_ok klX_ok (T := []) (cuts := klu_274) (fun _ h => absurd h List.not_mem_nil) (by decide +kernel)
def klc_275 : en_Ct := (84, [(2, 0, 0)], [], (0, -2147483648, 2147483647), [(0, [12]), (46, []), (47, []), (74, [4, 5, 6, 7, 8, 10, 11, 12, 13, 14, 15]), (75, [4, 5]), (76, []), (77, []), (78, []), (79, []), (80, []), (81, [])], 8)
def klu_275 : List en_Cu := [(3, [(2, 0, 0), (0, -2147483648, 2147483647), (0, 0, 2147483647)], [], [], 4294967295, [0, 0, -2])]
/-! X11_setWays -/
theorem klh_275 {Sc : sm_C} : en_hold kl_tb klX sm_P Sc klc_275 := en_chk_ok klX_ok (T := [klc_127, klc_205, klc_216]) (cuts := klu_275) (List.forall_mem_cons.mpr ⟨klh_127, List.forall_mem_cons.mpr ⟨klh_205, List.forall_mem_cons.mpr ⟨klh_216, fun _ h => absurd h List.not_mem_nil⟩⟩⟩) (by decide +kernel)
def klc_276 : en_Ct := (85, [(2, 0, 0), (0, -2147483648, 2147483647), (0, -2147483648, 2147483647), (0, 0, 1)], [], (0, -2147483648, 2147483647), [(0, [12]), (46, []), (47, []), (74, [4, 5, 6, 7, 8, 10, 11, 12, 13, 14, 15]), (75, [4, 5]), (76, []), (77, []), (78, []), (79, []), (80, []), (81, [])], 8)
def klu_276 : List en_Cu := []
/-! X11_slack -/
theorem klh_276 {Sc : sm_C} : en_hold kl_tb klX sm_P Sc klc_276 := en_chk_ok klX_ok (T := [klc_126, klc_127, klc_216]) (cuts := klu_276) (List.forall_mem_cons.mpr ⟨klh_126, List.forall_mem_cons.mpr ⟨klh_127, List.forall_mem_cons.mpr ⟨klh_216, fun _ h => absurd h List.not_mem_nil⟩⟩⟩) (by decide +kernel)
def klc_277 : en_Ct := (87, [(2, 0, 0)], [], (0, 0, 1), [(90, [4, 5, 6, 7, 8, 10, 11, 12]), (91, [4, 5]), (92, []), (93, []), (94, []), (95, []), (96, []), (98, [7, 9, 11]), (102, [])], 8)
def klu_277 : List en_Cu := []
/-! X11_stands -/
theorem klh_277 {Sc : sm_C} : en_hold kl_tb klX sm_P Sc klc_277 := en_chk_ok klX_ok (T := [klc_159, klc_160]) (cuts := klu_277) (List.forall_mem_cons.mpr ⟨klh_159, List.forall_mem_cons.mpr ⟨klh_160, fun _ h => absurd h List.not_mem_nil⟩⟩) (by decide +kernel)
def klc_278 : en_Ct := (88, [(2, 0, 0), (0, -2147483648, 2147483647), (0, -2147483648, 2147483647)], [], (0, -2147483648, 2147483647), [(0, [12]), (46, []), (47, []), (74, [4, 5, 6, 7, 8, 10, 11, 12, 13, 14, 15]), (75, [4, 5]), (76, []), (77, []), (78, []), (79, []), (80, []), (81, [])], 7)
def klu_278 : List en_Cu := []
/-! X11_tried -/
theorem klh_278 {Sc : sm_C} : en_hold kl_tb klX sm_P Sc klc_278 := en_chk_ok klX_ok (T := [klc_78, klc_205]) (cuts := klu_278) (List.forall_mem_cons.mpr ⟨klh_78, List.forall_mem_cons.mpr ⟨klh_205, fun _ h => absurd h List.not_mem_nil⟩⟩) (by decide +kernel)
def klc_279 : en_Ct := (90, [(2, 0, 0), (0, -2147483648, 2147483647), (0, -2147483648, 2147483647)], [], (0, -2147483648, 2147483647), [], 1)
def klu_279 : List en_Cu := []
/-! X11_walk -/
theorem klh_279 {Sc : sm_C} : en_hold kl_tb klX sm_P Sc klc_279 := en_chk_ok klX_ok (T := [klc_63, klc_65]) (cuts := klu_279) (List.forall_mem_cons.mpr ⟨klh_63, List.forall_mem_cons.mpr ⟨klh_65, fun _ h => absurd h List.not_mem_nil⟩⟩) (by decide +kernel)
def klc_280 : en_Ct := (91, [(2, 0, 0)], [], (0, -2147483648, 2147483647), [(0, [12]), (46, []), (47, []), (74, [4, 5, 6, 7, 8, 10, 11, 12, 13, 14, 15]), (75, [4, 5]), (76, []), (77, []), (78, []), (79, []), (80, []), (81, [])], 7)
def klu_280 : List en_Cu := []
/-! X11_ways -/
theorem klh_280 {Sc : sm_C} : en_hold kl_tb klX sm_P Sc klc_280 := en_chk_ok klX_ok (T := [klc_205]) (cuts := klu_280) (List.forall_mem_cons.mpr ⟨klh_205, fun _ h => absurd h List.not_mem_nil⟩) (by decide +kernel)

section
/-! the engine's contracts, with what was gone through and its levels (wip/pe/mkl2.py) -/
theorem klk_5 {Sc : sm_C} : en_hold kl_tb2 klY sm_P Sc klc_5 := en_chk_ok klY_ok (T := []) (cuts := klu_5) (fun _ h => absurd h List.not_mem_nil) (by decide +kernel)
theorem klk_6 {Sc : sm_C} : en_hold kl_tb2 klY sm_P Sc klc_6 := en_chk_ok klY_ok (T := []) (cuts := klu_6) (fun _ h => absurd h List.not_mem_nil) (by decide +kernel)
theorem klk_7 {Sc : sm_C} : en_hold kl_tb2 klY sm_P Sc klc_7 := en_chk_ok klY_ok (T := []) (cuts := klu_7) (fun _ h => absurd h List.not_mem_nil) (by decide +kernel)
theorem klk_8 {Sc : sm_C} : en_hold kl_tb2 klY sm_P Sc klc_8 := en_chk_ok klY_ok (T := []) (cuts := klu_8) (fun _ h => absurd h List.not_mem_nil) (by decide +kernel)
theorem klk_9 {Sc : sm_C} : en_hold kl_tb2 klY sm_P Sc klc_9 := en_chk_ok klY_ok (T := []) (cuts := klu_9) (fun _ h => absurd h List.not_mem_nil) (by decide +kernel)
theorem klk_10 {Sc : sm_C} : en_hold kl_tb2 klY sm_P Sc klc_10 := en_chk_ok klY_ok (T := []) (cuts := klu_10) (fun _ h => absurd h List.not_mem_nil) (by decide +kernel)
theorem klk_11 {Sc : sm_C} : en_hold kl_tb2 klY sm_P Sc klc_11 := en_chk_ok klY_ok (T := []) (cuts := klu_11) (fun _ h => absurd h List.not_mem_nil) (by decide +kernel)
theorem klk_13 {Sc : sm_C} : en_hold kl_tb2 klY sm_P Sc klc_13 := en_chk_ok klY_ok (T := []) (cuts := klu_13) (fun _ h => absurd h List.not_mem_nil) (by decide +kernel)
theorem klk_14 {Sc : sm_C} : en_hold kl_tb2 klY sm_P Sc klc_14 := en_chk_ok klY_ok (T := []) (cuts := klu_14) (fun _ h => absurd h List.not_mem_nil) (by decide +kernel)
theorem klk_15 {Sc : sm_C} : en_hold kl_tb2 klY sm_P Sc klc_15 := en_chk_ok klY_ok (T := []) (cuts := klu_15) (fun _ h => absurd h List.not_mem_nil) (by decide +kernel)
theorem klk_16 {Sc : sm_C} : en_hold kl_tb2 klY sm_P Sc klc_16 := en_chk_ok klY_ok (T := []) (cuts := klu_16) (fun _ h => absurd h List.not_mem_nil) (by decide +kernel)
theorem klk_21 {Sc : sm_C} : en_hold kl_tb2 klY sm_P Sc klc_21 := en_chk_ok klY_ok (T := [klc_20]) (cuts := klu_21) (List.forall_mem_cons.mpr ⟨klk_20, fun _ h => absurd h List.not_mem_nil⟩) (by decide +kernel)
theorem klk_36 {Sc : sm_C} : en_hold kl_tb2 klY sm_P Sc klc_36 := en_chk_ok klY_ok (T := []) (cuts := klu_36) (fun _ h => absurd h List.not_mem_nil) (by decide +kernel)
theorem klk_37 {Sc : sm_C} : en_hold kl_tb2 klY sm_P Sc klc_37 := en_chk_ok klY_ok (T := [klc_36]) (cuts := klu_37) (List.forall_mem_cons.mpr ⟨klk_36, fun _ h => absurd h List.not_mem_nil⟩) (by decide +kernel)
theorem klk_38 {Sc : sm_C} : en_hold kl_tb2 klY sm_P Sc klc_38 := en_chk_ok klY_ok (T := [klc_36]) (cuts := klu_38) (List.forall_mem_cons.mpr ⟨klk_36, fun _ h => absurd h List.not_mem_nil⟩) (by decide +kernel)
theorem klk_45 {Sc : sm_C} : en_hold kl_tb2 klY sm_P Sc klc_45 := en_chk_ok klY_ok (T := []) (cuts := klu_45) (fun _ h => absurd h List.not_mem_nil) (by decide +kernel)
theorem klk_46 {Sc : sm_C} : en_hold kl_tb2 klY sm_P Sc klc_46 := en_chk_ok klY_ok (T := []) (cuts := klu_46) (fun _ h => absurd h List.not_mem_nil) (by decide +kernel)
theorem klk_63 {Sc : sm_C} : en_hold kl_tb2 klY sm_P Sc klc_63 := en_chk_ok klY_ok (T := []) (cuts := klu_63) (fun _ h => absurd h List.not_mem_nil) (by decide +kernel)
theorem klk_65 {Sc : sm_C} : en_hold kl_tb2 klY sm_P Sc klc_65 := en_chk_ok klY_ok (T := []) (cuts := klu_65) (fun _ h => absurd h List.not_mem_nil) (by decide +kernel)
theorem klk_71 {Sc : sm_C} : en_hold kl_tb2 klY sm_P Sc klc_71 := en_chk_ok klY_ok (T := []) (cuts := klu_71) (fun _ h => absurd h List.not_mem_nil) (by decide +kernel)
theorem klk_72 {Sc : sm_C} : en_hold kl_tb2 klY sm_P Sc klc_72 := en_chk_ok klY_ok (T := [klc_71]) (cuts := klu_72) (List.forall_mem_cons.mpr ⟨klk_71, fun _ h => absurd h List.not_mem_nil⟩) (by decide +kernel)
theorem klk_73 {Sc : sm_C} : en_hold kl_tb2 klY sm_P Sc klc_73 := en_chk_ok klY_ok (T := []) (cuts := klu_73) (fun _ h => absurd h List.not_mem_nil) (by decide +kernel)
theorem klk_74 {Sc : sm_C} : en_hold kl_tb2 klY sm_P Sc klc_74 := en_chk_ok klY_ok (T := [klc_73]) (cuts := klu_74) (List.forall_mem_cons.mpr ⟨klk_73, fun _ h => absurd h List.not_mem_nil⟩) (by decide +kernel)
theorem klk_77 {Sc : sm_C} : en_hold kl_tb2 klY sm_P Sc klc_77 := en_chk_ok klY_ok (T := []) (cuts := klu_77) (fun _ h => absurd h List.not_mem_nil) (by decide +kernel)
theorem klk_78 {Sc : sm_C} : en_hold kl_tb2 klY sm_P Sc klc_78 := en_chk_ok klY_ok (T := [klc_77]) (cuts := klu_78) (List.forall_mem_cons.mpr ⟨klk_77, fun _ h => absurd h List.not_mem_nil⟩) (by decide +kernel)
theorem klk_80 {Sc : sm_C} : en_hold kl_tb2 klY sm_P Sc klc_80 := en_chk_ok klY_ok (T := []) (cuts := klu_80) (fun _ h => absurd h List.not_mem_nil) (by decide +kernel)
theorem klk_81 {Sc : sm_C} : en_hold kl_tb2 klY sm_P Sc klc_81 := en_chk_ok klY_ok (T := []) (cuts := klu_81) (fun _ h => absurd h List.not_mem_nil) (by decide +kernel)
theorem klk_82 {Sc : sm_C} : en_hold kl_tb2 klY sm_P Sc klc_82 := en_chk_ok klY_ok (T := []) (cuts := klu_82) (fun _ h => absurd h List.not_mem_nil) (by decide +kernel)
theorem klk_84 {Sc : sm_C} : en_hold kl_tb2 klY sm_P Sc klc_84 := en_chk_ok klY_ok (T := []) (cuts := klu_84) (fun _ h => absurd h List.not_mem_nil) (by decide +kernel)
theorem klk_91 {Sc : sm_C} : en_hold kl_tb2 klY sm_P Sc klc_91 := en_chk_ok klY_ok (T := [klc_90]) (cuts := klu_91) (List.forall_mem_cons.mpr ⟨klk_90, fun _ h => absurd h List.not_mem_nil⟩) (by decide +kernel)
theorem klk_94 {Sc : sm_C} : en_hold kl_tb2 klY sm_P Sc klc_94 := en_chk_ok klY_ok (T := [klc_91, klc_92, klc_93]) (cuts := klu_94) (List.forall_mem_cons.mpr ⟨klk_91, List.forall_mem_cons.mpr ⟨klk_92, List.forall_mem_cons.mpr ⟨klk_93, fun _ h => absurd h List.not_mem_nil⟩⟩⟩) (by decide +kernel)
theorem klk_95 {Sc : sm_C} : en_hold kl_tb2 klY sm_P Sc klc_95 := en_chk_ok klY_ok (T := [klc_80, klc_94]) (cuts := klu_95) (List.forall_mem_cons.mpr ⟨klk_80, List.forall_mem_cons.mpr ⟨klk_94, fun _ h => absurd h List.not_mem_nil⟩⟩) (by decide +kernel)
theorem klk_96 {Sc : sm_C} : en_hold kl_tb2 klY sm_P Sc klc_96 := en_chk_ok klY_ok (T := [klc_80, klc_94]) (cuts := klu_96) (List.forall_mem_cons.mpr ⟨klk_80, List.forall_mem_cons.mpr ⟨klk_94, fun _ h => absurd h List.not_mem_nil⟩⟩) (by decide +kernel)
theorem klk_98 {Sc : sm_C} : en_hold kl_tb2 klY sm_P Sc klc_98 := en_chk_ok klY_ok (T := [klc_97]) (cuts := klu_98) (List.forall_mem_cons.mpr ⟨klk_97, fun _ h => absurd h List.not_mem_nil⟩) (by decide +kernel)
theorem klk_100 {Sc : sm_C} : en_hold kl_tb2 klY sm_P Sc klc_100 := en_chk_ok klY_ok (T := [klc_98, klc_99]) (cuts := klu_100) (List.forall_mem_cons.mpr ⟨klk_98, List.forall_mem_cons.mpr ⟨klk_99, fun _ h => absurd h List.not_mem_nil⟩⟩) (by decide +kernel)
theorem klk_101 {Sc : sm_C} : en_hold kl_tb2 klY sm_P Sc klc_101 := en_chk_ok klY_ok (T := [klc_81, klc_100]) (cuts := klu_101) (List.forall_mem_cons.mpr ⟨klk_81, List.forall_mem_cons.mpr ⟨klk_100, fun _ h => absurd h List.not_mem_nil⟩⟩) (by decide +kernel)
theorem klk_102 {Sc : sm_C} : en_hold kl_tb2 klY sm_P Sc klc_102 := en_chk_ok klY_ok (T := [klc_81, klc_100]) (cuts := klu_102) (List.forall_mem_cons.mpr ⟨klk_81, List.forall_mem_cons.mpr ⟨klk_100, fun _ h => absurd h List.not_mem_nil⟩⟩) (by decide +kernel)
theorem klk_103 {Sc : sm_C} : en_hold kl_tb2 klY sm_P Sc klc_103 := en_chk_ok klY_ok (T := [klc_10, klc_11]) (cuts := klu_103) (List.forall_mem_cons.mpr ⟨klk_10, List.forall_mem_cons.mpr ⟨klk_11, fun _ h => absurd h List.not_mem_nil⟩⟩) (by decide +kernel)
theorem klk_104 {Sc : sm_C} : en_hold kl_tb2 klY sm_P Sc klc_104 := en_chk_ok klY_ok (T := [klc_103, klc_90, klc_13, klc_14, klc_15, klc_16]) (cuts := klu_104) (List.forall_mem_cons.mpr ⟨klk_103, List.forall_mem_cons.mpr ⟨klk_90, List.forall_mem_cons.mpr ⟨klk_13, List.forall_mem_cons.mpr ⟨klk_14, List.forall_mem_cons.mpr ⟨klk_15, List.forall_mem_cons.mpr ⟨klk_16, fun _ h => absurd h List.not_mem_nil⟩⟩⟩⟩⟩⟩) (by decide +kernel)
theorem klk_106 {Sc : sm_C} : en_hold kl_tb2 klY sm_P Sc klc_106 := en_chk_ok klY_ok (T := [klc_6, klc_7, klc_91, klc_8, klc_9, klc_104, klc_105]) (cuts := klu_106) (List.forall_mem_cons.mpr ⟨klk_6, List.forall_mem_cons.mpr ⟨klk_7, List.forall_mem_cons.mpr ⟨klk_91, List.forall_mem_cons.mpr ⟨klk_8, List.forall_mem_cons.mpr ⟨klk_9, List.forall_mem_cons.mpr ⟨klk_104, List.forall_mem_cons.mpr ⟨klk_105, fun _ h => absurd h List.not_mem_nil⟩⟩⟩⟩⟩⟩⟩) (by decide +kernel)
end
section
/-! the engine's contracts, with what was gone through and its levels (wip/pe/mkl2.py) -/
theorem klk_107 {Sc : sm_C} : en_hold kl_tb2 klY sm_P Sc klc_107 := en_chk_ok klY_ok (T := [klc_5, klc_106]) (cuts := klu_107) (List.forall_mem_cons.mpr ⟨klk_5, List.forall_mem_cons.mpr ⟨klk_106, fun _ h => absurd h List.not_mem_nil⟩⟩) (by decide +kernel)
theorem klk_109 {Sc : sm_C} : en_hold kl_tb2 klY sm_P Sc klc_109 := en_chk_ok klY_ok (T := []) (cuts := klu_109) (fun _ h => absurd h List.not_mem_nil) (by decide +kernel)
theorem klk_110 {Sc : sm_C} : en_hold kl_tb2 klY sm_P Sc klc_110 := en_chk_ok klY_ok (T := []) (cuts := klu_110) (fun _ h => absurd h List.not_mem_nil) (by decide +kernel)
theorem klk_111 {Sc : sm_C} : en_hold kl_tb2 klY sm_P Sc klc_111 := en_chk_ok klY_ok (T := [klc_63, klc_65, klc_109, klc_10, klc_110, klc_11]) (cuts := klu_111) (List.forall_mem_cons.mpr ⟨klk_63, List.forall_mem_cons.mpr ⟨klk_65, List.forall_mem_cons.mpr ⟨klk_109, List.forall_mem_cons.mpr ⟨klk_10, List.forall_mem_cons.mpr ⟨klk_110, List.forall_mem_cons.mpr ⟨klk_11, fun _ h => absurd h List.not_mem_nil⟩⟩⟩⟩⟩⟩) (by decide +kernel)
theorem klk_112 {Sc : sm_C} : en_hold kl_tb2 klY sm_P Sc klc_112 := en_chk_ok klY_ok (T := [klc_111, klc_82, klc_84]) (cuts := klu_112) (List.forall_mem_cons.mpr ⟨klk_111, List.forall_mem_cons.mpr ⟨klk_82, List.forall_mem_cons.mpr ⟨klk_84, fun _ h => absurd h List.not_mem_nil⟩⟩⟩) (by decide +kernel)
theorem klk_114 {Sc : sm_C} : en_hold kl_tb2 klY sm_P Sc klc_114 := en_chk_ok klY_ok (T := [klc_113]) (cuts := klu_114) (List.forall_mem_cons.mpr ⟨klk_113, fun _ h => absurd h List.not_mem_nil⟩) (by decide +kernel)
theorem klk_118 {Sc : sm_C} : en_hold kl_tb2 klY sm_P Sc klc_118 := en_chk_ok klY_ok (T := [klc_117]) (cuts := klu_118) (List.forall_mem_cons.mpr ⟨klk_117, fun _ h => absurd h List.not_mem_nil⟩) (by decide +kernel)
theorem klk_119 {Sc : sm_C} : en_hold kl_tb2 klY sm_P Sc klc_119 := en_chk_ok klY_ok (T := [klc_111, klc_97, klc_13, klc_14, klc_15, klc_16]) (cuts := klu_119) (List.forall_mem_cons.mpr ⟨klk_111, List.forall_mem_cons.mpr ⟨klk_97, List.forall_mem_cons.mpr ⟨klk_13, List.forall_mem_cons.mpr ⟨klk_14, List.forall_mem_cons.mpr ⟨klk_15, List.forall_mem_cons.mpr ⟨klk_16, fun _ h => absurd h List.not_mem_nil⟩⟩⟩⟩⟩⟩) (by decide +kernel)
theorem klk_121 {Sc : sm_C} : en_hold kl_tb2 klY sm_P Sc klc_121 := en_chk_ok klY_ok (T := [klc_6, klc_7, klc_98, klc_8, klc_9, klc_119, klc_120]) (cuts := klu_121) (List.forall_mem_cons.mpr ⟨klk_6, List.forall_mem_cons.mpr ⟨klk_7, List.forall_mem_cons.mpr ⟨klk_98, List.forall_mem_cons.mpr ⟨klk_8, List.forall_mem_cons.mpr ⟨klk_9, List.forall_mem_cons.mpr ⟨klk_119, List.forall_mem_cons.mpr ⟨klk_120, fun _ h => absurd h List.not_mem_nil⟩⟩⟩⟩⟩⟩⟩) (by decide +kernel)
theorem klk_122 {Sc : sm_C} : en_hold kl_tb2 klY sm_P Sc klc_122 := en_chk_ok klY_ok (T := [klc_112, klc_118, klc_121]) (cuts := klu_122) (List.forall_mem_cons.mpr ⟨klk_112, List.forall_mem_cons.mpr ⟨klk_118, List.forall_mem_cons.mpr ⟨klk_121, fun _ h => absurd h List.not_mem_nil⟩⟩⟩) (by decide +kernel)
theorem klk_123 {Sc : sm_C} : en_hold kl_tb2 klY sm_P Sc klc_123 := en_chk_ok klY_ok (T := [klc_81, klc_98]) (cuts := klu_123) (List.forall_mem_cons.mpr ⟨klk_81, List.forall_mem_cons.mpr ⟨klk_98, fun _ h => absurd h List.not_mem_nil⟩⟩) (by decide +kernel)
theorem klk_124 {Sc : sm_C} : en_hold kl_tb2 klY sm_P Sc klc_124 := en_chk_ok klY_ok (T := [klc_21]) (cuts := klu_124) (List.forall_mem_cons.mpr ⟨klk_21, fun _ h => absurd h List.not_mem_nil⟩) (by decide +kernel)
theorem klk_125 {Sc : sm_C} : en_hold kl_tb2 klY sm_P Sc klc_125 := en_chk_ok klY_ok (T := [klc_114]) (cuts := klu_125) (List.forall_mem_cons.mpr ⟨klk_114, fun _ h => absurd h List.not_mem_nil⟩) (by decide +kernel)
theorem klk_126 {Sc : sm_C} : en_hold kl_tb2 klY sm_P Sc klc_126 := en_chk_ok klY_ok (T := [klc_21, klc_124]) (cuts := klu_126) (List.forall_mem_cons.mpr ⟨klk_21, List.forall_mem_cons.mpr ⟨klk_124, fun _ h => absurd h List.not_mem_nil⟩⟩) (by decide +kernel)
theorem klk_127 {Sc : sm_C} : en_hold kl_tb2 klY sm_P Sc klc_127 := en_chk_ok klY_ok (T := [klc_126]) (cuts := klu_127) (List.forall_mem_cons.mpr ⟨klk_126, fun _ h => absurd h List.not_mem_nil⟩) (by decide +kernel)
theorem klk_128 {Sc : sm_C} : en_hold kl_tb2 klY sm_P Sc klc_128 := en_chk_ok klY_ok (T := []) (cuts := klu_128) (fun _ h => absurd h List.not_mem_nil) (by decide +kernel)
theorem klk_144 {Sc : sm_C} : en_hold kl_tb2 klY sm_P Sc klc_144 := en_chk_ok klY_ok (T := []) (cuts := klu_144) (fun _ h => absurd h List.not_mem_nil) (by decide +kernel)
theorem klk_145 {Sc : sm_C} : en_hold kl_tb2 klY sm_P Sc klc_145 := en_chk_ok klY_ok (T := [klc_144]) (cuts := klu_145) (List.forall_mem_cons.mpr ⟨klk_144, fun _ h => absurd h List.not_mem_nil⟩) (by decide +kernel)
theorem klk_146 {Sc : sm_C} : en_hold kl_tb2 klY sm_P Sc klc_146 := en_chk_ok klY_ok (T := []) (cuts := klu_146) (fun _ h => absurd h List.not_mem_nil) (by decide +kernel)
theorem klk_147 {Sc : sm_C} : en_hold kl_tb2 klY sm_P Sc klc_147 := en_chk_ok klY_ok (T := [klc_146]) (cuts := klu_147) (List.forall_mem_cons.mpr ⟨klk_146, fun _ h => absurd h List.not_mem_nil⟩) (by decide +kernel)
theorem klk_148 {Sc : sm_C} : en_hold kl_tb2 klY sm_P Sc klc_148 := en_chk_ok klY_ok (T := [klc_101, klc_122]) (cuts := klu_148) (List.forall_mem_cons.mpr ⟨klk_101, List.forall_mem_cons.mpr ⟨klk_122, fun _ h => absurd h List.not_mem_nil⟩⟩) (by decide +kernel)
theorem klk_149 {Sc : sm_C} : en_hold kl_tb2 klY sm_P Sc klc_149 := en_chk_ok klY_ok (T := [klc_102, klc_122]) (cuts := klu_149) (List.forall_mem_cons.mpr ⟨klk_102, List.forall_mem_cons.mpr ⟨klk_122, fun _ h => absurd h List.not_mem_nil⟩⟩) (by decide +kernel)
theorem klk_150 {Sc : sm_C} : en_hold kl_tb2 klY sm_P Sc klc_150 := en_chk_ok klY_ok (T := []) (cuts := klu_150) (fun _ h => absurd h List.not_mem_nil) (by decide +kernel)
theorem klk_151 {Sc : sm_C} : en_hold kl_tb2 klY sm_P Sc klc_151 := en_chk_ok klY_ok (T := [klc_121, klc_150]) (cuts := klu_151) (List.forall_mem_cons.mpr ⟨klk_121, List.forall_mem_cons.mpr ⟨klk_150, fun _ h => absurd h List.not_mem_nil⟩⟩) (by decide +kernel)
theorem klk_152 {Sc : sm_C} : en_hold kl_tb2 klY sm_P Sc klc_152 := en_chk_ok klY_ok (T := []) (cuts := klu_152) (fun _ h => absurd h List.not_mem_nil) (by decide +kernel)
theorem klk_153 {Sc : sm_C} : en_hold kl_tb2 klY sm_P Sc klc_153 := en_chk_ok klY_ok (T := []) (cuts := klu_153) (fun _ h => absurd h List.not_mem_nil) (by decide +kernel)
theorem klk_154 {Sc : sm_C} : en_hold kl_tb2 klY sm_P Sc klc_154 := en_chk_ok klY_ok (T := []) (cuts := klu_154) (fun _ h => absurd h List.not_mem_nil) (by decide +kernel)
theorem klk_155 {Sc : sm_C} : en_hold kl_tb2 klY sm_P Sc klc_155 := en_chk_ok klY_ok (T := [klc_152, klc_153, klc_154]) (cuts := klu_155) (List.forall_mem_cons.mpr ⟨klk_152, List.forall_mem_cons.mpr ⟨klk_153, List.forall_mem_cons.mpr ⟨klk_154, fun _ h => absurd h List.not_mem_nil⟩⟩⟩) (by decide +kernel)
theorem klk_156 {Sc : sm_C} : en_hold kl_tb2 klY sm_P Sc klc_156 := en_chk_ok klY_ok (T := [klc_45, klc_148, klc_155]) (cuts := klu_156) (List.forall_mem_cons.mpr ⟨klk_45, List.forall_mem_cons.mpr ⟨klk_148, List.forall_mem_cons.mpr ⟨klk_155, fun _ h => absurd h List.not_mem_nil⟩⟩⟩) (by decide +kernel)
theorem klk_157 {Sc : sm_C} : en_hold kl_tb2 klY sm_P Sc klc_157 := en_chk_ok klY_ok (T := [klc_46, klc_149, klc_155]) (cuts := klu_157) (List.forall_mem_cons.mpr ⟨klk_46, List.forall_mem_cons.mpr ⟨klk_149, List.forall_mem_cons.mpr ⟨klk_155, fun _ h => absurd h List.not_mem_nil⟩⟩⟩) (by decide +kernel)
theorem klk_158 {Sc : sm_C} : en_hold kl_tb2 klY sm_P Sc klc_158 := en_chk_ok klY_ok (T := [klc_151, klc_150]) (cuts := klu_158) (List.forall_mem_cons.mpr ⟨klk_151, List.forall_mem_cons.mpr ⟨klk_150, fun _ h => absurd h List.not_mem_nil⟩⟩) (by decide +kernel)
theorem klk_159 {Sc : sm_C} : en_hold kl_tb2 klY sm_P Sc klc_159 := en_chk_ok klY_ok (T := [klc_101, klc_151, klc_158]) (cuts := klu_159) (List.forall_mem_cons.mpr ⟨klk_101, List.forall_mem_cons.mpr ⟨klk_151, List.forall_mem_cons.mpr ⟨klk_158, fun _ h => absurd h List.not_mem_nil⟩⟩⟩) (by decide +kernel)
theorem klk_160 {Sc : sm_C} : en_hold kl_tb2 klY sm_P Sc klc_160 := en_chk_ok klY_ok (T := [klc_102, klc_151, klc_158]) (cuts := klu_160) (List.forall_mem_cons.mpr ⟨klk_102, List.forall_mem_cons.mpr ⟨klk_151, List.forall_mem_cons.mpr ⟨klk_158, fun _ h => absurd h List.not_mem_nil⟩⟩⟩) (by decide +kernel)
theorem klk_199 {Sc : sm_C} : en_hold kl_tb2 klY sm_P Sc klc_199 := en_chk_ok klY_ok (T := [klc_45, klc_46, klc_101, klc_102, klc_122, klc_128]) (cuts := klu_199) (List.forall_mem_cons.mpr ⟨klk_45, List.forall_mem_cons.mpr ⟨klk_46, List.forall_mem_cons.mpr ⟨klk_101, List.forall_mem_cons.mpr ⟨klk_102, List.forall_mem_cons.mpr ⟨klk_122, List.forall_mem_cons.mpr ⟨klk_128, fun _ h => absurd h List.not_mem_nil⟩⟩⟩⟩⟩⟩) (by decide +kernel)
theorem klk_200 {Sc : sm_C} : en_hold kl_tb2 klY sm_P Sc klc_200 := en_chk_ok klY_ok (T := [klc_199]) (cuts := klu_200) (List.forall_mem_cons.mpr ⟨klk_199, fun _ h => absurd h List.not_mem_nil⟩) (by decide +kernel)
theorem klk_202 {Sc : sm_C} : en_hold kl_tb2 klY sm_P Sc klc_202 := en_chk_ok klY_ok (T := []) (cuts := klu_202) (fun _ h => absurd h List.not_mem_nil) (by decide +kernel)
theorem klk_203 {Sc : sm_C} : en_hold kl_tb2 klY sm_P Sc klc_203 := en_chk_ok klY_ok (T := [klc_202]) (cuts := klu_203) (List.forall_mem_cons.mpr ⟨klk_202, fun _ h => absurd h List.not_mem_nil⟩) (by decide +kernel)
theorem klk_204 {Sc : sm_C} : en_hold kl_tb2 klY sm_P Sc klc_204 := en_chk_ok klY_ok (T := [klc_202]) (cuts := klu_204) (List.forall_mem_cons.mpr ⟨klk_202, fun _ h => absurd h List.not_mem_nil⟩) (by decide +kernel)
theorem klk_206 {Sc : sm_C} : en_hold kl_tb2 klY sm_P Sc klc_206 := en_chk_ok klY_ok (T := [klc_22, klc_23, klc_205]) (cuts := klu_206) (List.forall_mem_cons.mpr ⟨klk_22, List.forall_mem_cons.mpr ⟨klk_23, List.forall_mem_cons.mpr ⟨klk_205, fun _ h => absurd h List.not_mem_nil⟩⟩⟩) (by decide +kernel)
theorem klk_207 {Sc : sm_C} : en_hold kl_tb2 klY sm_P Sc klc_207 := en_chk_ok klY_ok (T := [klc_202]) (cuts := klu_207) (List.forall_mem_cons.mpr ⟨klk_202, fun _ h => absurd h List.not_mem_nil⟩) (by decide +kernel)
end
section
/-! the engine's contracts, with what was gone through and its levels (wip/pe/mkl2.py) -/
theorem klk_208 {Sc : sm_C} : en_hold kl_tb2 klY sm_P Sc klc_208 := en_chk_ok klY_ok (T := [klc_202]) (cuts := klu_208) (List.forall_mem_cons.mpr ⟨klk_202, fun _ h => absurd h List.not_mem_nil⟩) (by decide +kernel)
theorem klk_212 {Sc : sm_C} : en_hold kl_tb2 klY sm_P Sc klc_212 := en_chk_ok klY_ok (T := [klc_6, klc_7, klc_8, klc_9, klc_203, klc_204, klc_207, klc_208]) (cuts := klu_212) (List.forall_mem_cons.mpr ⟨klk_6, List.forall_mem_cons.mpr ⟨klk_7, List.forall_mem_cons.mpr ⟨klk_8, List.forall_mem_cons.mpr ⟨klk_9, List.forall_mem_cons.mpr ⟨klk_203, List.forall_mem_cons.mpr ⟨klk_204, List.forall_mem_cons.mpr ⟨klk_207, List.forall_mem_cons.mpr ⟨klk_208, fun _ h => absurd h List.not_mem_nil⟩⟩⟩⟩⟩⟩⟩⟩) (by decide +kernel)
theorem klk_213 {Sc : sm_C} : en_hold kl_tb2 klY sm_P Sc klc_213 := en_chk_ok klY_ok (T := [klc_45, klc_46, klc_101, klc_102, klc_122, klc_123]) (cuts := klu_213) (List.forall_mem_cons.mpr ⟨klk_45, List.forall_mem_cons.mpr ⟨klk_46, List.forall_mem_cons.mpr ⟨klk_101, List.forall_mem_cons.mpr ⟨klk_102, List.forall_mem_cons.mpr ⟨klk_122, List.forall_mem_cons.mpr ⟨klk_123, fun _ h => absurd h List.not_mem_nil⟩⟩⟩⟩⟩⟩) (by decide +kernel)
theorem klk_214 {Sc : sm_C} : en_hold kl_tb2 klY sm_P Sc klc_214 := en_chk_ok klY_ok (T := [klc_213]) (cuts := klu_214) (List.forall_mem_cons.mpr ⟨klk_213, fun _ h => absurd h List.not_mem_nil⟩) (by decide +kernel)
theorem klk_215 {Sc : sm_C} : en_hold kl_tb2 klY sm_P Sc klc_215 := en_chk_ok klY_ok (T := [klc_202]) (cuts := klu_215) (List.forall_mem_cons.mpr ⟨klk_202, fun _ h => absurd h List.not_mem_nil⟩) (by decide +kernel)
theorem klk_217 {Sc : sm_C} : en_hold kl_tb2 klY sm_P Sc klc_217 := en_chk_ok klY_ok (T := [klc_124, klc_205, klc_216]) (cuts := klu_217) (List.forall_mem_cons.mpr ⟨klk_124, List.forall_mem_cons.mpr ⟨klk_205, List.forall_mem_cons.mpr ⟨klk_216, fun _ h => absurd h List.not_mem_nil⟩⟩⟩) (by decide +kernel)
theorem klk_218 {Sc : sm_C} : en_hold kl_tb2 klY sm_P Sc klc_218 := en_chk_ok klY_ok (T := [klc_145, klc_147, klc_156, klc_157]) (cuts := klu_218) (List.forall_mem_cons.mpr ⟨klk_145, List.forall_mem_cons.mpr ⟨klk_147, List.forall_mem_cons.mpr ⟨klk_156, List.forall_mem_cons.mpr ⟨klk_157, fun _ h => absurd h List.not_mem_nil⟩⟩⟩⟩) (by decide +kernel)
theorem klk_219 {Sc : sm_C} : en_hold kl_tb2 klY sm_P Sc klc_219 := en_chk_ok klY_ok (T := [klc_5, klc_216]) (cuts := klu_219) (List.forall_mem_cons.mpr ⟨klk_5, List.forall_mem_cons.mpr ⟨klk_216, fun _ h => absurd h List.not_mem_nil⟩⟩) (by decide +kernel)
theorem klk_220 {Sc : sm_C} : en_hold kl_tb2 klY sm_P Sc klc_220 := en_chk_ok klY_ok (T := [klc_213]) (cuts := klu_220) (List.forall_mem_cons.mpr ⟨klk_213, fun _ h => absurd h List.not_mem_nil⟩) (by decide +kernel)
theorem klk_221 {Sc : sm_C} : en_hold kl_tb2 klY sm_P Sc klc_221 := en_chk_ok klY_ok (T := [klc_205]) (cuts := klu_221) (List.forall_mem_cons.mpr ⟨klk_205, fun _ h => absurd h List.not_mem_nil⟩) (by decide +kernel)
theorem klk_226 {Sc : sm_C} : en_hold kl_tb2 klY sm_P Sc klc_226 := en_chk_ok klY_ok (T := [klc_124, klc_63, klc_65]) (cuts := klu_226) (List.forall_mem_cons.mpr ⟨klk_124, List.forall_mem_cons.mpr ⟨klk_63, List.forall_mem_cons.mpr ⟨klk_65, fun _ h => absurd h List.not_mem_nil⟩⟩⟩) (by decide +kernel)
theorem klk_227 {Sc : sm_C} : en_hold kl_tb2 klY sm_P Sc klc_227 := en_chk_ok klY_ok (T := [klc_216, klc_226]) (cuts := klu_227) (List.forall_mem_cons.mpr ⟨klk_216, List.forall_mem_cons.mpr ⟨klk_226, fun _ h => absurd h List.not_mem_nil⟩⟩) (by decide +kernel)
theorem klk_228 {Sc : sm_C} : en_hold kl_tb2 klY sm_P Sc klc_228 := en_chk_ok klY_ok (T := [klc_124, klc_205, klc_216]) (cuts := klu_228) (List.forall_mem_cons.mpr ⟨klk_124, List.forall_mem_cons.mpr ⟨klk_205, List.forall_mem_cons.mpr ⟨klk_216, fun _ h => absurd h List.not_mem_nil⟩⟩⟩) (by decide +kernel)
theorem klk_229 {Sc : sm_C} : en_hold kl_tb2 klY sm_P Sc klc_229 := en_chk_ok klY_ok (T := []) (cuts := klu_229) (fun _ h => absurd h List.not_mem_nil) (by decide +kernel)
theorem klk_230 {Sc : sm_C} : en_hold kl_tb2 klY sm_P Sc klc_230 := en_chk_ok klY_ok (T := [klc_229]) (cuts := klu_230) (List.forall_mem_cons.mpr ⟨klk_229, fun _ h => absurd h List.not_mem_nil⟩) (by decide +kernel)
theorem klk_232 {Sc : sm_C} : en_hold kl_tb2 klY sm_P Sc klc_232 := en_chk_ok klY_ok (T := [klc_36]) (cuts := klu_232) (List.forall_mem_cons.mpr ⟨klk_36, fun _ h => absurd h List.not_mem_nil⟩) (by decide +kernel)
theorem klk_233 {Sc : sm_C} : en_hold kl_tb2 klY sm_P Sc klc_233 := en_chk_ok klY_ok (T := [klc_36]) (cuts := klu_233) (List.forall_mem_cons.mpr ⟨klk_36, fun _ h => absurd h List.not_mem_nil⟩) (by decide +kernel)
theorem klk_234 {Sc : sm_C} : en_hold kl_tb2 klY sm_P Sc klc_234 := en_chk_ok klY_ok (T := [klc_37, klc_38, klc_224, klc_225, klc_205]) (cuts := klu_234) (List.forall_mem_cons.mpr ⟨klk_37, List.forall_mem_cons.mpr ⟨klk_38, List.forall_mem_cons.mpr ⟨klk_224, List.forall_mem_cons.mpr ⟨klk_225, List.forall_mem_cons.mpr ⟨klk_205, fun _ h => absurd h List.not_mem_nil⟩⟩⟩⟩⟩) (by decide +kernel)
theorem klk_235 {Sc : sm_C} : en_hold kl_tb2 klY sm_P Sc klc_235 := en_chk_ok klY_ok (T := [klc_232, klc_233, klc_234]) (cuts := klu_235) (List.forall_mem_cons.mpr ⟨klk_232, List.forall_mem_cons.mpr ⟨klk_233, List.forall_mem_cons.mpr ⟨klk_234, fun _ h => absurd h List.not_mem_nil⟩⟩⟩) (by decide +kernel)
theorem klk_236 {Sc : sm_C} : en_hold kl_tb2 klY sm_P Sc klc_236 := en_chk_ok klY_ok (T := [klc_5, klc_205]) (cuts := klu_236) (List.forall_mem_cons.mpr ⟨klk_5, List.forall_mem_cons.mpr ⟨klk_205, fun _ h => absurd h List.not_mem_nil⟩⟩) (by decide +kernel)
theorem klk_237 {Sc : sm_C} : en_hold kl_tb2 klY sm_P Sc klc_237 := en_chk_ok klY_ok (T := [klc_21, klc_216]) (cuts := klu_237) (List.forall_mem_cons.mpr ⟨klk_21, List.forall_mem_cons.mpr ⟨klk_216, fun _ h => absurd h List.not_mem_nil⟩⟩) (by decide +kernel)
theorem klk_238 {Sc : sm_C} : en_hold kl_tb2 klY sm_P Sc klc_238 := en_chk_ok klY_ok (T := [klc_45, klc_46, klc_199]) (cuts := klu_238) (List.forall_mem_cons.mpr ⟨klk_45, List.forall_mem_cons.mpr ⟨klk_46, List.forall_mem_cons.mpr ⟨klk_199, fun _ h => absurd h List.not_mem_nil⟩⟩⟩) (by decide +kernel)
theorem klk_239 {Sc : sm_C} : en_hold kl_tb2 klY sm_P Sc klc_239 := en_chk_ok klY_ok (T := [klc_156, klc_157]) (cuts := klu_239) (List.forall_mem_cons.mpr ⟨klk_156, List.forall_mem_cons.mpr ⟨klk_157, fun _ h => absurd h List.not_mem_nil⟩⟩) (by decide +kernel)
theorem klk_240 {Sc : sm_C} : en_hold kl_tb2 klY sm_P Sc klc_240 := en_chk_ok klY_ok (T := [klc_156, klc_157]) (cuts := klu_240) (List.forall_mem_cons.mpr ⟨klk_156, List.forall_mem_cons.mpr ⟨klk_157, fun _ h => absurd h List.not_mem_nil⟩⟩) (by decide +kernel)
theorem klk_241 {Sc : sm_C} : en_hold kl_tb2 klY sm_P Sc klc_241 := en_chk_ok klY_ok (T := [klc_5, klc_216]) (cuts := klu_241) (List.forall_mem_cons.mpr ⟨klk_5, List.forall_mem_cons.mpr ⟨klk_216, fun _ h => absurd h List.not_mem_nil⟩⟩) (by decide +kernel)
theorem klk_242 {Sc : sm_C} : en_hold kl_tb2 klY sm_P Sc klc_242 := en_chk_ok klY_ok (T := [klc_45, klc_46, klc_95, klc_96, klc_107]) (cuts := klu_242) (List.forall_mem_cons.mpr ⟨klk_45, List.forall_mem_cons.mpr ⟨klk_46, List.forall_mem_cons.mpr ⟨klk_95, List.forall_mem_cons.mpr ⟨klk_96, List.forall_mem_cons.mpr ⟨klk_107, fun _ h => absurd h List.not_mem_nil⟩⟩⟩⟩⟩) (by decide +kernel)
theorem klk_243 {Sc : sm_C} : en_hold kl_tb2 klY sm_P Sc klc_243 := en_chk_ok klY_ok (T := [klc_72, klc_74, klc_125, klc_242, klc_216]) (cuts := klu_243) (List.forall_mem_cons.mpr ⟨klk_72, List.forall_mem_cons.mpr ⟨klk_74, List.forall_mem_cons.mpr ⟨klk_125, List.forall_mem_cons.mpr ⟨klk_242, List.forall_mem_cons.mpr ⟨klk_216, fun _ h => absurd h List.not_mem_nil⟩⟩⟩⟩⟩) (by decide +kernel)
theorem klk_244 {Sc : sm_C} : en_hold kl_tb2 klY sm_P Sc klc_244 := en_chk_ok klY_ok (T := [klc_124, klc_216]) (cuts := klu_244) (List.forall_mem_cons.mpr ⟨klk_124, List.forall_mem_cons.mpr ⟨klk_216, fun _ h => absurd h List.not_mem_nil⟩⟩) (by decide +kernel)
theorem klk_245 {Sc : sm_C} : en_hold kl_tb2 klY sm_P Sc klc_245 := en_chk_ok klY_ok (T := [klc_205, klc_242]) (cuts := klu_245) (List.forall_mem_cons.mpr ⟨klk_205, List.forall_mem_cons.mpr ⟨klk_242, fun _ h => absurd h List.not_mem_nil⟩⟩) (by decide +kernel)
theorem klk_246 {Sc : sm_C} : en_hold kl_tb2 klY sm_P Sc klc_246 := en_chk_ok klY_ok (T := [klc_242, klc_216]) (cuts := klu_246) (List.forall_mem_cons.mpr ⟨klk_242, List.forall_mem_cons.mpr ⟨klk_216, fun _ h => absurd h List.not_mem_nil⟩⟩) (by decide +kernel)
theorem klk_261 {Sc : sm_C} : en_hold kl_tb2 klY sm_P Sc klc_261 := en_chk_ok klY_ok (T := [klc_205, klc_253, klc_260]) (cuts := klu_261) (List.forall_mem_cons.mpr ⟨klk_205, List.forall_mem_cons.mpr ⟨klk_253, List.forall_mem_cons.mpr ⟨klk_260, fun _ h => absurd h List.not_mem_nil⟩⟩⟩) (by decide +kernel)
theorem klk_263 {Sc : sm_C} : en_hold kl_tb2 klY sm_P Sc klc_263 := en_chk_ok klY_ok (T := []) (cuts := klu_263) (fun _ h => absurd h List.not_mem_nil) (by decide +kernel)
theorem klk_264 {Sc : sm_C} : en_hold kl_tb2 klY sm_P Sc klc_264 := en_chk_ok klY_ok (T := [klc_22, klc_23, klc_205]) (cuts := klu_264) (List.forall_mem_cons.mpr ⟨klk_22, List.forall_mem_cons.mpr ⟨klk_23, List.forall_mem_cons.mpr ⟨klk_205, fun _ h => absurd h List.not_mem_nil⟩⟩⟩) (by decide +kernel)
theorem klk_265 {Sc : sm_C} : en_hold kl_tb2 klY sm_P Sc klc_265 := en_chk_ok klY_ok (T := []) (cuts := klu_265) (fun _ h => absurd h List.not_mem_nil) (by decide +kernel)
theorem klk_266 {Sc : sm_C} : en_hold kl_tb2 klY sm_P Sc klc_266 := en_chk_ok klY_ok (T := []) (cuts := klu_266) (fun _ h => absurd h List.not_mem_nil) (by decide +kernel)
theorem klk_267 {Sc : sm_C} : en_hold kl_tb2 klY sm_P Sc klc_267 := en_chk_ok klY_ok (T := [klc_234]) (cuts := klu_267) (List.forall_mem_cons.mpr ⟨klk_234, fun _ h => absurd h List.not_mem_nil⟩) (by decide +kernel)
theorem klk_268 {Sc : sm_C} : en_hold kl_tb2 klY sm_P Sc klc_268 := en_chk_ok klY_ok (T := [klc_145, klc_147, klc_144, klc_146, klc_156, klc_157]) (cuts := klu_268) (List.forall_mem_cons.mpr ⟨klk_145, List.forall_mem_cons.mpr ⟨klk_147, List.forall_mem_cons.mpr ⟨klk_144, List.forall_mem_cons.mpr ⟨klk_146, List.forall_mem_cons.mpr ⟨klk_156, List.forall_mem_cons.mpr ⟨klk_157, fun _ h => absurd h List.not_mem_nil⟩⟩⟩⟩⟩⟩) (by decide +kernel)
theorem klk_269 {Sc : sm_C} : en_hold kl_tb2 klY sm_P Sc klc_269 := en_chk_ok klY_ok (T := [klc_156, klc_157]) (cuts := klu_269) (List.forall_mem_cons.mpr ⟨klk_156, List.forall_mem_cons.mpr ⟨klk_157, fun _ h => absurd h List.not_mem_nil⟩⟩) (by decide +kernel)
theorem klk_270 {Sc : sm_C} : en_hold kl_tb2 klY sm_P Sc klc_270 := en_chk_ok klY_ok (T := [klc_156, klc_157]) (cuts := klu_270) (List.forall_mem_cons.mpr ⟨klk_156, List.forall_mem_cons.mpr ⟨klk_157, fun _ h => absurd h List.not_mem_nil⟩⟩) (by decide +kernel)
theorem klk_272 {Sc : sm_C} : en_hold kl_tb2 klY sm_P Sc klc_272 := en_chk_ok klY_ok (T := [klc_159, klc_160]) (cuts := klu_272) (List.forall_mem_cons.mpr ⟨klk_159, List.forall_mem_cons.mpr ⟨klk_160, fun _ h => absurd h List.not_mem_nil⟩⟩) (by decide +kernel)
end
section
/-! the engine's contracts, with what was gone through and its levels (wip/pe/mkl2.py) -/
theorem klk_273 {Sc : sm_C} : en_hold kl_tb2 klY sm_P Sc klc_273 := en_chk_ok klY_ok (T := [klc_159, klc_160]) (cuts := klu_273) (List.forall_mem_cons.mpr ⟨klk_159, List.forall_mem_cons.mpr ⟨klk_160, fun _ h => absurd h List.not_mem_nil⟩⟩) (by decide +kernel)
theorem klk_274 {Sc : sm_C} : en_hold kl_tb2 klY sm_P Sc klc_274 := en_chk_ok klY_ok (T := []) (cuts := klu_274) (fun _ h => absurd h List.not_mem_nil) (by decide +kernel)
theorem klk_275 {Sc : sm_C} : en_hold kl_tb2 klY sm_P Sc klc_275 := en_chk_ok klY_ok (T := [klc_127, klc_205, klc_216]) (cuts := klu_275) (List.forall_mem_cons.mpr ⟨klk_127, List.forall_mem_cons.mpr ⟨klk_205, List.forall_mem_cons.mpr ⟨klk_216, fun _ h => absurd h List.not_mem_nil⟩⟩⟩) (by decide +kernel)
theorem klk_276 {Sc : sm_C} : en_hold kl_tb2 klY sm_P Sc klc_276 := en_chk_ok klY_ok (T := [klc_126, klc_127, klc_216]) (cuts := klu_276) (List.forall_mem_cons.mpr ⟨klk_126, List.forall_mem_cons.mpr ⟨klk_127, List.forall_mem_cons.mpr ⟨klk_216, fun _ h => absurd h List.not_mem_nil⟩⟩⟩) (by decide +kernel)
theorem klk_277 {Sc : sm_C} : en_hold kl_tb2 klY sm_P Sc klc_277 := en_chk_ok klY_ok (T := [klc_159, klc_160]) (cuts := klu_277) (List.forall_mem_cons.mpr ⟨klk_159, List.forall_mem_cons.mpr ⟨klk_160, fun _ h => absurd h List.not_mem_nil⟩⟩) (by decide +kernel)
theorem klk_278 {Sc : sm_C} : en_hold kl_tb2 klY sm_P Sc klc_278 := en_chk_ok klY_ok (T := [klc_78, klc_205]) (cuts := klu_278) (List.forall_mem_cons.mpr ⟨klk_78, List.forall_mem_cons.mpr ⟨klk_205, fun _ h => absurd h List.not_mem_nil⟩⟩) (by decide +kernel)
theorem klk_279 {Sc : sm_C} : en_hold kl_tb2 klY sm_P Sc klc_279 := en_chk_ok klY_ok (T := [klc_63, klc_65]) (cuts := klu_279) (List.forall_mem_cons.mpr ⟨klk_63, List.forall_mem_cons.mpr ⟨klk_65, fun _ h => absurd h List.not_mem_nil⟩⟩) (by decide +kernel)
theorem klk_280 {Sc : sm_C} : en_hold kl_tb2 klY sm_P Sc klc_280 := en_chk_ok klY_ok (T := [klc_205]) (cuts := klu_280) (List.forall_mem_cons.mpr ⟨klk_205, fun _ h => absurd h List.not_mem_nil⟩) (by decide +kernel)
end
section
/-! read leaves the rows of MOVES (wip/pe/mkY.py) -/
def kl_tb3 : en_Tb := (kl_tb.1, kl_tb.2.1, (48, []) :: kl_tb.2.2)
def klZ (c48 : Nat → Int64) (w : sm_W) : Prop := klX w ∧ ∀ j, w.2.2.1 48 j = c48 j
theorem klZ_no {p j : Nat} (h : en_fix kl_tb3 p j = false) : p ≠ 48 ∧ en_fix kl_tb p j = false := by
  have h : (Nat.beq 48 p && true || en_wok kl_tb.2.2 p j) = false := h
  obtain ⟨h1, h2⟩ := Bool.or_eq_false_iff.mp h
  refine ⟨fun e => ?_, h2⟩
  subst e
  exact absurd h1 (by decide)
theorem klZ_ok {c48 : Nat → Int64} : en_Xok kl_tb3 (klZ c48) := by
  refine ⟨fun lay m p j x h hX => ⟨klX_ok.1 lay m p j x (klZ_no h).2 hX.1, hX.2⟩, fun lay m p j r h hX => ⟨klX_ok.2.1 lay m p j r (klZ_no h).2 hX.1, hX.2⟩, fun lay m p j y h hX => ⟨klX_ok.2.2 lay m p j y (klZ_no h).2 hX.1, fun i => ?_⟩⟩
  have n := (klZ_no h).1
  exact (en_up_ne _ _ _ _ (fun q => n q.1.symm)).trans (hX.2 i)
/-! read's tree: the rows of MOVES stay (wip/pe/mkY.py) -/
theorem klz_6 {Sc : sm_C} {c48 : Nat → Int64} : en_hold kl_tb3 (klZ c48) sm_P Sc klc_6 := en_chk_ok klZ_ok (T := []) (cuts := klu_6) (fun _ h => absurd h List.not_mem_nil) (by decide +kernel)
theorem klz_7 {Sc : sm_C} {c48 : Nat → Int64} : en_hold kl_tb3 (klZ c48) sm_P Sc klc_7 := en_chk_ok klZ_ok (T := []) (cuts := klu_7) (fun _ h => absurd h List.not_mem_nil) (by decide +kernel)
theorem klz_8 {Sc : sm_C} {c48 : Nat → Int64} : en_hold kl_tb3 (klZ c48) sm_P Sc klc_8 := en_chk_ok klZ_ok (T := []) (cuts := klu_8) (fun _ h => absurd h List.not_mem_nil) (by decide +kernel)
theorem klz_9 {Sc : sm_C} {c48 : Nat → Int64} : en_hold kl_tb3 (klZ c48) sm_P Sc klc_9 := en_chk_ok klZ_ok (T := []) (cuts := klu_9) (fun _ h => absurd h List.not_mem_nil) (by decide +kernel)
theorem klz_39 {Sc : sm_C} {c48 : Nat → Int64} : en_hold kl_tb3 (klZ c48) sm_P Sc klc_39 := en_chk_ok klZ_ok (T := []) (cuts := klu_39) (fun _ h => absurd h List.not_mem_nil) (by decide +kernel)
theorem klz_40 {Sc : sm_C} {c48 : Nat → Int64} : en_hold kl_tb3 (klZ c48) sm_P Sc klc_40 := en_chk_ok klZ_ok (T := []) (cuts := klu_40) (fun _ h => absurd h List.not_mem_nil) (by decide +kernel)
theorem klz_41 {Sc : sm_C} {c48 : Nat → Int64} : en_hold kl_tb3 (klZ c48) sm_P Sc klc_41 := en_chk_ok klZ_ok (T := []) (cuts := klu_41) (fun _ h => absurd h List.not_mem_nil) (by decide +kernel)
theorem klz_42 {Sc : sm_C} {c48 : Nat → Int64} : en_hold kl_tb3 (klZ c48) sm_P Sc klc_42 := en_chk_ok klZ_ok (T := []) (cuts := klu_42) (fun _ h => absurd h List.not_mem_nil) (by decide +kernel)
theorem klz_43 {Sc : sm_C} {c48 : Nat → Int64} : en_hold kl_tb3 (klZ c48) sm_P Sc klc_43 := en_chk_ok klZ_ok (T := []) (cuts := klu_43) (fun _ h => absurd h List.not_mem_nil) (by decide +kernel)
theorem klz_44 {Sc : sm_C} {c48 : Nat → Int64} : en_hold kl_tb3 (klZ c48) sm_P Sc klc_44 := en_chk_ok klZ_ok (T := []) (cuts := klu_44) (fun _ h => absurd h List.not_mem_nil) (by decide +kernel)
theorem klz_47 {Sc : sm_C} {c48 : Nat → Int64} : en_hold kl_tb3 (klZ c48) sm_P Sc klc_47 := en_chk_ok klZ_ok (T := []) (cuts := klu_47) (fun _ h => absurd h List.not_mem_nil) (by decide +kernel)
theorem klz_48 {Sc : sm_C} {c48 : Nat → Int64} : en_hold kl_tb3 (klZ c48) sm_P Sc klc_48 := en_chk_ok klZ_ok (T := []) (cuts := klu_48) (fun _ h => absurd h List.not_mem_nil) (by decide +kernel)
theorem klz_49 {Sc : sm_C} {c48 : Nat → Int64} : en_hold kl_tb3 (klZ c48) sm_P Sc klc_49 := en_chk_ok klZ_ok (T := []) (cuts := klu_49) (fun _ h => absurd h List.not_mem_nil) (by decide +kernel)
theorem klz_50 {Sc : sm_C} {c48 : Nat → Int64} : en_hold kl_tb3 (klZ c48) sm_P Sc klc_50 := en_chk_ok klZ_ok (T := []) (cuts := klu_50) (fun _ h => absurd h List.not_mem_nil) (by decide +kernel)
theorem klz_51 {Sc : sm_C} {c48 : Nat → Int64} : en_hold kl_tb3 (klZ c48) sm_P Sc klc_51 := en_chk_ok klZ_ok (T := []) (cuts := klu_51) (fun _ h => absurd h List.not_mem_nil) (by decide +kernel)
theorem klz_52 {Sc : sm_C} {c48 : Nat → Int64} : en_hold kl_tb3 (klZ c48) sm_P Sc klc_52 := en_chk_ok klZ_ok (T := []) (cuts := klu_52) (fun _ h => absurd h List.not_mem_nil) (by decide +kernel)
theorem klz_53 {Sc : sm_C} {c48 : Nat → Int64} : en_hold kl_tb3 (klZ c48) sm_P Sc klc_53 := en_chk_ok klZ_ok (T := []) (cuts := klu_53) (fun _ h => absurd h List.not_mem_nil) (by decide +kernel)
theorem klz_54 {Sc : sm_C} {c48 : Nat → Int64} : en_hold kl_tb3 (klZ c48) sm_P Sc klc_54 := en_chk_ok klZ_ok (T := [klc_47, klc_48, klc_49, klc_50, klc_51, klc_52, klc_53]) (cuts := klu_54) (List.forall_mem_cons.mpr ⟨klz_47, List.forall_mem_cons.mpr ⟨klz_48, List.forall_mem_cons.mpr ⟨klz_49, List.forall_mem_cons.mpr ⟨klz_50, List.forall_mem_cons.mpr ⟨klz_51, List.forall_mem_cons.mpr ⟨klz_52, List.forall_mem_cons.mpr ⟨klz_53, fun _ h => absurd h List.not_mem_nil⟩⟩⟩⟩⟩⟩⟩) (by decide +kernel)
theorem klz_55 {Sc : sm_C} {c48 : Nat → Int64} : en_hold kl_tb3 (klZ c48) sm_P Sc klc_55 := en_chk_ok klZ_ok (T := []) (cuts := klu_55) (fun _ h => absurd h List.not_mem_nil) (by decide +kernel)
theorem klz_56 {Sc : sm_C} {c48 : Nat → Int64} : en_hold kl_tb3 (klZ c48) sm_P Sc klc_56 := en_chk_ok klZ_ok (T := []) (cuts := klu_56) (fun _ h => absurd h List.not_mem_nil) (by decide +kernel)
theorem klz_57 {Sc : sm_C} {c48 : Nat → Int64} : en_hold kl_tb3 (klZ c48) sm_P Sc klc_57 := en_chk_ok klZ_ok (T := []) (cuts := klu_57) (fun _ h => absurd h List.not_mem_nil) (by decide +kernel)
theorem klz_58 {Sc : sm_C} {c48 : Nat → Int64} : en_hold kl_tb3 (klZ c48) sm_P Sc klc_58 := en_chk_ok klZ_ok (T := []) (cuts := klu_58) (fun _ h => absurd h List.not_mem_nil) (by decide +kernel)
theorem klz_59 {Sc : sm_C} {c48 : Nat → Int64} : en_hold kl_tb3 (klZ c48) sm_P Sc klc_59 := en_chk_ok klZ_ok (T := []) (cuts := klu_59) (fun _ h => absurd h List.not_mem_nil) (by decide +kernel)
theorem klz_60 {Sc : sm_C} {c48 : Nat → Int64} : en_hold kl_tb3 (klZ c48) sm_P Sc klc_60 := en_chk_ok klZ_ok (T := []) (cuts := klu_60) (fun _ h => absurd h List.not_mem_nil) (by decide +kernel)
theorem klz_61 {Sc : sm_C} {c48 : Nat → Int64} : en_hold kl_tb3 (klZ c48) sm_P Sc klc_61 := en_chk_ok klZ_ok (T := []) (cuts := klu_61) (fun _ h => absurd h List.not_mem_nil) (by decide +kernel)
theorem klz_62 {Sc : sm_C} {c48 : Nat → Int64} : en_hold kl_tb3 (klZ c48) sm_P Sc klc_62 := en_chk_ok klZ_ok (T := [klc_55, klc_56, klc_57, klc_58, klc_59, klc_60, klc_61]) (cuts := klu_62) (List.forall_mem_cons.mpr ⟨klz_55, List.forall_mem_cons.mpr ⟨klz_56, List.forall_mem_cons.mpr ⟨klz_57, List.forall_mem_cons.mpr ⟨klz_58, List.forall_mem_cons.mpr ⟨klz_59, List.forall_mem_cons.mpr ⟨klz_60, List.forall_mem_cons.mpr ⟨klz_61, fun _ h => absurd h List.not_mem_nil⟩⟩⟩⟩⟩⟩⟩) (by decide +kernel)
theorem klz_63 {Sc : sm_C} {c48 : Nat → Int64} : en_hold kl_tb3 (klZ c48) sm_P Sc klc_63 := en_chk_ok klZ_ok (T := []) (cuts := klu_63) (fun _ h => absurd h List.not_mem_nil) (by decide +kernel)
theorem klz_64 {Sc : sm_C} {c48 : Nat → Int64} : en_hold kl_tb3 (klZ c48) sm_P Sc klc_64 := en_chk_ok klZ_ok (T := [klc_63]) (cuts := klu_64) (List.forall_mem_cons.mpr ⟨klz_63, fun _ h => absurd h List.not_mem_nil⟩) (by decide +kernel)
theorem klz_65 {Sc : sm_C} {c48 : Nat → Int64} : en_hold kl_tb3 (klZ c48) sm_P Sc klc_65 := en_chk_ok klZ_ok (T := []) (cuts := klu_65) (fun _ h => absurd h List.not_mem_nil) (by decide +kernel)
theorem klz_66 {Sc : sm_C} {c48 : Nat → Int64} : en_hold kl_tb3 (klZ c48) sm_P Sc klc_66 := en_chk_ok klZ_ok (T := [klc_65]) (cuts := klu_66) (List.forall_mem_cons.mpr ⟨klz_65, fun _ h => absurd h List.not_mem_nil⟩) (by decide +kernel)
theorem klz_67 {Sc : sm_C} {c48 : Nat → Int64} : en_hold kl_tb3 (klZ c48) sm_P Sc klc_67 := en_chk_ok klZ_ok (T := [klc_41, klc_63]) (cuts := klu_67) (List.forall_mem_cons.mpr ⟨klz_41, List.forall_mem_cons.mpr ⟨klz_63, fun _ h => absurd h List.not_mem_nil⟩⟩) (by decide +kernel)
theorem klz_68 {Sc : sm_C} {c48 : Nat → Int64} : en_hold kl_tb3 (klZ c48) sm_P Sc klc_68 := en_chk_ok klZ_ok (T := [klc_42, klc_65]) (cuts := klu_68) (List.forall_mem_cons.mpr ⟨klz_42, List.forall_mem_cons.mpr ⟨klz_65, fun _ h => absurd h List.not_mem_nil⟩⟩) (by decide +kernel)
theorem klz_71 {Sc : sm_C} {c48 : Nat → Int64} : en_hold kl_tb3 (klZ c48) sm_P Sc klc_71 := en_chk_ok klZ_ok (T := []) (cuts := klu_71) (fun _ h => absurd h List.not_mem_nil) (by decide +kernel)
theorem klz_72 {Sc : sm_C} {c48 : Nat → Int64} : en_hold kl_tb3 (klZ c48) sm_P Sc klc_72 := en_chk_ok klZ_ok (T := [klc_71]) (cuts := klu_72) (List.forall_mem_cons.mpr ⟨klz_71, fun _ h => absurd h List.not_mem_nil⟩) (by decide +kernel)
theorem klz_73 {Sc : sm_C} {c48 : Nat → Int64} : en_hold kl_tb3 (klZ c48) sm_P Sc klc_73 := en_chk_ok klZ_ok (T := []) (cuts := klu_73) (fun _ h => absurd h List.not_mem_nil) (by decide +kernel)
theorem klz_74 {Sc : sm_C} {c48 : Nat → Int64} : en_hold kl_tb3 (klZ c48) sm_P Sc klc_74 := en_chk_ok klZ_ok (T := [klc_73]) (cuts := klu_74) (List.forall_mem_cons.mpr ⟨klz_73, fun _ h => absurd h List.not_mem_nil⟩) (by decide +kernel)
theorem klz_82 {Sc : sm_C} {c48 : Nat → Int64} : en_hold kl_tb3 (klZ c48) sm_P Sc klc_82 := en_chk_ok klZ_ok (T := []) (cuts := klu_82) (fun _ h => absurd h List.not_mem_nil) (by decide +kernel)
theorem klz_83 {Sc : sm_C} {c48 : Nat → Int64} : en_hold kl_tb3 (klZ c48) sm_P Sc klc_83 := en_chk_ok klZ_ok (T := [klc_6, klc_8, klc_82]) (cuts := klu_83) (List.forall_mem_cons.mpr ⟨klz_6, List.forall_mem_cons.mpr ⟨klz_8, List.forall_mem_cons.mpr ⟨klz_82, fun _ h => absurd h List.not_mem_nil⟩⟩⟩) (by decide +kernel)
theorem klz_84 {Sc : sm_C} {c48 : Nat → Int64} : en_hold kl_tb3 (klZ c48) sm_P Sc klc_84 := en_chk_ok klZ_ok (T := []) (cuts := klu_84) (fun _ h => absurd h List.not_mem_nil) (by decide +kernel)
theorem klz_85 {Sc : sm_C} {c48 : Nat → Int64} : en_hold kl_tb3 (klZ c48) sm_P Sc klc_85 := en_chk_ok klZ_ok (T := [klc_7, klc_9, klc_84]) (cuts := klu_85) (List.forall_mem_cons.mpr ⟨klz_7, List.forall_mem_cons.mpr ⟨klz_9, List.forall_mem_cons.mpr ⟨klz_84, fun _ h => absurd h List.not_mem_nil⟩⟩⟩) (by decide +kernel)
end
section
/-! read's tree: the rows of MOVES stay (wip/pe/mkY.py) -/
theorem klz_129 {Sc : sm_C} {c48 : Nat → Int64} : en_hold kl_tb3 (klZ c48) sm_P Sc klc_129 := en_chk_ok klZ_ok (T := []) (cuts := klu_129) (fun _ h => absurd h List.not_mem_nil) (by decide +kernel)
theorem klz_130 {Sc : sm_C} {c48 : Nat → Int64} : en_hold kl_tb3 (klZ c48) sm_P Sc klc_130 := en_chk_ok klZ_ok (T := [klc_129]) (cuts := klu_130) (List.forall_mem_cons.mpr ⟨klz_129, fun _ h => absurd h List.not_mem_nil⟩) (by decide +kernel)
theorem klz_131 {Sc : sm_C} {c48 : Nat → Int64} : en_hold kl_tb3 (klZ c48) sm_P Sc klc_131 := en_chk_ok klZ_ok (T := []) (cuts := klu_131) (fun _ h => absurd h List.not_mem_nil) (by decide +kernel)
theorem klz_132 {Sc : sm_C} {c48 : Nat → Int64} : en_hold kl_tb3 (klZ c48) sm_P Sc klc_132 := en_chk_ok klZ_ok (T := []) (cuts := klu_132) (fun _ h => absurd h List.not_mem_nil) (by decide +kernel)
theorem klz_133 {Sc : sm_C} {c48 : Nat → Int64} : en_hold kl_tb3 (klZ c48) sm_P Sc klc_133 := en_chk_ok klZ_ok (T := []) (cuts := klu_133) (fun _ h => absurd h List.not_mem_nil) (by decide +kernel)
theorem klz_134 {Sc : sm_C} {c48 : Nat → Int64} : en_hold kl_tb3 (klZ c48) sm_P Sc klc_134 := en_chk_ok klZ_ok (T := []) (cuts := klu_134) (fun _ h => absurd h List.not_mem_nil) (by decide +kernel)
theorem klz_135 {Sc : sm_C} {c48 : Nat → Int64} : en_hold kl_tb3 (klZ c48) sm_P Sc klc_135 := en_chk_ok klZ_ok (T := []) (cuts := klu_135) (fun _ h => absurd h List.not_mem_nil) (by decide +kernel)
theorem klz_136 {Sc : sm_C} {c48 : Nat → Int64} : en_hold kl_tb3 (klZ c48) sm_P Sc klc_136 := en_chk_ok klZ_ok (T := []) (cuts := klu_136) (fun _ h => absurd h List.not_mem_nil) (by decide +kernel)
theorem klz_137 {Sc : sm_C} {c48 : Nat → Int64} : en_hold kl_tb3 (klZ c48) sm_P Sc klc_137 := en_chk_ok klZ_ok (T := [klc_135, klc_136]) (cuts := klu_137) (List.forall_mem_cons.mpr ⟨klz_135, List.forall_mem_cons.mpr ⟨klz_136, fun _ h => absurd h List.not_mem_nil⟩⟩) (by decide +kernel)
theorem klz_138 {Sc : sm_C} {c48 : Nat → Int64} : en_hold kl_tb3 (klZ c48) sm_P Sc klc_138 := en_chk_ok klZ_ok (T := []) (cuts := klu_138) (fun _ h => absurd h List.not_mem_nil) (by decide +kernel)
theorem klz_139 {Sc : sm_C} {c48 : Nat → Int64} : en_hold kl_tb3 (klZ c48) sm_P Sc klc_139 := en_chk_ok klZ_ok (T := []) (cuts := klu_139) (fun _ h => absurd h List.not_mem_nil) (by decide +kernel)
theorem klz_140 {Sc : sm_C} {c48 : Nat → Int64} : en_hold kl_tb3 (klZ c48) sm_P Sc klc_140 := en_chk_ok klZ_ok (T := []) (cuts := klu_140) (fun _ h => absurd h List.not_mem_nil) (by decide +kernel)
theorem klz_141 {Sc : sm_C} {c48 : Nat → Int64} : en_hold kl_tb3 (klZ c48) sm_P Sc klc_141 := en_chk_ok klZ_ok (T := [klc_139, klc_140]) (cuts := klu_141) (List.forall_mem_cons.mpr ⟨klz_139, List.forall_mem_cons.mpr ⟨klz_140, fun _ h => absurd h List.not_mem_nil⟩⟩) (by decide +kernel)
theorem klz_142 {Sc : sm_C} {c48 : Nat → Int64} : en_hold kl_tb3 (klZ c48) sm_P Sc klc_142 := en_chk_ok klZ_ok (T := []) (cuts := klu_142) (fun _ h => absurd h List.not_mem_nil) (by decide +kernel)
theorem klz_143 {Sc : sm_C} {c48 : Nat → Int64} : en_hold kl_tb3 (klZ c48) sm_P Sc klc_143 := en_chk_ok klZ_ok (T := []) (cuts := klu_143) (fun _ h => absurd h List.not_mem_nil) (by decide +kernel)
theorem klz_161 {Sc : sm_C} {c48 : Nat → Int64} : en_hold kl_tb3 (klZ c48) sm_P Sc klc_161 := en_chk_ok klZ_ok (T := []) (cuts := klu_161) (fun _ h => absurd h List.not_mem_nil) (by decide +kernel)
theorem klz_162 {Sc : sm_C} {c48 : Nat → Int64} : en_hold kl_tb3 (klZ c48) sm_P Sc klc_162 := en_chk_ok klZ_ok (T := []) (cuts := klu_162) (fun _ h => absurd h List.not_mem_nil) (by decide +kernel)
theorem klz_163 {Sc : sm_C} {c48 : Nat → Int64} : en_hold kl_tb3 (klZ c48) sm_P Sc klc_163 := en_chk_ok klZ_ok (T := []) (cuts := klu_163) (fun _ h => absurd h List.not_mem_nil) (by decide +kernel)
theorem klz_164 {Sc : sm_C} {c48 : Nat → Int64} : en_hold kl_tb3 (klZ c48) sm_P Sc klc_164 := en_chk_ok klZ_ok (T := []) (cuts := klu_164) (fun _ h => absurd h List.not_mem_nil) (by decide +kernel)
theorem klz_165 {Sc : sm_C} {c48 : Nat → Int64} : en_hold kl_tb3 (klZ c48) sm_P Sc klc_165 := en_chk_ok klZ_ok (T := []) (cuts := klu_165) (fun _ h => absurd h List.not_mem_nil) (by decide +kernel)
theorem klz_166 {Sc : sm_C} {c48 : Nat → Int64} : en_hold kl_tb3 (klZ c48) sm_P Sc klc_166 := en_chk_ok klZ_ok (T := []) (cuts := klu_166) (fun _ h => absurd h List.not_mem_nil) (by decide +kernel)
theorem klz_167 {Sc : sm_C} {c48 : Nat → Int64} : en_hold kl_tb3 (klZ c48) sm_P Sc klc_167 := en_chk_ok klZ_ok (T := [klc_41, klc_42, klc_163, klc_164, klc_165, klc_166]) (cuts := klu_167) (List.forall_mem_cons.mpr ⟨klz_41, List.forall_mem_cons.mpr ⟨klz_42, List.forall_mem_cons.mpr ⟨klz_163, List.forall_mem_cons.mpr ⟨klz_164, List.forall_mem_cons.mpr ⟨klz_165, List.forall_mem_cons.mpr ⟨klz_166, fun _ h => absurd h List.not_mem_nil⟩⟩⟩⟩⟩⟩) (by decide +kernel)
theorem klz_168 {Sc : sm_C} {c48 : Nat → Int64} : en_hold kl_tb3 (klZ c48) sm_P Sc klc_168 := en_chk_ok klZ_ok (T := []) (cuts := klu_168) (fun _ h => absurd h List.not_mem_nil) (by decide +kernel)
theorem klz_169 {Sc : sm_C} {c48 : Nat → Int64} : en_hold kl_tb3 (klZ c48) sm_P Sc klc_169 := en_chk_ok klZ_ok (T := []) (cuts := klu_169) (fun _ h => absurd h List.not_mem_nil) (by decide +kernel)
theorem klz_170 {Sc : sm_C} {c48 : Nat → Int64} : en_hold kl_tb3 (klZ c48) sm_P Sc klc_170 := en_chk_ok klZ_ok (T := []) (cuts := klu_170) (fun _ h => absurd h List.not_mem_nil) (by decide +kernel)
theorem klz_171 {Sc : sm_C} {c48 : Nat → Int64} : en_hold kl_tb3 (klZ c48) sm_P Sc klc_171 := en_chk_ok klZ_ok (T := []) (cuts := klu_171) (fun _ h => absurd h List.not_mem_nil) (by decide +kernel)
theorem klz_172 {Sc : sm_C} {c48 : Nat → Int64} : en_hold kl_tb3 (klZ c48) sm_P Sc klc_172 := en_chk_ok klZ_ok (T := []) (cuts := klu_172) (fun _ h => absurd h List.not_mem_nil) (by decide +kernel)
theorem klz_173 {Sc : sm_C} {c48 : Nat → Int64} : en_hold kl_tb3 (klZ c48) sm_P Sc klc_173 := en_chk_ok klZ_ok (T := []) (cuts := klu_173) (fun _ h => absurd h List.not_mem_nil) (by decide +kernel)
theorem klz_174 {Sc : sm_C} {c48 : Nat → Int64} : en_hold kl_tb3 (klZ c48) sm_P Sc klc_174 := en_chk_ok klZ_ok (T := []) (cuts := klu_174) (fun _ h => absurd h List.not_mem_nil) (by decide +kernel)
theorem klz_175 {Sc : sm_C} {c48 : Nat → Int64} : en_hold kl_tb3 (klZ c48) sm_P Sc klc_175 := en_chk_ok klZ_ok (T := []) (cuts := klu_175) (fun _ h => absurd h List.not_mem_nil) (by decide +kernel)
theorem klz_176 {Sc : sm_C} {c48 : Nat → Int64} : en_hold kl_tb3 (klZ c48) sm_P Sc klc_176 := en_chk_ok klZ_ok (T := [klc_83, klc_85, klc_168, klc_169, klc_170, klc_171, klc_172, klc_173, klc_174, klc_175]) (cuts := klu_176) (List.forall_mem_cons.mpr ⟨klz_83, List.forall_mem_cons.mpr ⟨klz_85, List.forall_mem_cons.mpr ⟨klz_168, List.forall_mem_cons.mpr ⟨klz_169, List.forall_mem_cons.mpr ⟨klz_170, List.forall_mem_cons.mpr ⟨klz_171, List.forall_mem_cons.mpr ⟨klz_172, List.forall_mem_cons.mpr ⟨klz_173, List.forall_mem_cons.mpr ⟨klz_174, List.forall_mem_cons.mpr ⟨klz_175, fun _ h => absurd h List.not_mem_nil⟩⟩⟩⟩⟩⟩⟩⟩⟩⟩) (by decide +kernel)
theorem klz_177 {Sc : sm_C} {c48 : Nat → Int64} : en_hold kl_tb3 (klZ c48) sm_P Sc klc_177 := en_chk_ok klZ_ok (T := []) (cuts := klu_177) (fun _ h => absurd h List.not_mem_nil) (by decide +kernel)
theorem klz_178 {Sc : sm_C} {c48 : Nat → Int64} : en_hold kl_tb3 (klZ c48) sm_P Sc klc_178 := en_chk_ok klZ_ok (T := [klc_135, klc_138, klc_167, klc_176]) (cuts := klu_178) (List.forall_mem_cons.mpr ⟨klz_135, List.forall_mem_cons.mpr ⟨klz_138, List.forall_mem_cons.mpr ⟨klz_167, List.forall_mem_cons.mpr ⟨klz_176, fun _ h => absurd h List.not_mem_nil⟩⟩⟩⟩) (by decide +kernel)
theorem klz_179 {Sc : sm_C} {c48 : Nat → Int64} : en_hold kl_tb3 (klZ c48) sm_P Sc klc_179 := en_chk_ok klZ_ok (T := [klc_43, klc_44]) (cuts := klu_179) (List.forall_mem_cons.mpr ⟨klz_43, List.forall_mem_cons.mpr ⟨klz_44, fun _ h => absurd h List.not_mem_nil⟩⟩) (by decide +kernel)
theorem klz_180 {Sc : sm_C} {c48 : Nat → Int64} : en_hold kl_tb3 (klZ c48) sm_P Sc klc_180 := en_chk_ok klZ_ok (T := [klc_179]) (cuts := klu_180) (List.forall_mem_cons.mpr ⟨klz_179, fun _ h => absurd h List.not_mem_nil⟩) (by decide +kernel)
theorem klz_181 {Sc : sm_C} {c48 : Nat → Int64} : en_hold kl_tb3 (klZ c48) sm_P Sc klc_181 := en_chk_ok klZ_ok (T := [klc_72, klc_74, klc_177]) (cuts := klu_181) (List.forall_mem_cons.mpr ⟨klz_72, List.forall_mem_cons.mpr ⟨klz_74, List.forall_mem_cons.mpr ⟨klz_177, fun _ h => absurd h List.not_mem_nil⟩⟩⟩) (by decide +kernel)
theorem klz_182 {Sc : sm_C} {c48 : Nat → Int64} : en_hold kl_tb3 (klZ c48) sm_P Sc klc_182 := en_chk_ok klZ_ok (T := [klc_177]) (cuts := klu_182) (List.forall_mem_cons.mpr ⟨klz_177, fun _ h => absurd h List.not_mem_nil⟩) (by decide +kernel)
theorem klz_183 {Sc : sm_C} {c48 : Nat → Int64} : en_hold kl_tb3 (klZ c48) sm_P Sc klc_183 := en_chk_ok klZ_ok (T := [klc_177]) (cuts := klu_183) (List.forall_mem_cons.mpr ⟨klz_177, fun _ h => absurd h List.not_mem_nil⟩) (by decide +kernel)
theorem klz_184 {Sc : sm_C} {c48 : Nat → Int64} : en_hold kl_tb3 (klZ c48) sm_P Sc klc_184 := en_chk_ok klZ_ok (T := [klc_142, klc_143]) (cuts := klu_184) (List.forall_mem_cons.mpr ⟨klz_142, List.forall_mem_cons.mpr ⟨klz_143, fun _ h => absurd h List.not_mem_nil⟩⟩) (by decide +kernel)
theorem klz_185 {Sc : sm_C} {c48 : Nat → Int64} : en_hold kl_tb3 (klZ c48) sm_P Sc klc_185 := en_chk_ok klZ_ok (T := [klc_131, klc_132, klc_133, klc_134, klc_177]) (cuts := klu_185) (List.forall_mem_cons.mpr ⟨klz_131, List.forall_mem_cons.mpr ⟨klz_132, List.forall_mem_cons.mpr ⟨klz_133, List.forall_mem_cons.mpr ⟨klz_134, List.forall_mem_cons.mpr ⟨klz_177, fun _ h => absurd h List.not_mem_nil⟩⟩⟩⟩⟩) (by decide +kernel)
end
section
/-! read's tree: the rows of MOVES stay (wip/pe/mkY.py) -/
theorem klz_186 {Sc : sm_C} {c48 : Nat → Int64} : en_hold kl_tb3 (klZ c48) sm_P Sc klc_186 := en_chk_ok klZ_ok (T := [klc_39, klc_40, klc_178, klc_180, klc_181, klc_182, klc_183, klc_184, klc_185]) (cuts := klu_186) (List.forall_mem_cons.mpr ⟨klz_39, List.forall_mem_cons.mpr ⟨klz_40, List.forall_mem_cons.mpr ⟨klz_178, List.forall_mem_cons.mpr ⟨klz_180, List.forall_mem_cons.mpr ⟨klz_181, List.forall_mem_cons.mpr ⟨klz_182, List.forall_mem_cons.mpr ⟨klz_183, List.forall_mem_cons.mpr ⟨klz_184, List.forall_mem_cons.mpr ⟨klz_185, fun _ h => absurd h List.not_mem_nil⟩⟩⟩⟩⟩⟩⟩⟩⟩) (by decide +kernel)
theorem klz_187 {Sc : sm_C} {c48 : Nat → Int64} : en_hold kl_tb3 (klZ c48) sm_P Sc klc_187 := en_chk_ok klZ_ok (T := [klc_135, klc_186]) (cuts := klu_187) (List.forall_mem_cons.mpr ⟨klz_135, List.forall_mem_cons.mpr ⟨klz_186, fun _ h => absurd h List.not_mem_nil⟩⟩) (by decide +kernel)
theorem klz_188 {Sc : sm_C} {c48 : Nat → Int64} : en_hold kl_tb3 (klZ c48) sm_P Sc klc_188 := en_chk_ok klZ_ok (T := [klc_130, klc_137, klc_135]) (cuts := klu_188) (List.forall_mem_cons.mpr ⟨klz_130, List.forall_mem_cons.mpr ⟨klz_137, List.forall_mem_cons.mpr ⟨klz_135, fun _ h => absurd h List.not_mem_nil⟩⟩⟩) (by decide +kernel)
theorem klz_189 {Sc : sm_C} {c48 : Nat → Int64} : en_hold kl_tb3 (klZ c48) sm_P Sc klc_189 := en_chk_ok klZ_ok (T := []) (cuts := klu_189) (fun _ h => absurd h List.not_mem_nil) (by decide +kernel)
theorem klz_190 {Sc : sm_C} {c48 : Nat → Int64} : en_hold kl_tb3 (klZ c48) sm_P Sc klc_190 := en_chk_ok klZ_ok (T := []) (cuts := klu_190) (fun _ h => absurd h List.not_mem_nil) (by decide +kernel)
theorem klz_191 {Sc : sm_C} {c48 : Nat → Int64} : en_hold kl_tb3 (klZ c48) sm_P Sc klc_191 := en_chk_ok klZ_ok (T := [klc_190]) (cuts := klu_191) (List.forall_mem_cons.mpr ⟨klz_190, fun _ h => absurd h List.not_mem_nil⟩) (by decide +kernel)
theorem klz_192 {Sc : sm_C} {c48 : Nat → Int64} : en_hold kl_tb3 (klZ c48) sm_P Sc klc_192 := en_chk_ok klZ_ok (T := []) (cuts := klu_192) (fun _ h => absurd h List.not_mem_nil) (by decide +kernel)
theorem klz_193 {Sc : sm_C} {c48 : Nat → Int64} : en_hold kl_tb3 (klZ c48) sm_P Sc klc_193 := en_chk_ok klZ_ok (T := [klc_192]) (cuts := klu_193) (List.forall_mem_cons.mpr ⟨klz_192, fun _ h => absurd h List.not_mem_nil⟩) (by decide +kernel)
theorem klz_194 {Sc : sm_C} {c48 : Nat → Int64} : en_hold kl_tb3 (klZ c48) sm_P Sc klc_194 := en_chk_ok klZ_ok (T := []) (cuts := klu_194) (fun _ h => absurd h List.not_mem_nil) (by decide +kernel)
theorem klz_195 {Sc : sm_C} {c48 : Nat → Int64} : en_hold kl_tb3 (klZ c48) sm_P Sc klc_195 := en_chk_ok klZ_ok (T := []) (cuts := klu_195) (fun _ h => absurd h List.not_mem_nil) (by decide +kernel)
theorem klz_196 {Sc : sm_C} {c48 : Nat → Int64} : en_hold kl_tb3 (klZ c48) sm_P Sc klc_196 := en_chk_ok klZ_ok (T := [klc_191, klc_193, klc_190, klc_192, klc_194, klc_195]) (cuts := klu_196) (List.forall_mem_cons.mpr ⟨klz_191, List.forall_mem_cons.mpr ⟨klz_193, List.forall_mem_cons.mpr ⟨klz_190, List.forall_mem_cons.mpr ⟨klz_192, List.forall_mem_cons.mpr ⟨klz_194, List.forall_mem_cons.mpr ⟨klz_195, fun _ h => absurd h List.not_mem_nil⟩⟩⟩⟩⟩⟩) (by decide +kernel)
theorem klz_197 {Sc : sm_C} {c48 : Nat → Int64} : en_hold kl_tb3 (klZ c48) sm_P Sc klc_197 := en_chk_ok klZ_ok (T := [klc_189, klc_196]) (cuts := klu_197) (List.forall_mem_cons.mpr ⟨klz_189, List.forall_mem_cons.mpr ⟨klz_196, fun _ h => absurd h List.not_mem_nil⟩⟩) (by decide +kernel)
theorem klz_198 {Sc : sm_C} {c48 : Nat → Int64} : en_hold kl_tb3 (klZ c48) sm_P Sc klc_198 := en_chk_ok klZ_ok (T := [klc_54, klc_62, klc_64, klc_66, klc_67, klc_68, klc_187, klc_188, klc_197]) (cuts := klu_198) (List.forall_mem_cons.mpr ⟨klz_54, List.forall_mem_cons.mpr ⟨klz_62, List.forall_mem_cons.mpr ⟨klz_64, List.forall_mem_cons.mpr ⟨klz_66, List.forall_mem_cons.mpr ⟨klz_67, List.forall_mem_cons.mpr ⟨klz_68, List.forall_mem_cons.mpr ⟨klz_187, List.forall_mem_cons.mpr ⟨klz_188, List.forall_mem_cons.mpr ⟨klz_197, fun _ h => absurd h List.not_mem_nil⟩⟩⟩⟩⟩⟩⟩⟩⟩) (by decide +kernel)
theorem klz_201 {Sc : sm_C} {c48 : Nat → Int64} : en_hold kl_tb3 (klZ c48) sm_P Sc klc_201 := en_chk_ok klZ_ok (T := []) (cuts := klu_201) (fun _ h => absurd h List.not_mem_nil) (by decide +kernel)
theorem klz_209 {Sc : sm_C} {c48 : Nat → Int64} : en_hold kl_tb3 (klZ c48) sm_P Sc klc_209 := en_chk_ok klZ_ok (T := []) (cuts := klu_209) (fun _ h => absurd h List.not_mem_nil) (by decide +kernel)
theorem klz_222 {Sc : sm_C} {c48 : Nat → Int64} : en_hold kl_tb3 (klZ c48) sm_P Sc klc_222 := en_chk_ok klZ_ok (T := []) (cuts := klu_222) (fun _ h => absurd h List.not_mem_nil) (by decide +kernel)
theorem klz_223 {Sc : sm_C} {c48 : Nat → Int64} : en_hold kl_tb3 (klZ c48) sm_P Sc klc_223 := en_chk_ok klZ_ok (T := [klc_222]) (cuts := klu_223) (List.forall_mem_cons.mpr ⟨klz_222, fun _ h => absurd h List.not_mem_nil⟩) (by decide +kernel)
theorem klz_231 {Sc : sm_C} {c48 : Nat → Int64} : en_hold kl_tb3 (klZ c48) sm_P Sc klc_231 := en_chk_ok klZ_ok (T := [klc_222]) (cuts := klu_231) (List.forall_mem_cons.mpr ⟨klz_222, fun _ h => absurd h List.not_mem_nil⟩) (by decide +kernel)
theorem klz_262 {Sc : sm_C} {c48 : Nat → Int64} : en_hold kl_tb3 (klZ c48) sm_P Sc klc_262 := en_chk_ok klZ_ok (T := [klc_201, klc_209, klc_222]) (cuts := klu_262) (List.forall_mem_cons.mpr ⟨klz_201, List.forall_mem_cons.mpr ⟨klz_209, List.forall_mem_cons.mpr ⟨klz_222, fun _ h => absurd h List.not_mem_nil⟩⟩⟩) (by decide +kernel)
theorem klz_271 {Sc : sm_C} {c48 : Nat → Int64} : en_hold kl_tb3 (klZ c48) sm_P Sc klc_271 := en_chk_ok klZ_ok (T := [klc_141, klc_161, klc_162, klc_198, klc_222]) (cuts := klu_271) (List.forall_mem_cons.mpr ⟨klz_141, List.forall_mem_cons.mpr ⟨klz_161, List.forall_mem_cons.mpr ⟨klz_162, List.forall_mem_cons.mpr ⟨klz_198, List.forall_mem_cons.mpr ⟨klz_222, fun _ h => absurd h List.not_mem_nil⟩⟩⟩⟩⟩) (by decide +kernel)
end
section
/-! the reference's invariant with what was gone through; what may not be written beside goesAll -/
def mEX : List (Nat × List Nat) := [(107, [18, 46, 54, 70, 71, 72, 73]), (118, []), (119, []), (120, []), (121, []), (122, []), (123, []), (124, []), (125, []), (126, []), (127, []), (128, []), (129, []), (130, []), (131, []), (132, []), (133, []), (134, []), (135, []), (136, []), (137, []), (139, []), (140, []), (141, []), (142, []), (144, []), (145, []), (146, []), (147, []), (153, []), (154, []), (155, []), (156, []), (48, [])]
def ml_tb2 : en_Tb := (ml_tb.1, ml_tb.2.1, mEX ++ ml_tb.2.2)
def mlc_16b : en_Ct := (186, [(2, 107, 0), (0, 0, 0)], [], (0, 0, 1000), [(107, [52, 63, 64]), (143, []), (149, []), (150, []), (153, []), (154, []), (155, []), (156, [])], 7)
def GR (l : Nat) (I : sm_I) : Prop := I 107 70 = 0 ∨ gor (rxs I l) (RF I l) I
def GM (I : sm_I) : Prop := ∃ l, rwf I l ∧ GR l I
theorem rwf_cg {I J : sm_I} {l : Nat} (h : ∀ p j, (p = 107 ∧ (j = 18 ∨ j = 46 ∨ j = 54)) ∨ ((118 ≤ p ∧ p ≤ 142) ∧ p ≠ 138) ∨ (144 ≤ p ∧ p ≤ 147) → J p j = I p j) (k : rwf I l) : rwf J l := by
  obtain ⟨⟨w1, w2⟩, w3, w4, w5, w6, w7, w8, w9, w10, w11⟩ := k
  have nv := kl_nat w9.1
  have ns := kl_nat w8.1
  have tI : tfr I (fun p j => if p = 107 ∧ (j = 53 ∨ j = 68) then I p j else J p j) := fun p j q => by
    by_cases c : p = 107 ∧ (j = 53 ∨ j = 68)
    · show (if p = 107 ∧ (j = 53 ∨ j = 68) then I p j else J p j) = I p j
      rw [if_pos c]
    · show (if p = 107 ∧ (j = 53 ∨ j = 68) then I p j else J p j) = I p j
      rw [if_neg c]; exact h p j (by omega)
  have sk : ∀ n p, sspk I n p → sspk J n p := fun n p k => by
    unfold sspk at k ⊢
    rw [h 130 p (by omega), h 131 p (by omega), h 132 p (by omega), h 133 p (by omega)]; exact k
  unfold rwf
  rw [h 107 18 (by omega), h 122 l (by omega), h 134 l (by omega), h 107 54 (by omega), h 125 l (by omega), h 107 46 (by omega)]
  refine ⟨⟨w1, w2⟩, w3, w4, fun k hk => sk _ _ (w5 k hk), w6, fun k hk => ?_, w8, w9, fun j hj => by rw [h 128 j (by omega)]; exact w10 j hj, fun s hs => ?_⟩
  · have a := w7 k hk
    unfold mook at a ⊢
    rw [h 144 k (by omega), h 145 k (by omega), h 146 k (by omega), h 147 k (by omega)]; exact a
  · exact t_iok tI (by omega) (w11 s hs)
theorem gor_cg {xs : List Nat} {F : ss} {I J : sm_I} (h : ∀ p j, (p = 107 ∧ (j = 71 ∨ j = 72 ∨ j = 73)) ∨ (153 ≤ p ∧ p ≤ 156) → J p j = I p j) (k : gor xs F I) : gor xs F J := by
  obtain ⟨k1, k2, k3, k4, k5⟩ := k
  refine ⟨by rw [h 107 71 (by omega)]; exact k1, by rw [h 107 72 (by omega)]; exact k2, by rw [h 107 73 (by omega)]; exact k3, fun i hi h1 => by rw [h 154 i (by omega), h 155 i (by omega), h 156 i (by omega)]; exact k4 i hi h1, fun w i hw hi => by rw [h 153 _ (by omega)]; exact k5 w i hw hi⟩
theorem GM_cg {I J : sm_I} (h : ∀ p j, (p = 107 ∧ (j = 18 ∨ j = 46 ∨ j = 54 ∨ j = 70 ∨ j = 71 ∨ j = 72 ∨ j = 73)) ∨ ((118 ≤ p ∧ p ≤ 142) ∧ p ≠ 138) ∨ (144 ≤ p ∧ p ≤ 147) ∨ (153 ≤ p ∧ p ≤ 156) → J p j = I p j) (k : GM I) : GM J := by
  obtain ⟨l, k1, k2⟩ := k
  have t : ∀ p j, (p = 107 ∧ (j = 18 ∨ j = 46 ∨ j = 54)) ∨ ((118 ≤ p ∧ p ≤ 142) ∧ p ≠ 138) ∨ (144 ≤ p ∧ p ≤ 147) → J p j = I p j := fun p j q => h p j (by omega)
  refine ⟨l, rwf_cg t k1, ?_⟩
  rcases k2 with e | k2
  · exact Or.inl (by rw [h 107 70 (by omega)]; exact e)
  · right
    rw [rxs_cg t, RF_cg k1.2.2.2.2.2.2.1 k1.2.2.2.2.2.2.2.1 t]
    exact gor_cg (fun p j q => h p j (by omega)) k2
def mlY (c48 : Nat → Int64) (w : sm_W) : Prop := w.1 = xLay ∧ (∀ j : Nat, j < 70 → (w.2.1 148 j).toInt ≤ 54 ∨ 60 ≤ (w.2.1 148 j).toInt) ∧ (∀ l : Nat, (l : Int) = (w.2.1 107 18).toInt → mlV w.2.1 l) ∧ mlP w.2.1 ∧ mlN w.2.1 ∧ (pk_ok w.2.2.1 ∧ GM w.2.1 ∧ ∀ j, w.2.2.1 48 j = c48 j)
theorem mlY_X {c48 : Nat → Int64} {w : sm_W} (h : mlY c48 w) : mlX w := ⟨h.1, h.2.1, h.2.2.1, h.2.2.2.1, h.2.2.2.2.1, h.2.2.2.2.2.1⟩
theorem mlX_Y {c48 : Nat → Int64} {w : sm_W} (h : mlX w) (g : GM w.2.1) (z : ∀ j, w.2.2.1 48 j = c48 j) : mlY c48 w := ⟨h.1, h.2.1, h.2.2.1, h.2.2.2.1, h.2.2.2.2.1, h.2.2.2.2.2, g, z⟩
theorem my_dn {c48 : Nat → Int64} {w : sm_W} (h : en_mem ml_tb2 (mlY c48) w) : en_mem ml_tb mlX w := ⟨h.1, h.2.1, h.2.2.1, h.2.2.2.1, mlY_X h.2.2.2.2⟩
theorem my_gm {c48 : Nat → Int64} {w : sm_W} (h : en_mem ml_tb2 (mlY c48) w) : GM w.2.1 := h.2.2.2.2.2.2.2.2.2.2.1
theorem my_48 {c48 : Nat → Int64} {w : sm_W} (h : en_mem ml_tb2 (mlY c48) w) : ∀ j, w.2.2.1 48 j = c48 j := h.2.2.2.2.2.2.2.2.2.2.2
theorem my_up {c48 : Nat → Int64} {w : sm_W} (h : en_mem ml_tb mlX w) (g : GM w.2.1) (z : ∀ j, w.2.2.1 48 j = c48 j) : en_mem ml_tb2 (mlY c48) w := ⟨h.1, h.2.1, h.2.2.1, h.2.2.2.1, mlX_Y h.2.2.2.2 g z⟩
theorem mEX_a : ∀ a, a < 157 → (((118 ≤ a ∧ a ≤ 142) ∧ a ≠ 138) ∨ (144 ≤ a ∧ a ≤ 147) ∨ (153 ≤ a ∧ a ≤ 156)) → mEX.any (fun q => Nat.beq q.1 a && q.2.isEmpty) = true := by decide +kernel
theorem mEX_b : ∀ b, b < 74 → (b = 18 ∨ b = 46 ∨ b = 54 ∨ b = 70 ∨ b = 71 ∨ b = 72 ∨ b = 73) → en_wok mEX 107 b = true := by decide +kernel
theorem mEX_ok {a b : Nat} (h : (a = 107 ∧ (b = 18 ∨ b = 46 ∨ b = 54 ∨ b = 70 ∨ b = 71 ∨ b = 72 ∨ b = 73)) ∨ ((118 ≤ a ∧ a ≤ 142) ∧ a ≠ 138) ∨ (144 ≤ a ∧ a ≤ 147) ∨ (153 ≤ a ∧ a ≤ 156)) : en_wok mEX a b = true := by
  by_cases c : a = 107
  · subst c
    exact mEX_b b (by omega) (by omega)
  obtain ⟨q, q1, q2⟩ := List.any_eq_true.mp (mEX_a a (by omega) (by omega))
  obtain ⟨q2, q3⟩ := Bool.and_eq_true_iff.mp q2
  refine List.any_eq_true.mpr ⟨q, q1, Bool.and_eq_true_iff.mpr ⟨q2, ?_⟩⟩
  have e : q.2 = [] := List.isEmpty_iff.mp q3
  rw [e]
theorem mEX_no {p j : Nat} (h : en_fix ml_tb2 p j = false) : en_wok mEX p j = false ∧ en_fix ml_tb p j = false := by
  have h : (mEX ++ ml_tb.2.2).any (fun q => Nat.beq q.1 p && (match q.2 with
    | [] => true
    | l => l.any (fun i => Nat.beq i j))) = false := h
  rw [List.any_append] at h
  exact Bool.or_eq_false_iff.mp h
theorem mEX_ne {p j a b : Nat} (h : en_wok mEX p j = false) (g : en_wok mEX a b = true) : ¬ (a = p ∧ b = j) := by
  rintro ⟨e1, e2⟩
  subst e1
  subst e2
  rw [h] at g
  cases g
theorem mEX_48 (j : Nat) : en_wok mEX 48 j = true := rfl
theorem mlY_ok {c48 : Nat → Int64} : en_Xok ml_tb2 (mlY c48) := by
  refine ⟨fun lay m p j x h hX => ?_, fun lay m p j r h hX => ?_, fun lay m p j y h hX => ?_⟩
  · obtain ⟨h1, h2⟩ := mEX_no h
    exact mlX_Y (mlX_ok.1 lay m p j x h2 (mlY_X hX)) (GM_cg (I := m.1) (fun a b q => en_up_ne _ _ _ _ (mEX_ne h1 (mEX_ok q))) hX.2.2.2.2.2.2.1) hX.2.2.2.2.2.2.2
  · obtain ⟨h1, h2⟩ := mEX_no h
    exact mlX_Y (mlX_ok.2.1 lay m p j r h2 (mlY_X hX)) hX.2.2.2.2.2.2.1 hX.2.2.2.2.2.2.2
  · obtain ⟨h1, h2⟩ := mEX_no h
    exact mlX_Y (mlX_ok.2.2 lay m p j y h2 (mlY_X hX)) hX.2.2.2.2.2.2.1 (fun i => (en_up_ne _ _ _ _ (mEX_ne h1 (mEX_48 i))).trans (hX.2.2.2.2.2.2.2 i))
/-- goesAll by contract -/
theorem mly_17 {c48 : Nat → Int64} {Sc : sm_C} : en_hold ml_tb2 (mlY c48) sm_P Sc mlc_17 := by
  intro d hd vs w hv hm hp
  have m := my_dn hm
  have hv0 := hv
  obtain ⟨l, g1, g2⟩ := my_gm hm
  obtain ⟨lay, I, L, R⟩ := w
  obtain ⟨vs1, rfl, hv1⟩ := kl_vr (q := 107) rfl hv
  obtain rfl := kl_v0 hv1
  obtain rfl : lay = xLay := m.2.2.2.2.1
  have hd8 : 8 ≤ d := hd
  obtain ⟨d, rfl⟩ : ∃ d', d = d' + 6 := ⟨d - 6, by omega⟩
  have b69 : 0 ≤ (I 107 69).toInt ∧ (I 107 69).toInt ≤ 1441 := m.2.1 107 69 (0, 1441) (by decide +kernel)
  have A : sm_wp sm_P Sc (d + 6) 135 0 [.ref 107] [] (xLay, I, L, R) (0, 0) (fun z => GM z.2.2.1 ∧ z.2.2.2.1 = L) := by
    have e : kM R = R := ml_R m
    have g := rx_goes (S := Sc) (d := d) (I := I) (L := L) (R := R) (Φ := fun z => GM z.2.2.1 ∧ z.2.2.2.1 = L) g1 b69.1 (by omega) (fun e0 => g2.resolve_left e0) (fun J fr e0 _ go => by
      have t : ∀ p j, (p = 107 ∧ (j = 18 ∨ j = 46 ∨ j = 54)) ∨ ((118 ≤ p ∧ p ≤ 142) ∧ p ≠ 138) ∨ (144 ≤ p ∧ p ≤ 147) → J p j = I p j := fun p j q => fr p j (by omega)
      refine ⟨⟨l, rwf_cg t g1, Or.inr ?_⟩, rfl⟩
      show gor (rxs J l) (RF J l) J
      rw [rxs_cg t, RF_cg g1.2.2.2.2.2.2.1 g1.2.2.2.2.2.2.2.1 t]
      exact go)
    rw [e] at g
    exact g
  exact sm_wp_mono (sm_wp_and (mlh_17 (d + 6) hd _ _ hv0 m hp) A) (fun z q => ⟨q.1.1, my_up q.1.2.1 q.2.1 (fun j => by rw [q.2.2]; exact my_48 hm j), q.1.2.2⟩)
/-! read: the rows of MOVES stay -/
def ml_tb3 : en_Tb := (ml_tb.1, ml_tb.2.1, (48, []) :: ml_tb.2.2)
def mlW (c48 : Nat → Int64) (w : sm_W) : Prop := w.1 = xLay ∧ (∀ j : Nat, j < 70 → (w.2.1 148 j).toInt ≤ 54 ∨ 60 ≤ (w.2.1 148 j).toInt) ∧ (∀ l : Nat, (l : Int) = (w.2.1 107 18).toInt → mlV w.2.1 l) ∧ mlP w.2.1 ∧ mlN w.2.1 ∧ (pk_ok w.2.2.1 ∧ ∀ j, w.2.2.1 48 j = c48 j)
theorem mlW_X {c48 : Nat → Int64} {w : sm_W} (h : mlW c48 w) : mlX w := ⟨h.1, h.2.1, h.2.2.1, h.2.2.2.1, h.2.2.2.2.1, h.2.2.2.2.2.1⟩
theorem mlX_W {c48 : Nat → Int64} {w : sm_W} (h : mlX w) (z : ∀ j, w.2.2.1 48 j = c48 j) : mlW c48 w := ⟨h.1, h.2.1, h.2.2.1, h.2.2.2.1, h.2.2.2.2.1, h.2.2.2.2.2, z⟩
theorem mlW_no {p j : Nat} (h : en_fix ml_tb3 p j = false) : p ≠ 48 ∧ en_fix ml_tb p j = false := by
  have h : (Nat.beq 48 p && true || en_wok ml_tb.2.2 p j) = false := h
  obtain ⟨h1, h2⟩ := Bool.or_eq_false_iff.mp h
  refine ⟨fun e => ?_, h2⟩
  subst e
  exact absurd h1 (by decide)
theorem mlW_ok {c48 : Nat → Int64} : en_Xok ml_tb3 (mlW c48) := by
  refine ⟨fun lay m p j x h hX => mlX_W (mlX_ok.1 lay m p j x (mlW_no h).2 (mlW_X hX)) hX.2.2.2.2.2.2, fun lay m p j r h hX => mlX_W (mlX_ok.2.1 lay m p j r (mlW_no h).2 (mlW_X hX)) hX.2.2.2.2.2.2, fun lay m p j y h hX => mlX_W (mlX_ok.2.2 lay m p j y (mlW_no h).2 (mlW_X hX)) (fun i => ?_)⟩
  have n := (mlW_no h).1
  exact (en_up_ne _ _ _ _ (fun q => n q.1.symm)).trans (hX.2.2.2.2.2.2 i)
end
section
/-! the reference's contracts with what was gone through (wip/pe/mkYm.py) -/
section
variable {c48 : Nat → Int64}
theorem mly_1 {Sc : sm_C} : en_hold ml_tb2 (mlY c48) sm_P Sc mlc_1 := en_chk_ok mlY_ok (T := []) (cuts := mlu_1) (fun _ h => absurd h List.not_mem_nil) (by decide +kernel)
theorem mly_2 {Sc : sm_C} : en_hold ml_tb2 (mlY c48) sm_P Sc mlc_2 := en_chk_ok mlY_ok (T := [mlc_1]) (cuts := mlu_2) (List.forall_mem_cons.mpr ⟨mly_1, fun _ h => absurd h List.not_mem_nil⟩) (by decide +kernel)
theorem mly_3 {Sc : sm_C} : en_hold ml_tb2 (mlY c48) sm_P Sc mlc_3 := en_chk_ok mlY_ok (T := [mlc_2]) (cuts := mlu_3) (List.forall_mem_cons.mpr ⟨mly_2, fun _ h => absurd h List.not_mem_nil⟩) (by decide +kernel)
theorem mly_4 {Sc : sm_C} : en_hold ml_tb2 (mlY c48) sm_P Sc mlc_4 := en_chk_ok mlY_ok (T := [mlc_3]) (cuts := mlu_4) (List.forall_mem_cons.mpr ⟨mly_3, fun _ h => absurd h List.not_mem_nil⟩) (by decide +kernel)
theorem mly_5 {Sc : sm_C} : en_hold ml_tb2 (mlY c48) sm_P Sc mlc_5 := en_chk_ok mlY_ok (T := [mlc_3, mlc_1, mlc_4]) (cuts := mlu_5) (List.forall_mem_cons.mpr ⟨mly_3, List.forall_mem_cons.mpr ⟨mly_1, List.forall_mem_cons.mpr ⟨mly_4, fun _ h => absurd h List.not_mem_nil⟩⟩⟩) (by decide +kernel)
theorem mly_6 {Sc : sm_C} : en_hold ml_tb2 (mlY c48) sm_P Sc mlc_6 := en_chk_ok mlY_ok (T := [mlc_4, mlc_2]) (cuts := mlu_6) (List.forall_mem_cons.mpr ⟨mly_4, List.forall_mem_cons.mpr ⟨mly_2, fun _ h => absurd h List.not_mem_nil⟩⟩) (by decide +kernel)
theorem mly_7 {Sc : sm_C} : en_hold ml_tb2 (mlY c48) sm_P Sc mlc_7 := en_chk_ok mlY_ok (T := [mlc_2]) (cuts := mlu_7) (List.forall_mem_cons.mpr ⟨mly_2, fun _ h => absurd h List.not_mem_nil⟩) (by decide +kernel)
theorem mly_8 {Sc : sm_C} : en_hold ml_tb2 (mlY c48) sm_P Sc mlc_8 := en_chk_ok mlY_ok (T := []) (cuts := mlu_8) (fun _ h => absurd h List.not_mem_nil) (by decide +kernel)
theorem mly_10 {Sc : sm_C} : en_hold ml_tb2 (mlY c48) sm_P Sc mlc_10 := en_chk_ok mlY_ok (T := []) (cuts := mlu_10) (fun _ h => absurd h List.not_mem_nil) (by decide +kernel)
theorem mly_12 {Sc : sm_C} : en_hold ml_tb2 (mlY c48) sm_P Sc mlc_12 := en_chk_ok mlY_ok (T := []) (cuts := mlu_12) (fun _ h => absurd h List.not_mem_nil) (by decide +kernel)
theorem mly_14 {Sc : sm_C} : en_hold ml_tb2 (mlY c48) sm_P Sc mlc_14 := en_chk_ok mlY_ok (T := []) (cuts := mlu_14) (fun _ h => absurd h List.not_mem_nil) (by decide +kernel)
theorem mly_22 {Sc : sm_C} : en_hold ml_tb2 (mlY c48) sm_P Sc mlc_22 := en_chk_ok mlY_ok (T := []) (cuts := mlu_22) (fun _ h => absurd h List.not_mem_nil) (by decide +kernel)
theorem mly_24 {Sc : sm_C} : en_hold ml_tb2 (mlY c48) sm_P Sc mlc_24 := en_chk_ok mlY_ok (T := []) (cuts := mlu_24) (fun _ h => absurd h List.not_mem_nil) (by decide +kernel)
theorem mly_26 {Sc : sm_C} : en_hold ml_tb2 (mlY c48) sm_P Sc mlc_26 := en_chk_ok mlY_ok (T := []) (cuts := mlu_26) (fun _ h => absurd h List.not_mem_nil) (by decide +kernel)
theorem mly_35 {Sc : sm_C} : en_hold ml_tb2 (mlY c48) sm_P Sc mlc_35 := en_chk_ok mlY_ok (T := [mlc_3, mlc_1]) (cuts := mlu_35) (List.forall_mem_cons.mpr ⟨mly_3, List.forall_mem_cons.mpr ⟨mly_1, fun _ h => absurd h List.not_mem_nil⟩⟩) (by decide +kernel)
theorem mly_36 {Sc : sm_C} : en_hold ml_tb2 (mlY c48) sm_P Sc mlc_36 := en_chk_ok mlY_ok (T := [mlc_8, mlc_35]) (cuts := mlu_36) (List.forall_mem_cons.mpr ⟨mly_8, List.forall_mem_cons.mpr ⟨mly_35, fun _ h => absurd h List.not_mem_nil⟩⟩) (by decide +kernel)
theorem mly_55 {Sc : sm_C} : en_hold ml_tb2 (mlY c48) sm_P Sc mlc_55 := en_chk_ok mlY_ok (T := []) (cuts := mlu_55) (fun _ h => absurd h List.not_mem_nil) (by decide +kernel)
theorem mly_57 {Sc : sm_C} : en_hold ml_tb2 (mlY c48) sm_P Sc mlc_57 := en_chk_ok mlY_ok (T := []) (cuts := mlu_57) (fun _ h => absurd h List.not_mem_nil) (by decide +kernel)
theorem mly_58 {Sc : sm_C} : en_hold ml_tb2 (mlY c48) sm_P Sc mlc_58 := en_chk_ok mlY_ok (T := [mlc_5, mlc_6]) (cuts := mlu_58) (List.forall_mem_cons.mpr ⟨mly_5, List.forall_mem_cons.mpr ⟨mly_6, fun _ h => absurd h List.not_mem_nil⟩⟩) (by decide +kernel)
theorem mly_59 {Sc : sm_C} : en_hold ml_tb2 (mlY c48) sm_P Sc mlc_59 := en_chk_ok mlY_ok (T := []) (cuts := mlu_59) (fun _ h => absurd h List.not_mem_nil) (by decide +kernel)
theorem mly_66 {Sc : sm_C} : en_hold ml_tb2 (mlY c48) sm_P Sc mlc_66 := en_chk_ok mlY_ok (T := [mlc_58]) (cuts := mlu_66) (List.forall_mem_cons.mpr ⟨mly_58, fun _ h => absurd h List.not_mem_nil⟩) (by decide +kernel)
theorem mly_67 {Sc : sm_C} : en_hold ml_tb2 (mlY c48) sm_P Sc mlc_67 := en_chk_ok mlY_ok (T := [mlc_58, mlc_66]) (cuts := mlu_67) (List.forall_mem_cons.mpr ⟨mly_58, List.forall_mem_cons.mpr ⟨mly_66, fun _ h => absurd h List.not_mem_nil⟩⟩) (by decide +kernel)
theorem mly_68 {Sc : sm_C} : en_hold ml_tb2 (mlY c48) sm_P Sc mlc_68 := en_chk_ok mlY_ok (T := [mlc_67]) (cuts := mlu_68) (List.forall_mem_cons.mpr ⟨mly_67, fun _ h => absurd h List.not_mem_nil⟩) (by decide +kernel)
theorem mly_69 {Sc : sm_C} : en_hold ml_tb2 (mlY c48) sm_P Sc mlc_69 := en_chk_ok mlY_ok (T := [mlc_67]) (cuts := mlu_69) (List.forall_mem_cons.mpr ⟨mly_67, fun _ h => absurd h List.not_mem_nil⟩) (by decide +kernel)
theorem mly_70 {Sc : sm_C} : en_hold ml_tb2 (mlY c48) sm_P Sc mlc_70 := en_chk_ok mlY_ok (T := []) (cuts := mlu_70) (fun _ h => absurd h List.not_mem_nil) (by decide +kernel)
theorem mly_74 {Sc : sm_C} : en_hold ml_tb2 (mlY c48) sm_P Sc mlc_74 := en_chk_ok mlY_ok (T := []) (cuts := mlu_74) (fun _ h => absurd h List.not_mem_nil) (by decide +kernel)
end
end

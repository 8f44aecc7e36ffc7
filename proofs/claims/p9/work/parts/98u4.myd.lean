/-! the reference's contracts with what was gone through (wip/pe/mkYm.py) -/
section
variable {c48 : Nat → Int64}
theorem mly_21 {Sc : sm_C} : en_hold ml_tb2 (mlY c48) sm_P Sc mlc_21 := en_chk_ok mlY_ok (T := [mlc_5, mlc_9, mlc_16b]) (cuts := mlu_21) (List.forall_mem_cons.mpr ⟨mly_5, List.forall_mem_cons.mpr ⟨mly_9, List.forall_mem_cons.mpr ⟨mly_16, fun _ h => absurd h List.not_mem_nil⟩⟩⟩) (by decide +kernel)
theorem mly_27 {Sc : sm_C} : en_hold ml_tb2 (mlY c48) sm_P Sc mlc_27 := en_chk_ok mlY_ok (T := [mlc_26, mlc_17, mlc_9, mlc_10]) (cuts := mlu_27) (List.forall_mem_cons.mpr ⟨mly_26, List.forall_mem_cons.mpr ⟨mly_17, List.forall_mem_cons.mpr ⟨mly_9, List.forall_mem_cons.mpr ⟨mly_10, fun _ h => absurd h List.not_mem_nil⟩⟩⟩⟩) (by decide +kernel)
theorem mly_29 {Sc : sm_C} : en_hold ml_tb2 (mlY c48) sm_P Sc mlc_29 := en_chk_ok mlY_ok (T := [mlc_17]) (cuts := mlu_29) (List.forall_mem_cons.mpr ⟨mly_17, fun _ h => absurd h List.not_mem_nil⟩) (by decide +kernel)
theorem mly_40 {Sc : sm_C} : en_hold ml_tb2 (mlY c48) sm_P Sc mlc_40 := en_chk_ok mlY_ok (T := [mlc_26, mlc_17, mlc_9, mlc_10]) (cuts := mlu_40) (List.forall_mem_cons.mpr ⟨mly_26, List.forall_mem_cons.mpr ⟨mly_17, List.forall_mem_cons.mpr ⟨mly_9, List.forall_mem_cons.mpr ⟨mly_10, fun _ h => absurd h List.not_mem_nil⟩⟩⟩⟩) (by decide +kernel)
theorem mly_46 {Sc : sm_C} : en_hold ml_tb2 (mlY c48) sm_P Sc mlc_46 := en_chk_ok mlY_ok (T := [mlc_26, mlc_17, mlc_9, mlc_10]) (cuts := mlu_46) (List.forall_mem_cons.mpr ⟨mly_26, List.forall_mem_cons.mpr ⟨mly_17, List.forall_mem_cons.mpr ⟨mly_9, List.forall_mem_cons.mpr ⟨mly_10, fun _ h => absurd h List.not_mem_nil⟩⟩⟩⟩) (by decide +kernel)
theorem mly_73 {Sc : sm_C} : en_hold ml_tb2 (mlY c48) sm_P Sc mlc_73 := en_chk_ok mlY_ok (T := [mlc_17]) (cuts := mlu_73) (List.forall_mem_cons.mpr ⟨mly_17, fun _ h => absurd h List.not_mem_nil⟩) (by decide +kernel)
theorem mly_75 {Sc : sm_C} : en_hold ml_tb2 (mlY c48) sm_P Sc mlc_75 := en_chk_ok mlY_ok (T := [mlc_17]) (cuts := mlu_75) (List.forall_mem_cons.mpr ⟨mly_17, fun _ h => absurd h List.not_mem_nil⟩) (by decide +kernel)
end

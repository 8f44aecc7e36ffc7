/-! the reference's contracts with what was gone through (wip/pe/mkYm.py) -/
section
variable {c48 : Nat → Int64}
theorem mly_38 {Sc : sm_C} : en_hold ml_tb2 (mlY c48) sm_P Sc mlc_38 := en_chk_ok mlY_ok (T := [mlc_17, mlc_37]) (cuts := mlu_38) (List.forall_mem_cons.mpr ⟨mly_17, List.forall_mem_cons.mpr ⟨mly_37, fun _ h => absurd h List.not_mem_nil⟩⟩) (by decide +kernel)
theorem mly_39 {Sc : sm_C} : en_hold ml_tb2 (mlY c48) sm_P Sc mlc_39 := en_chk_ok mlY_ok (T := [mlc_38]) (cuts := mlu_39) (List.forall_mem_cons.mpr ⟨mly_38, fun _ h => absurd h List.not_mem_nil⟩) (by decide +kernel)
theorem mly_60 {Sc : sm_C} : en_hold ml_tb2 (mlY c48) sm_P Sc mlc_60 := en_chk_ok mlY_ok (T := [mlc_38]) (cuts := mlu_60) (List.forall_mem_cons.mpr ⟨mly_38, fun _ h => absurd h List.not_mem_nil⟩) (by decide +kernel)
end

/-! the reference's contracts with what was gone through (wip/pe/mkYm.py) -/
section
variable {c48 : Nat → Int64}
theorem mlw_30 {Sc : sm_C} : en_hold ml_tb3 (mlW c48) sm_P Sc mlc_30 := en_chk_ok mlW_ok (T := []) (cuts := mlu_30) (fun _ h => absurd h List.not_mem_nil) (by decide +kernel)
theorem mlw_34 {Sc : sm_C} : en_hold ml_tb3 (mlW c48) sm_P Sc mlc_34 := en_chk_ok mlW_ok (T := []) (cuts := mlu_34) (fun _ h => absurd h List.not_mem_nil) (by decide +kernel)
theorem mlw_54 {Sc : sm_C} : en_hold ml_tb3 (mlW c48) sm_P Sc mlc_54 := en_chk_ok mlW_ok (T := []) (cuts := mlu_54) (fun _ h => absurd h List.not_mem_nil) (by decide +kernel)
theorem mlw_64 {Sc : sm_C} : en_hold ml_tb3 (mlW c48) sm_P Sc mlc_64 := en_chk_ok mlW_ok (T := []) (cuts := mlu_64) (fun _ h => absurd h List.not_mem_nil) (by decide +kernel)
end

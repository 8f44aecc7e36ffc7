/-! to be proved -/
theorem mlh_0 {Sc : sm_C} : en_hold ml_tb mlX sm_P Sc mlc_0 := sorry
theorem mlh_6 {Sc : sm_C} : en_hold ml_tb mlX sm_P Sc mlc_6 := sorry
theorem mlh_7 {Sc : sm_C} : en_hold ml_tb mlX sm_P Sc mlc_7 := sorry
theorem mlh_10 {Sc : sm_C} : en_hold ml_tb mlX sm_P Sc mlc_10 := sorry
theorem mlh_11 {Sc : sm_C} : en_hold ml_tb mlX sm_P Sc mlc_11 := sorry
theorem mlh_14 {Sc : sm_C} : en_hold ml_tb mlX sm_P Sc mlc_14 := sorry
theorem mlh_17 {Sc : sm_C} : en_hold ml_tb mlX sm_P Sc mlc_17 := sorry
theorem mlh_28 {Sc : sm_C} : en_hold ml_tb mlX sm_P Sc mlc_28 := sorry
theorem mlh_30 {Sc : sm_C} : en_hold ml_tb mlX sm_P Sc mlc_30 := sorry
theorem mlh_32 {Sc : sm_C} : en_hold ml_tb mlX sm_P Sc mlc_32 := sorry
theorem mlh_37 {Sc : sm_C} : en_hold ml_tb mlX sm_P Sc mlc_37 := sorry
theorem mlh_64 {Sc : sm_C} : en_hold ml_tb mlX sm_P Sc mlc_64 := sorry
theorem mlh_79 {Sc : sm_C} : en_hold ml_tb mlX sm_P Sc mlc_79 := sorry

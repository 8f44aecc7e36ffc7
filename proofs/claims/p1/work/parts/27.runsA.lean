/-! runs -/
set_option maxRecDepth 1000000 in
theorem rn_L0 : ab_run 0 sm_P ab_acc 1000000 60 307 0 [(2, .ofNat 1004)] [] ab_M0 [] (0, 0) ab_k1 = true := by decide +kernel
set_option maxRecDepth 1000000 in
theorem rn_L1 : ab_run 1 sm_P ab_acc 1000000 60 307 0 [(2, .ofNat 1004)] [] ab_M0 [] (0, 0) ab_k1 = true := by decide +kernel
set_option maxRecDepth 1000000 in
theorem rn_L2 : ab_run 2 sm_P ab_acc 1000000 60 307 0 [(2, .ofNat 1004)] [] ab_M0 [] (0, 0) ab_k1 = true := by decide +kernel
set_option maxRecDepth 1000000 in
theorem rn_L3 : ab_run 3 sm_P ab_acc 1000000 60 307 0 [(2, .ofNat 1004)] [] ab_M0 [] (0, 0) ab_k1 = true := by decide +kernel
set_option maxRecDepth 1000000 in
theorem rn_L4 : ab_run 4 sm_P ab_acc 1000000 60 307 0 [(2, .ofNat 1004)] [] ab_M0 [] (0, 0) ab_k1 = true := by decide +kernel
set_option maxRecDepth 1000000 in
theorem rn_L5 : ab_run 5 sm_P ab_acc 1000000 60 307 0 [(2, .ofNat 1004)] [] ab_M0 [] (0, 0) ab_k1 = true := by decide +kernel
set_option maxRecDepth 1000000 in
theorem rn_g1 : ab_run 6 sm_P ab_acc 1000000 60 307 0 [(2, .ofNat 1004)] [] ab_M0 [ab_full, (.negSucc 2147483647, .ofNat 2147483647), (.negSucc 2147483647, .ofNat 2147483647), ab_full, ab_full, ab_full, (.ofNat 0, .ofNat 17)] (0, 0) ab_k1 = true := by decide +kernel
set_option maxRecDepth 1000000 in
theorem rn_o24_0 : ab_run 6 sm_P ab_acc 1000000 60 307 0 [(2, .ofNat 1004)] [] ab_M0 [ab_full, (.negSucc 2147483647, .negSucc 2147483548), (.negSucc 2147483647, .ofNat 2147483647), ab_full, ab_full, ab_full, (.ofNat 24, .ofNat 24)] (0, 0) ab_k1 = true := by decide +kernel
set_option maxRecDepth 1000000 in
theorem rn_o24_1 : ab_run 6 sm_P ab_acc 1000000 60 307 0 [(2, .ofNat 1004)] [] ab_M0 [ab_full, (.negSucc 2147483547, .ofNat 2147483647), (.negSucc 2147483647, .ofNat 2147483647), ab_full, ab_full, ab_full, (.ofNat 24, .ofNat 24)] (0, 0) ab_k1 = true := by decide +kernel
set_option maxRecDepth 1000000 in
theorem rn_g2 : ab_run 6 sm_P ab_acc 1000000 60 307 0 [(2, .ofNat 1004)] [] ab_M0 [ab_full, (.negSucc 2147483647, .ofNat 2147483647), (.negSucc 2147483647, .ofNat 2147483647), ab_full, ab_full, ab_full, (.ofNat 25, .ofNat 31)] (0, 0) ab_k1 = true := by decide +kernel
set_option maxRecDepth 1000000 in
theorem rn_o32_0 : ab_run 6 sm_P ab_acc 1000000 60 307 0 [(2, .ofNat 1004)] [] ab_M0 [ab_full, (.negSucc 2147483647, .negSucc 0), (.negSucc 2147483647, .negSucc 0), ab_full, ab_full, ab_full, (.ofNat 32, .ofNat 32)] (0, 0) ab_k1 = true := by decide +kernel
set_option maxRecDepth 1000000 in
theorem rn_o32_1 : ab_run 6 sm_P ab_acc 1000000 60 307 0 [(2, .ofNat 1004)] [] ab_M0 [ab_full, (.negSucc 2147483647, .negSucc 0), (.ofNat 0, .ofNat 0), ab_full, ab_full, ab_full, (.ofNat 32, .ofNat 32)] (0, 0) ab_k1 = true := by decide +kernel
set_option maxRecDepth 1000000 in
theorem rn_o32_2 : ab_run 6 sm_P ab_acc 1000000 60 307 0 [(2, .ofNat 1004)] [] ab_M0 [ab_full, (.negSucc 2147483647, .negSucc 0), (.ofNat 1, .ofNat 2147483647), ab_full, ab_full, ab_full, (.ofNat 32, .ofNat 32)] (0, 0) ab_k1 = true := by decide +kernel
set_option maxRecDepth 1000000 in
theorem rn_o32_3 : ab_run 6 sm_P ab_acc 1000000 60 307 0 [(2, .ofNat 1004)] [] ab_M0 [ab_full, (.ofNat 0, .ofNat 0), (.negSucc 2147483647, .negSucc 0), ab_full, ab_full, ab_full, (.ofNat 32, .ofNat 32)] (0, 0) ab_k1 = true := by decide +kernel
set_option maxRecDepth 1000000 in
theorem rn_o32_4 : ab_run 6 sm_P ab_acc 1000000 60 307 0 [(2, .ofNat 1004)] [] ab_M0 [ab_full, (.ofNat 0, .ofNat 0), (.ofNat 0, .ofNat 0), ab_full, ab_full, ab_full, (.ofNat 32, .ofNat 32)] (0, 0) ab_k1 = true := by decide +kernel
set_option maxRecDepth 1000000 in
theorem rn_o32_5 : ab_run 6 sm_P ab_acc 1000000 60 307 0 [(2, .ofNat 1004)] [] ab_M0 [ab_full, (.ofNat 0, .ofNat 0), (.ofNat 1, .ofNat 2147483647), ab_full, ab_full, ab_full, (.ofNat 32, .ofNat 32)] (0, 0) ab_k1 = true := by decide +kernel
set_option maxRecDepth 1000000 in
theorem rn_o32_6 : ab_run 6 sm_P ab_acc 1000000 60 307 0 [(2, .ofNat 1004)] [] ab_M0 [ab_full, (.ofNat 1, .ofNat 2147483647), (.negSucc 2147483647, .negSucc 0), ab_full, ab_full, ab_full, (.ofNat 32, .ofNat 32)] (0, 0) ab_k1 = true := by decide +kernel
set_option maxRecDepth 1000000 in
theorem rn_o32_7 : ab_run 6 sm_P ab_acc 1000000 60 307 0 [(2, .ofNat 1004)] [] ab_M0 [ab_full, (.ofNat 1, .ofNat 2147483647), (.ofNat 0, .ofNat 0), ab_full, ab_full, ab_full, (.ofNat 32, .ofNat 32)] (0, 0) ab_k1 = true := by decide +kernel
set_option maxRecDepth 1000000 in
theorem rn_o32_8 : ab_run 6 sm_P ab_acc 1000000 60 307 0 [(2, .ofNat 1004)] [] ab_M0 [ab_full, (.ofNat 1, .ofNat 2147483647), (.ofNat 1, .ofNat 2147483647), ab_full, ab_full, ab_full, (.ofNat 32, .ofNat 32)] (0, 0) ab_k1 = true := by decide +kernel
set_option maxRecDepth 1000000 in
theorem rn_g3 : ab_run 6 sm_P ab_acc 1000000 60 307 0 [(2, .ofNat 1004)] [] ab_M0 [ab_full, (.negSucc 2147483647, .ofNat 2147483647), (.negSucc 2147483647, .ofNat 2147483647), ab_full, ab_full, ab_full, (.ofNat 35, .ofNat 40)] (0, 0) ab_k1 = true := by decide +kernel
set_option maxRecDepth 1000000 in
theorem rn_o46_0 : ab_run 6 sm_P ab_acc 1000000 60 307 0 [(2, .ofNat 1004)] [] ab_M0 [ab_full, (.negSucc 2147483647, .negSucc 2147483638), (.negSucc 2147483647, .ofNat 2147483647), ab_full, ab_full, ab_full, (.ofNat 46, .ofNat 46)] (0, 0) ab_k1 = true := by decide +kernel
set_option maxRecDepth 1000000 in
theorem rn_o46_1 : ab_run 6 sm_P ab_acc 1000000 60 307 0 [(2, .ofNat 1004)] [] ab_M0 [ab_full, (.negSucc 2147483637, .negSucc 0), (.negSucc 2147483647, .ofNat 2147483647), ab_full, ab_full, ab_full, (.ofNat 46, .ofNat 46)] (0, 0) ab_k1 = true := by decide +kernel
set_option maxRecDepth 1000000 in
theorem rn_o46_2 : ab_run 6 sm_P ab_acc 1000000 60 307 0 [(2, .ofNat 1004)] [] ab_M0 [ab_full, (.ofNat 0, .ofNat 0), (.negSucc 2147483647, .ofNat 2147483647), ab_full, ab_full, ab_full, (.ofNat 46, .ofNat 46)] (0, 0) ab_k1 = true := by decide +kernel
set_option maxRecDepth 1000000 in
theorem rn_o46_3 : ab_run 6 sm_P ab_acc 1000000 60 307 0 [(2, .ofNat 1004)] [] ab_M0 [ab_full, (.ofNat 1, .ofNat 1), (.negSucc 2147483647, .ofNat 2147483647), ab_full, ab_full, ab_full, (.ofNat 46, .ofNat 46)] (0, 0) ab_k1 = true := by decide +kernel
set_option maxRecDepth 1000000 in
theorem rn_o46_4 : ab_run 6 sm_P ab_acc 1000000 60 307 0 [(2, .ofNat 1004)] [] ab_M0 [ab_full, (.ofNat 2, .ofNat 2), (.negSucc 2147483647, .ofNat 2147483647), ab_full, ab_full, ab_full, (.ofNat 46, .ofNat 46)] (0, 0) ab_k1 = true := by decide +kernel
set_option maxRecDepth 1000000 in
theorem rn_o46_5 : ab_run 6 sm_P ab_acc 1000000 60 307 0 [(2, .ofNat 1004)] [] ab_M0 [ab_full, (.ofNat 3, .ofNat 3), (.negSucc 2147483647, .ofNat 2147483647), ab_full, ab_full, ab_full, (.ofNat 46, .ofNat 46)] (0, 0) ab_k1 = true := by decide +kernel
set_option maxRecDepth 1000000 in
theorem rn_o46_6 : ab_run 6 sm_P ab_acc 1000000 60 307 0 [(2, .ofNat 1004)] [] ab_M0 [ab_full, (.ofNat 4, .ofNat 4), (.negSucc 2147483647, .ofNat 2147483647), ab_full, ab_full, ab_full, (.ofNat 46, .ofNat 46)] (0, 0) ab_k1 = true := by decide +kernel
set_option maxRecDepth 1000000 in
theorem rn_o46_7 : ab_run 6 sm_P ab_acc 1000000 60 307 0 [(2, .ofNat 1004)] [] ab_M0 [ab_full, (.ofNat 5, .ofNat 5), (.negSucc 2147483647, .ofNat 2147483647), ab_full, ab_full, ab_full, (.ofNat 46, .ofNat 46)] (0, 0) ab_k1 = true := by decide +kernel
set_option maxRecDepth 1000000 in
theorem rn_o46_8 : ab_run 6 sm_P ab_acc 1000000 60 307 0 [(2, .ofNat 1004)] [] ab_M0 [ab_full, (.ofNat 6, .ofNat 6), (.negSucc 2147483647, .ofNat 2147483647), ab_full, ab_full, ab_full, (.ofNat 46, .ofNat 46)] (0, 0) ab_k1 = true := by decide +kernel
set_option maxRecDepth 1000000 in
theorem rn_o46_9 : ab_run 6 sm_P ab_acc 1000000 60 307 0 [(2, .ofNat 1004)] [] ab_M0 [ab_full, (.ofNat 7, .ofNat 7), (.negSucc 2147483647, .ofNat 2147483647), ab_full, ab_full, ab_full, (.ofNat 46, .ofNat 46)] (0, 0) ab_k1 = true := by decide +kernel
set_option maxRecDepth 1000000 in
theorem rn_o46_10 : ab_run 6 sm_P ab_acc 1000000 60 307 0 [(2, .ofNat 1004)] [] ab_M0 [ab_full, (.ofNat 8, .ofNat 2147483647), (.negSucc 2147483647, .ofNat 2147483647), ab_full, ab_full, ab_full, (.ofNat 46, .ofNat 46)] (0, 0) ab_k1 = true := by decide +kernel
set_option maxRecDepth 1000000 in
theorem rn_g5 : ab_run 6 sm_P ab_acc 1000000 60 307 0 [(2, .ofNat 1004)] [] ab_M0 [ab_full, (.negSucc 2147483647, .ofNat 2147483647), (.negSucc 2147483647, .ofNat 2147483647), ab_full, ab_full, ab_full, (.ofNat 47, .ofNat 63)] (0, 0) ab_k1 = true := by decide +kernel

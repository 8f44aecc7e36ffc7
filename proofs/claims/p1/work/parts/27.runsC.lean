/-! runs -/
set_option maxRecDepth 1000000 in
theorem rn_o33_0 : ab_run 6 sm_P ab_acc 1000000 60 307 0 [(2, .ofNat 1004)] [] ab_M0 [ab_full, (.negSucc 2147483647, .negSucc 0), (.negSucc 2147483647, .ofNat 2147483647), ab_full, ab_full, ab_full, (.ofNat 33, .ofNat 33)] (0, 0) ab_k1 = true := by decide +kernel
set_option maxRecDepth 1000000 in
theorem rn_o33_1 : ab_run 6 sm_P ab_acc 1000000 60 307 0 [(2, .ofNat 1004)] [] ab_M0 [ab_full, (.ofNat 0, .ofNat 0), (.negSucc 2147483647, .ofNat 2147483647), ab_full, ab_full, ab_full, (.ofNat 33, .ofNat 33)] (0, 0) ab_k1 = true := by decide +kernel
set_option maxRecDepth 1000000 in
theorem rn_o33_2 : ab_run 6 sm_P ab_acc 1000000 60 307 0 [(2, .ofNat 1004)] [] ab_M0 [ab_full, (.ofNat 1, .ofNat 1000), (.negSucc 2147483647, .ofNat 2147483647), ab_full, ab_full, ab_full, (.ofNat 33, .ofNat 33)] (0, 0) ab_k1 = true := by decide +kernel
set_option maxRecDepth 1000000 in
theorem rn_o33_3 : ab_run 6 sm_P ab_acc 1000000 60 307 0 [(2, .ofNat 1004)] [] ab_M0 [ab_full, (.ofNat 1001, .ofNat 2147483647), (.negSucc 2147483647, .ofNat 2147483647), ab_full, ab_full, ab_full, (.ofNat 33, .ofNat 33)] (0, 0) ab_k1 = true := by decide +kernel
set_option maxRecDepth 1000000 in
theorem rn_o34_0 : ab_run 6 sm_P ab_acc 1000000 60 307 0 [(2, .ofNat 1004)] [] ab_M0 [ab_full, (.negSucc 2147483647, .negSucc 0), (.negSucc 2147483647, .ofNat 2147483647), ab_full, ab_full, ab_full, (.ofNat 34, .ofNat 34)] (0, 0) ab_k1 = true := by decide +kernel
set_option maxRecDepth 1000000 in
theorem rn_o34_1 : ab_run 6 sm_P ab_acc 1000000 60 307 0 [(2, .ofNat 1004)] [] ab_M0 [ab_full, (.ofNat 0, .ofNat 0), (.negSucc 2147483647, .ofNat 2147483647), ab_full, ab_full, ab_full, (.ofNat 34, .ofNat 34)] (0, 0) ab_k1 = true := by decide +kernel
set_option maxRecDepth 1000000 in
theorem rn_o34_2 : ab_run 6 sm_P ab_acc 1000000 60 307 0 [(2, .ofNat 1004)] [] ab_M0 [ab_full, (.ofNat 1, .ofNat 1000), (.negSucc 2147483647, .ofNat 2147483647), ab_full, ab_full, ab_full, (.ofNat 34, .ofNat 34)] (0, 0) ab_k1 = true := by decide +kernel
set_option maxRecDepth 1000000 in
theorem rn_o34_3 : ab_run 6 sm_P ab_acc 1000000 60 307 0 [(2, .ofNat 1004)] [] ab_M0 [ab_full, (.ofNat 1001, .ofNat 2147483647), (.negSucc 2147483647, .ofNat 2147483647), ab_full, ab_full, ab_full, (.ofNat 34, .ofNat 34)] (0, 0) ab_k1 = true := by decide +kernel

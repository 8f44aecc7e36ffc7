/-! runs -/
set_option maxRecDepth 1000000 in
theorem rn_o18 : ab_run 6 sm_P ab_acc 1000000 60 307 0 [(2, .ofNat 1004)] [] ab_M0 [ab_full, (.negSucc 2147483647, .ofNat 2147483647), (.negSucc 2147483647, .ofNat 2147483647), ab_full, ab_full, ab_full, (.ofNat 18, .ofNat 18)] (0, 0) ab_k1 = true := by decide +kernel
set_option maxRecDepth 1000000 in
theorem rn_o20 : ab_run 6 sm_P ab_acc 1000000 60 307 0 [(2, .ofNat 1004)] [] ab_M0 [ab_full, (.negSucc 2147483647, .ofNat 2147483647), (.negSucc 2147483647, .ofNat 2147483647), ab_full, ab_full, ab_full, (.ofNat 20, .ofNat 20)] (0, 0) ab_k1 = true := by decide +kernel
set_option maxRecDepth 1000000 in
theorem rn_o22 : ab_run 6 sm_P ab_acc 1000000 60 307 0 [(2, .ofNat 1004)] [] ab_M0 [ab_full, (.negSucc 2147483647, .ofNat 2147483647), (.negSucc 2147483647, .ofNat 2147483647), ab_full, ab_full, ab_full, (.ofNat 22, .ofNat 22)] (0, 0) ab_k1 = true := by decide +kernel
set_option maxRecDepth 1000000 in
theorem rn_o23 : ab_run 6 sm_P ab_acc 1000000 60 307 0 [(2, .ofNat 1004)] [] ab_M0 [ab_full, (.negSucc 2147483647, .ofNat 2147483647), (.negSucc 2147483647, .ofNat 2147483647), ab_full, ab_full, ab_full, (.ofNat 23, .ofNat 23)] (0, 0) ab_k1 = true := by decide +kernel
set_option maxRecDepth 1000000 in
theorem rn_o19_0 : ab_run 6 sm_P ab_acc 1000000 60 307 0 [(2, .ofNat 1004)] [] ab_M0 [ab_full, (.negSucc 2147483647, .negSucc 0), (.negSucc 2147483647, .ofNat 2147483647), ab_full, ab_full, ab_full, (.ofNat 19, .ofNat 19)] (0, 0) ab_k1 = true := by decide +kernel
set_option maxRecDepth 1000000 in
theorem rn_o19_1 : ab_run 6 sm_P ab_acc 1000000 60 307 0 [(2, .ofNat 1004)] [] ab_M0 [ab_full, (.ofNat 0, .ofNat 0), (.negSucc 2147483647, .ofNat 2147483647), ab_full, ab_full, ab_full, (.ofNat 19, .ofNat 19)] (0, 0) ab_k1 = true := by decide +kernel
set_option maxRecDepth 1000000 in
theorem rn_o19_2 : ab_run 6 sm_P ab_acc 1000000 60 307 0 [(2, .ofNat 1004)] [] ab_M0 [ab_full, (.ofNat 1, .ofNat 2147483647), (.negSucc 2147483647, .ofNat 2147483647), ab_full, ab_full, ab_full, (.ofNat 19, .ofNat 19)] (0, 0) ab_k1 = true := by decide +kernel
set_option maxRecDepth 1000000 in
theorem rn_o21_0 : ab_run 6 sm_P ab_acc 1000000 60 307 0 [(2, .ofNat 1004)] [] ab_M0 [ab_full, (.negSucc 2147483647, .negSucc 0), (.negSucc 2147483647, .ofNat 2147483647), ab_full, ab_full, ab_full, (.ofNat 21, .ofNat 21)] (0, 0) ab_k1 = true := by decide +kernel
set_option maxRecDepth 1000000 in
theorem rn_o21_1 : ab_run 6 sm_P ab_acc 1000000 60 307 0 [(2, .ofNat 1004)] [] ab_M0 [ab_full, (.ofNat 0, .ofNat 0), (.negSucc 2147483647, .ofNat 2147483647), ab_full, ab_full, ab_full, (.ofNat 21, .ofNat 21)] (0, 0) ab_k1 = true := by decide +kernel
set_option maxRecDepth 1000000 in
theorem rn_o21_2 : ab_run 6 sm_P ab_acc 1000000 60 307 0 [(2, .ofNat 1004)] [] ab_M0 [ab_full, (.ofNat 1, .ofNat 2147483647), (.negSucc 2147483647, .ofNat 2147483647), ab_full, ab_full, ab_full, (.ofNat 21, .ofNat 21)] (0, 0) ab_k1 = true := by decide +kernel

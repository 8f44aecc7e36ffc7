/-! runs -/
set_option maxRecDepth 1000000 in
theorem rn_o41 : ab_run 6 sm_P ab_acc 1000000 60 307 0 [(2, .ofNat 1004)] [] ab_M0 [ab_full, (.negSucc 2147483647, .ofNat 2147483647), (.negSucc 2147483647, .ofNat 2147483647), ab_full, ab_full, ab_full, (.ofNat 41, .ofNat 41)] (0, 0) ab_k1 = true := by decide +kernel
set_option maxRecDepth 1000000 in
theorem rn_g4 : ab_run 6 sm_P ab_acc 1000000 60 307 0 [(2, .ofNat 1004)] [] ab_M0 [ab_full, (.negSucc 2147483647, .ofNat 2147483647), (.negSucc 2147483647, .ofNat 2147483647), ab_full, ab_full, ab_full, (.ofNat 42, .ofNat 45)] (0, 0) ab_k1 = true := by decide +kernel

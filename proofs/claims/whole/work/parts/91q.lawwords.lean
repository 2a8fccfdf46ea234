set_option maxRecDepth 40000 in
theorem wsL_g14 : GoodIn lw_tbl wsL_law_r14 := goodIn_p _ [392, 919, 396, 400] rfl (by decide +kernel)
set_option maxRecDepth 40000 in
theorem wsL_g15 : GoodIn lw_tbl wsL_law_r15 := goodIn_p _ [403, 408, 412, 416, 420, 425] rfl (by decide +kernel)
set_option maxRecDepth 40000 in
theorem wsL_g16 : GoodIn lw_tbl wsL_law_r16 := goodIn_p _ [923, 927, 931, 935, 939] rfl (by decide +kernel)
set_option maxRecDepth 40000 in
theorem wsL_g17 : GoodIn lw_tbl wsL_law_r17 := goodIn_p _ [431, 943, 436, 440, 947] rfl (by decide +kernel)
set_option maxRecDepth 40000 in
theorem wsL_g18 : GoodIn lw_tbl wsL_law_r18 := goodIn_p _ [446, 449, 951, 454, 458] rfl (by decide +kernel)
set_option maxRecDepth 40000 in
theorem wsL_g19 : GoodIn lw_tbl wsL_law_r19 := goodIn_p _ [461, 466, 470, 475, 955] rfl (by decide +kernel)
set_option maxRecDepth 40000 in
theorem wsL_g20 : GoodIn lw_tbl wsL_law_r20 := goodIn_p _ [959, 963, 967, 971, 975, 979] rfl (by decide +kernel)
set_option maxRecDepth 40000 in
theorem wsL_g21 : GoodIn lw_tbl wsL_law_r21 := goodIn_p _ [983, 482, 486, 987, 990, 993, 490] rfl (by decide +kernel)
set_option maxRecDepth 40000 in
theorem wsL_g22 : GoodIn lw_tbl wsL_law_r22 := goodIn_p _ [494, 498, 997, 1001, 502, 506] rfl (by decide +kernel)
set_option maxRecDepth 40000 in
theorem wsL_g23 : GoodIn lw_tbl wsL_law_r23 := goodIn_p _ [1005, 1009, 511, 515, 1013] rfl (by decide +kernel)
set_option maxRecDepth 40000 in
theorem wsL_g24 : GoodIn lw_tbl wsL_law_r24 := goodIn_p _ [519, 525, 529, 533, 1021] rfl (by decide +kernel)
set_option maxRecDepth 40000 in
theorem wsL_g25 : GoodIn lw_tbl wsL_law_r25 := goodIn_p _ [1027, 1031, 537, 540, 1035, 544] rfl (by decide +kernel)
set_option maxRecDepth 40000 in
theorem wsL_g26 : GoodIn lw_tbl wsL_law_r26 := goodIn_p _ [547, 551, 1039, 556, 560, 564] rfl (by decide +kernel)

set_option maxRecDepth 40000 in
theorem wsL_g27 : GoodIn lw_tbl wsL_law_r27 := goodIn_p _ [567, 574, 1043, 1047, 579] rfl (by decide +kernel)
set_option maxRecDepth 40000 in
theorem wsL_g28 : GoodIn lw_tbl wsL_law_r28 := goodIn_p _ [583, 592, 588, 596, 600, 1051] rfl (by decide +kernel)
set_option maxRecDepth 40000 in
theorem wsL_g29 : GoodIn lw_tbl wsL_law_r29 := goodIn_p _ [604, 608, 612, 1055, 616] rfl (by decide +kernel)
set_option maxRecDepth 40000 in
theorem wsL_g30 : GoodIn lw_tbl wsL_law_r30 := goodIn_p _ [1059, 1063, 621, 625, 629, 1067] rfl (by decide +kernel)
set_option maxRecDepth 40000 in
theorem wsL_g31 : GoodIn lw_tbl wsL_law_r31 := goodIn_p _ [1071, 1075, 1079, 634, 638, 1083] rfl (by decide +kernel)
set_option maxRecDepth 40000 in
theorem wsL_g32 : GoodIn lw_tbl wsL_law_r32 := goodIn_p _ [643, 1087, 647, 1091, 651, 654] rfl (by decide +kernel)
set_option maxRecDepth 40000 in
theorem wsL_g33 : GoodIn lw_tbl wsL_law_r33 := goodIn_p _ [658, 662, 666, 670, 676] rfl (by decide +kernel)
set_option maxRecDepth 40000 in
theorem wsL_g34 : GoodIn lw_tbl wsL_law_r34 := goodIn_p _ [680, 1095, 1099, 1103, 1107, 685] rfl (by decide +kernel)
set_option maxRecDepth 40000 in
theorem wsL_g35 : GoodIn lw_tbl wsL_law_r35 := goodIn_p _ [689, 1111, 693, 1115, 697] rfl (by decide +kernel)
set_option maxRecDepth 40000 in
theorem wsL_g36 : GoodIn lw_tbl wsL_law_r36 := goodIn_p _ [701, 1119, 1123, 1127, 708, 1131] rfl (by decide +kernel)
set_option maxRecDepth 40000 in
theorem wsL_g37 : GoodIn lw_tbl wsL_law_r37 := goodIn_p _ [712, 1017, 716, 720, 1135, 724] rfl (by decide +kernel)
set_option maxRecDepth 40000 in
theorem wsL_g38 : GoodIn lw_tbl wsL_law_r38 := goodIn_p _ [1139, 728, 1143] rfl (by decide +kernel)
set_option maxRecDepth 40000 in
theorem wsL_cX10 : GoodIn lw_tbl wsX100 := goodIn_p _ [] rfl (by decide +kernel)

set_option maxRecDepth 40000 in
theorem wsL_g1 : GoodIn lw_tbl wsL_law_r1 := goodIn_p _ [70, 73] rfl (by decide +kernel)
set_option maxRecDepth 40000 in
theorem wsL_g2 : GoodIn lw_tbl wsL_law_r2 := goodIn_p _ [] rfl (by decide +kernel)
set_option maxRecDepth 40000 in
theorem wsL_g3 : GoodIn lw_tbl wsL_law_r3 := goodIn_p _ [78, 95, 114, 132] rfl (by decide +kernel)
set_option maxRecDepth 40000 in
theorem wsL_g4 : GoodIn lw_tbl wsL_law_r4 := goodIn_p _ [151, 169, 189, 205] rfl (by decide +kernel)
set_option maxRecDepth 40000 in
theorem wsL_g5 : GoodIn lw_tbl wsL_law_r5 := goodIn_p _ [733] rfl (by decide +kernel)
set_option maxRecDepth 40000 in
theorem wsL_g6 : GoodIn lw_tbl wsL_law_r6 := goodIn_p _ [295] rfl (by decide +kernel)
set_option maxRecDepth 40000 in
theorem wsL_g7 : GoodIn lw_tbl wsL_law_r7 := goodIn_p _ [299, 865, 869, 303, 874] rfl (by decide +kernel)
set_option maxRecDepth 40000 in
theorem wsL_g8 : GoodIn lw_tbl wsL_law_r8 := goodIn_p _ [307, 311, 315, 319, 323] rfl (by decide +kernel)
set_option maxRecDepth 40000 in
theorem wsL_g9 : GoodIn lw_tbl wsL_law_r9 := goodIn_p _ [327, 330, 334, 338, 342] rfl (by decide +kernel)
set_option maxRecDepth 40000 in
theorem wsL_g10 : GoodIn lw_tbl wsL_law_r10 := goodIn_p _ [345, 348, 353, 357, 362, 366] rfl (by decide +kernel)
set_option maxRecDepth 40000 in
theorem wsL_g11 : GoodIn lw_tbl wsL_law_r11 := goodIn_p _ [370, 374, 878, 882, 886] rfl (by decide +kernel)
set_option maxRecDepth 40000 in
theorem wsL_g12 : GoodIn lw_tbl wsL_law_r12 := goodIn_p _ [890, 894, 899, 903, 907] rfl (by decide +kernel)
set_option maxRecDepth 40000 in
theorem wsL_g13 : GoodIn lw_tbl wsL_law_r13 := goodIn_p _ [911, 915, 378, 382, 386, 389] rfl (by decide +kernel)

theorem dX11_draw_36 : decode cX11_draw 36 = .ok (.i2l, 1) := by decide +kernel
theorem dX11_draw_37 : decode cX11_draw 37 = .ok (.lrem, 1) := by decide +kernel
theorem dX11_draw_38 : decode cX11_draw 38 = .ok (.l2i, 1) := by decide +kernel
theorem dX11_draw_39 : decode cX11_draw 39 = .ok (.istore_n 2, 1) := by decide +kernel
theorem dX11_draw_40 : decode cX11_draw 40 = .ok (.aload_n 0, 1) := by decide +kernel
theorem dX11_draw_41 : decode cX11_draw 41 = .ok (.iload_n 2, 1) := by decide +kernel
theorem dX11_draw_42 : decode cX11_draw 42 = .ok (.invokevirtual 221, 3) := by decide +kernel
theorem dX11_draw_45 : decode cX11_draw 45 = .ok (.pop, 1) := by decide +kernel
theorem dX11_draw_46 : decode cX11_draw 46 = .ok (.aload_n 0, 1) := by decide +kernel
theorem dX11_draw_47 : decode cX11_draw 47 = .ok (.invokevirtual 238, 3) := by decide +kernel
theorem dX11_draw_50 : decode cX11_draw 50 = .ok (.pop, 1) := by decide +kernel
theorem dX11_draw_51 : decode cX11_draw 51 = .ok (.iload_n 2, 1) := by decide +kernel
theorem dX11_draw_52 : decode cX11_draw 52 = .ok (.ireturn, 1) := by decide +kernel
set_option maxRecDepth 20000 in
theorem ggX11_take_X11_layNth : GoodIn wsX11_take wsX11_layNth := goodIn_r _ [5, 6, 7, 8, 9, 4, 10, 11, 12, 13, 14, 15, 16, 17, 18, 19, 20, 21, 22, 23, 24, 25, 26, 27, 28, 29, 30, 31, 32, 33, 34, 35, 36, 37, 38, 39, 40, 41, 42, 56, 57, 58, 59, 60, 61, 62, 63, 64, 65, 66, 67, 68, 69, 70, 71, 72, 73, 74, 75, 76, 77, 78, 79, 80, 81, 82, 83, 84, 85, 86, 87, 88, 89, 90, 91, 92, 93, 94, 95, 96, 97] (by decide +kernel) (by decide +kernel)
set_option maxRecDepth 20000 in
theorem gX11_take_X11_layNth : GoodIn wsX11_take (wsV RX11 221 RX11 yX11_layNth wsX11_layNth) := goodIn_app (goodIn_of _ (by decide +kernel)) ggX11_take_X11_layNth
set_option maxRecDepth 20000 in
theorem ggX11_take_X11_sit : GoodIn wsX11_take wsX11_sit := goodIn_r _ [46, 19, 47, 6, 48, 49, 50, 4, 51, 52, 53, 54, 55, 56, 57, 58, 59, 60, 61, 62, 63, 64, 65, 66, 67, 68, 69, 70, 71, 72, 73, 74, 75, 76, 77, 78, 79, 80, 81, 82, 83, 84, 85, 86, 87, 88, 89, 90, 91, 92, 93, 94, 95, 96, 97] (by decide +kernel) (by decide +kernel)
set_option maxRecDepth 20000 in
theorem gX11_take_X11_sit : GoodIn wsX11_take (wsV RX11 238 RX11 yX11_sit wsX11_sit) := goodIn_app (goodIn_of _ (by decide +kernel)) ggX11_take_X11_sit
theorem dX11_take_0 : decode cX11_take 0 = .ok (.aload_n 0, 1) := by decide +kernel
theorem dX11_take_1 : decode cX11_take 1 = .ok (.iload_n 1, 1) := by decide +kernel
theorem dX11_take_2 : decode cX11_take 2 = .ok (.invokevirtual 221, 3) := by decide +kernel
theorem dX11_take_5 : decode cX11_take 5 = .ok (.ifCond .eq 10, 3) := by decide +kernel
theorem dX11_take_8 : decode cX11_take 8 = .ok (.aload_n 0, 1) := by decide +kernel
theorem dX11_take_9 : decode cX11_take 9 = .ok (.invokevirtual 238, 3) := by decide +kernel
theorem dX11_take_12 : decode cX11_take 12 = .ok (.goto 5, 3) := by decide +kernel
theorem dX11_take_15 : decode cX11_take 15 = .ok (.bipush (-2), 2) := by decide +kernel
theorem dX11_take_17 : decode cX11_take 17 = .ok (.ireturn, 1) := by decide +kernel
set_option maxRecDepth 20000 in
theorem ggX11_swap_X11_isPerson : GoodIn wsX11_swap wsX11_isPerson := goodIn_r _ [6, 7, 8, 9, 5, 10, 50, 51, 52, 53, 54, 55, 56, 57, 58, 59, 60, 61, 62, 63, 64, 65, 66, 67, 68, 69, 70, 71, 72, 73, 74, 75, 76, 77, 78, 79, 80, 81, 82, 83, 84, 85, 86, 87, 88, 89, 90, 91] (by decide +kernel) (by decide +kernel)
set_option maxRecDepth 20000 in
theorem gX11_swap_X11_isPerson : GoodIn wsX11_swap (wsV RX11 190 RX11 yX11_isPerson wsX11_isPerson) := goodIn_app (goodIn_of _ (by decide +kernel)) ggX11_swap_X11_isPerson
set_option maxRecDepth 20000 in
theorem ggX11_swap_X11_keepAct : GoodIn wsX11_swap wsX11_keepAct := goodIn_r _ [14, 15, 16, 1, 17, 18, 50, 51, 52, 53, 54, 55, 56, 57, 58, 59, 60, 61, 62, 63, 64, 65, 66, 67, 68, 69, 70, 71, 72, 73, 74, 75, 76, 77, 78, 79, 80, 81, 82, 83, 84, 85, 86, 87, 88, 89, 90, 91] (by decide +kernel) (by decide +kernel)
set_option maxRecDepth 20000 in
theorem gX11_swap_X11_keepAct : GoodIn wsX11_swap (wsV RX11 227 RX11 yX11_keepAct wsX11_keepAct) := goodIn_app (goodIn_of _ (by decide +kernel)) ggX11_swap_X11_keepAct
set_option maxRecDepth 20000 in
theorem ggX11_swap_X11_chairOf : GoodIn wsX11_swap wsX11_chairOf := goodIn_r _ [22, 7, 1, 50, 51, 52, 53, 54, 55, 56, 57, 58, 59, 60, 61, 62, 63, 64, 65, 66, 67, 68, 69, 70, 71, 72, 73, 74, 75, 76, 77, 78, 79, 80, 81, 82, 83, 84, 85, 86, 87, 88, 89, 90, 91] (by decide +kernel) (by decide +kernel)
set_option maxRecDepth 20000 in
theorem gX11_swap_X11_chairOf : GoodIn wsX11_swap (wsV RX11 194 RX11 yX11_chairOf wsX11_chairOf) := goodIn_app (goodIn_of _ (by decide +kernel)) ggX11_swap_X11_chairOf
set_option maxRecDepth 20000 in
theorem ggX11_swap_X11_isLawful : GoodIn wsX11_swap wsX11_isLawful := goodIn_r _ [26, 27, 28, 29, 5, 30, 7, 31, 32, 33, 34, 35, 36, 37, 38, 39, 40, 41, 42, 43, 44, 45, 46, 47, 48, 49, 50, 51, 52, 53, 54, 55, 56, 57, 58, 59, 60, 61, 62, 63, 64, 65, 66, 67, 68, 69, 70, 71, 72, 73, 74, 75, 76, 77, 78, 79, 80, 81, 82, 83, 84, 85, 86, 87, 88, 89, 90, 91] (by decide +kernel) (by decide +kernel)
set_option maxRecDepth 20000 in
theorem gX11_swap_X11_isLawful : GoodIn wsX11_swap (wsV RX11 200 RX11 yX11_isLawful wsX11_isLawful) := goodIn_app (goodIn_of _ (by decide +kernel)) ggX11_swap_X11_isLawful
theorem dX11_swap_0 : decode cX11_swap 0 = .ok (.aload_n 0, 1) := by decide +kernel
theorem dX11_swap_1 : decode cX11_swap 1 = .ok (.iload_n 1, 1) := by decide +kernel
theorem dX11_swap_2 : decode cX11_swap 2 = .ok (.invokevirtual 190, 3) := by decide +kernel
theorem dX11_swap_5 : decode cX11_swap 5 = .ok (.ifCond .eq 11, 3) := by decide +kernel
theorem dX11_swap_8 : decode cX11_swap 8 = .ok (.aload_n 0, 1) := by decide +kernel
theorem dX11_swap_9 : decode cX11_swap 9 = .ok (.iload_n 2, 1) := by decide +kernel
theorem dX11_swap_10 : decode cX11_swap 10 = .ok (.invokevirtual 190, 3) := by decide +kernel
theorem dX11_swap_13 : decode cX11_swap 13 = .ok (.ifCond .ne 5, 3) := by decide +kernel
theorem dX11_swap_16 : decode cX11_swap 16 = .ok (.iconst (-1), 1) := by decide +kernel
theorem dX11_swap_17 : decode cX11_swap 17 = .ok (.ireturn, 1) := by decide +kernel
theorem dX11_swap_18 : decode cX11_swap 18 = .ok (.iload_n 1, 1) := by decide +kernel
theorem dX11_swap_19 : decode cX11_swap 19 = .ok (.iload_n 2, 1) := by decide +kernel
theorem dX11_swap_20 : decode cX11_swap 20 = .ok (.if_icmp .ne 6, 3) := by decide +kernel
theorem dX11_swap_23 : decode cX11_swap 23 = .ok (.bipush (-2), 2) := by decide +kernel
theorem dX11_swap_25 : decode cX11_swap 25 = .ok (.ireturn, 1) := by decide +kernel
theorem dX11_swap_26 : decode cX11_swap 26 = .ok (.aload_n 0, 1) := by decide +kernel
theorem dX11_swap_27 : decode cX11_swap 27 = .ok (.invokevirtual 227, 3) := by decide +kernel
theorem dX11_swap_30 : decode cX11_swap 30 = .ok (.aload_n 0, 1) := by decide +kernel
theorem dX11_swap_31 : decode cX11_swap 31 = .ok (.iload_n 1, 1) := by decide +kernel
theorem dX11_swap_32 : decode cX11_swap 32 = .ok (.invokevirtual 194, 3) := by decide +kernel
theorem dX11_swap_35 : decode cX11_swap 35 = .ok (.istore_n 3, 1) := by decide +kernel
theorem dX11_swap_36 : decode cX11_swap 36 = .ok (.aload_n 0, 1) := by decide +kernel
theorem dX11_swap_37 : decode cX11_swap 37 = .ok (.iload_n 2, 1) := by decide +kernel
theorem dX11_swap_38 : decode cX11_swap 38 = .ok (.invokevirtual 194, 3) := by decide +kernel
theorem dX11_swap_41 : decode cX11_swap 41 = .ok (.istore 4, 2) := by decide +kernel
theorem dX11_swap_43 : decode cX11_swap 43 = .ok (.aload_n 0, 1) := by decide +kernel
theorem dX11_swap_44 : decode cX11_swap 44 = .ok (.getfield 41, 3) := by decide +kernel
theorem dX11_swap_47 : decode cX11_swap 47 = .ok (.iload_n 3, 1) := by decide +kernel
theorem dX11_swap_48 : decode cX11_swap 48 = .ok (.iload_n 2, 1) := by decide +kernel
theorem dX11_swap_49 : decode cX11_swap 49 = .ok (.iastore, 1) := by decide +kernel
theorem dX11_swap_50 : decode cX11_swap 50 = .ok (.aload_n 0, 1) := by decide +kernel
theorem dX11_swap_51 : decode cX11_swap 51 = .ok (.getfield 41, 3) := by decide +kernel
theorem dX11_swap_54 : decode cX11_swap 54 = .ok (.iload 4, 2) := by decide +kernel
theorem dX11_swap_56 : decode cX11_swap 56 = .ok (.iload_n 1, 1) := by decide +kernel
theorem dX11_swap_57 : decode cX11_swap 57 = .ok (.iastore, 1) := by decide +kernel
theorem dX11_swap_58 : decode cX11_swap 58 = .ok (.aload_n 0, 1) := by decide +kernel
theorem dX11_swap_59 : decode cX11_swap 59 = .ok (.aload_n 0, 1) := by decide +kernel
theorem dX11_swap_60 : decode cX11_swap 60 = .ok (.getfield 41, 3) := by decide +kernel
theorem dX11_swap_63 : decode cX11_swap 63 = .ok (.invokevirtual 200, 3) := by decide +kernel
theorem dX11_swap_66 : decode cX11_swap 66 = .ok (.ifCond .eq 7, 3) := by decide +kernel
theorem dX11_swap_69 : decode cX11_swap 69 = .ok (.iconst 1, 1) := by decide +kernel
theorem dX11_swap_70 : decode cX11_swap 70 = .ok (.goto 4, 3) := by decide +kernel
theorem dX11_swap_73 : decode cX11_swap 73 = .ok (.iconst 0, 1) := by decide +kernel
theorem dX11_swap_74 : decode cX11_swap 74 = .ok (.ireturn, 1) := by decide +kernel
theorem dX11_men_0 : decode cX11_men 0 = .ok (.iconst 0, 1) := by decide +kernel
theorem dX11_men_1 : decode cX11_men 1 = .ok (.istore_n 1, 1) := by decide +kernel
theorem dX11_men_2 : decode cX11_men 2 = .ok (.iconst 0, 1) := by decide +kernel
theorem dX11_men_3 : decode cX11_men 3 = .ok (.istore_n 2, 1) := by decide +kernel
theorem dX11_men_4 : decode cX11_men 4 = .ok (.iload_n 2, 1) := by decide +kernel
theorem dX11_men_5 : decode cX11_men 5 = .ok (.aload_n 0, 1) := by decide +kernel
theorem dX11_men_6 : decode cX11_men 6 = .ok (.getfield 89, 3) := by decide +kernel
theorem dX11_men_9 : decode cX11_men 9 = .ok (.if_icmp .ge 26, 3) := by decide +kernel
theorem dX11_men_12 : decode cX11_men 12 = .ok (.iload_n 1, 1) := by decide +kernel
theorem dX11_men_13 : decode cX11_men 13 = .ok (.aload_n 0, 1) := by decide +kernel
theorem dX11_men_14 : decode cX11_men 14 = .ok (.getfield 26, 3) := by decide +kernel
theorem dX11_men_17 : decode cX11_men 17 = .ok (.iload_n 2, 1) := by decide +kernel
theorem dX11_men_18 : decode cX11_men 18 = .ok (.baload, 1) := by decide +kernel
theorem dX11_men_19 : decode cX11_men 19 = .ok (.ifCond .eq 7, 3) := by decide +kernel
theorem dX11_men_22 : decode cX11_men 22 = .ok (.iconst 0, 1) := by decide +kernel
theorem dX11_men_23 : decode cX11_men 23 = .ok (.goto 4, 3) := by decide +kernel
theorem dX11_men_26 : decode cX11_men 26 = .ok (.iconst 1, 1) := by decide +kernel
theorem dX11_men_27 : decode cX11_men 27 = .ok (.iadd, 1) := by decide +kernel
theorem dX11_men_28 : decode cX11_men 28 = .ok (.istore_n 1, 1) := by decide +kernel
theorem dX11_men_29 : decode cX11_men 29 = .ok (.iinc 2 1, 3) := by decide +kernel
theorem dX11_men_32 : decode cX11_men 32 = .ok (.goto (-28), 3) := by decide +kernel
theorem dX11_men_35 : decode cX11_men 35 = .ok (.iload_n 1, 1) := by decide +kernel
theorem dX11_men_36 : decode cX11_men 36 = .ok (.ireturn, 1) := by decide +kernel
theorem dX11_layCourse_0 : decode cX11_layCourse 0 = .ok (.iconst 0, 1) := by decide +kernel
theorem dX11_layCourse_1 : decode cX11_layCourse 1 = .ok (.istore_n 2, 1) := by decide +kernel
theorem dX11_layCourse_2 : decode cX11_layCourse 2 = .ok (.iconst 0, 1) := by decide +kernel
theorem dX11_layCourse_3 : decode cX11_layCourse 3 = .ok (.istore_n 3, 1) := by decide +kernel
theorem dX11_layCourse_4 : decode cX11_layCourse 4 = .ok (.iload_n 3, 1) := by decide +kernel
theorem dX11_layCourse_5 : decode cX11_layCourse 5 = .ok (.aload_n 0, 1) := by decide +kernel
theorem dX11_layCourse_6 : decode cX11_layCourse 6 = .ok (.getfield 89, 3) := by decide +kernel
theorem dX11_layCourse_9 : decode cX11_layCourse 9 = .ok (.if_icmp .ge 45, 3) := by decide +kernel
theorem dX11_layCourse_12 : decode cX11_layCourse 12 = .ok (.aload_n 0, 1) := by decide +kernel
theorem dX11_layCourse_13 : decode cX11_layCourse 13 = .ok (.getfield 50, 3) := by decide +kernel
theorem dX11_layCourse_16 : decode cX11_layCourse 16 = .ok (.iload_n 3, 1) := by decide +kernel
theorem dX11_layCourse_17 : decode cX11_layCourse 17 = .ok (.aload_n 0, 1) := by decide +kernel
theorem dX11_layCourse_18 : decode cX11_layCourse 18 = .ok (.getfield 41, 3) := by decide +kernel
theorem dX11_layCourse_21 : decode cX11_layCourse 21 = .ok (.iload_n 3, 1) := by decide +kernel
theorem dX11_layCourse_22 : decode cX11_layCourse 22 = .ok (.iaload, 1) := by decide +kernel
theorem dX11_layCourse_23 : decode cX11_layCourse 23 = .ok (.iastore, 1) := by decide +kernel
theorem dX11_layCourse_24 : decode cX11_layCourse 24 = .ok (.aload_n 0, 1) := by decide +kernel
theorem dX11_layCourse_25 : decode cX11_layCourse 25 = .ok (.getfield 26, 3) := by decide +kernel
theorem dX11_layCourse_28 : decode cX11_layCourse 28 = .ok (.aload_n 0, 1) := by decide +kernel
theorem dX11_layCourse_29 : decode cX11_layCourse 29 = .ok (.getfield 41, 3) := by decide +kernel
theorem dX11_layCourse_32 : decode cX11_layCourse 32 = .ok (.iload_n 3, 1) := by decide +kernel
theorem dX11_layCourse_33 : decode cX11_layCourse 33 = .ok (.iaload, 1) := by decide +kernel
theorem dX11_layCourse_34 : decode cX11_layCourse 34 = .ok (.baload, 1) := by decide +kernel
theorem dX11_layCourse_35 : decode cX11_layCourse 35 = .ok (.ifCond .ne 13, 3) := by decide +kernel
theorem dX11_layCourse_38 : decode cX11_layCourse 38 = .ok (.aload_n 0, 1) := by decide +kernel
theorem dX11_layCourse_39 : decode cX11_layCourse 39 = .ok (.getfield 56, 3) := by decide +kernel
theorem dX11_layCourse_42 : decode cX11_layCourse 42 = .ok (.iload_n 2, 1) := by decide +kernel
theorem dX11_layCourse_43 : decode cX11_layCourse 43 = .ok (.iload_n 3, 1) := by decide +kernel
theorem dX11_layCourse_44 : decode cX11_layCourse 44 = .ok (.iastore, 1) := by decide +kernel
theorem dX11_layCourse_45 : decode cX11_layCourse 45 = .ok (.iinc 2 1, 3) := by decide +kernel
theorem dX11_layCourse_48 : decode cX11_layCourse 48 = .ok (.iinc 3 1, 3) := by decide +kernel
theorem dX11_layCourse_51 : decode cX11_layCourse 51 = .ok (.goto (-47), 3) := by decide +kernel
theorem dX11_layCourse_54 : decode cX11_layCourse 54 = .ok (.iconst 0, 1) := by decide +kernel
theorem dX11_layCourse_55 : decode cX11_layCourse 55 = .ok (.istore_n 3, 1) := by decide +kernel
theorem dX11_layCourse_56 : decode cX11_layCourse 56 = .ok (.iload_n 3, 1) := by decide +kernel
theorem dX11_layCourse_57 : decode cX11_layCourse 57 = .ok (.iload_n 2, 1) := by decide +kernel
theorem dX11_layCourse_58 : decode cX11_layCourse 58 = .ok (.if_icmp .ge 35, 3) := by decide +kernel
theorem dX11_layCourse_61 : decode cX11_layCourse 61 = .ok (.aload_n 0, 1) := by decide +kernel
theorem dX11_layCourse_62 : decode cX11_layCourse 62 = .ok (.getfield 50, 3) := by decide +kernel
theorem dX11_layCourse_65 : decode cX11_layCourse 65 = .ok (.aload_n 0, 1) := by decide +kernel
theorem dX11_layCourse_66 : decode cX11_layCourse 66 = .ok (.getfield 56, 3) := by decide +kernel
theorem dX11_layCourse_69 : decode cX11_layCourse 69 = .ok (.iload_n 3, 1) := by decide +kernel
theorem dX11_layCourse_70 : decode cX11_layCourse 70 = .ok (.iload_n 1, 1) := by decide +kernel
theorem dX11_layCourse_71 : decode cX11_layCourse 71 = .ok (.iadd, 1) := by decide +kernel
theorem dX11_layCourse_72 : decode cX11_layCourse 72 = .ok (.iload_n 2, 1) := by decide +kernel
theorem dX11_layCourse_73 : decode cX11_layCourse 73 = .ok (.irem, 1) := by decide +kernel
theorem dX11_layCourse_74 : decode cX11_layCourse 74 = .ok (.iaload, 1) := by decide +kernel
theorem dX11_layCourse_75 : decode cX11_layCourse 75 = .ok (.aload_n 0, 1) := by decide +kernel
theorem dX11_layCourse_76 : decode cX11_layCourse 76 = .ok (.getfield 41, 3) := by decide +kernel
theorem dX11_layCourse_79 : decode cX11_layCourse 79 = .ok (.aload_n 0, 1) := by decide +kernel
theorem dX11_layCourse_80 : decode cX11_layCourse 80 = .ok (.getfield 56, 3) := by decide +kernel
theorem dX11_layCourse_83 : decode cX11_layCourse 83 = .ok (.iload_n 3, 1) := by decide +kernel
theorem dX11_layCourse_84 : decode cX11_layCourse 84 = .ok (.iaload, 1) := by decide +kernel
theorem dX11_layCourse_85 : decode cX11_layCourse 85 = .ok (.iaload, 1) := by decide +kernel
theorem dX11_layCourse_86 : decode cX11_layCourse 86 = .ok (.iastore, 1) := by decide +kernel
theorem dX11_layCourse_87 : decode cX11_layCourse 87 = .ok (.iinc 3 1, 3) := by decide +kernel
theorem dX11_layCourse_90 : decode cX11_layCourse 90 = .ok (.goto (-34), 3) := by decide +kernel
theorem dX11_layCourse_93 : decode cX11_layCourse 93 = .ok (.return_, 1) := by decide +kernel
set_option maxRecDepth 20000 in
theorem ggX11_course_X11_in : GoodIn wsX11_course wsX11_in := goodIn_r _ [6] (by decide +kernel) (by decide +kernel)
set_option maxRecDepth 20000 in
theorem gX11_course_X11_in : GoodIn wsX11_course (va_wsS RX11 95 yX11_in wsX11_in) := goodIn_app (goodIn_of _ (by decide +kernel)) ggX11_course_X11_in
set_option maxRecDepth 20000 in
theorem ggX11_course_X11_layCourse : GoodIn wsX11_course wsX11_layCourse := goodIn_r _ [10, 11, 12, 2, 13, 14, 53, 54, 55, 56, 57, 58, 59, 60, 61, 62, 63, 64, 65, 66, 67, 68, 69, 70, 71, 72, 73, 74, 75, 76, 77, 78, 79, 80, 81, 82, 83, 84, 85, 86, 87, 88, 89, 90, 91, 92, 93, 94] (by decide +kernel) (by decide +kernel)
set_option maxRecDepth 20000 in
theorem gX11_course_X11_layCourse : GoodIn wsX11_course (wsV RX11 241 RX11 yX11_layCourse wsX11_layCourse) := goodIn_app (goodIn_of _ (by decide +kernel)) ggX11_course_X11_layCourse
set_option maxRecDepth 20000 in
theorem ggX11_course_X11_sit : GoodIn wsX11_course wsX11_sit := goodIn_r _ [18, 11, 2, 12, 19, 20, 21, 5, 22, 23, 24, 25, 26, 53, 54, 55, 56, 57, 58, 59, 60, 61, 62, 63, 64, 65, 66, 67, 68, 69, 70, 71, 72, 73, 74, 75, 76, 77, 78, 79, 80, 81, 82, 83, 84, 85, 86, 87, 88, 89, 90, 91, 92, 93, 94] (by decide +kernel) (by decide +kernel)
set_option maxRecDepth 20000 in
theorem gX11_course_X11_sit : GoodIn wsX11_course (wsV RX11 238 RX11 yX11_sit wsX11_sit) := goodIn_app (goodIn_of _ (by decide +kernel)) ggX11_course_X11_sit
set_option maxRecDepth 20000 in
theorem ggX11_course_X11_isLawful : GoodIn wsX11_course wsX11_isLawful := goodIn_r _ [30, 31, 32, 33, 5, 34, 11, 35, 36, 37, 38, 39, 40, 41, 42, 43, 44, 45, 46, 47, 48, 49, 50, 51, 52, 13, 53, 54, 55, 56, 57, 58, 59, 60, 61, 62, 63, 64, 65, 66, 67, 68, 69, 70, 71, 72, 73, 74, 75, 76, 77, 78, 79, 80, 81, 82, 83, 84, 85, 86, 87, 88, 89, 90, 91, 92, 93, 94] (by decide +kernel) (by decide +kernel)
set_option maxRecDepth 20000 in
theorem gX11_course_X11_isLawful : GoodIn wsX11_course (wsV RX11 200 RX11 yX11_isLawful wsX11_isLawful) := goodIn_app (goodIn_of _ (by decide +kernel)) ggX11_course_X11_isLawful
theorem dX11_course_0 : decode cX11_course 0 = .ok (.iload_n 1, 1) := by decide +kernel
theorem dX11_course_1 : decode cX11_course 1 = .ok (.i2l, 1) := by decide +kernel
theorem dX11_course_2 : decode cX11_course 2 = .ok (.lconst 1, 1) := by decide +kernel
theorem dX11_course_3 : decode cX11_course 3 = .ok (.ldc2_w 110, 3) := by decide +kernel
theorem dX11_course_6 : decode cX11_course 6 = .ok (.invokestatic 95, 3) := by decide +kernel
theorem dX11_course_9 : decode cX11_course 9 = .ok (.ifCond .ne 6, 3) := by decide +kernel
theorem dX11_course_12 : decode cX11_course 12 = .ok (.bipush (-2), 2) := by decide +kernel
theorem dX11_course_14 : decode cX11_course 14 = .ok (.ireturn, 1) := by decide +kernel
theorem dX11_course_15 : decode cX11_course 15 = .ok (.aload_n 0, 1) := by decide +kernel
theorem dX11_course_16 : decode cX11_course 16 = .ok (.iload_n 1, 1) := by decide +kernel
theorem dX11_course_17 : decode cX11_course 17 = .ok (.invokevirtual 241, 3) := by decide +kernel
theorem dX11_course_20 : decode cX11_course 20 = .ok (.aload_n 0, 1) := by decide +kernel
theorem dX11_course_21 : decode cX11_course 21 = .ok (.invokevirtual 238, 3) := by decide +kernel
theorem dX11_course_24 : decode cX11_course 24 = .ok (.pop, 1) := by decide +kernel
theorem dX11_course_25 : decode cX11_course 25 = .ok (.aload_n 0, 1) := by decide +kernel
theorem dX11_course_26 : decode cX11_course 26 = .ok (.aload_n 0, 1) := by decide +kernel
theorem dX11_course_27 : decode cX11_course 27 = .ok (.getfield 41, 3) := by decide +kernel
theorem dX11_course_30 : decode cX11_course 30 = .ok (.invokevirtual 200, 3) := by decide +kernel
theorem dX11_course_33 : decode cX11_course 33 = .ok (.ifCond .eq 7, 3) := by decide +kernel
theorem dX11_course_36 : decode cX11_course 36 = .ok (.iconst 1, 1) := by decide +kernel
theorem dX11_course_37 : decode cX11_course 37 = .ok (.goto 4, 3) := by decide +kernel
theorem dX11_course_40 : decode cX11_course 40 = .ok (.iconst 0, 1) := by decide +kernel
theorem dX11_course_41 : decode cX11_course 41 = .ok (.ireturn, 1) := by decide +kernel
set_option maxRecDepth 20000 in
theorem ggX11_dinner_X11_areNext : GoodIn wsX11_dinner wsX11_areNext := goodIn_r _ [8, 9, 1, 17, 18, 19, 20, 21, 22, 23, 24, 25, 26, 27, 28, 29, 30, 31, 32, 33, 34, 35, 36, 37, 38, 39, 40, 41, 42, 43, 44, 45, 46, 47, 48, 49, 50, 51, 52, 53, 54, 55, 56, 57, 58] (by decide +kernel) (by decide +kernel)
set_option maxRecDepth 20000 in
theorem gX11_dinner_X11_areNext : GoodIn wsX11_dinner (wsV RX11 172 RX11 yX11_areNext wsX11_areNext) := goodIn_app (goodIn_of _ (by decide +kernel)) ggX11_dinner_X11_areNext
set_option maxRecDepth 20000 in
theorem ggX11_dinner_X11_keepAct : GoodIn wsX11_dinner wsX11_keepAct := goodIn_r _ [13, 14, 15, 3, 2, 16, 17, 18, 19, 20, 21, 22, 23, 24, 25, 26, 27, 28, 29, 30, 31, 32, 33, 34, 35, 36, 37, 38, 39, 40, 41, 42, 43, 44, 45, 46, 47, 48, 49, 50, 51, 52, 53, 54, 55, 56, 57, 58] (by decide +kernel) (by decide +kernel)
set_option maxRecDepth 20000 in
theorem gX11_dinner_X11_keepAct : GoodIn wsX11_dinner (wsV RX11 227 RX11 yX11_keepAct wsX11_keepAct) := goodIn_app (goodIn_of _ (by decide +kernel)) ggX11_dinner_X11_keepAct
theorem dX11_dinner_0 : decode cX11_dinner 0 = .ok (.iconst 0, 1) := by decide +kernel
theorem dX11_dinner_1 : decode cX11_dinner 1 = .ok (.istore_n 1, 1) := by decide +kernel
theorem dX11_dinner_2 : decode cX11_dinner 2 = .ok (.iconst 0, 1) := by decide +kernel
theorem dX11_dinner_3 : decode cX11_dinner 3 = .ok (.istore_n 2, 1) := by decide +kernel
theorem dX11_dinner_4 : decode cX11_dinner 4 = .ok (.iload_n 2, 1) := by decide +kernel
theorem dX11_dinner_5 : decode cX11_dinner 5 = .ok (.aload_n 0, 1) := by decide +kernel
theorem dX11_dinner_6 : decode cX11_dinner 6 = .ok (.getfield 89, 3) := by decide +kernel
theorem dX11_dinner_9 : decode cX11_dinner 9 = .ok (.if_icmp .ge 67, 3) := by decide +kernel
theorem dX11_dinner_12 : decode cX11_dinner 12 = .ok (.iconst 0, 1) := by decide +kernel
theorem dX11_dinner_13 : decode cX11_dinner 13 = .ok (.istore_n 3, 1) := by decide +kernel
theorem dX11_dinner_14 : decode cX11_dinner 14 = .ok (.iload_n 3, 1) := by decide +kernel
theorem dX11_dinner_15 : decode cX11_dinner 15 = .ok (.iload_n 2, 1) := by decide +kernel
theorem dX11_dinner_16 : decode cX11_dinner 16 = .ok (.if_icmp .ge 54, 3) := by decide +kernel
theorem dX11_dinner_19 : decode cX11_dinner 19 = .ok (.iload_n 1, 1) := by decide +kernel
theorem dX11_dinner_20 : decode cX11_dinner 20 = .ok (.ifCond .ne 38, 3) := by decide +kernel
theorem dX11_dinner_23 : decode cX11_dinner 23 = .ok (.aload_n 0, 1) := by decide +kernel
theorem dX11_dinner_24 : decode cX11_dinner 24 = .ok (.iload_n 2, 1) := by decide +kernel
theorem dX11_dinner_25 : decode cX11_dinner 25 = .ok (.iload_n 3, 1) := by decide +kernel
theorem dX11_dinner_26 : decode cX11_dinner 26 = .ok (.invokevirtual 172, 3) := by decide +kernel
theorem dX11_dinner_29 : decode cX11_dinner 29 = .ok (.ifCond .eq 33, 3) := by decide +kernel
theorem dX11_dinner_32 : decode cX11_dinner 32 = .ok (.aload_n 0, 1) := by decide +kernel
theorem dX11_dinner_33 : decode cX11_dinner 33 = .ok (.getfield 44, 3) := by decide +kernel
theorem dX11_dinner_36 : decode cX11_dinner 36 = .ok (.bipush 7, 2) := by decide +kernel
theorem dX11_dinner_38 : decode cX11_dinner 38 = .ok (.aload_n 0, 1) := by decide +kernel
theorem dX11_dinner_39 : decode cX11_dinner 39 = .ok (.getfield 41, 3) := by decide +kernel
theorem dX11_dinner_42 : decode cX11_dinner 42 = .ok (.iload_n 2, 1) := by decide +kernel
theorem dX11_dinner_43 : decode cX11_dinner 43 = .ok (.iaload, 1) := by decide +kernel
theorem dX11_dinner_44 : decode cX11_dinner 44 = .ok (.imul, 1) := by decide +kernel
theorem dX11_dinner_45 : decode cX11_dinner 45 = .ok (.aload_n 0, 1) := by decide +kernel
theorem dX11_dinner_46 : decode cX11_dinner 46 = .ok (.getfield 41, 3) := by decide +kernel
theorem dX11_dinner_49 : decode cX11_dinner 49 = .ok (.iload_n 3, 1) := by decide +kernel
theorem dX11_dinner_50 : decode cX11_dinner 50 = .ok (.iaload, 1) := by decide +kernel
theorem dX11_dinner_51 : decode cX11_dinner 51 = .ok (.iadd, 1) := by decide +kernel
theorem dX11_dinner_52 : decode cX11_dinner 52 = .ok (.iaload, 1) := by decide +kernel
theorem dX11_dinner_53 : decode cX11_dinner 53 = .ok (.bipush 99, 2) := by decide +kernel
theorem dX11_dinner_55 : decode cX11_dinner 55 = .ok (.if_icmp .ne 7, 3) := by decide +kernel
theorem dX11_dinner_58 : decode cX11_dinner 58 = .ok (.iconst 1, 1) := by decide +kernel
theorem dX11_dinner_59 : decode cX11_dinner 59 = .ok (.goto 4, 3) := by decide +kernel
theorem dX11_dinner_62 : decode cX11_dinner 62 = .ok (.iconst 0, 1) := by decide +kernel
theorem dX11_dinner_63 : decode cX11_dinner 63 = .ok (.istore_n 1, 1) := by decide +kernel
theorem dX11_dinner_64 : decode cX11_dinner 64 = .ok (.iinc 3 1, 3) := by decide +kernel
theorem dX11_dinner_67 : decode cX11_dinner 67 = .ok (.goto (-53), 3) := by decide +kernel
theorem dX11_dinner_70 : decode cX11_dinner 70 = .ok (.iinc 2 1, 3) := by decide +kernel
theorem dX11_dinner_73 : decode cX11_dinner 73 = .ok (.goto (-69), 3) := by decide +kernel
theorem dX11_dinner_76 : decode cX11_dinner 76 = .ok (.iload_n 1, 1) := by decide +kernel
theorem dX11_dinner_77 : decode cX11_dinner 77 = .ok (.ifCond .eq 6, 3) := by decide +kernel
theorem dX11_dinner_80 : decode cX11_dinner 80 = .ok (.bipush (-4), 2) := by decide +kernel
theorem dX11_dinner_82 : decode cX11_dinner 82 = .ok (.ireturn, 1) := by decide +kernel
theorem dX11_dinner_83 : decode cX11_dinner 83 = .ok (.aload_n 0, 1) := by decide +kernel
theorem dX11_dinner_84 : decode cX11_dinner 84 = .ok (.invokevirtual 227, 3) := by decide +kernel
theorem dX11_dinner_87 : decode cX11_dinner 87 = .ok (.iconst 0, 1) := by decide +kernel
theorem dX11_dinner_88 : decode cX11_dinner 88 = .ok (.istore_n 2, 1) := by decide +kernel
theorem dX11_dinner_89 : decode cX11_dinner 89 = .ok (.iconst 0, 1) := by decide +kernel
theorem dX11_dinner_90 : decode cX11_dinner 90 = .ok (.istore_n 3, 1) := by decide +kernel
theorem dX11_dinner_91 : decode cX11_dinner 91 = .ok (.iload_n 3, 1) := by decide +kernel
theorem dX11_dinner_92 : decode cX11_dinner 92 = .ok (.aload_n 0, 1) := by decide +kernel
theorem dX11_dinner_93 : decode cX11_dinner 93 = .ok (.getfield 89, 3) := by decide +kernel
theorem dX11_dinner_96 : decode cX11_dinner 96 = .ok (.if_icmp .ge 119, 3) := by decide +kernel
theorem dX11_dinner_99 : decode cX11_dinner 99 = .ok (.iconst 0, 1) := by decide +kernel
theorem dX11_dinner_100 : decode cX11_dinner 100 = .ok (.istore 4, 2) := by decide +kernel
theorem dX11_dinner_102 : decode cX11_dinner 102 = .ok (.iload 4, 2) := by decide +kernel
theorem dX11_dinner_104 : decode cX11_dinner 104 = .ok (.iload_n 3, 1) := by decide +kernel
theorem dX11_dinner_105 : decode cX11_dinner 105 = .ok (.if_icmp .ge 104, 3) := by decide +kernel
theorem dX11_dinner_108 : decode cX11_dinner 108 = .ok (.aload_n 0, 1) := by decide +kernel
theorem dX11_dinner_109 : decode cX11_dinner 109 = .ok (.iload_n 3, 1) := by decide +kernel
theorem dX11_dinner_110 : decode cX11_dinner 110 = .ok (.iload 4, 2) := by decide +kernel
theorem dX11_dinner_112 : decode cX11_dinner 112 = .ok (.invokevirtual 172, 3) := by decide +kernel
theorem dX11_dinner_115 : decode cX11_dinner 115 = .ok (.ifCond .eq 88, 3) := by decide +kernel
theorem dX11_dinner_118 : decode cX11_dinner 118 = .ok (.iload_n 2, 1) := by decide +kernel
theorem dX11_dinner_119 : decode cX11_dinner 119 = .ok (.aload_n 0, 1) := by decide +kernel
theorem dX11_dinner_120 : decode cX11_dinner 120 = .ok (.getfield 44, 3) := by decide +kernel
theorem dX11_dinner_123 : decode cX11_dinner 123 = .ok (.bipush 7, 2) := by decide +kernel
theorem dX11_dinner_125 : decode cX11_dinner 125 = .ok (.aload_n 0, 1) := by decide +kernel
theorem dX11_dinner_126 : decode cX11_dinner 126 = .ok (.getfield 41, 3) := by decide +kernel
theorem dX11_dinner_129 : decode cX11_dinner 129 = .ok (.iload_n 3, 1) := by decide +kernel
theorem dX11_dinner_130 : decode cX11_dinner 130 = .ok (.iaload, 1) := by decide +kernel
theorem dX11_dinner_131 : decode cX11_dinner 131 = .ok (.imul, 1) := by decide +kernel
theorem dX11_dinner_132 : decode cX11_dinner 132 = .ok (.aload_n 0, 1) := by decide +kernel
theorem dX11_dinner_133 : decode cX11_dinner 133 = .ok (.getfield 41, 3) := by decide +kernel
theorem dX11_dinner_136 : decode cX11_dinner 136 = .ok (.iload 4, 2) := by decide +kernel
theorem dX11_dinner_138 : decode cX11_dinner 138 = .ok (.iaload, 1) := by decide +kernel
theorem dX11_dinner_139 : decode cX11_dinner 139 = .ok (.iadd, 1) := by decide +kernel
theorem dX11_dinner_140 : decode cX11_dinner 140 = .ok (.iaload, 1) := by decide +kernel
theorem dX11_dinner_141 : decode cX11_dinner 141 = .ok (.ifCond .le 7, 3) := by decide +kernel
theorem dX11_dinner_144 : decode cX11_dinner 144 = .ok (.iconst 1, 1) := by decide +kernel
theorem dX11_dinner_145 : decode cX11_dinner 145 = .ok (.goto 4, 3) := by decide +kernel
theorem dX11_dinner_148 : decode cX11_dinner 148 = .ok (.iconst 0, 1) := by decide +kernel
theorem dX11_dinner_149 : decode cX11_dinner 149 = .ok (.iadd, 1) := by decide +kernel
theorem dX11_dinner_150 : decode cX11_dinner 150 = .ok (.istore_n 2, 1) := by decide +kernel
theorem dX11_dinner_151 : decode cX11_dinner 151 = .ok (.aload_n 0, 1) := by decide +kernel
theorem dX11_dinner_152 : decode cX11_dinner 152 = .ok (.getfield 44, 3) := by decide +kernel
theorem dX11_dinner_155 : decode cX11_dinner 155 = .ok (.bipush 7, 2) := by decide +kernel
theorem dX11_dinner_157 : decode cX11_dinner 157 = .ok (.aload_n 0, 1) := by decide +kernel
theorem dX11_dinner_158 : decode cX11_dinner 158 = .ok (.getfield 41, 3) := by decide +kernel
theorem dX11_dinner_161 : decode cX11_dinner 161 = .ok (.iload_n 3, 1) := by decide +kernel
theorem dX11_dinner_162 : decode cX11_dinner 162 = .ok (.iaload, 1) := by decide +kernel
theorem dX11_dinner_163 : decode cX11_dinner 163 = .ok (.imul, 1) := by decide +kernel
theorem dX11_dinner_164 : decode cX11_dinner 164 = .ok (.aload_n 0, 1) := by decide +kernel
theorem dX11_dinner_165 : decode cX11_dinner 165 = .ok (.getfield 41, 3) := by decide +kernel
theorem dX11_dinner_168 : decode cX11_dinner 168 = .ok (.iload 4, 2) := by decide +kernel
theorem dX11_dinner_170 : decode cX11_dinner 170 = .ok (.iaload, 1) := by decide +kernel
theorem dX11_dinner_171 : decode cX11_dinner 171 = .ok (.iadd, 1) := by decide +kernel
theorem dX11_dinner_172 : decode cX11_dinner 172 = .ok (.dup2, 1) := by decide +kernel
theorem dX11_dinner_173 : decode cX11_dinner 173 = .ok (.iaload, 1) := by decide +kernel
theorem dX11_dinner_174 : decode cX11_dinner 174 = .ok (.iconst 1, 1) := by decide +kernel
theorem dX11_dinner_175 : decode cX11_dinner 175 = .ok (.iadd, 1) := by decide +kernel
theorem dX11_dinner_176 : decode cX11_dinner 176 = .ok (.iastore, 1) := by decide +kernel
theorem dX11_dinner_177 : decode cX11_dinner 177 = .ok (.aload_n 0, 1) := by decide +kernel
theorem dX11_dinner_178 : decode cX11_dinner 178 = .ok (.getfield 44, 3) := by decide +kernel
theorem dX11_dinner_181 : decode cX11_dinner 181 = .ok (.bipush 7, 2) := by decide +kernel
theorem dX11_dinner_183 : decode cX11_dinner 183 = .ok (.aload_n 0, 1) := by decide +kernel
theorem dX11_dinner_184 : decode cX11_dinner 184 = .ok (.getfield 41, 3) := by decide +kernel
theorem dX11_dinner_187 : decode cX11_dinner 187 = .ok (.iload 4, 2) := by decide +kernel
theorem dX11_dinner_189 : decode cX11_dinner 189 = .ok (.iaload, 1) := by decide +kernel
theorem dX11_dinner_190 : decode cX11_dinner 190 = .ok (.imul, 1) := by decide +kernel
theorem dX11_dinner_191 : decode cX11_dinner 191 = .ok (.aload_n 0, 1) := by decide +kernel
theorem dX11_dinner_192 : decode cX11_dinner 192 = .ok (.getfield 41, 3) := by decide +kernel
theorem dX11_dinner_195 : decode cX11_dinner 195 = .ok (.iload_n 3, 1) := by decide +kernel
theorem dX11_dinner_196 : decode cX11_dinner 196 = .ok (.iaload, 1) := by decide +kernel
theorem dX11_dinner_197 : decode cX11_dinner 197 = .ok (.iadd, 1) := by decide +kernel
theorem dX11_dinner_198 : decode cX11_dinner 198 = .ok (.dup2, 1) := by decide +kernel
theorem dX11_dinner_199 : decode cX11_dinner 199 = .ok (.iaload, 1) := by decide +kernel
theorem dX11_dinner_200 : decode cX11_dinner 200 = .ok (.iconst 1, 1) := by decide +kernel
theorem dX11_dinner_201 : decode cX11_dinner 201 = .ok (.iadd, 1) := by decide +kernel
theorem dX11_dinner_202 : decode cX11_dinner 202 = .ok (.iastore, 1) := by decide +kernel
theorem dX11_dinner_203 : decode cX11_dinner 203 = .ok (.iinc 4 1, 3) := by decide +kernel
theorem dX11_dinner_206 : decode cX11_dinner 206 = .ok (.goto (-104), 3) := by decide +kernel
theorem dX11_dinner_209 : decode cX11_dinner 209 = .ok (.iinc 3 1, 3) := by decide +kernel
theorem dX11_dinner_212 : decode cX11_dinner 212 = .ok (.goto (-121), 3) := by decide +kernel
theorem dX11_dinner_215 : decode cX11_dinner 215 = .ok (.iload_n 2, 1) := by decide +kernel
theorem dX11_dinner_216 : decode cX11_dinner 216 = .ok (.ireturn, 1) := by decide +kernel
theorem dX11_undo_0 : decode cX11_undo 0 = .ok (.aload_n 0, 1) := by decide +kernel
theorem dX11_undo_1 : decode cX11_undo 1 = .ok (.getfield 169, 3) := by decide +kernel
theorem dX11_undo_4 : decode cX11_undo 4 = .ok (.ifCond .ne 6, 3) := by decide +kernel
theorem dX11_undo_7 : decode cX11_undo 7 = .ok (.bipush (-3), 2) := by decide +kernel
theorem dX11_undo_9 : decode cX11_undo 9 = .ok (.ireturn, 1) := by decide +kernel
theorem dX11_undo_10 : decode cX11_undo 10 = .ok (.aload_n 0, 1) := by decide +kernel
theorem dX11_undo_11 : decode cX11_undo 11 = .ok (.dup, 1) := by decide +kernel
theorem dX11_undo_12 : decode cX11_undo 12 = .ok (.getfield 169, 3) := by decide +kernel
theorem dX11_undo_15 : decode cX11_undo 15 = .ok (.iconst 1, 1) := by decide +kernel
theorem dX11_undo_16 : decode cX11_undo 16 = .ok (.isub, 1) := by decide +kernel
theorem dX11_undo_17 : decode cX11_undo 17 = .ok (.putfield 169, 3) := by decide +kernel
theorem dX11_undo_20 : decode cX11_undo 20 = .ok (.aload_n 0, 1) := by decide +kernel
theorem dX11_undo_21 : decode cX11_undo 21 = .ok (.aload_n 0, 1) := by decide +kernel
theorem dX11_undo_22 : decode cX11_undo 22 = .ok (.getfield 224, 3) := by decide +kernel
theorem dX11_undo_25 : decode cX11_undo 25 = .ok (.bipush 15, 2) := by decide +kernel
theorem dX11_undo_27 : decode cX11_undo 27 = .ok (.iadd, 1) := by decide +kernel
theorem dX11_undo_28 : decode cX11_undo 28 = .ok (.bipush 16, 2) := by decide +kernel
theorem dX11_undo_30 : decode cX11_undo 30 = .ok (.irem, 1) := by decide +kernel
theorem dX11_undo_31 : decode cX11_undo 31 = .ok (.putfield 224, 3) := by decide +kernel
theorem dX11_undo_34 : decode cX11_undo 34 = .ok (.iconst 0, 1) := by decide +kernel
theorem dX11_undo_35 : decode cX11_undo 35 = .ok (.istore_n 1, 1) := by decide +kernel
theorem dX11_undo_36 : decode cX11_undo 36 = .ok (.iload_n 1, 1) := by decide +kernel
theorem dX11_undo_37 : decode cX11_undo 37 = .ok (.bipush 7, 2) := by decide +kernel
theorem dX11_undo_39 : decode cX11_undo 39 = .ok (.if_icmp .ge 29, 3) := by decide +kernel
theorem dX11_undo_42 : decode cX11_undo 42 = .ok (.aload_n 0, 1) := by decide +kernel
theorem dX11_undo_43 : decode cX11_undo 43 = .ok (.getfield 41, 3) := by decide +kernel
theorem dX11_undo_46 : decode cX11_undo 46 = .ok (.iload_n 1, 1) := by decide +kernel
theorem dX11_undo_47 : decode cX11_undo 47 = .ok (.aload_n 0, 1) := by decide +kernel
theorem dX11_undo_48 : decode cX11_undo 48 = .ok (.getfield 53, 3) := by decide +kernel
theorem dX11_undo_51 : decode cX11_undo 51 = .ok (.bipush 56, 2) := by decide +kernel
theorem dX11_undo_53 : decode cX11_undo 53 = .ok (.aload_n 0, 1) := by decide +kernel
theorem dX11_undo_54 : decode cX11_undo 54 = .ok (.getfield 224, 3) := by decide +kernel
theorem dX11_undo_57 : decode cX11_undo 57 = .ok (.imul, 1) := by decide +kernel
theorem dX11_undo_58 : decode cX11_undo 58 = .ok (.iload_n 1, 1) := by decide +kernel
theorem dX11_undo_59 : decode cX11_undo 59 = .ok (.iadd, 1) := by decide +kernel
theorem dX11_undo_60 : decode cX11_undo 60 = .ok (.iaload, 1) := by decide +kernel
theorem dX11_undo_61 : decode cX11_undo 61 = .ok (.iastore, 1) := by decide +kernel
theorem dX11_undo_62 : decode cX11_undo 62 = .ok (.iinc 1 1, 3) := by decide +kernel
theorem dX11_undo_65 : decode cX11_undo 65 = .ok (.goto (-29), 3) := by decide +kernel
theorem dX11_undo_68 : decode cX11_undo 68 = .ok (.iconst 0, 1) := by decide +kernel
theorem dX11_undo_69 : decode cX11_undo 69 = .ok (.istore_n 1, 1) := by decide +kernel
theorem dX11_undo_70 : decode cX11_undo 70 = .ok (.iload_n 1, 1) := by decide +kernel
theorem dX11_undo_71 : decode cX11_undo 71 = .ok (.bipush 49, 2) := by decide +kernel
theorem dX11_undo_73 : decode cX11_undo 73 = .ok (.if_icmp .ge 32, 3) := by decide +kernel
theorem dX11_undo_76 : decode cX11_undo 76 = .ok (.aload_n 0, 1) := by decide +kernel
theorem dX11_undo_77 : decode cX11_undo 77 = .ok (.getfield 44, 3) := by decide +kernel
theorem dX11_undo_80 : decode cX11_undo 80 = .ok (.iload_n 1, 1) := by decide +kernel
theorem dX11_undo_81 : decode cX11_undo 81 = .ok (.aload_n 0, 1) := by decide +kernel
theorem dX11_undo_82 : decode cX11_undo 82 = .ok (.getfield 53, 3) := by decide +kernel
theorem dX11_undo_85 : decode cX11_undo 85 = .ok (.bipush 56, 2) := by decide +kernel
theorem dX11_undo_87 : decode cX11_undo 87 = .ok (.aload_n 0, 1) := by decide +kernel
theorem dX11_undo_88 : decode cX11_undo 88 = .ok (.getfield 224, 3) := by decide +kernel
theorem dX11_undo_91 : decode cX11_undo 91 = .ok (.imul, 1) := by decide +kernel
theorem dX11_undo_92 : decode cX11_undo 92 = .ok (.bipush 7, 2) := by decide +kernel
theorem dX11_undo_94 : decode cX11_undo 94 = .ok (.iadd, 1) := by decide +kernel
theorem dX11_undo_95 : decode cX11_undo 95 = .ok (.iload_n 1, 1) := by decide +kernel
theorem dX11_undo_96 : decode cX11_undo 96 = .ok (.iadd, 1) := by decide +kernel
theorem dX11_undo_97 : decode cX11_undo 97 = .ok (.iaload, 1) := by decide +kernel
theorem dX11_undo_98 : decode cX11_undo 98 = .ok (.iastore, 1) := by decide +kernel
theorem dX11_undo_99 : decode cX11_undo 99 = .ok (.iinc 1 1, 3) := by decide +kernel
theorem dX11_undo_102 : decode cX11_undo 102 = .ok (.goto (-32), 3) := by decide +kernel
theorem dX11_undo_105 : decode cX11_undo 105 = .ok (.aload_n 0, 1) := by decide +kernel
theorem dX11_undo_106 : decode cX11_undo 106 = .ok (.getfield 169, 3) := by decide +kernel
theorem dX11_undo_109 : decode cX11_undo 109 = .ok (.ireturn, 1) := by decide +kernel
set_option maxRecDepth 20000 in
theorem ggX11_good_X11_men : GoodIn wsX11_good wsX11_men := goodIn_r _ [6, 7, 8, 41, 42, 43, 44, 45, 46, 47, 48, 49, 50, 51, 52, 53, 54, 55, 56, 57, 58, 59, 60, 61, 62, 63, 64, 65, 66, 67, 68, 69, 70, 71, 72, 73, 74, 75, 76, 77, 78, 79, 80, 81, 82] (by decide +kernel) (by decide +kernel)
set_option maxRecDepth 20000 in
theorem gX11_good_X11_men : GoodIn wsX11_good (wsV RX11 244 RX11 yX11_men wsX11_men) := goodIn_app (goodIn_of _ (by decide +kernel)) ggX11_good_X11_men
set_option maxRecDepth 20000 in
theorem ggX11_good_X11_layCourse : GoodIn wsX11_good wsX11_layCourse := goodIn_r _ [12, 7, 1, 13, 8, 14, 41, 42, 43, 44, 45, 46, 47, 48, 49, 50, 51, 52, 53, 54, 55, 56, 57, 58, 59, 60, 61, 62, 63, 64, 65, 66, 67, 68, 69, 70, 71, 72, 73, 74, 75, 76, 77, 78, 79, 80, 81, 82] (by decide +kernel) (by decide +kernel)
set_option maxRecDepth 20000 in
theorem gX11_good_X11_layCourse : GoodIn wsX11_good (wsV RX11 241 RX11 yX11_layCourse wsX11_layCourse) := goodIn_app (goodIn_of _ (by decide +kernel)) ggX11_good_X11_layCourse
set_option maxRecDepth 20000 in
theorem ggX11_good_X11_isLawful : GoodIn wsX11_good wsX11_isLawful := goodIn_r _ [18, 19, 20, 21, 5, 22, 7, 23, 24, 25, 26, 27, 28, 29, 30, 31, 32, 33, 34, 35, 36, 37, 38, 39, 40, 8, 41, 42, 43, 44, 45, 46, 47, 48, 49, 50, 51, 52, 53, 54, 55, 56, 57, 58, 59, 60, 61, 62, 63, 64, 65, 66, 67, 68, 69, 70, 71, 72, 73, 74, 75, 76, 77, 78, 79, 80, 81, 82] (by decide +kernel) (by decide +kernel)
set_option maxRecDepth 20000 in
theorem gX11_good_X11_isLawful : GoodIn wsX11_good (wsV RX11 200 RX11 yX11_isLawful wsX11_isLawful) := goodIn_app (goodIn_of _ (by decide +kernel)) ggX11_good_X11_isLawful
theorem dX11_good_0 : decode cX11_good 0 = .ok (.iconst 0, 1) := by decide +kernel
theorem dX11_good_1 : decode cX11_good 1 = .ok (.istore_n 1, 1) := by decide +kernel
theorem dX11_good_2 : decode cX11_good 2 = .ok (.iconst 1, 1) := by decide +kernel
theorem dX11_good_3 : decode cX11_good 3 = .ok (.istore_n 2, 1) := by decide +kernel
theorem dX11_good_4 : decode cX11_good 4 = .ok (.iload_n 2, 1) := by decide +kernel
theorem dX11_good_5 : decode cX11_good 5 = .ok (.aload_n 0, 1) := by decide +kernel
theorem dX11_good_6 : decode cX11_good 6 = .ok (.invokevirtual 244, 3) := by decide +kernel
theorem dX11_good_9 : decode cX11_good 9 = .ok (.if_icmp .ge 33, 3) := by decide +kernel
theorem dX11_good_12 : decode cX11_good 12 = .ok (.aload_n 0, 1) := by decide +kernel
theorem dX11_good_13 : decode cX11_good 13 = .ok (.iload_n 2, 1) := by decide +kernel
theorem dX11_good_14 : decode cX11_good 14 = .ok (.invokevirtual 241, 3) := by decide +kernel
theorem dX11_good_17 : decode cX11_good 17 = .ok (.iload_n 1, 1) := by decide +kernel
theorem dX11_good_18 : decode cX11_good 18 = .ok (.aload_n 0, 1) := by decide +kernel
theorem dX11_good_19 : decode cX11_good 19 = .ok (.aload_n 0, 1) := by decide +kernel
theorem dX11_good_20 : decode cX11_good 20 = .ok (.getfield 50, 3) := by decide +kernel
theorem dX11_good_23 : decode cX11_good 23 = .ok (.invokevirtual 200, 3) := by decide +kernel
theorem dX11_good_26 : decode cX11_good 26 = .ok (.ifCond .eq 7, 3) := by decide +kernel
theorem dX11_good_29 : decode cX11_good 29 = .ok (.iconst 1, 1) := by decide +kernel
theorem dX11_good_30 : decode cX11_good 30 = .ok (.goto 4, 3) := by decide +kernel
theorem dX11_good_33 : decode cX11_good 33 = .ok (.iconst 0, 1) := by decide +kernel
theorem dX11_good_34 : decode cX11_good 34 = .ok (.iadd, 1) := by decide +kernel
theorem dX11_good_35 : decode cX11_good 35 = .ok (.istore_n 1, 1) := by decide +kernel
theorem dX11_good_36 : decode cX11_good 36 = .ok (.iinc 2 1, 3) := by decide +kernel
theorem dX11_good_39 : decode cX11_good 39 = .ok (.goto (-35), 3) := by decide +kernel
theorem dX11_good_42 : decode cX11_good 42 = .ok (.iload_n 1, 1) := by decide +kernel
theorem dX11_good_43 : decode cX11_good 43 = .ok (.ireturn, 1) := by decide +kernel
set_option maxRecDepth 20000 in
theorem ggX11_dinedIn_X11_areNext : GoodIn wsX11_dinedIn wsX11_areNext := goodIn_r _ [7, 8, 1, 9, 10, 11, 12, 13, 14, 15, 16, 17, 18, 19, 20, 21, 22, 23, 24, 25, 26, 27, 28, 29, 30, 31, 32, 33, 34, 35, 36, 37, 38, 39, 40, 41, 42, 43, 44, 45, 46, 47, 48, 49, 50] (by decide +kernel) (by decide +kernel)
set_option maxRecDepth 20000 in
theorem gX11_dinedIn_X11_areNext : GoodIn wsX11_dinedIn (wsV RX11 172 RX11 yX11_areNext wsX11_areNext) := goodIn_app (goodIn_of _ (by decide +kernel)) ggX11_dinedIn_X11_areNext
theorem dX11_dinedIn_0 : decode cX11_dinedIn 0 = .ok (.iconst 0, 1) := by decide +kernel
theorem dX11_dinedIn_1 : decode cX11_dinedIn 1 = .ok (.istore_n 2, 1) := by decide +kernel
theorem dX11_dinedIn_2 : decode cX11_dinedIn 2 = .ok (.iconst 0, 1) := by decide +kernel
theorem dX11_dinedIn_3 : decode cX11_dinedIn 3 = .ok (.istore_n 3, 1) := by decide +kernel
theorem dX11_dinedIn_4 : decode cX11_dinedIn 4 = .ok (.iload_n 3, 1) := by decide +kernel
theorem dX11_dinedIn_5 : decode cX11_dinedIn 5 = .ok (.aload_n 0, 1) := by decide +kernel
theorem dX11_dinedIn_6 : decode cX11_dinedIn 6 = .ok (.getfield 89, 3) := by decide +kernel
theorem dX11_dinedIn_9 : decode cX11_dinedIn 9 = .ok (.if_icmp .ge 57, 3) := by decide +kernel
theorem dX11_dinedIn_12 : decode cX11_dinedIn 12 = .ok (.iconst 0, 1) := by decide +kernel
theorem dX11_dinedIn_13 : decode cX11_dinedIn 13 = .ok (.istore 4, 2) := by decide +kernel
theorem dX11_dinedIn_15 : decode cX11_dinedIn 15 = .ok (.iload 4, 2) := by decide +kernel
theorem dX11_dinedIn_17 : decode cX11_dinedIn 17 = .ok (.iload_n 3, 1) := by decide +kernel
theorem dX11_dinedIn_18 : decode cX11_dinedIn 18 = .ok (.if_icmp .ge 42, 3) := by decide +kernel
theorem dX11_dinedIn_21 : decode cX11_dinedIn 21 = .ok (.iload_n 2, 1) := by decide +kernel
theorem dX11_dinedIn_22 : decode cX11_dinedIn 22 = .ok (.aload_n 0, 1) := by decide +kernel
theorem dX11_dinedIn_23 : decode cX11_dinedIn 23 = .ok (.iload_n 3, 1) := by decide +kernel
theorem dX11_dinedIn_24 : decode cX11_dinedIn 24 = .ok (.iload 4, 2) := by decide +kernel
theorem dX11_dinedIn_26 : decode cX11_dinedIn 26 = .ok (.invokevirtual 172, 3) := by decide +kernel
theorem dX11_dinedIn_29 : decode cX11_dinedIn 29 = .ok (.ifCond .eq 22, 3) := by decide +kernel
theorem dX11_dinedIn_32 : decode cX11_dinedIn 32 = .ok (.aload_n 0, 1) := by decide +kernel
theorem dX11_dinedIn_33 : decode cX11_dinedIn 33 = .ok (.getfield 44, 3) := by decide +kernel
theorem dX11_dinedIn_36 : decode cX11_dinedIn 36 = .ok (.bipush 7, 2) := by decide +kernel
theorem dX11_dinedIn_38 : decode cX11_dinedIn 38 = .ok (.aload_n 1, 1) := by decide +kernel
theorem dX11_dinedIn_39 : decode cX11_dinedIn 39 = .ok (.iload_n 3, 1) := by decide +kernel
theorem dX11_dinedIn_40 : decode cX11_dinedIn 40 = .ok (.iaload, 1) := by decide +kernel
theorem dX11_dinedIn_41 : decode cX11_dinedIn 41 = .ok (.imul, 1) := by decide +kernel
theorem dX11_dinedIn_42 : decode cX11_dinedIn 42 = .ok (.aload_n 1, 1) := by decide +kernel
theorem dX11_dinedIn_43 : decode cX11_dinedIn 43 = .ok (.iload 4, 2) := by decide +kernel
theorem dX11_dinedIn_45 : decode cX11_dinedIn 45 = .ok (.iaload, 1) := by decide +kernel
theorem dX11_dinedIn_46 : decode cX11_dinedIn 46 = .ok (.iadd, 1) := by decide +kernel
theorem dX11_dinedIn_47 : decode cX11_dinedIn 47 = .ok (.iaload, 1) := by decide +kernel
theorem dX11_dinedIn_48 : decode cX11_dinedIn 48 = .ok (.goto 4, 3) := by decide +kernel
theorem dX11_dinedIn_51 : decode cX11_dinedIn 51 = .ok (.iconst 0, 1) := by decide +kernel
theorem dX11_dinedIn_52 : decode cX11_dinedIn 52 = .ok (.iadd, 1) := by decide +kernel
theorem dX11_dinedIn_53 : decode cX11_dinedIn 53 = .ok (.istore_n 2, 1) := by decide +kernel
theorem dX11_dinedIn_54 : decode cX11_dinedIn 54 = .ok (.iinc 4 1, 3) := by decide +kernel
theorem dX11_dinedIn_57 : decode cX11_dinedIn 57 = .ok (.goto (-42), 3) := by decide +kernel
theorem dX11_dinedIn_60 : decode cX11_dinedIn 60 = .ok (.iinc 3 1, 3) := by decide +kernel
theorem dX11_dinedIn_63 : decode cX11_dinedIn 63 = .ok (.goto (-59), 3) := by decide +kernel
theorem dX11_dinedIn_66 : decode cX11_dinedIn 66 = .ok (.iload_n 2, 1) := by decide +kernel
theorem dX11_dinedIn_67 : decode cX11_dinedIn 67 = .ok (.ireturn, 1) := by decide +kernel
set_option maxRecDepth 20000 in
theorem ggX11_layBest_X11_begin : GoodIn wsX11_layBest wsX11_begin := goodIn_r _ [8, 1, 55, 56, 57, 58, 59, 60, 61, 62, 63, 64, 65, 66, 67, 68, 69, 70, 71, 72, 73, 74, 75, 76, 77, 78, 79, 80, 81, 82, 83, 84, 85, 86, 87, 88, 89, 90, 91, 92, 93, 94, 95, 96] (by decide +kernel) (by decide +kernel)
set_option maxRecDepth 20000 in
theorem gX11_layBest_X11_begin : GoodIn wsX11_layBest (wsV RX11 197 RX11 yX11_begin wsX11_begin) := goodIn_app (goodIn_of _ (by decide +kernel)) ggX11_layBest_X11_begin
set_option maxRecDepth 20000 in
theorem ggX11_layBest_X11_isLawful : GoodIn wsX11_layBest wsX11_isLawful := goodIn_r _ [12, 13, 14, 15, 7, 16, 17, 18, 19, 20, 21, 22, 23, 24, 25, 26, 27, 28, 29, 30, 31, 32, 33, 34, 35, 36, 55, 56, 57, 58, 59, 60, 61, 62, 63, 64, 65, 66, 67, 68, 69, 70, 71, 72, 73, 74, 75, 76, 77, 78, 79, 80, 81, 82, 83, 84, 85, 86, 87, 88, 89, 90, 91, 92, 93, 94, 95, 96] (by decide +kernel) (by decide +kernel)
set_option maxRecDepth 20000 in
theorem gX11_layBest_X11_isLawful : GoodIn wsX11_layBest (wsV RX11 200 RX11 yX11_isLawful wsX11_isLawful) := goodIn_app (goodIn_of _ (by decide +kernel)) ggX11_layBest_X11_isLawful
set_option maxRecDepth 20000 in
theorem ggX11_layBest_X11_dinedIn : GoodIn wsX11_layBest wsX11_dinedIn := goodIn_r _ [40, 17, 41, 23, 24, 25, 7, 26, 27, 55, 56, 57, 58, 59, 60, 61, 62, 63, 64, 65, 66, 67, 68, 69, 70, 71, 72, 73, 74, 75, 76, 77, 78, 79, 80, 81, 82, 83, 84, 85, 86, 87, 88, 89, 90, 91, 92, 93, 94, 95, 96] (by decide +kernel) (by decide +kernel)
set_option maxRecDepth 20000 in
theorem gX11_layBest_X11_dinedIn : GoodIn wsX11_layBest (wsV RX11 247 RX11 yX11_dinedIn wsX11_dinedIn) := goodIn_app (goodIn_of _ (by decide +kernel)) ggX11_layBest_X11_dinedIn
set_option maxRecDepth 20000 in
theorem ggX11_layBest_X11_worthIn : GoodIn wsX11_layBest wsX11_worthIn := goodIn_r _ [45, 17, 46, 47, 48, 7, 49, 50, 23, 24, 25, 26, 27, 55, 56, 57, 58, 59, 60, 61, 62, 63, 64, 65, 66, 67, 68, 69, 70, 71, 72, 73, 74, 75, 76, 77, 78, 79, 80, 81, 82, 83, 84, 85, 86, 87, 88, 89, 90, 91, 92, 93, 94, 95, 96] (by decide +kernel) (by decide +kernel)
set_option maxRecDepth 20000 in
theorem gX11_layBest_X11_worthIn : GoodIn wsX11_layBest (wsV RX11 250 RX11 yX11_worthIn wsX11_worthIn) := goodIn_app (goodIn_of _ (by decide +kernel)) ggX11_layBest_X11_worthIn
set_option maxRecDepth 20000 in
theorem ggX11_layBest_X11_goOn : GoodIn wsX11_layBest wsX11_goOn := goodIn_r _ [54, 17, 1, 55, 56, 57, 58, 59, 60, 61, 62, 63, 64, 65, 66, 67, 68, 69, 70, 71, 72, 73, 74, 75, 76, 77, 78, 79, 80, 81, 82, 83, 84, 85, 86, 87, 88, 89, 90, 91, 92, 93, 94, 95, 96] (by decide +kernel) (by decide +kernel)
set_option maxRecDepth 20000 in
theorem gX11_layBest_X11_goOn : GoodIn wsX11_layBest (wsV RX11 204 RX11 yX11_goOn wsX11_goOn) := goodIn_app (goodIn_of _ (by decide +kernel)) ggX11_layBest_X11_goOn
theorem dX11_layBest_0 : decode cX11_layBest 0 = .ok (.iconst 0, 1) := by decide +kernel
theorem dX11_layBest_1 : decode cX11_layBest 1 = .ok (.istore_n 2, 1) := by decide +kernel
theorem dX11_layBest_2 : decode cX11_layBest 2 = .ok (.iconst 1, 1) := by decide +kernel
theorem dX11_layBest_3 : decode cX11_layBest 3 = .ok (.istore_n 3, 1) := by decide +kernel
theorem dX11_layBest_4 : decode cX11_layBest 4 = .ok (.aload_n 0, 1) := by decide +kernel
theorem dX11_layBest_5 : decode cX11_layBest 5 = .ok (.invokevirtual 197, 3) := by decide +kernel
theorem dX11_layBest_8 : decode cX11_layBest 8 = .ok (.iload_n 3, 1) := by decide +kernel
theorem dX11_layBest_9 : decode cX11_layBest 9 = .ok (.ifCond .eq 123, 3) := by decide +kernel
theorem dX11_layBest_12 : decode cX11_layBest 12 = .ok (.aload_n 0, 1) := by decide +kernel
theorem dX11_layBest_13 : decode cX11_layBest 13 = .ok (.aload_n 0, 1) := by decide +kernel
theorem dX11_layBest_14 : decode cX11_layBest 14 = .ok (.getfield 50, 3) := by decide +kernel
theorem dX11_layBest_17 : decode cX11_layBest 17 = .ok (.invokevirtual 200, 3) := by decide +kernel
theorem dX11_layBest_20 : decode cX11_layBest 20 = .ok (.ifCond .eq 104, 3) := by decide +kernel
theorem dX11_layBest_23 : decode cX11_layBest 23 = .ok (.iload_n 1, 1) := by decide +kernel
theorem dX11_layBest_24 : decode cX11_layBest 24 = .ok (.ifCond .eq 15, 3) := by decide +kernel
theorem dX11_layBest_27 : decode cX11_layBest 27 = .ok (.aload_n 0, 1) := by decide +kernel
theorem dX11_layBest_28 : decode cX11_layBest 28 = .ok (.aload_n 0, 1) := by decide +kernel
theorem dX11_layBest_29 : decode cX11_layBest 29 = .ok (.getfield 50, 3) := by decide +kernel
theorem dX11_layBest_32 : decode cX11_layBest 32 = .ok (.invokevirtual 247, 3) := by decide +kernel
theorem dX11_layBest_35 : decode cX11_layBest 35 = .ok (.ineg, 1) := by decide +kernel
theorem dX11_layBest_36 : decode cX11_layBest 36 = .ok (.goto 11, 3) := by decide +kernel
theorem dX11_layBest_39 : decode cX11_layBest 39 = .ok (.aload_n 0, 1) := by decide +kernel
theorem dX11_layBest_40 : decode cX11_layBest 40 = .ok (.aload_n 0, 1) := by decide +kernel
theorem dX11_layBest_41 : decode cX11_layBest 41 = .ok (.getfield 50, 3) := by decide +kernel
theorem dX11_layBest_44 : decode cX11_layBest 44 = .ok (.invokevirtual 250, 3) := by decide +kernel
theorem dX11_layBest_47 : decode cX11_layBest 47 = .ok (.istore 4, 2) := by decide +kernel
theorem dX11_layBest_49 : decode cX11_layBest 49 = .ok (.iload_n 2, 1) := by decide +kernel
theorem dX11_layBest_50 : decode cX11_layBest 50 = .ok (.ifCond .eq 12, 3) := by decide +kernel
theorem dX11_layBest_53 : decode cX11_layBest 53 = .ok (.iload 4, 2) := by decide +kernel
theorem dX11_layBest_55 : decode cX11_layBest 55 = .ok (.aload_n 0, 1) := by decide +kernel
theorem dX11_layBest_56 : decode cX11_layBest 56 = .ok (.getfield 253, 3) := by decide +kernel
theorem dX11_layBest_59 : decode cX11_layBest 59 = .ok (.if_icmp .le 7, 3) := by decide +kernel
theorem dX11_layBest_62 : decode cX11_layBest 62 = .ok (.iconst 1, 1) := by decide +kernel
theorem dX11_layBest_63 : decode cX11_layBest 63 = .ok (.goto 4, 3) := by decide +kernel
theorem dX11_layBest_66 : decode cX11_layBest 66 = .ok (.iconst 0, 1) := by decide +kernel
theorem dX11_layBest_67 : decode cX11_layBest 67 = .ok (.istore 5, 2) := by decide +kernel
theorem dX11_layBest_69 : decode cX11_layBest 69 = .ok (.aload_n 0, 1) := by decide +kernel
theorem dX11_layBest_70 : decode cX11_layBest 70 = .ok (.iload 5, 2) := by decide +kernel
theorem dX11_layBest_72 : decode cX11_layBest 72 = .ok (.ifCond .eq 8, 3) := by decide +kernel
theorem dX11_layBest_75 : decode cX11_layBest 75 = .ok (.iload 4, 2) := by decide +kernel
theorem dX11_layBest_77 : decode cX11_layBest 77 = .ok (.goto 7, 3) := by decide +kernel
theorem dX11_layBest_80 : decode cX11_layBest 80 = .ok (.aload_n 0, 1) := by decide +kernel
theorem dX11_layBest_81 : decode cX11_layBest 81 = .ok (.getfield 253, 3) := by decide +kernel
theorem dX11_layBest_84 : decode cX11_layBest 84 = .ok (.putfield 253, 3) := by decide +kernel
theorem dX11_layBest_87 : decode cX11_layBest 87 = .ok (.iconst 0, 1) := by decide +kernel
theorem dX11_layBest_88 : decode cX11_layBest 88 = .ok (.istore 6, 2) := by decide +kernel
theorem dX11_layBest_90 : decode cX11_layBest 90 = .ok (.iload 6, 2) := by decide +kernel
theorem dX11_layBest_92 : decode cX11_layBest 92 = .ok (.bipush 7, 2) := by decide +kernel
theorem dX11_layBest_94 : decode cX11_layBest 94 = .ok (.if_icmp .ge 28, 3) := by decide +kernel
theorem dX11_layBest_97 : decode cX11_layBest 97 = .ok (.iload 5, 2) := by decide +kernel
theorem dX11_layBest_99 : decode cX11_layBest 99 = .ok (.ifCond .eq 23, 3) := by decide +kernel
theorem dX11_layBest_102 : decode cX11_layBest 102 = .ok (.aload_n 0, 1) := by decide +kernel
theorem dX11_layBest_103 : decode cX11_layBest 103 = .ok (.getfield 59, 3) := by decide +kernel
theorem dX11_layBest_106 : decode cX11_layBest 106 = .ok (.iload 6, 2) := by decide +kernel
theorem dX11_layBest_108 : decode cX11_layBest 108 = .ok (.aload_n 0, 1) := by decide +kernel
theorem dX11_layBest_109 : decode cX11_layBest 109 = .ok (.getfield 50, 3) := by decide +kernel
theorem dX11_layBest_112 : decode cX11_layBest 112 = .ok (.iload 6, 2) := by decide +kernel
theorem dX11_layBest_114 : decode cX11_layBest 114 = .ok (.iaload, 1) := by decide +kernel
theorem dX11_layBest_115 : decode cX11_layBest 115 = .ok (.iastore, 1) := by decide +kernel
theorem dX11_layBest_116 : decode cX11_layBest 116 = .ok (.iinc 6 1, 3) := by decide +kernel
theorem dX11_layBest_119 : decode cX11_layBest 119 = .ok (.goto (-29), 3) := by decide +kernel
theorem dX11_layBest_122 : decode cX11_layBest 122 = .ok (.iconst 1, 1) := by decide +kernel
theorem dX11_layBest_123 : decode cX11_layBest 123 = .ok (.istore_n 2, 1) := by decide +kernel
theorem dX11_layBest_124 : decode cX11_layBest 124 = .ok (.aload_n 0, 1) := by decide +kernel
theorem dX11_layBest_125 : decode cX11_layBest 125 = .ok (.invokevirtual 204, 3) := by decide +kernel
theorem dX11_layBest_128 : decode cX11_layBest 128 = .ok (.istore_n 3, 1) := by decide +kernel
theorem dX11_layBest_129 : decode cX11_layBest 129 = .ok (.goto (-121), 3) := by decide +kernel
theorem dX11_layBest_132 : decode cX11_layBest 132 = .ok (.iload_n 2, 1) := by decide +kernel
theorem dX11_layBest_133 : decode cX11_layBest 133 = .ok (.ireturn, 1) := by decide +kernel
set_option maxRecDepth 20000 in
theorem ggX11_worthOf_X11_worthIn : GoodIn wsX11_worthOf wsX11_worthIn := goodIn_r _ [7, 8, 9, 10, 11, 6, 12, 13, 14, 15, 16, 17, 18, 60, 61, 62, 63, 64, 65, 66, 67, 68, 69, 70, 71, 72, 73, 74, 75, 76, 77, 78, 79, 80, 81, 82, 83, 84, 85, 86, 87, 88, 89, 90, 91, 92, 93, 94, 95, 96, 97, 98, 99, 100, 101] (by decide +kernel) (by decide +kernel)
set_option maxRecDepth 20000 in
theorem gX11_worthOf_X11_worthIn : GoodIn wsX11_worthOf (wsV RX11 250 RX11 yX11_worthIn wsX11_worthIn) := goodIn_app (goodIn_of _ (by decide +kernel)) ggX11_worthOf_X11_worthIn
set_option maxRecDepth 20000 in
theorem ggX11_worthOf_X11_layBest : GoodIn wsX11_worthOf wsX11_layBest := goodIn_r _ [22, 23, 2, 24, 25, 26, 27, 6, 28, 29, 30, 31, 32, 33, 34, 35, 36, 8, 37, 38, 39, 40, 41, 14, 15, 16, 17, 18, 42, 43, 44, 45, 46, 47, 48, 49, 50, 51, 52, 53, 54, 55, 3, 4, 5, 7, 9, 10, 11, 12, 13, 56, 57, 58, 59, 60, 61, 62, 63, 64, 65, 66, 67, 68, 69, 70, 71, 72, 73, 74, 75, 76, 77, 78, 79, 80, 81, 82, 83, 84, 85, 86, 87, 88, 89, 90, 91, 92, 93, 94, 95, 96, 97, 98, 99, 100, 101] (by decide +kernel) (by decide +kernel)
set_option maxRecDepth 20000 in
theorem gX11_worthOf_X11_layBest : GoodIn wsX11_worthOf (wsV RX11 256 RX11 yX11_layBest wsX11_layBest) := goodIn_app (goodIn_of _ (by decide +kernel)) ggX11_worthOf_X11_layBest
theorem dX11_worthOf_0 : decode cX11_worthOf 0 = .ok (.iload_n 1, 1) := by decide +kernel
theorem dX11_worthOf_1 : decode cX11_worthOf 1 = .ok (.ifCond .ne 12, 3) := by decide +kernel
theorem dX11_worthOf_4 : decode cX11_worthOf 4 = .ok (.aload_n 0, 1) := by decide +kernel
theorem dX11_worthOf_5 : decode cX11_worthOf 5 = .ok (.aload_n 0, 1) := by decide +kernel
theorem dX11_worthOf_6 : decode cX11_worthOf 6 = .ok (.getfield 41, 3) := by decide +kernel
theorem dX11_worthOf_9 : decode cX11_worthOf 9 = .ok (.invokevirtual 250, 3) := by decide +kernel
theorem dX11_worthOf_12 : decode cX11_worthOf 12 = .ok (.ireturn, 1) := by decide +kernel
theorem dX11_worthOf_13 : decode cX11_worthOf 13 = .ok (.aload_n 0, 1) := by decide +kernel
theorem dX11_worthOf_14 : decode cX11_worthOf 14 = .ok (.iconst 0, 1) := by decide +kernel
theorem dX11_worthOf_15 : decode cX11_worthOf 15 = .ok (.invokevirtual 256, 3) := by decide +kernel
theorem dX11_worthOf_18 : decode cX11_worthOf 18 = .ok (.ifCond .eq 10, 3) := by decide +kernel
theorem dX11_worthOf_21 : decode cX11_worthOf 21 = .ok (.aload_n 0, 1) := by decide +kernel
theorem dX11_worthOf_22 : decode cX11_worthOf 22 = .ok (.getfield 253, 3) := by decide +kernel
theorem dX11_worthOf_25 : decode cX11_worthOf 25 = .ok (.goto 5, 3) := by decide +kernel
theorem dX11_worthOf_28 : decode cX11_worthOf 28 = .ok (.bipush (-9), 2) := by decide +kernel
theorem dX11_worthOf_30 : decode cX11_worthOf 30 = .ok (.ireturn, 1) := by decide +kernel
set_option maxRecDepth 20000 in
theorem ggX11_bestAt_X11_isPerson : GoodIn wsX11_bestAt wsX11_isPerson := goodIn_r _ [6, 7, 8, 9, 5, 10, 66, 67, 68, 69, 70, 71, 72, 73, 74, 75, 76, 77, 78, 79, 80, 81, 82, 83, 84, 85, 86, 87, 88, 89, 90, 91, 92, 93, 94, 95, 96, 97, 98, 99, 100, 101, 102, 103, 104, 105, 106, 107] (by decide +kernel) (by decide +kernel)
set_option maxRecDepth 20000 in
theorem gX11_bestAt_X11_isPerson : GoodIn wsX11_bestAt (wsV RX11 190 RX11 yX11_isPerson wsX11_isPerson) := goodIn_app (goodIn_of _ (by decide +kernel)) ggX11_bestAt_X11_isPerson
set_option maxRecDepth 20000 in
theorem ggX11_bestAt_X11_layBest : GoodIn wsX11_bestAt wsX11_layBest := goodIn_r _ [14, 15, 16, 1, 17, 18, 19, 5, 20, 21, 22, 23, 24, 25, 26, 27, 28, 7, 29, 30, 31, 32, 33, 34, 35, 36, 37, 38, 39, 40, 41, 42, 43, 44, 45, 46, 47, 48, 49, 50, 51, 52, 53, 54, 55, 56, 57, 58, 59, 60, 61, 62, 63, 64, 65, 66, 67, 68, 69, 70, 71, 72, 73, 74, 75, 76, 77, 78, 79, 80, 81, 82, 83, 84, 85, 86, 87, 88, 89, 90, 91, 92, 93, 94, 95, 96, 97, 98, 99, 100, 101, 102, 103, 104, 105, 106, 107] (by decide +kernel) (by decide +kernel)
set_option maxRecDepth 20000 in
theorem gX11_bestAt_X11_layBest : GoodIn wsX11_bestAt (wsV RX11 256 RX11 yX11_layBest wsX11_layBest) := goodIn_app (goodIn_of _ (by decide +kernel)) ggX11_bestAt_X11_layBest
theorem dX11_bestAt_0 : decode cX11_bestAt 0 = .ok (.aload_n 0, 1) := by decide +kernel
theorem dX11_bestAt_1 : decode cX11_bestAt 1 = .ok (.iload_n 1, 1) := by decide +kernel
theorem dX11_bestAt_2 : decode cX11_bestAt 2 = .ok (.invokevirtual 190, 3) := by decide +kernel
theorem dX11_bestAt_5 : decode cX11_bestAt 5 = .ok (.ifCond .ne 5, 3) := by decide +kernel
theorem dX11_bestAt_8 : decode cX11_bestAt 8 = .ok (.iconst (-1), 1) := by decide +kernel
theorem dX11_bestAt_9 : decode cX11_bestAt 9 = .ok (.ireturn, 1) := by decide +kernel
theorem dX11_bestAt_10 : decode cX11_bestAt 10 = .ok (.aload_n 0, 1) := by decide +kernel
theorem dX11_bestAt_11 : decode cX11_bestAt 11 = .ok (.iconst 0, 1) := by decide +kernel
theorem dX11_bestAt_12 : decode cX11_bestAt 12 = .ok (.invokevirtual 256, 3) := by decide +kernel
theorem dX11_bestAt_15 : decode cX11_bestAt 15 = .ok (.ifCond .eq 12, 3) := by decide +kernel
theorem dX11_bestAt_18 : decode cX11_bestAt 18 = .ok (.aload_n 0, 1) := by decide +kernel
theorem dX11_bestAt_19 : decode cX11_bestAt 19 = .ok (.getfield 59, 3) := by decide +kernel
theorem dX11_bestAt_22 : decode cX11_bestAt 22 = .ok (.iload_n 1, 1) := by decide +kernel
theorem dX11_bestAt_23 : decode cX11_bestAt 23 = .ok (.iaload, 1) := by decide +kernel
theorem dX11_bestAt_24 : decode cX11_bestAt 24 = .ok (.goto 5, 3) := by decide +kernel
theorem dX11_bestAt_27 : decode cX11_bestAt 27 = .ok (.bipush (-9), 2) := by decide +kernel
theorem dX11_bestAt_29 : decode cX11_bestAt 29 = .ok (.ireturn, 1) := by decide +kernel
set_option maxRecDepth 20000 in
theorem ggX11_few_X11_layBest : GoodIn wsX11_few wsX11_layBest := goodIn_r _ [6, 7, 1, 8, 9, 10, 11, 5, 12, 13, 14, 15, 16, 17, 18, 19, 20, 21, 22, 23, 24, 25, 26, 27, 28, 29, 30, 31, 32, 33, 34, 35, 36, 37, 38, 39, 40, 41, 42, 43, 44, 45, 46, 47, 48, 49, 50, 51, 52, 53, 54, 55, 56, 57, 58, 59, 60, 61, 62, 63, 64, 65, 66, 67, 68, 69, 70, 71, 72, 73, 74, 75, 76, 77, 78, 79, 80, 81, 82, 83, 84, 85, 86, 87, 88, 89, 90, 91, 92, 93, 94, 95, 96, 97, 98, 99, 100] (by decide +kernel) (by decide +kernel)
set_option maxRecDepth 20000 in
theorem gX11_few_X11_layBest : GoodIn wsX11_few (wsV RX11 256 RX11 yX11_layBest wsX11_layBest) := goodIn_app (goodIn_of _ (by decide +kernel)) ggX11_few_X11_layBest
theorem dX11_few_0 : decode cX11_few 0 = .ok (.aload_n 0, 1) := by decide +kernel
theorem dX11_few_1 : decode cX11_few 1 = .ok (.iconst 1, 1) := by decide +kernel
theorem dX11_few_2 : decode cX11_few 2 = .ok (.invokevirtual 256, 3) := by decide +kernel
theorem dX11_few_5 : decode cX11_few 5 = .ok (.ifCond .eq 11, 3) := by decide +kernel
theorem dX11_few_8 : decode cX11_few 8 = .ok (.aload_n 0, 1) := by decide +kernel
theorem dX11_few_9 : decode cX11_few 9 = .ok (.getfield 253, 3) := by decide +kernel
theorem dX11_few_12 : decode cX11_few 12 = .ok (.ineg, 1) := by decide +kernel
theorem dX11_few_13 : decode cX11_few 13 = .ok (.goto 5, 3) := by decide +kernel
theorem dX11_few_16 : decode cX11_few 16 = .ok (.bipush (-9), 2) := by decide +kernel
theorem dX11_few_18 : decode cX11_few 18 = .ok (.ireturn, 1) := by decide +kernel
set_option maxRecDepth 20000 in
theorem ggX11_fewAt_X11_isPerson : GoodIn wsX11_fewAt wsX11_isPerson := goodIn_r _ [6, 7, 8, 9, 5, 10, 66, 67, 68, 69, 70, 71, 72, 73, 74, 75, 76, 77, 78, 79, 80, 81, 82, 83, 84, 85, 86, 87, 88, 89, 90, 91, 92, 93, 94, 95, 96, 97, 98, 99, 100, 101, 102, 103, 104, 105, 106, 107] (by decide +kernel) (by decide +kernel)
set_option maxRecDepth 20000 in
theorem gX11_fewAt_X11_isPerson : GoodIn wsX11_fewAt (wsV RX11 190 RX11 yX11_isPerson wsX11_isPerson) := goodIn_app (goodIn_of _ (by decide +kernel)) ggX11_fewAt_X11_isPerson
set_option maxRecDepth 20000 in
theorem ggX11_fewAt_X11_layBest : GoodIn wsX11_fewAt wsX11_layBest := goodIn_r _ [14, 15, 16, 1, 17, 18, 19, 5, 20, 21, 22, 23, 24, 25, 26, 27, 28, 7, 29, 30, 31, 32, 33, 34, 35, 36, 37, 38, 39, 40, 41, 42, 43, 44, 45, 46, 47, 48, 49, 50, 51, 52, 53, 54, 55, 56, 57, 58, 59, 60, 61, 62, 63, 64, 65, 66, 67, 68, 69, 70, 71, 72, 73, 74, 75, 76, 77, 78, 79, 80, 81, 82, 83, 84, 85, 86, 87, 88, 89, 90, 91, 92, 93, 94, 95, 96, 97, 98, 99, 100, 101, 102, 103, 104, 105, 106, 107] (by decide +kernel) (by decide +kernel)
set_option maxRecDepth 20000 in
theorem gX11_fewAt_X11_layBest : GoodIn wsX11_fewAt (wsV RX11 256 RX11 yX11_layBest wsX11_layBest) := goodIn_app (goodIn_of _ (by decide +kernel)) ggX11_fewAt_X11_layBest
theorem dX11_fewAt_0 : decode cX11_fewAt 0 = .ok (.aload_n 0, 1) := by decide +kernel
theorem dX11_fewAt_1 : decode cX11_fewAt 1 = .ok (.iload_n 1, 1) := by decide +kernel
theorem dX11_fewAt_2 : decode cX11_fewAt 2 = .ok (.invokevirtual 190, 3) := by decide +kernel
theorem dX11_fewAt_5 : decode cX11_fewAt 5 = .ok (.ifCond .ne 5, 3) := by decide +kernel
theorem dX11_fewAt_8 : decode cX11_fewAt 8 = .ok (.iconst (-1), 1) := by decide +kernel
theorem dX11_fewAt_9 : decode cX11_fewAt 9 = .ok (.ireturn, 1) := by decide +kernel
theorem dX11_fewAt_10 : decode cX11_fewAt 10 = .ok (.aload_n 0, 1) := by decide +kernel
theorem dX11_fewAt_11 : decode cX11_fewAt 11 = .ok (.iconst 1, 1) := by decide +kernel
theorem dX11_fewAt_12 : decode cX11_fewAt 12 = .ok (.invokevirtual 256, 3) := by decide +kernel
theorem dX11_fewAt_15 : decode cX11_fewAt 15 = .ok (.ifCond .eq 12, 3) := by decide +kernel
theorem dX11_fewAt_18 : decode cX11_fewAt 18 = .ok (.aload_n 0, 1) := by decide +kernel
theorem dX11_fewAt_19 : decode cX11_fewAt 19 = .ok (.getfield 59, 3) := by decide +kernel
theorem dX11_fewAt_22 : decode cX11_fewAt 22 = .ok (.iload_n 1, 1) := by decide +kernel
theorem dX11_fewAt_23 : decode cX11_fewAt 23 = .ok (.iaload, 1) := by decide +kernel
theorem dX11_fewAt_24 : decode cX11_fewAt 24 = .ok (.goto 5, 3) := by decide +kernel
theorem dX11_fewAt_27 : decode cX11_fewAt 27 = .ok (.bipush (-9), 2) := by decide +kernel
theorem dX11_fewAt_29 : decode cX11_fewAt 29 = .ok (.ireturn, 1) := by decide +kernel
theorem dX11_codeOf_0 : decode cX11_codeOf 0 = .ok (.iconst 0, 1) := by decide +kernel
theorem dX11_codeOf_1 : decode cX11_codeOf 1 = .ok (.istore_n 2, 1) := by decide +kernel
theorem dX11_codeOf_2 : decode cX11_codeOf 2 = .ok (.iconst 0, 1) := by decide +kernel
theorem dX11_codeOf_3 : decode cX11_codeOf 3 = .ok (.istore_n 3, 1) := by decide +kernel
theorem dX11_codeOf_4 : decode cX11_codeOf 4 = .ok (.iload_n 3, 1) := by decide +kernel
theorem dX11_codeOf_5 : decode cX11_codeOf 5 = .ok (.aload_n 0, 1) := by decide +kernel
theorem dX11_codeOf_6 : decode cX11_codeOf 6 = .ok (.getfield 89, 3) := by decide +kernel
theorem dX11_codeOf_9 : decode cX11_codeOf 9 = .ok (.if_icmp .ge 64, 3) := by decide +kernel
theorem dX11_codeOf_12 : decode cX11_codeOf 12 = .ok (.iconst 0, 1) := by decide +kernel
theorem dX11_codeOf_13 : decode cX11_codeOf 13 = .ok (.istore 4, 2) := by decide +kernel
theorem dX11_codeOf_15 : decode cX11_codeOf 15 = .ok (.iload_n 3, 1) := by decide +kernel
theorem dX11_codeOf_16 : decode cX11_codeOf 16 = .ok (.iconst 1, 1) := by decide +kernel
theorem dX11_codeOf_17 : decode cX11_codeOf 17 = .ok (.iadd, 1) := by decide +kernel
theorem dX11_codeOf_18 : decode cX11_codeOf 18 = .ok (.istore 5, 2) := by decide +kernel
theorem dX11_codeOf_20 : decode cX11_codeOf 20 = .ok (.iload 5, 2) := by decide +kernel
theorem dX11_codeOf_22 : decode cX11_codeOf 22 = .ok (.aload_n 0, 1) := by decide +kernel
theorem dX11_codeOf_23 : decode cX11_codeOf 23 = .ok (.getfield 89, 3) := by decide +kernel
theorem dX11_codeOf_26 : decode cX11_codeOf 26 = .ok (.if_icmp .ge 29, 3) := by decide +kernel
theorem dX11_codeOf_29 : decode cX11_codeOf 29 = .ok (.iload 4, 2) := by decide +kernel
theorem dX11_codeOf_31 : decode cX11_codeOf 31 = .ok (.aload_n 1, 1) := by decide +kernel
theorem dX11_codeOf_32 : decode cX11_codeOf 32 = .ok (.iload 5, 2) := by decide +kernel
theorem dX11_codeOf_34 : decode cX11_codeOf 34 = .ok (.iaload, 1) := by decide +kernel
theorem dX11_codeOf_35 : decode cX11_codeOf 35 = .ok (.aload_n 1, 1) := by decide +kernel
theorem dX11_codeOf_36 : decode cX11_codeOf 36 = .ok (.iload_n 3, 1) := by decide +kernel
theorem dX11_codeOf_37 : decode cX11_codeOf 37 = .ok (.iaload, 1) := by decide +kernel
theorem dX11_codeOf_38 : decode cX11_codeOf 38 = .ok (.if_icmp .ge 7, 3) := by decide +kernel
theorem dX11_codeOf_41 : decode cX11_codeOf 41 = .ok (.iconst 1, 1) := by decide +kernel
theorem dX11_codeOf_42 : decode cX11_codeOf 42 = .ok (.goto 4, 3) := by decide +kernel
theorem dX11_codeOf_45 : decode cX11_codeOf 45 = .ok (.iconst 0, 1) := by decide +kernel
theorem dX11_codeOf_46 : decode cX11_codeOf 46 = .ok (.iadd, 1) := by decide +kernel
theorem dX11_codeOf_47 : decode cX11_codeOf 47 = .ok (.istore 4, 2) := by decide +kernel
theorem dX11_codeOf_49 : decode cX11_codeOf 49 = .ok (.iinc 5 1, 3) := by decide +kernel
theorem dX11_codeOf_52 : decode cX11_codeOf 52 = .ok (.goto (-32), 3) := by decide +kernel
theorem dX11_codeOf_55 : decode cX11_codeOf 55 = .ok (.iload_n 2, 1) := by decide +kernel
theorem dX11_codeOf_56 : decode cX11_codeOf 56 = .ok (.aload_n 0, 1) := by decide +kernel
theorem dX11_codeOf_57 : decode cX11_codeOf 57 = .ok (.getfield 89, 3) := by decide +kernel
theorem dX11_codeOf_60 : decode cX11_codeOf 60 = .ok (.iload_n 3, 1) := by decide +kernel
theorem dX11_codeOf_61 : decode cX11_codeOf 61 = .ok (.isub, 1) := by decide +kernel
theorem dX11_codeOf_62 : decode cX11_codeOf 62 = .ok (.imul, 1) := by decide +kernel
theorem dX11_codeOf_63 : decode cX11_codeOf 63 = .ok (.iload 4, 2) := by decide +kernel
theorem dX11_codeOf_65 : decode cX11_codeOf 65 = .ok (.iadd, 1) := by decide +kernel
theorem dX11_codeOf_66 : decode cX11_codeOf 66 = .ok (.istore_n 2, 1) := by decide +kernel
theorem dX11_codeOf_67 : decode cX11_codeOf 67 = .ok (.iinc 3 1, 3) := by decide +kernel
theorem dX11_codeOf_70 : decode cX11_codeOf 70 = .ok (.goto (-66), 3) := by decide +kernel
theorem dX11_codeOf_73 : decode cX11_codeOf 73 = .ok (.iload_n 2, 1) := by decide +kernel
theorem dX11_codeOf_74 : decode cX11_codeOf 74 = .ok (.ireturn, 1) := by decide +kernel
theorem dX11_layCode_0 : decode cX11_layCode 0 = .ok (.iload_n 1, 1) := by decide +kernel
theorem dX11_layCode_1 : decode cX11_layCode 1 = .ok (.istore_n 2, 1) := by decide +kernel
theorem dX11_layCode_2 : decode cX11_layCode 2 = .ok (.aload_n 0, 1) := by decide +kernel
theorem dX11_layCode_3 : decode cX11_layCode 3 = .ok (.getfield 89, 3) := by decide +kernel
theorem dX11_layCode_6 : decode cX11_layCode 6 = .ok (.iconst 1, 1) := by decide +kernel
theorem dX11_layCode_7 : decode cX11_layCode 7 = .ok (.isub, 1) := by decide +kernel
theorem dX11_layCode_8 : decode cX11_layCode 8 = .ok (.istore_n 3, 1) := by decide +kernel
theorem dX11_layCode_9 : decode cX11_layCode 9 = .ok (.iload_n 3, 1) := by decide +kernel
theorem dX11_layCode_10 : decode cX11_layCode 10 = .ok (.ifCond .lt 32, 3) := by decide +kernel
theorem dX11_layCode_13 : decode cX11_layCode 13 = .ok (.aload_n 0, 1) := by decide +kernel
theorem dX11_layCode_14 : decode cX11_layCode 14 = .ok (.getfield 68, 3) := by decide +kernel
theorem dX11_layCode_17 : decode cX11_layCode 17 = .ok (.iload_n 3, 1) := by decide +kernel
theorem dX11_layCode_18 : decode cX11_layCode 18 = .ok (.iload_n 2, 1) := by decide +kernel
theorem dX11_layCode_19 : decode cX11_layCode 19 = .ok (.aload_n 0, 1) := by decide +kernel
theorem dX11_layCode_20 : decode cX11_layCode 20 = .ok (.getfield 89, 3) := by decide +kernel
theorem dX11_layCode_23 : decode cX11_layCode 23 = .ok (.iload_n 3, 1) := by decide +kernel
theorem dX11_layCode_24 : decode cX11_layCode 24 = .ok (.isub, 1) := by decide +kernel
theorem dX11_layCode_25 : decode cX11_layCode 25 = .ok (.irem, 1) := by decide +kernel
theorem dX11_layCode_26 : decode cX11_layCode 26 = .ok (.iastore, 1) := by decide +kernel
theorem dX11_layCode_27 : decode cX11_layCode 27 = .ok (.iload_n 2, 1) := by decide +kernel
theorem dX11_layCode_28 : decode cX11_layCode 28 = .ok (.aload_n 0, 1) := by decide +kernel
theorem dX11_layCode_29 : decode cX11_layCode 29 = .ok (.getfield 89, 3) := by decide +kernel
theorem dX11_layCode_32 : decode cX11_layCode 32 = .ok (.iload_n 3, 1) := by decide +kernel
theorem dX11_layCode_33 : decode cX11_layCode 33 = .ok (.isub, 1) := by decide +kernel
theorem dX11_layCode_34 : decode cX11_layCode 34 = .ok (.idiv, 1) := by decide +kernel
theorem dX11_layCode_35 : decode cX11_layCode 35 = .ok (.istore_n 2, 1) := by decide +kernel
theorem dX11_layCode_36 : decode cX11_layCode 36 = .ok (.iinc 3 (-1), 3) := by decide +kernel
theorem dX11_layCode_39 : decode cX11_layCode 39 = .ok (.goto (-30), 3) := by decide +kernel
theorem dX11_layCode_42 : decode cX11_layCode 42 = .ok (.iconst 0, 1) := by decide +kernel
theorem dX11_layCode_43 : decode cX11_layCode 43 = .ok (.istore_n 3, 1) := by decide +kernel
theorem dX11_layCode_44 : decode cX11_layCode 44 = .ok (.iconst 0, 1) := by decide +kernel
theorem dX11_layCode_45 : decode cX11_layCode 45 = .ok (.istore 4, 2) := by decide +kernel
theorem dX11_layCode_47 : decode cX11_layCode 47 = .ok (.iload 4, 2) := by decide +kernel
theorem dX11_layCode_49 : decode cX11_layCode 49 = .ok (.aload_n 0, 1) := by decide +kernel
theorem dX11_layCode_50 : decode cX11_layCode 50 = .ok (.getfield 89, 3) := by decide +kernel
theorem dX11_layCode_53 : decode cX11_layCode 53 = .ok (.if_icmp .ge 77, 3) := by decide +kernel
theorem dX11_layCode_56 : decode cX11_layCode 56 = .ok (.iconst 0, 1) := by decide +kernel
theorem dX11_layCode_57 : decode cX11_layCode 57 = .ok (.istore 5, 2) := by decide +kernel
theorem dX11_layCode_59 : decode cX11_layCode 59 = .ok (.aload_n 0, 1) := by decide +kernel
theorem dX11_layCode_60 : decode cX11_layCode 60 = .ok (.getfield 68, 3) := by decide +kernel
theorem dX11_layCode_63 : decode cX11_layCode 63 = .ok (.iload 4, 2) := by decide +kernel
theorem dX11_layCode_65 : decode cX11_layCode 65 = .ok (.iaload, 1) := by decide +kernel
theorem dX11_layCode_66 : decode cX11_layCode 66 = .ok (.istore 6, 2) := by decide +kernel
theorem dX11_layCode_68 : decode cX11_layCode 68 = .ok (.iload 6, 2) := by decide +kernel
theorem dX11_layCode_70 : decode cX11_layCode 70 = .ok (.ifCond .gt 13, 3) := by decide +kernel
theorem dX11_layCode_73 : decode cX11_layCode 73 = .ok (.iload_n 3, 1) := by decide +kernel
theorem dX11_layCode_74 : decode cX11_layCode 74 = .ok (.iload 5, 2) := by decide +kernel
theorem dX11_layCode_76 : decode cX11_layCode 76 = .ok (.ishr, 1) := by decide +kernel
theorem dX11_layCode_77 : decode cX11_layCode 77 = .ok (.iconst 1, 1) := by decide +kernel
theorem dX11_layCode_78 : decode cX11_layCode 78 = .ok (.iand, 1) := by decide +kernel
theorem dX11_layCode_79 : decode cX11_layCode 79 = .ok (.iconst 1, 1) := by decide +kernel
theorem dX11_layCode_80 : decode cX11_layCode 80 = .ok (.if_icmp .ne 28, 3) := by decide +kernel
theorem dX11_layCode_83 : decode cX11_layCode 83 = .ok (.iload 6, 2) := by decide +kernel
theorem dX11_layCode_85 : decode cX11_layCode 85 = .ok (.iload_n 3, 1) := by decide +kernel
theorem dX11_layCode_86 : decode cX11_layCode 86 = .ok (.iload 5, 2) := by decide +kernel
theorem dX11_layCode_88 : decode cX11_layCode 88 = .ok (.ishr, 1) := by decide +kernel
theorem dX11_layCode_89 : decode cX11_layCode 89 = .ok (.iconst 1, 1) := by decide +kernel
theorem dX11_layCode_90 : decode cX11_layCode 90 = .ok (.iand, 1) := by decide +kernel
theorem dX11_layCode_91 : decode cX11_layCode 91 = .ok (.ifCond .ne 7, 3) := by decide +kernel
theorem dX11_layCode_94 : decode cX11_layCode 94 = .ok (.iconst 1, 1) := by decide +kernel
theorem dX11_layCode_95 : decode cX11_layCode 95 = .ok (.goto 4, 3) := by decide +kernel
theorem dX11_layCode_98 : decode cX11_layCode 98 = .ok (.iconst 0, 1) := by decide +kernel
theorem dX11_layCode_99 : decode cX11_layCode 99 = .ok (.isub, 1) := by decide +kernel
theorem dX11_layCode_100 : decode cX11_layCode 100 = .ok (.istore 6, 2) := by decide +kernel
theorem dX11_layCode_102 : decode cX11_layCode 102 = .ok (.iinc 5 1, 3) := by decide +kernel
theorem dX11_layCode_105 : decode cX11_layCode 105 = .ok (.goto (-37), 3) := by decide +kernel
theorem dX11_layCode_108 : decode cX11_layCode 108 = .ok (.aload_n 0, 1) := by decide +kernel
theorem dX11_layCode_109 : decode cX11_layCode 109 = .ok (.getfield 50, 3) := by decide +kernel
theorem dX11_layCode_112 : decode cX11_layCode 112 = .ok (.iload 4, 2) := by decide +kernel
theorem dX11_layCode_114 : decode cX11_layCode 114 = .ok (.iload 5, 2) := by decide +kernel
theorem dX11_layCode_116 : decode cX11_layCode 116 = .ok (.iastore, 1) := by decide +kernel
theorem dX11_layCode_117 : decode cX11_layCode 117 = .ok (.iload_n 3, 1) := by decide +kernel
theorem dX11_layCode_118 : decode cX11_layCode 118 = .ok (.iconst 1, 1) := by decide +kernel
theorem dX11_layCode_119 : decode cX11_layCode 119 = .ok (.iload 5, 2) := by decide +kernel
theorem dX11_layCode_121 : decode cX11_layCode 121 = .ok (.ishl, 1) := by decide +kernel
theorem dX11_layCode_122 : decode cX11_layCode 122 = .ok (.ior, 1) := by decide +kernel
theorem dX11_layCode_123 : decode cX11_layCode 123 = .ok (.istore_n 3, 1) := by decide +kernel
theorem dX11_layCode_124 : decode cX11_layCode 124 = .ok (.iinc 4 1, 3) := by decide +kernel
theorem dX11_layCode_127 : decode cX11_layCode 127 = .ok (.goto (-80), 3) := by decide +kernel
theorem dX11_layCode_130 : decode cX11_layCode 130 = .ok (.return_, 1) := by decide +kernel
theorem dX11_exchange_0 : decode cX11_exchange 0 = .ok (.aload_n 0, 1) := by decide +kernel
theorem dX11_exchange_1 : decode cX11_exchange 1 = .ok (.getfield 50, 3) := by decide +kernel
theorem dX11_exchange_4 : decode cX11_exchange 4 = .ok (.iload_n 1, 1) := by decide +kernel
theorem dX11_exchange_5 : decode cX11_exchange 5 = .ok (.iaload, 1) := by decide +kernel
theorem dX11_exchange_6 : decode cX11_exchange 6 = .ok (.istore_n 3, 1) := by decide +kernel
theorem dX11_exchange_7 : decode cX11_exchange 7 = .ok (.aload_n 0, 1) := by decide +kernel
theorem dX11_exchange_8 : decode cX11_exchange 8 = .ok (.getfield 50, 3) := by decide +kernel
theorem dX11_exchange_11 : decode cX11_exchange 11 = .ok (.iload_n 1, 1) := by decide +kernel
theorem dX11_exchange_12 : decode cX11_exchange 12 = .ok (.aload_n 0, 1) := by decide +kernel
theorem dX11_exchange_13 : decode cX11_exchange 13 = .ok (.getfield 50, 3) := by decide +kernel
theorem dX11_exchange_16 : decode cX11_exchange 16 = .ok (.iload_n 2, 1) := by decide +kernel
theorem dX11_exchange_17 : decode cX11_exchange 17 = .ok (.iaload, 1) := by decide +kernel
theorem dX11_exchange_18 : decode cX11_exchange 18 = .ok (.iastore, 1) := by decide +kernel
theorem dX11_exchange_19 : decode cX11_exchange 19 = .ok (.aload_n 0, 1) := by decide +kernel
theorem dX11_exchange_20 : decode cX11_exchange 20 = .ok (.getfield 50, 3) := by decide +kernel
theorem dX11_exchange_23 : decode cX11_exchange 23 = .ok (.iload_n 2, 1) := by decide +kernel
theorem dX11_exchange_24 : decode cX11_exchange 24 = .ok (.iload_n 3, 1) := by decide +kernel
theorem dX11_exchange_25 : decode cX11_exchange 25 = .ok (.iastore, 1) := by decide +kernel
theorem dX11_exchange_26 : decode cX11_exchange 26 = .ok (.return_, 1) := by decide +kernel
set_option maxRecDepth 20000 in
theorem ggX11_changes_X11_in : GoodIn wsX11_changes wsX11_in := goodIn_r _ [12] (by decide +kernel) (by decide +kernel)
set_option maxRecDepth 20000 in
theorem gX11_changes_X11_in : GoodIn wsX11_changes (va_wsS RX11 95 yX11_in wsX11_in) := goodIn_app (goodIn_of _ (by decide +kernel)) ggX11_changes_X11_in
set_option maxRecDepth 20000 in
theorem ggX11_changes_X11_codeOf : GoodIn wsX11_changes wsX11_codeOf := goodIn_r _ [16, 2, 53, 54, 55, 56, 57, 58, 59, 60, 61, 62, 63, 64, 65, 66, 67, 68, 69, 70, 71, 72, 73, 74, 75, 76, 77, 78, 79, 80, 81, 82, 83, 84, 85, 86, 87, 88, 89, 90, 91, 92, 93, 94] (by decide +kernel) (by decide +kernel)
set_option maxRecDepth 20000 in
theorem gX11_changes_X11_codeOf : GoodIn wsX11_changes (wsV RX11 260 RX11 yX11_codeOf wsX11_codeOf) := goodIn_app (goodIn_of _ (by decide +kernel)) ggX11_changes_X11_codeOf
set_option maxRecDepth 20000 in
theorem ggX11_changes_X11_layCode : GoodIn wsX11_changes wsX11_layCode := goodIn_r _ [20, 2, 21, 8, 53, 54, 55, 56, 57, 58, 59, 60, 61, 62, 63, 64, 65, 66, 67, 68, 69, 70, 71, 72, 73, 74, 75, 76, 77, 78, 79, 80, 81, 82, 83, 84, 85, 86, 87, 88, 89, 90, 91, 92, 93, 94] (by decide +kernel) (by decide +kernel)
set_option maxRecDepth 20000 in
theorem gX11_changes_X11_layCode : GoodIn wsX11_changes (wsV RX11 263 RX11 yX11_layCode wsX11_layCode) := goodIn_app (goodIn_of _ (by decide +kernel)) ggX11_changes_X11_layCode
set_option maxRecDepth 20000 in
theorem ggX11_changes_X11_exchange : GoodIn wsX11_changes wsX11_exchange := goodIn_r _ [25, 8, 53, 54, 55, 56, 57, 58, 59, 60, 61, 62, 63, 64, 65, 66, 67, 68, 69, 70, 71, 72, 73, 74, 75, 76, 77, 78, 79, 80, 81, 82, 83, 84, 85, 86, 87, 88, 89, 90, 91, 92, 93, 94] (by decide +kernel) (by decide +kernel)
set_option maxRecDepth 20000 in
theorem gX11_changes_X11_exchange : GoodIn wsX11_changes (wsV RX11 266 RX11 yX11_exchange wsX11_exchange) := goodIn_app (goodIn_of _ (by decide +kernel)) ggX11_changes_X11_exchange
set_option maxRecDepth 20000 in
theorem ggX11_changes_X11_isLawful : GoodIn wsX11_changes wsX11_isLawful := goodIn_r _ [29, 30, 31, 32, 11, 33, 2, 34, 35, 36, 37, 38, 39, 40, 41, 42, 43, 44, 45, 46, 47, 48, 49, 50, 51, 52, 53, 54, 55, 56, 57, 58, 59, 60, 61, 62, 63, 64, 65, 66, 67, 68, 69, 70, 71, 72, 73, 74, 75, 76, 77, 78, 79, 80, 81, 82, 83, 84, 85, 86, 87, 88, 89, 90, 91, 92, 93, 94] (by decide +kernel) (by decide +kernel)
set_option maxRecDepth 20000 in
theorem gX11_changes_X11_isLawful : GoodIn wsX11_changes (wsV RX11 200 RX11 yX11_isLawful wsX11_isLawful) := goodIn_app (goodIn_of _ (by decide +kernel)) ggX11_changes_X11_isLawful
theorem dX11_changes_0 : decode cX11_changes 0 = .ok (.iload_n 1, 1) := by decide +kernel
theorem dX11_changes_1 : decode cX11_changes 1 = .ok (.i2l, 1) := by decide +kernel
theorem dX11_changes_2 : decode cX11_changes 2 = .ok (.lconst 0, 1) := by decide +kernel
theorem dX11_changes_3 : decode cX11_changes 3 = .ok (.lconst 1, 1) := by decide +kernel
theorem dX11_changes_4 : decode cX11_changes 4 = .ok (.invokestatic 95, 3) := by decide +kernel
theorem dX11_changes_7 : decode cX11_changes 7 = .ok (.ifCond .ne 5, 3) := by decide +kernel
theorem dX11_changes_10 : decode cX11_changes 10 = .ok (.iconst (-1), 1) := by decide +kernel
theorem dX11_changes_11 : decode cX11_changes 11 = .ok (.ireturn, 1) := by decide +kernel
theorem dX11_changes_12 : decode cX11_changes 12 = .ok (.aload_n 0, 1) := by decide +kernel
theorem dX11_changes_13 : decode cX11_changes 13 = .ok (.getfield 83, 3) := by decide +kernel
theorem dX11_changes_16 : decode cX11_changes 16 = .ok (.iload_n 1, 1) := by decide +kernel
theorem dX11_changes_17 : decode cX11_changes 17 = .ok (.baload, 1) := by decide +kernel
theorem dX11_changes_18 : decode cX11_changes 18 = .ok (.ifCond .eq 12, 3) := by decide +kernel
theorem dX11_changes_21 : decode cX11_changes 21 = .ok (.aload_n 0, 1) := by decide +kernel
theorem dX11_changes_22 : decode cX11_changes 22 = .ok (.getfield 89, 3) := by decide +kernel
theorem dX11_changes_25 : decode cX11_changes 25 = .ok (.bipush 6, 2) := by decide +kernel
theorem dX11_changes_27 : decode cX11_changes 27 = .ok (.if_icmp .le 6, 3) := by decide +kernel
theorem dX11_changes_30 : decode cX11_changes 30 = .ok (.bipush (-3), 2) := by decide +kernel
theorem dX11_changes_32 : decode cX11_changes 32 = .ok (.ireturn, 1) := by decide +kernel
theorem dX11_changes_33 : decode cX11_changes 33 = .ok (.iconst 0, 1) := by decide +kernel
theorem dX11_changes_34 : decode cX11_changes 34 = .ok (.istore_n 2, 1) := by decide +kernel
theorem dX11_changes_35 : decode cX11_changes 35 = .ok (.iload_n 2, 1) := by decide +kernel
theorem dX11_changes_36 : decode cX11_changes 36 = .ok (.aload_n 0, 1) := by decide +kernel
theorem dX11_changes_37 : decode cX11_changes 37 = .ok (.getfield 89, 3) := by decide +kernel
theorem dX11_changes_40 : decode cX11_changes 40 = .ok (.if_icmp .ge 26, 3) := by decide +kernel
theorem dX11_changes_43 : decode cX11_changes 43 = .ok (.aload_n 0, 1) := by decide +kernel
theorem dX11_changes_44 : decode cX11_changes 44 = .ok (.getfield 59, 3) := by decide +kernel
theorem dX11_changes_47 : decode cX11_changes 47 = .ok (.iload_n 2, 1) := by decide +kernel
theorem dX11_changes_48 : decode cX11_changes 48 = .ok (.aload_n 0, 1) := by decide +kernel
theorem dX11_changes_49 : decode cX11_changes 49 = .ok (.getfield 86, 3) := by decide +kernel
theorem dX11_changes_52 : decode cX11_changes 52 = .ok (.bipush 56, 2) := by decide +kernel
theorem dX11_changes_54 : decode cX11_changes 54 = .ok (.iload_n 1, 1) := by decide +kernel
theorem dX11_changes_55 : decode cX11_changes 55 = .ok (.imul, 1) := by decide +kernel
theorem dX11_changes_56 : decode cX11_changes 56 = .ok (.iload_n 2, 1) := by decide +kernel
theorem dX11_changes_57 : decode cX11_changes 57 = .ok (.iadd, 1) := by decide +kernel
theorem dX11_changes_58 : decode cX11_changes 58 = .ok (.iaload, 1) := by decide +kernel
theorem dX11_changes_59 : decode cX11_changes 59 = .ok (.iastore, 1) := by decide +kernel
theorem dX11_changes_60 : decode cX11_changes 60 = .ok (.iinc 2 1, 3) := by decide +kernel
theorem dX11_changes_63 : decode cX11_changes 63 = .ok (.goto (-28), 3) := by decide +kernel
theorem dX11_changes_66 : decode cX11_changes 66 = .ok (.aload_n 0, 1) := by decide +kernel
theorem dX11_changes_67 : decode cX11_changes 67 = .ok (.aload_n 0, 1) := by decide +kernel
theorem dX11_changes_68 : decode cX11_changes 68 = .ok (.getfield 59, 3) := by decide +kernel
theorem dX11_changes_71 : decode cX11_changes 71 = .ok (.invokevirtual 260, 3) := by decide +kernel
theorem dX11_changes_74 : decode cX11_changes 74 = .ok (.istore_n 2, 1) := by decide +kernel
theorem dX11_changes_75 : decode cX11_changes 75 = .ok (.iconst 0, 1) := by decide +kernel
theorem dX11_changes_76 : decode cX11_changes 76 = .ok (.istore_n 3, 1) := by decide +kernel
theorem dX11_changes_77 : decode cX11_changes 77 = .ok (.iload_n 3, 1) := by decide +kernel
theorem dX11_changes_78 : decode cX11_changes 78 = .ok (.sipush 720, 3) := by decide +kernel
theorem dX11_changes_81 : decode cX11_changes 81 = .ok (.if_icmp .ge 17, 3) := by decide +kernel
theorem dX11_changes_84 : decode cX11_changes 84 = .ok (.aload_n 0, 1) := by decide +kernel
theorem dX11_changes_85 : decode cX11_changes 85 = .ok (.getfield 65, 3) := by decide +kernel
theorem dX11_changes_88 : decode cX11_changes 88 = .ok (.iload_n 3, 1) := by decide +kernel
theorem dX11_changes_89 : decode cX11_changes 89 = .ok (.bipush (-9), 2) := by decide +kernel
theorem dX11_changes_91 : decode cX11_changes 91 = .ok (.iastore, 1) := by decide +kernel
theorem dX11_changes_92 : decode cX11_changes 92 = .ok (.iinc 3 1, 3) := by decide +kernel
theorem dX11_changes_95 : decode cX11_changes 95 = .ok (.goto (-18), 3) := by decide +kernel
theorem dX11_changes_98 : decode cX11_changes 98 = .ok (.iconst 1, 1) := by decide +kernel
theorem dX11_changes_99 : decode cX11_changes 99 = .ok (.istore_n 3, 1) := by decide +kernel
theorem dX11_changes_100 : decode cX11_changes 100 = .ok (.aload_n 0, 1) := by decide +kernel
theorem dX11_changes_101 : decode cX11_changes 101 = .ok (.getfield 62, 3) := by decide +kernel
theorem dX11_changes_104 : decode cX11_changes 104 = .ok (.iconst 0, 1) := by decide +kernel
theorem dX11_changes_105 : decode cX11_changes 105 = .ok (.aload_n 0, 1) := by decide +kernel
theorem dX11_changes_106 : decode cX11_changes 106 = .ok (.aload_n 0, 1) := by decide +kernel
theorem dX11_changes_107 : decode cX11_changes 107 = .ok (.getfield 41, 3) := by decide +kernel
theorem dX11_changes_110 : decode cX11_changes 110 = .ok (.invokevirtual 260, 3) := by decide +kernel
theorem dX11_changes_113 : decode cX11_changes 113 = .ok (.iastore, 1) := by decide +kernel
theorem dX11_changes_114 : decode cX11_changes 114 = .ok (.aload_n 0, 1) := by decide +kernel
theorem dX11_changes_115 : decode cX11_changes 115 = .ok (.getfield 65, 3) := by decide +kernel
theorem dX11_changes_118 : decode cX11_changes 118 = .ok (.aload_n 0, 1) := by decide +kernel
theorem dX11_changes_119 : decode cX11_changes 119 = .ok (.getfield 62, 3) := by decide +kernel
theorem dX11_changes_122 : decode cX11_changes 122 = .ok (.iconst 0, 1) := by decide +kernel
theorem dX11_changes_123 : decode cX11_changes 123 = .ok (.iaload, 1) := by decide +kernel
theorem dX11_changes_124 : decode cX11_changes 124 = .ok (.iconst 0, 1) := by decide +kernel
theorem dX11_changes_125 : decode cX11_changes 125 = .ok (.iastore, 1) := by decide +kernel
theorem dX11_changes_126 : decode cX11_changes 126 = .ok (.iconst 0, 1) := by decide +kernel
theorem dX11_changes_127 : decode cX11_changes 127 = .ok (.istore 4, 2) := by decide +kernel
theorem dX11_changes_129 : decode cX11_changes 129 = .ok (.iload 4, 2) := by decide +kernel
theorem dX11_changes_131 : decode cX11_changes 131 = .ok (.iload_n 3, 1) := by decide +kernel
theorem dX11_changes_132 : decode cX11_changes 132 = .ok (.if_icmp .ge 143, 3) := by decide +kernel
theorem dX11_changes_135 : decode cX11_changes 135 = .ok (.aload_n 0, 1) := by decide +kernel
theorem dX11_changes_136 : decode cX11_changes 136 = .ok (.getfield 65, 3) := by decide +kernel
theorem dX11_changes_139 : decode cX11_changes 139 = .ok (.iload_n 2, 1) := by decide +kernel
theorem dX11_changes_140 : decode cX11_changes 140 = .ok (.iaload, 1) := by decide +kernel
theorem dX11_changes_141 : decode cX11_changes 141 = .ok (.bipush (-9), 2) := by decide +kernel
theorem dX11_changes_143 : decode cX11_changes 143 = .ok (.if_icmp .ne 132, 3) := by decide +kernel
theorem dX11_changes_146 : decode cX11_changes 146 = .ok (.aload_n 0, 1) := by decide +kernel
theorem dX11_changes_147 : decode cX11_changes 147 = .ok (.getfield 62, 3) := by decide +kernel
theorem dX11_changes_150 : decode cX11_changes 150 = .ok (.iload 4, 2) := by decide +kernel
theorem dX11_changes_152 : decode cX11_changes 152 = .ok (.iaload, 1) := by decide +kernel
theorem dX11_changes_153 : decode cX11_changes 153 = .ok (.istore 5, 2) := by decide +kernel
theorem dX11_changes_155 : decode cX11_changes 155 = .ok (.iconst 0, 1) := by decide +kernel
theorem dX11_changes_156 : decode cX11_changes 156 = .ok (.istore 6, 2) := by decide +kernel
theorem dX11_changes_158 : decode cX11_changes 158 = .ok (.iload 6, 2) := by decide +kernel
theorem dX11_changes_160 : decode cX11_changes 160 = .ok (.aload_n 0, 1) := by decide +kernel
theorem dX11_changes_161 : decode cX11_changes 161 = .ok (.getfield 89, 3) := by decide +kernel
theorem dX11_changes_164 : decode cX11_changes 164 = .ok (.if_icmp .ge 105, 3) := by decide +kernel
theorem dX11_changes_167 : decode cX11_changes 167 = .ok (.iconst 0, 1) := by decide +kernel
theorem dX11_changes_168 : decode cX11_changes 168 = .ok (.istore 7, 2) := by decide +kernel
theorem dX11_changes_170 : decode cX11_changes 170 = .ok (.iload 7, 2) := by decide +kernel
theorem dX11_changes_172 : decode cX11_changes 172 = .ok (.iload 6, 2) := by decide +kernel
theorem dX11_changes_174 : decode cX11_changes 174 = .ok (.if_icmp .ge 89, 3) := by decide +kernel
theorem dX11_changes_177 : decode cX11_changes 177 = .ok (.aload_n 0, 1) := by decide +kernel
theorem dX11_changes_178 : decode cX11_changes 178 = .ok (.iload 5, 2) := by decide +kernel
theorem dX11_changes_180 : decode cX11_changes 180 = .ok (.invokevirtual 263, 3) := by decide +kernel
theorem dX11_changes_183 : decode cX11_changes 183 = .ok (.aload_n 0, 1) := by decide +kernel
theorem dX11_changes_184 : decode cX11_changes 184 = .ok (.iload 6, 2) := by decide +kernel
theorem dX11_changes_186 : decode cX11_changes 186 = .ok (.iload 7, 2) := by decide +kernel
theorem dX11_changes_188 : decode cX11_changes 188 = .ok (.invokevirtual 266, 3) := by decide +kernel
theorem dX11_changes_191 : decode cX11_changes 191 = .ok (.aload_n 0, 1) := by decide +kernel
theorem dX11_changes_192 : decode cX11_changes 192 = .ok (.aload_n 0, 1) := by decide +kernel
theorem dX11_changes_193 : decode cX11_changes 193 = .ok (.getfield 50, 3) := by decide +kernel
theorem dX11_changes_196 : decode cX11_changes 196 = .ok (.invokevirtual 260, 3) := by decide +kernel
theorem dX11_changes_199 : decode cX11_changes 199 = .ok (.istore 8, 2) := by decide +kernel
theorem dX11_changes_201 : decode cX11_changes 201 = .ok (.aload_n 0, 1) := by decide +kernel
theorem dX11_changes_202 : decode cX11_changes 202 = .ok (.getfield 65, 3) := by decide +kernel
theorem dX11_changes_205 : decode cX11_changes 205 = .ok (.iload 8, 2) := by decide +kernel
theorem dX11_changes_207 : decode cX11_changes 207 = .ok (.iaload, 1) := by decide +kernel
theorem dX11_changes_208 : decode cX11_changes 208 = .ok (.bipush (-9), 2) := by decide +kernel
theorem dX11_changes_210 : decode cX11_changes 210 = .ok (.if_icmp .ne 47, 3) := by decide +kernel
theorem dX11_changes_213 : decode cX11_changes 213 = .ok (.iload 8, 2) := by decide +kernel
theorem dX11_changes_215 : decode cX11_changes 215 = .ok (.iload_n 2, 1) := by decide +kernel
theorem dX11_changes_216 : decode cX11_changes 216 = .ok (.if_icmp .eq 14, 3) := by decide +kernel
theorem dX11_changes_219 : decode cX11_changes 219 = .ok (.aload_n 0, 1) := by decide +kernel
theorem dX11_changes_220 : decode cX11_changes 220 = .ok (.aload_n 0, 1) := by decide +kernel
theorem dX11_changes_221 : decode cX11_changes 221 = .ok (.getfield 50, 3) := by decide +kernel
theorem dX11_changes_224 : decode cX11_changes 224 = .ok (.invokevirtual 200, 3) := by decide +kernel
theorem dX11_changes_227 : decode cX11_changes 227 = .ok (.ifCond .eq 30, 3) := by decide +kernel
theorem dX11_changes_230 : decode cX11_changes 230 = .ok (.aload_n 0, 1) := by decide +kernel
theorem dX11_changes_231 : decode cX11_changes 231 = .ok (.getfield 65, 3) := by decide +kernel
theorem dX11_changes_234 : decode cX11_changes 234 = .ok (.iload 8, 2) := by decide +kernel
theorem dX11_changes_236 : decode cX11_changes 236 = .ok (.aload_n 0, 1) := by decide +kernel
theorem dX11_changes_237 : decode cX11_changes 237 = .ok (.getfield 65, 3) := by decide +kernel
theorem dX11_changes_240 : decode cX11_changes 240 = .ok (.iload 5, 2) := by decide +kernel
theorem dX11_changes_242 : decode cX11_changes 242 = .ok (.iaload, 1) := by decide +kernel
theorem dX11_changes_243 : decode cX11_changes 243 = .ok (.iconst 1, 1) := by decide +kernel
theorem dX11_changes_244 : decode cX11_changes 244 = .ok (.iadd, 1) := by decide +kernel
theorem dX11_changes_245 : decode cX11_changes 245 = .ok (.iastore, 1) := by decide +kernel
theorem dX11_changes_246 : decode cX11_changes 246 = .ok (.aload_n 0, 1) := by decide +kernel
theorem dX11_changes_247 : decode cX11_changes 247 = .ok (.getfield 62, 3) := by decide +kernel
theorem dX11_changes_250 : decode cX11_changes 250 = .ok (.iload_n 3, 1) := by decide +kernel
theorem dX11_changes_251 : decode cX11_changes 251 = .ok (.iload 8, 2) := by decide +kernel
theorem dX11_changes_253 : decode cX11_changes 253 = .ok (.iastore, 1) := by decide +kernel
theorem dX11_changes_254 : decode cX11_changes 254 = .ok (.iinc 3 1, 3) := by decide +kernel
theorem dX11_changes_257 : decode cX11_changes 257 = .ok (.iinc 7 1, 3) := by decide +kernel
theorem dX11_changes_260 : decode cX11_changes 260 = .ok (.goto (-90), 3) := by decide +kernel
theorem dX11_changes_263 : decode cX11_changes 263 = .ok (.iinc 6 1, 3) := by decide +kernel
theorem dX11_changes_266 : decode cX11_changes 266 = .ok (.goto (-108), 3) := by decide +kernel
theorem dX11_changes_269 : decode cX11_changes 269 = .ok (.iinc 4 1, 3) := by decide +kernel
theorem dX11_changes_272 : decode cX11_changes 272 = .ok (.goto (-143), 3) := by decide +kernel
theorem dX11_changes_275 : decode cX11_changes 275 = .ok (.aload_n 0, 1) := by decide +kernel
theorem dX11_changes_276 : decode cX11_changes 276 = .ok (.getfield 65, 3) := by decide +kernel
theorem dX11_changes_279 : decode cX11_changes 279 = .ok (.iload_n 2, 1) := by decide +kernel
theorem dX11_changes_280 : decode cX11_changes 280 = .ok (.iaload, 1) := by decide +kernel
theorem dX11_changes_281 : decode cX11_changes 281 = .ok (.ireturn, 1) := by decide +kernel
set_option maxRecDepth 20000 in
theorem ggX11_gossip_X11_isPerson : GoodIn wsX11_gossip wsX11_isPerson := goodIn_r _ [9, 10, 11, 12, 8, 13, 14, 15, 16, 17, 18, 19, 20, 21, 22, 23, 24, 25, 26, 27, 28, 29, 30, 31, 32, 33, 34, 35, 36, 37, 38, 39, 40, 41, 42, 43, 44, 45, 46, 47, 48, 49, 50, 51, 52, 53, 54, 55] (by decide +kernel) (by decide +kernel)
set_option maxRecDepth 20000 in
theorem gX11_gossip_X11_isPerson : GoodIn wsX11_gossip (wsV RX11 190 RX11 yX11_isPerson wsX11_isPerson) := goodIn_app (goodIn_of _ (by decide +kernel)) ggX11_gossip_X11_isPerson
theorem dX11_gossip_0 : decode cX11_gossip 0 = .ok (.aload_n 0, 1) := by decide +kernel
theorem dX11_gossip_1 : decode cX11_gossip 1 = .ok (.iload_n 1, 1) := by decide +kernel
theorem dX11_gossip_2 : decode cX11_gossip 2 = .ok (.invokevirtual 190, 3) := by decide +kernel
theorem dX11_gossip_5 : decode cX11_gossip 5 = .ok (.ifCond .eq 11, 3) := by decide +kernel
theorem dX11_gossip_8 : decode cX11_gossip 8 = .ok (.aload_n 0, 1) := by decide +kernel
theorem dX11_gossip_9 : decode cX11_gossip 9 = .ok (.iload_n 2, 1) := by decide +kernel
theorem dX11_gossip_10 : decode cX11_gossip 10 = .ok (.invokevirtual 190, 3) := by decide +kernel
theorem dX11_gossip_13 : decode cX11_gossip 13 = .ok (.ifCond .ne 5, 3) := by decide +kernel
theorem dX11_gossip_16 : decode cX11_gossip 16 = .ok (.iconst (-1), 1) := by decide +kernel
theorem dX11_gossip_17 : decode cX11_gossip 17 = .ok (.ireturn, 1) := by decide +kernel
theorem dX11_gossip_18 : decode cX11_gossip 18 = .ok (.iload_n 1, 1) := by decide +kernel
theorem dX11_gossip_19 : decode cX11_gossip 19 = .ok (.iload_n 2, 1) := by decide +kernel
theorem dX11_gossip_20 : decode cX11_gossip 20 = .ok (.if_icmp .ne 6, 3) := by decide +kernel
theorem dX11_gossip_23 : decode cX11_gossip 23 = .ok (.bipush (-2), 2) := by decide +kernel
theorem dX11_gossip_25 : decode cX11_gossip 25 = .ok (.ireturn, 1) := by decide +kernel
theorem dX11_gossip_26 : decode cX11_gossip 26 = .ok (.aload_n 0, 1) := by decide +kernel
theorem dX11_gossip_27 : decode cX11_gossip 27 = .ok (.getfield 270, 3) := by decide +kernel
theorem dX11_gossip_30 : decode cX11_gossip 30 = .ok (.bipush 8, 2) := by decide +kernel
theorem dX11_gossip_32 : decode cX11_gossip 32 = .ok (.if_icmp .ne 6, 3) := by decide +kernel
theorem dX11_gossip_35 : decode cX11_gossip 35 = .ok (.bipush (-4), 2) := by decide +kernel
theorem dX11_gossip_37 : decode cX11_gossip 37 = .ok (.ireturn, 1) := by decide +kernel
theorem dX11_gossip_38 : decode cX11_gossip 38 = .ok (.aload_n 0, 1) := by decide +kernel
theorem dX11_gossip_39 : decode cX11_gossip 39 = .ok (.getfield 71, 3) := by decide +kernel
theorem dX11_gossip_42 : decode cX11_gossip 42 = .ok (.aload_n 0, 1) := by decide +kernel
theorem dX11_gossip_43 : decode cX11_gossip 43 = .ok (.getfield 270, 3) := by decide +kernel
theorem dX11_gossip_46 : decode cX11_gossip 46 = .ok (.iload_n 1, 1) := by decide +kernel
theorem dX11_gossip_47 : decode cX11_gossip 47 = .ok (.iastore, 1) := by decide +kernel
theorem dX11_gossip_48 : decode cX11_gossip 48 = .ok (.aload_n 0, 1) := by decide +kernel
theorem dX11_gossip_49 : decode cX11_gossip 49 = .ok (.getfield 74, 3) := by decide +kernel
theorem dX11_gossip_52 : decode cX11_gossip 52 = .ok (.aload_n 0, 1) := by decide +kernel
theorem dX11_gossip_53 : decode cX11_gossip 53 = .ok (.getfield 270, 3) := by decide +kernel
theorem dX11_gossip_56 : decode cX11_gossip 56 = .ok (.iload_n 2, 1) := by decide +kernel
theorem dX11_gossip_57 : decode cX11_gossip 57 = .ok (.iastore, 1) := by decide +kernel
theorem dX11_gossip_58 : decode cX11_gossip 58 = .ok (.aload_n 0, 1) := by decide +kernel
theorem dX11_gossip_59 : decode cX11_gossip 59 = .ok (.getfield 77, 3) := by decide +kernel
theorem dX11_gossip_62 : decode cX11_gossip 62 = .ok (.aload_n 0, 1) := by decide +kernel
theorem dX11_gossip_63 : decode cX11_gossip 63 = .ok (.getfield 270, 3) := by decide +kernel
theorem dX11_gossip_66 : decode cX11_gossip 66 = .ok (.iload_n 3, 1) := by decide +kernel
theorem dX11_gossip_67 : decode cX11_gossip 67 = .ok (.bastore, 1) := by decide +kernel
theorem dX11_gossip_68 : decode cX11_gossip 68 = .ok (.aload_n 0, 1) := by decide +kernel
theorem dX11_gossip_69 : decode cX11_gossip 69 = .ok (.dup, 1) := by decide +kernel
theorem dX11_gossip_70 : decode cX11_gossip 70 = .ok (.getfield 270, 3) := by decide +kernel
theorem dX11_gossip_73 : decode cX11_gossip 73 = .ok (.iconst 1, 1) := by decide +kernel
theorem dX11_gossip_74 : decode cX11_gossip 74 = .ok (.iadd, 1) := by decide +kernel
theorem dX11_gossip_75 : decode cX11_gossip 75 = .ok (.putfield 270, 3) := by decide +kernel
theorem dX11_gossip_78 : decode cX11_gossip 78 = .ok (.aload_n 0, 1) := by decide +kernel
theorem dX11_gossip_79 : decode cX11_gossip 79 = .ok (.getfield 270, 3) := by decide +kernel
theorem dX11_gossip_82 : decode cX11_gossip 82 = .ok (.ireturn, 1) := by decide +kernel
theorem dX11_hush_0 : decode cX11_hush 0 = .ok (.aload_n 0, 1) := by decide +kernel
theorem dX11_hush_1 : decode cX11_hush 1 = .ok (.getfield 270, 3) := by decide +kernel
theorem dX11_hush_4 : decode cX11_hush 4 = .ok (.istore_n 1, 1) := by decide +kernel
theorem dX11_hush_5 : decode cX11_hush 5 = .ok (.aload_n 0, 1) := by decide +kernel
theorem dX11_hush_6 : decode cX11_hush 6 = .ok (.iconst 0, 1) := by decide +kernel
theorem dX11_hush_7 : decode cX11_hush 7 = .ok (.putfield 270, 3) := by decide +kernel
theorem dX11_hush_10 : decode cX11_hush 10 = .ok (.iload_n 1, 1) := by decide +kernel
theorem dX11_hush_11 : decode cX11_hush 11 = .ok (.ireturn, 1) := by decide +kernel
set_option maxRecDepth 20000 in
theorem ggX11_areBeside_X11_areNext : GoodIn wsX11_areBeside wsX11_areNext := goodIn_r _ [7, 8, 1, 9, 10, 11, 12, 13, 14, 15, 16, 17, 18, 19, 20, 21, 22, 23, 24, 25, 26, 27, 28, 29, 30, 31, 32, 33, 34, 35, 36, 37, 38, 39, 40, 41, 42, 43, 44, 45, 46, 47, 48, 49, 50] (by decide +kernel) (by decide +kernel)
set_option maxRecDepth 20000 in
theorem gX11_areBeside_X11_areNext : GoodIn wsX11_areBeside (wsV RX11 172 RX11 yX11_areNext wsX11_areNext) := goodIn_app (goodIn_of _ (by decide +kernel)) ggX11_areBeside_X11_areNext
theorem dX11_areBeside_0 : decode cX11_areBeside 0 = .ok (.iconst 0, 1) := by decide +kernel
theorem dX11_areBeside_1 : decode cX11_areBeside 1 = .ok (.istore_n 3, 1) := by decide +kernel
theorem dX11_areBeside_2 : decode cX11_areBeside 2 = .ok (.iconst 0, 1) := by decide +kernel
theorem dX11_areBeside_3 : decode cX11_areBeside 3 = .ok (.istore 4, 2) := by decide +kernel
theorem dX11_areBeside_5 : decode cX11_areBeside 5 = .ok (.iload 4, 2) := by decide +kernel
theorem dX11_areBeside_7 : decode cX11_areBeside 7 = .ok (.aload_n 0, 1) := by decide +kernel
theorem dX11_areBeside_8 : decode cX11_areBeside 8 = .ok (.getfield 89, 3) := by decide +kernel
theorem dX11_areBeside_11 : decode cX11_areBeside 11 = .ok (.if_icmp .ge 70, 3) := by decide +kernel
theorem dX11_areBeside_14 : decode cX11_areBeside 14 = .ok (.iconst 0, 1) := by decide +kernel
theorem dX11_areBeside_15 : decode cX11_areBeside 15 = .ok (.istore 5, 2) := by decide +kernel
theorem dX11_areBeside_17 : decode cX11_areBeside 17 = .ok (.iload 5, 2) := by decide +kernel
theorem dX11_areBeside_19 : decode cX11_areBeside 19 = .ok (.aload_n 0, 1) := by decide +kernel
theorem dX11_areBeside_20 : decode cX11_areBeside 20 = .ok (.getfield 89, 3) := by decide +kernel
theorem dX11_areBeside_23 : decode cX11_areBeside 23 = .ok (.if_icmp .ge 52, 3) := by decide +kernel
theorem dX11_areBeside_26 : decode cX11_areBeside 26 = .ok (.iload_n 3, 1) := by decide +kernel
theorem dX11_areBeside_27 : decode cX11_areBeside 27 = .ok (.ifCond .ne 36, 3) := by decide +kernel
theorem dX11_areBeside_30 : decode cX11_areBeside 30 = .ok (.aload_n 0, 1) := by decide +kernel
theorem dX11_areBeside_31 : decode cX11_areBeside 31 = .ok (.getfield 50, 3) := by decide +kernel
theorem dX11_areBeside_34 : decode cX11_areBeside 34 = .ok (.iload 4, 2) := by decide +kernel
theorem dX11_areBeside_36 : decode cX11_areBeside 36 = .ok (.iaload, 1) := by decide +kernel
theorem dX11_areBeside_37 : decode cX11_areBeside 37 = .ok (.iload_n 1, 1) := by decide +kernel
theorem dX11_areBeside_38 : decode cX11_areBeside 38 = .ok (.if_icmp .ne 29, 3) := by decide +kernel
theorem dX11_areBeside_41 : decode cX11_areBeside 41 = .ok (.aload_n 0, 1) := by decide +kernel
theorem dX11_areBeside_42 : decode cX11_areBeside 42 = .ok (.getfield 50, 3) := by decide +kernel
theorem dX11_areBeside_45 : decode cX11_areBeside 45 = .ok (.iload 5, 2) := by decide +kernel
theorem dX11_areBeside_47 : decode cX11_areBeside 47 = .ok (.iaload, 1) := by decide +kernel
theorem dX11_areBeside_48 : decode cX11_areBeside 48 = .ok (.iload_n 2, 1) := by decide +kernel
theorem dX11_areBeside_49 : decode cX11_areBeside 49 = .ok (.if_icmp .ne 18, 3) := by decide +kernel
theorem dX11_areBeside_52 : decode cX11_areBeside 52 = .ok (.aload_n 0, 1) := by decide +kernel
theorem dX11_areBeside_53 : decode cX11_areBeside 53 = .ok (.iload 4, 2) := by decide +kernel
theorem dX11_areBeside_55 : decode cX11_areBeside 55 = .ok (.iload 5, 2) := by decide +kernel
theorem dX11_areBeside_57 : decode cX11_areBeside 57 = .ok (.invokevirtual 172, 3) := by decide +kernel
theorem dX11_areBeside_60 : decode cX11_areBeside 60 = .ok (.ifCond .eq 7, 3) := by decide +kernel
theorem dX11_areBeside_63 : decode cX11_areBeside 63 = .ok (.iconst 1, 1) := by decide +kernel
theorem dX11_areBeside_64 : decode cX11_areBeside 64 = .ok (.goto 4, 3) := by decide +kernel
theorem dX11_areBeside_67 : decode cX11_areBeside 67 = .ok (.iconst 0, 1) := by decide +kernel
theorem dX11_areBeside_68 : decode cX11_areBeside 68 = .ok (.istore_n 3, 1) := by decide +kernel
theorem dX11_areBeside_69 : decode cX11_areBeside 69 = .ok (.iinc 5 1, 3) := by decide +kernel
theorem dX11_areBeside_72 : decode cX11_areBeside 72 = .ok (.goto (-55), 3) := by decide +kernel
theorem dX11_areBeside_75 : decode cX11_areBeside 75 = .ok (.iinc 4 1, 3) := by decide +kernel
theorem dX11_areBeside_78 : decode cX11_areBeside 78 = .ok (.goto (-73), 3) := by decide +kernel
theorem dX11_areBeside_81 : decode cX11_areBeside 81 = .ok (.iload_n 3, 1) := by decide +kernel
theorem dX11_areBeside_82 : decode cX11_areBeside 82 = .ok (.ireturn, 1) := by decide +kernel
set_option maxRecDepth 20000 in
theorem ggX11_layFits_X11_begin : GoodIn wsX11_layFits wsX11_begin := goodIn_r _ [12, 2, 55, 56, 57, 58, 59, 60, 61, 62, 63, 64, 65, 66, 67, 68, 69, 70, 71, 72, 73, 74, 75, 76, 77, 78, 79, 80, 81, 82, 83, 84, 85, 86, 87, 88, 89, 90, 91, 92, 93, 94, 95, 96] (by decide +kernel) (by decide +kernel)
set_option maxRecDepth 20000 in
theorem gX11_layFits_X11_begin : GoodIn wsX11_layFits (wsV RX11 197 RX11 yX11_begin wsX11_begin) := goodIn_app (goodIn_of _ (by decide +kernel)) ggX11_layFits_X11_begin
set_option maxRecDepth 20000 in
theorem ggX11_layFits_X11_isLawful : GoodIn wsX11_layFits wsX11_isLawful := goodIn_r _ [16, 17, 18, 19, 11, 20, 7, 21, 22, 23, 24, 25, 26, 27, 28, 29, 30, 31, 32, 33, 34, 35, 36, 37, 38, 39, 55, 56, 57, 58, 59, 60, 61, 62, 63, 64, 65, 66, 67, 68, 69, 70, 71, 72, 73, 74, 75, 76, 77, 78, 79, 80, 81, 82, 83, 84, 85, 86, 87, 88, 89, 90, 91, 92, 93, 94, 95, 96] (by decide +kernel) (by decide +kernel)
set_option maxRecDepth 20000 in
theorem gX11_layFits_X11_isLawful : GoodIn wsX11_layFits (wsV RX11 200 RX11 yX11_isLawful wsX11_isLawful) := goodIn_app (goodIn_of _ (by decide +kernel)) ggX11_layFits_X11_isLawful
set_option maxRecDepth 20000 in
theorem ggX11_layFits_X11_isPerson : GoodIn wsX11_layFits wsX11_isPerson := goodIn_r _ [43, 7, 44, 45, 11, 46, 55, 56, 57, 58, 59, 60, 61, 62, 63, 64, 65, 66, 67, 68, 69, 70, 71, 72, 73, 74, 75, 76, 77, 78, 79, 80, 81, 82, 83, 84, 85, 86, 87, 88, 89, 90, 91, 92, 93, 94, 95, 96] (by decide +kernel) (by decide +kernel)
set_option maxRecDepth 20000 in
theorem gX11_layFits_X11_isPerson : GoodIn wsX11_layFits (wsV RX11 190 RX11 yX11_isPerson wsX11_isPerson) := goodIn_app (goodIn_of _ (by decide +kernel)) ggX11_layFits_X11_isPerson
set_option maxRecDepth 20000 in
theorem ggX11_layFits_X11_areBeside : GoodIn wsX11_layFits wsX11_areBeside := goodIn_r _ [50, 7, 2, 26, 27, 28, 11, 29, 30, 55, 56, 57, 58, 59, 60, 61, 62, 63, 64, 65, 66, 67, 68, 69, 70, 71, 72, 73, 74, 75, 76, 77, 78, 79, 80, 81, 82, 83, 84, 85, 86, 87, 88, 89, 90, 91, 92, 93, 94, 95, 96] (by decide +kernel) (by decide +kernel)
set_option maxRecDepth 20000 in
theorem gX11_layFits_X11_areBeside : GoodIn wsX11_layFits (wsV RX11 273 RX11 yX11_areBeside wsX11_areBeside) := goodIn_app (goodIn_of _ (by decide +kernel)) ggX11_layFits_X11_areBeside
set_option maxRecDepth 20000 in
theorem ggX11_layFits_X11_goOn : GoodIn wsX11_layFits wsX11_goOn := goodIn_r _ [54, 7, 2, 55, 56, 57, 58, 59, 60, 61, 62, 63, 64, 65, 66, 67, 68, 69, 70, 71, 72, 73, 74, 75, 76, 77, 78, 79, 80, 81, 82, 83, 84, 85, 86, 87, 88, 89, 90, 91, 92, 93, 94, 95, 96] (by decide +kernel) (by decide +kernel)
set_option maxRecDepth 20000 in
theorem gX11_layFits_X11_goOn : GoodIn wsX11_layFits (wsV RX11 204 RX11 yX11_goOn wsX11_goOn) := goodIn_app (goodIn_of _ (by decide +kernel)) ggX11_layFits_X11_goOn

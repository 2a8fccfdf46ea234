theorem dX4_weigh_73 : decode cX4_weigh 73 = .ok (.iadd, 1) := by decide +kernel
theorem dX4_weigh_74 : decode cX4_weigh 74 = .ok (.istore_n 3, 1) := by decide +kernel
theorem dX4_weigh_75 : decode cX4_weigh 75 = .ok (.iload 7, 2) := by decide +kernel
theorem dX4_weigh_77 : decode cX4_weigh 77 = .ok (.istore 5, 2) := by decide +kernel
theorem dX4_weigh_79 : decode cX4_weigh 79 = .ok (.iinc 6 1, 3) := by decide +kernel
theorem dX4_weigh_82 : decode cX4_weigh 82 = .ok (.goto (-55), 3) := by decide +kernel
theorem dX4_weigh_85 : decode cX4_weigh 85 = .ok (.iload_n 3, 1) := by decide +kernel
theorem dX4_weigh_86 : decode cX4_weigh 86 = .ok (.ireturn, 1) := by decide +kernel
set_option maxRecDepth 20000 in
theorem ggX4_afterCourse_X4_men : GoodIn wsX4_afterCourse wsX4_men := goodIn_r _ [6, 1, 7, 8, 9, 10, 11, 12, 13, 14, 30, 31, 32, 33, 34, 35, 36, 37, 38, 39] (by decide +kernel) (by decide +kernel)
set_option maxRecDepth 20000 in
theorem gX4_afterCourse_X4_men : GoodIn wsX4_afterCourse (wsV RX4 101 RX4 yX4_men wsX4_men) := goodIn_app (goodIn_of _ (by decide +kernel)) ggX4_afterCourse_X4_men
set_option maxRecDepth 20000 in
theorem ggX4_afterCourse_X7_personOn : GoodIn wsX4_afterCourse wsX7_personOn := goodIn_r _ [18] (by decide +kernel) (by decide +kernel)
set_option maxRecDepth 20000 in
theorem gX4_afterCourse_X7_personOn : GoodIn wsX4_afterCourse (va_wsS RX4 72 yX7_personOn wsX7_personOn) := goodIn_app (goodIn_of _ (by decide +kernel)) ggX4_afterCourse_X7_personOn
set_option maxRecDepth 20000 in
theorem ggX4_afterCourse_X4_isWoman : GoodIn wsX4_afterCourse wsX4_isWoman := goodIn_r _ [22, 7, 30, 31, 32, 33, 34, 35, 36, 37, 38, 39] (by decide +kernel) (by decide +kernel)
set_option maxRecDepth 20000 in
theorem gX4_afterCourse_X4_isWoman : GoodIn wsX4_afterCourse (wsV RX4 69 RX4 yX4_isWoman wsX4_isWoman) := goodIn_app (goodIn_of _ (by decide +kernel)) ggX4_afterCourse_X4_isWoman
set_option maxRecDepth 20000 in
theorem ggX4_afterCourse_X4_chairOfMan : GoodIn wsX4_afterCourse wsX4_chairOfMan := goodIn_r _ [26, 1, 15, 16, 17, 18, 19, 20, 21, 5, 22, 7, 30, 31, 32, 33, 34, 35, 36, 37, 38, 39] (by decide +kernel) (by decide +kernel)
set_option maxRecDepth 20000 in
theorem gX4_afterCourse_X4_chairOfMan : GoodIn wsX4_afterCourse (wsV RX4 104 RX4 yX4_chairOfMan wsX4_chairOfMan) := goodIn_app (goodIn_of _ (by decide +kernel)) ggX4_afterCourse_X4_chairOfMan
set_option maxRecDepth 20000 in
theorem ggX4_afterCourse_X7_with : GoodIn wsX4_afterCourse wsX7_with := goodIn_r _ [29] (by decide +kernel) (by decide +kernel)
set_option maxRecDepth 20000 in
theorem gX4_afterCourse_X7_with : GoodIn wsX4_afterCourse (va_wsS RX4 107 yX7_with wsX7_with) := goodIn_app (goodIn_of _ (by decide +kernel)) ggX4_afterCourse_X7_with
theorem dX4_afterCourse_0 : decode cX4_afterCourse 0 = .ok (.aload_n 0, 1) := by decide +kernel
theorem dX4_afterCourse_1 : decode cX4_afterCourse 1 = .ok (.invokevirtual 101, 3) := by decide +kernel
theorem dX4_afterCourse_4 : decode cX4_afterCourse 4 = .ok (.istore_n 3, 1) := by decide +kernel
theorem dX4_afterCourse_5 : decode cX4_afterCourse 5 = .ok (.iload_n 3, 1) := by decide +kernel
theorem dX4_afterCourse_6 : decode cX4_afterCourse 6 = .ok (.iconst 1, 1) := by decide +kernel
theorem dX4_afterCourse_7 : decode cX4_afterCourse 7 = .ok (.if_icmp .ge 5, 3) := by decide +kernel
theorem dX4_afterCourse_10 : decode cX4_afterCourse 10 = .ok (.iload_n 1, 1) := by decide +kernel
theorem dX4_afterCourse_11 : decode cX4_afterCourse 11 = .ok (.ireturn, 1) := by decide +kernel
theorem dX4_afterCourse_12 : decode cX4_afterCourse 12 = .ok (.iload_n 1, 1) := by decide +kernel
theorem dX4_afterCourse_13 : decode cX4_afterCourse 13 = .ok (.istore 4, 2) := by decide +kernel
theorem dX4_afterCourse_15 : decode cX4_afterCourse 15 = .ok (.iconst 0, 1) := by decide +kernel
theorem dX4_afterCourse_16 : decode cX4_afterCourse 16 = .ok (.istore 5, 2) := by decide +kernel
theorem dX4_afterCourse_18 : decode cX4_afterCourse 18 = .ok (.iconst 0, 1) := by decide +kernel
theorem dX4_afterCourse_19 : decode cX4_afterCourse 19 = .ok (.istore 6, 2) := by decide +kernel
theorem dX4_afterCourse_21 : decode cX4_afterCourse 21 = .ok (.iload 6, 2) := by decide +kernel
theorem dX4_afterCourse_23 : decode cX4_afterCourse 23 = .ok (.aload_n 0, 1) := by decide +kernel
theorem dX4_afterCourse_24 : decode cX4_afterCourse 24 = .ok (.getfield 21, 3) := by decide +kernel
theorem dX4_afterCourse_27 : decode cX4_afterCourse 27 = .ok (.if_icmp .ge 56, 3) := by decide +kernel
theorem dX4_afterCourse_30 : decode cX4_afterCourse 30 = .ok (.iload 6, 2) := by decide +kernel
theorem dX4_afterCourse_32 : decode cX4_afterCourse 32 = .ok (.bipush 7, 2) := by decide +kernel
theorem dX4_afterCourse_34 : decode cX4_afterCourse 34 = .ok (.if_icmp .ge 49, 3) := by decide +kernel
theorem dX4_afterCourse_37 : decode cX4_afterCourse 37 = .ok (.iload_n 1, 1) := by decide +kernel
theorem dX4_afterCourse_38 : decode cX4_afterCourse 38 = .ok (.iload 6, 2) := by decide +kernel
theorem dX4_afterCourse_40 : decode cX4_afterCourse 40 = .ok (.invokestatic 72, 3) := by decide +kernel
theorem dX4_afterCourse_43 : decode cX4_afterCourse 43 = .ok (.istore 7, 2) := by decide +kernel
theorem dX4_afterCourse_45 : decode cX4_afterCourse 45 = .ok (.aload_n 0, 1) := by decide +kernel
theorem dX4_afterCourse_46 : decode cX4_afterCourse 46 = .ok (.iload 7, 2) := by decide +kernel
theorem dX4_afterCourse_48 : decode cX4_afterCourse 48 = .ok (.invokevirtual 69, 3) := by decide +kernel
theorem dX4_afterCourse_51 : decode cX4_afterCourse 51 = .ok (.ifCond .ne 26, 3) := by decide +kernel
theorem dX4_afterCourse_54 : decode cX4_afterCourse 54 = .ok (.iload 4, 2) := by decide +kernel
theorem dX4_afterCourse_56 : decode cX4_afterCourse 56 = .ok (.aload_n 0, 1) := by decide +kernel
theorem dX4_afterCourse_57 : decode cX4_afterCourse 57 = .ok (.iload_n 1, 1) := by decide +kernel
theorem dX4_afterCourse_58 : decode cX4_afterCourse 58 = .ok (.iload 5, 2) := by decide +kernel
theorem dX4_afterCourse_60 : decode cX4_afterCourse 60 = .ok (.iload_n 2, 1) := by decide +kernel
theorem dX4_afterCourse_61 : decode cX4_afterCourse 61 = .ok (.iadd, 1) := by decide +kernel
theorem dX4_afterCourse_62 : decode cX4_afterCourse 62 = .ok (.iload_n 3, 1) := by decide +kernel
theorem dX4_afterCourse_63 : decode cX4_afterCourse 63 = .ok (.irem, 1) := by decide +kernel
theorem dX4_afterCourse_64 : decode cX4_afterCourse 64 = .ok (.invokevirtual 104, 3) := by decide +kernel
theorem dX4_afterCourse_67 : decode cX4_afterCourse 67 = .ok (.iload 7, 2) := by decide +kernel
theorem dX4_afterCourse_69 : decode cX4_afterCourse 69 = .ok (.invokestatic 107, 3) := by decide +kernel
theorem dX4_afterCourse_72 : decode cX4_afterCourse 72 = .ok (.istore 4, 2) := by decide +kernel
theorem dX4_afterCourse_74 : decode cX4_afterCourse 74 = .ok (.iinc 5 1, 3) := by decide +kernel
theorem dX4_afterCourse_77 : decode cX4_afterCourse 77 = .ok (.iinc 6 1, 3) := by decide +kernel
theorem dX4_afterCourse_80 : decode cX4_afterCourse 80 = .ok (.goto (-59), 3) := by decide +kernel
theorem dX4_afterCourse_83 : decode cX4_afterCourse 83 = .ok (.iload 4, 2) := by decide +kernel
theorem dX4_afterCourse_85 : decode cX4_afterCourse 85 = .ok (.ireturn, 1) := by decide +kernel
set_option maxRecDepth 20000 in
theorem ggX4_chairOfMan_X7_personOn : GoodIn wsX4_chairOfMan wsX7_personOn := goodIn_r _ [5] (by decide +kernel) (by decide +kernel)
set_option maxRecDepth 20000 in
theorem gX4_chairOfMan_X7_personOn : GoodIn wsX4_chairOfMan (va_wsS RX4 72 yX7_personOn wsX7_personOn) := goodIn_app (goodIn_of _ (by decide +kernel)) ggX4_chairOfMan_X7_personOn
set_option maxRecDepth 20000 in
theorem ggX4_chairOfMan_X4_isWoman : GoodIn wsX4_chairOfMan wsX4_isWoman := goodIn_r _ [10, 11, 12, 13, 14, 15, 16, 17, 18, 19, 20, 21] (by decide +kernel) (by decide +kernel)
set_option maxRecDepth 20000 in
theorem gX4_chairOfMan_X4_isWoman : GoodIn wsX4_chairOfMan (wsV RX4 69 RX4 yX4_isWoman wsX4_isWoman) := goodIn_app (goodIn_of _ (by decide +kernel)) ggX4_chairOfMan_X4_isWoman
theorem dX4_chairOfMan_0 : decode cX4_chairOfMan 0 = .ok (.iconst 0, 1) := by decide +kernel
theorem dX4_chairOfMan_1 : decode cX4_chairOfMan 1 = .ok (.istore_n 3, 1) := by decide +kernel
theorem dX4_chairOfMan_2 : decode cX4_chairOfMan 2 = .ok (.iconst 0, 1) := by decide +kernel
theorem dX4_chairOfMan_3 : decode cX4_chairOfMan 3 = .ok (.istore 4, 2) := by decide +kernel
theorem dX4_chairOfMan_5 : decode cX4_chairOfMan 5 = .ok (.iload 4, 2) := by decide +kernel
theorem dX4_chairOfMan_7 : decode cX4_chairOfMan 7 = .ok (.aload_n 0, 1) := by decide +kernel
theorem dX4_chairOfMan_8 : decode cX4_chairOfMan 8 = .ok (.getfield 21, 3) := by decide +kernel
theorem dX4_chairOfMan_11 : decode cX4_chairOfMan 11 = .ok (.if_icmp .ge 40, 3) := by decide +kernel
theorem dX4_chairOfMan_14 : decode cX4_chairOfMan 14 = .ok (.iload 4, 2) := by decide +kernel
theorem dX4_chairOfMan_16 : decode cX4_chairOfMan 16 = .ok (.bipush 7, 2) := by decide +kernel
theorem dX4_chairOfMan_18 : decode cX4_chairOfMan 18 = .ok (.if_icmp .ge 33, 3) := by decide +kernel
theorem dX4_chairOfMan_21 : decode cX4_chairOfMan 21 = .ok (.aload_n 0, 1) := by decide +kernel
theorem dX4_chairOfMan_22 : decode cX4_chairOfMan 22 = .ok (.iload_n 1, 1) := by decide +kernel
theorem dX4_chairOfMan_23 : decode cX4_chairOfMan 23 = .ok (.iload 4, 2) := by decide +kernel
theorem dX4_chairOfMan_25 : decode cX4_chairOfMan 25 = .ok (.invokestatic 72, 3) := by decide +kernel
theorem dX4_chairOfMan_28 : decode cX4_chairOfMan 28 = .ok (.invokevirtual 69, 3) := by decide +kernel
theorem dX4_chairOfMan_31 : decode cX4_chairOfMan 31 = .ok (.ifCond .ne 14, 3) := by decide +kernel
theorem dX4_chairOfMan_34 : decode cX4_chairOfMan 34 = .ok (.iload_n 3, 1) := by decide +kernel
theorem dX4_chairOfMan_35 : decode cX4_chairOfMan 35 = .ok (.iload_n 2, 1) := by decide +kernel
theorem dX4_chairOfMan_36 : decode cX4_chairOfMan 36 = .ok (.if_icmp .ne 6, 3) := by decide +kernel
theorem dX4_chairOfMan_39 : decode cX4_chairOfMan 39 = .ok (.iload 4, 2) := by decide +kernel
theorem dX4_chairOfMan_41 : decode cX4_chairOfMan 41 = .ok (.ireturn, 1) := by decide +kernel
theorem dX4_chairOfMan_42 : decode cX4_chairOfMan 42 = .ok (.iinc 3 1, 3) := by decide +kernel
theorem dX4_chairOfMan_45 : decode cX4_chairOfMan 45 = .ok (.iinc 4 1, 3) := by decide +kernel
theorem dX4_chairOfMan_48 : decode cX4_chairOfMan 48 = .ok (.goto (-43), 3) := by decide +kernel
theorem dX4_chairOfMan_51 : decode cX4_chairOfMan 51 = .ok (.iconst 0, 1) := by decide +kernel
theorem dX4_chairOfMan_52 : decode cX4_chairOfMan 52 = .ok (.ireturn, 1) := by decide +kernel
theorem dX5_init_0 : decode cX5_init 0 = .ok (.aload_n 0, 1) := by decide +kernel
theorem dX5_init_1 : decode cX5_init 1 = .ok (.invokespecial 3, 3) := by decide +kernel
theorem dX5_init_4 : decode cX5_init 4 = .ok (.aload_n 0, 1) := by decide +kernel
theorem dX5_init_5 : decode cX5_init 5 = .ok (.iconst 0, 1) := by decide +kernel
theorem dX5_init_6 : decode cX5_init 6 = .ok (.putfield 11, 3) := by decide +kernel
theorem dX5_init_9 : decode cX5_init 9 = .ok (.aload_n 0, 1) := by decide +kernel
theorem dX5_init_10 : decode cX5_init 10 = .ok (.iconst 0, 1) := by decide +kernel
theorem dX5_init_11 : decode cX5_init 11 = .ok (.putfield 15, 3) := by decide +kernel
theorem dX5_init_14 : decode cX5_init 14 = .ok (.aload_n 0, 1) := by decide +kernel
theorem dX5_init_15 : decode cX5_init 15 = .ok (.iconst 0, 1) := by decide +kernel
theorem dX5_init_16 : decode cX5_init 16 = .ok (.putfield 18, 3) := by decide +kernel
theorem dX5_init_19 : decode cX5_init 19 = .ok (.aload_n 0, 1) := by decide +kernel
theorem dX5_init_20 : decode cX5_init 20 = .ok (.iconst 0, 1) := by decide +kernel
theorem dX5_init_21 : decode cX5_init 21 = .ok (.putfield 21, 3) := by decide +kernel
theorem dX5_init_24 : decode cX5_init 24 = .ok (.return_, 1) := by decide +kernel
set_option maxRecDepth 20000 in
theorem ggX5_faultOf_X4_clear : GoodIn wsX5_faultOf wsX4_clear := goodIn_r _ [8, 9, 10, 11, 12, 13, 14, 15, 16, 17, 18, 96, 97, 98, 99, 100, 101, 102, 103, 104, 105] (by decide +kernel) (by decide +kernel)
set_option maxRecDepth 20000 in
theorem gX5_faultOf_X4_clear : GoodIn wsX5_faultOf (wsV RX5 24 RX4 yX4_clear wsX4_clear) := goodIn_app (goodIn_of _ (by decide +kernel)) ggX5_faultOf_X4_clear
set_option maxRecDepth 20000 in
theorem ggX5_faultOf_X5_accepts : GoodIn wsX5_faultOf wsX5_accepts := goodIn_r _ [23, 1, 24, 25, 26, 27, 28, 29, 30, 22, 31, 32, 33, 34, 35, 36, 7, 37, 14, 12, 38, 39, 40, 41, 42, 43, 44, 45, 13, 46, 47, 48, 49, 50, 51, 52, 53, 54, 55, 56, 57, 58, 59, 60, 61, 62, 63, 64, 65, 66, 67, 68, 69, 70, 71, 72, 73, 74, 75, 76, 77, 90, 91, 92, 93, 96, 97, 98, 99, 100, 101, 102, 103, 104, 105] (by decide +kernel) (by decide +kernel)
set_option maxRecDepth 20000 in
theorem gX5_faultOf_X5_accepts : GoodIn wsX5_faultOf (wsV RX5 38 RX5 yX5_accepts wsX5_accepts) := goodIn_app (goodIn_of _ (by decide +kernel)) ggX5_faultOf_X5_accepts
set_option maxRecDepth 20000 in
theorem ggX5_faultOf_X4_settleWhoIsBarred : GoodIn wsX5_faultOf wsX4_settleWhoIsBarred := goodIn_r _ [81, 15, 17, 11, 14, 10, 82, 83, 84, 7, 85, 12, 86, 87, 88, 89, 13, 38, 39, 40, 41, 96, 97, 98, 99, 100, 101, 102, 103, 104, 105] (by decide +kernel) (by decide +kernel)
set_option maxRecDepth 20000 in
theorem gX5_faultOf_X4_settleWhoIsBarred : GoodIn wsX5_faultOf (wsV RX5 42 RX4 yX4_settleWhoIsBarred wsX4_settleWhoIsBarred) := goodIn_app (goodIn_of _ (by decide +kernel)) ggX5_faultOf_X4_settleWhoIsBarred
theorem dX5_faultOf_0 : decode cX5_faultOf 0 = .ok (.aload_n 2, 1) := by decide +kernel
theorem dX5_faultOf_1 : decode cX5_faultOf 1 = .ok (.invokevirtual 24, 3) := by decide +kernel
theorem dX5_faultOf_4 : decode cX5_faultOf 4 = .ok (.aload_n 0, 1) := by decide +kernel
theorem dX5_faultOf_5 : decode cX5_faultOf 5 = .ok (.iconst 0, 1) := by decide +kernel
theorem dX5_faultOf_6 : decode cX5_faultOf 6 = .ok (.putfield 11, 3) := by decide +kernel
theorem dX5_faultOf_9 : decode cX5_faultOf 9 = .ok (.iconst 0, 1) := by decide +kernel
theorem dX5_faultOf_10 : decode cX5_faultOf 10 = .ok (.istore_n 3, 1) := by decide +kernel
theorem dX5_faultOf_11 : decode cX5_faultOf 11 = .ok (.iload_n 3, 1) := by decide +kernel
theorem dX5_faultOf_12 : decode cX5_faultOf 12 = .ok (.aload_n 1, 1) := by decide +kernel
theorem dX5_faultOf_13 : decode cX5_faultOf 13 = .ok (.getfield 29, 3) := by decide +kernel
theorem dX5_faultOf_16 : decode cX5_faultOf 16 = .ok (.if_icmp .ge 34, 3) := by decide +kernel
theorem dX5_faultOf_19 : decode cX5_faultOf 19 = .ok (.iload_n 3, 1) := by decide +kernel
theorem dX5_faultOf_20 : decode cX5_faultOf 20 = .ok (.aload_n 1, 1) := by decide +kernel
theorem dX5_faultOf_21 : decode cX5_faultOf 21 = .ok (.getfield 34, 3) := by decide +kernel
theorem dX5_faultOf_24 : decode cX5_faultOf 24 = .ok (.arraylength, 1) := by decide +kernel
theorem dX5_faultOf_25 : decode cX5_faultOf 25 = .ok (.if_icmp .ge 25, 3) := by decide +kernel
theorem dX5_faultOf_28 : decode cX5_faultOf 28 = .ok (.aload_n 0, 1) := by decide +kernel
theorem dX5_faultOf_29 : decode cX5_faultOf 29 = .ok (.aload_n 2, 1) := by decide +kernel
theorem dX5_faultOf_30 : decode cX5_faultOf 30 = .ok (.aload_n 1, 1) := by decide +kernel
theorem dX5_faultOf_31 : decode cX5_faultOf 31 = .ok (.getfield 34, 3) := by decide +kernel
theorem dX5_faultOf_34 : decode cX5_faultOf 34 = .ok (.iload_n 3, 1) := by decide +kernel
theorem dX5_faultOf_35 : decode cX5_faultOf 35 = .ok (.iaload, 1) := by decide +kernel
theorem dX5_faultOf_36 : decode cX5_faultOf 36 = .ok (.invokevirtual 38, 3) := by decide +kernel
theorem dX5_faultOf_39 : decode cX5_faultOf 39 = .ok (.ifCond .ne 5, 3) := by decide +kernel
theorem dX5_faultOf_42 : decode cX5_faultOf 42 = .ok (.iload_n 3, 1) := by decide +kernel
theorem dX5_faultOf_43 : decode cX5_faultOf 43 = .ok (.ireturn, 1) := by decide +kernel
theorem dX5_faultOf_44 : decode cX5_faultOf 44 = .ok (.iinc 3 1, 3) := by decide +kernel
theorem dX5_faultOf_47 : decode cX5_faultOf 47 = .ok (.goto (-36), 3) := by decide +kernel
theorem dX5_faultOf_50 : decode cX5_faultOf 50 = .ok (.aload_n 0, 1) := by decide +kernel
theorem dX5_faultOf_51 : decode cX5_faultOf 51 = .ok (.getfield 11, 3) := by decide +kernel
theorem dX5_faultOf_54 : decode cX5_faultOf 54 = .ok (.iconst 4, 1) := by decide +kernel
theorem dX5_faultOf_55 : decode cX5_faultOf 55 = .ok (.if_icmp .eq 8, 3) := by decide +kernel
theorem dX5_faultOf_58 : decode cX5_faultOf 58 = .ok (.aload_n 1, 1) := by decide +kernel
theorem dX5_faultOf_59 : decode cX5_faultOf 59 = .ok (.getfield 29, 3) := by decide +kernel
theorem dX5_faultOf_62 : decode cX5_faultOf 62 = .ok (.ireturn, 1) := by decide +kernel
theorem dX5_faultOf_63 : decode cX5_faultOf 63 = .ok (.aload_n 2, 1) := by decide +kernel
theorem dX5_faultOf_64 : decode cX5_faultOf 64 = .ok (.invokevirtual 42, 3) := by decide +kernel
theorem dX5_faultOf_67 : decode cX5_faultOf 67 = .ok (.bipush (-9), 2) := by decide +kernel
theorem dX5_faultOf_69 : decode cX5_faultOf 69 = .ok (.ireturn, 1) := by decide +kernel
set_option maxRecDepth 20000 in
theorem ggX5_accepts_X5_acceptsPart : GoodIn wsX5_accepts wsX5_acceptsPart := goodIn_r _ [10, 11, 12, 1, 13, 14, 15, 16, 17, 18, 19, 20, 21, 22, 23, 24, 25, 26, 27, 28, 29, 30, 31, 9, 32, 33, 34, 35, 36, 37, 38, 39, 40, 41, 42, 43, 44, 45, 61, 62, 63, 64, 65, 66, 67, 68, 69, 70, 71, 72, 73, 74] (by decide +kernel) (by decide +kernel)
set_option maxRecDepth 20000 in
theorem gX5_accepts_X5_acceptsPart : GoodIn wsX5_accepts (wsV RX5 55 RX5 yX5_acceptsPart wsX5_acceptsPart) := goodIn_app (goodIn_of _ (by decide +kernel)) ggX5_accepts_X5_acceptsPart
set_option maxRecDepth 20000 in
theorem ggX5_accepts_X4_admit : GoodIn wsX5_accepts wsX4_admit := goodIn_r _ [27, 28, 19, 65, 66, 67, 68, 69, 70, 71, 72, 73, 74] (by decide +kernel) (by decide +kernel)
set_option maxRecDepth 20000 in
theorem gX5_accepts_X4_admit : GoodIn wsX5_accepts (wsV RX5 58 RX4 yX4_admit wsX4_admit) := goodIn_app (goodIn_of _ (by decide +kernel)) ggX5_accepts_X4_admit
set_option maxRecDepth 20000 in
theorem ggX5_accepts_X4_hasPerson : GoodIn wsX5_accepts wsX4_hasPerson := goodIn_r _ [50, 19, 65, 66, 67, 68, 69, 70, 71, 72, 73, 74] (by decide +kernel) (by decide +kernel)
set_option maxRecDepth 20000 in
theorem gX5_accepts_X4_hasPerson : GoodIn wsX5_accepts (wsV RX5 62 RX4 yX4_hasPerson wsX4_hasPerson) := goodIn_app (goodIn_of _ (by decide +kernel)) ggX5_accepts_X4_hasPerson
set_option maxRecDepth 20000 in
theorem ggX5_accepts_X5_freeBeside : GoodIn wsX5_accepts wsX5_freeBeside := goodIn_r _ [36, 12, 11, 37, 38, 39, 40, 41, 22, 42, 43, 44, 45, 65, 66, 67, 68, 69, 70, 71, 72, 73, 74, 61, 62, 63, 64] (by decide +kernel) (by decide +kernel)
set_option maxRecDepth 20000 in
theorem gX5_accepts_X5_freeBeside : GoodIn wsX5_accepts (wsV RX5 66 RX5 yX5_freeBeside wsX5_freeBeside) := goodIn_app (goodIn_of _ (by decide +kernel)) ggX5_accepts_X5_freeBeside
set_option maxRecDepth 20000 in
theorem ggX5_accepts_X5_acceptsSecond : GoodIn wsX5_accepts wsX5_acceptsSecond := goodIn_r _ [54, 5, 55, 1, 11, 37, 38, 47, 48, 49, 16, 50, 19, 33, 34, 35, 9, 36, 12, 39, 40, 41, 22, 42, 43, 44, 45, 56, 21, 23, 61, 62, 63, 64, 65, 66, 67, 68, 69, 70, 71, 72, 73, 74] (by decide +kernel) (by decide +kernel)
set_option maxRecDepth 20000 in
theorem gX5_accepts_X5_acceptsSecond : GoodIn wsX5_accepts (wsV RX5 70 RX5 yX5_acceptsSecond wsX5_acceptsSecond) := goodIn_app (goodIn_of _ (by decide +kernel)) ggX5_accepts_X5_acceptsSecond
set_option maxRecDepth 20000 in
theorem ggX5_accepts_X5_acceptsValue : GoodIn wsX5_accepts wsX5_acceptsValue := goodIn_r _ [60, 39, 5, 55, 1, 43, 44, 22, 45, 65, 66, 67, 68, 69, 70, 71, 72, 73, 74, 61, 62, 63, 64] (by decide +kernel) (by decide +kernel)
set_option maxRecDepth 20000 in
theorem gX5_accepts_X5_acceptsValue : GoodIn wsX5_accepts (wsV RX5 73 RX5 yX5_acceptsValue wsX5_acceptsValue) := goodIn_app (goodIn_of _ (by decide +kernel)) ggX5_accepts_X5_acceptsValue
theorem dX5_accepts_0 : decode cX5_accepts 0 = .ok (.aload_n 0, 1) := by decide +kernel
theorem dX5_accepts_1 : decode cX5_accepts 1 = .ok (.getfield 11, 3) := by decide +kernel
theorem dX5_accepts_4 : decode cX5_accepts 4 = .ok (.tableswitch 277 0 7 #[48, 65, 103, 141, 179, 186, 224, 267], 48) := by decide +kernel
theorem dX5_accepts_52 : decode cX5_accepts 52 = .ok (.aload_n 0, 1) := by decide +kernel
theorem dX5_accepts_53 : decode cX5_accepts 53 = .ok (.iconst 1, 1) := by decide +kernel
theorem dX5_accepts_54 : decode cX5_accepts 54 = .ok (.putfield 11, 3) := by decide +kernel
theorem dX5_accepts_57 : decode cX5_accepts 57 = .ok (.iload_n 2, 1) := by decide +kernel
theorem dX5_accepts_58 : decode cX5_accepts 58 = .ok (.bipush 77, 2) := by decide +kernel
theorem dX5_accepts_60 : decode cX5_accepts 60 = .ok (.if_icmp .ne 7, 3) := by decide +kernel
theorem dX5_accepts_63 : decode cX5_accepts 63 = .ok (.iconst 1, 1) := by decide +kernel
theorem dX5_accepts_64 : decode cX5_accepts 64 = .ok (.goto 4, 3) := by decide +kernel
theorem dX5_accepts_67 : decode cX5_accepts 67 = .ok (.iconst 0, 1) := by decide +kernel
theorem dX5_accepts_68 : decode cX5_accepts 68 = .ok (.ireturn, 1) := by decide +kernel
theorem dX5_accepts_69 : decode cX5_accepts 69 = .ok (.aload_n 0, 1) := by decide +kernel
theorem dX5_accepts_70 : decode cX5_accepts 70 = .ok (.iconst 2, 1) := by decide +kernel
theorem dX5_accepts_71 : decode cX5_accepts 71 = .ok (.putfield 11, 3) := by decide +kernel
theorem dX5_accepts_74 : decode cX5_accepts 74 = .ok (.aload_n 1, 1) := by decide +kernel
theorem dX5_accepts_75 : decode cX5_accepts 75 = .ok (.iload_n 2, 1) := by decide +kernel
theorem dX5_accepts_76 : decode cX5_accepts 76 = .ok (.bipush 114, 2) := by decide +kernel
theorem dX5_accepts_78 : decode cX5_accepts 78 = .ok (.if_icmp .ne 7, 3) := by decide +kernel
theorem dX5_accepts_81 : decode cX5_accepts 81 = .ok (.iconst 1, 1) := by decide +kernel
theorem dX5_accepts_82 : decode cX5_accepts 82 = .ok (.goto 4, 3) := by decide +kernel
theorem dX5_accepts_85 : decode cX5_accepts 85 = .ok (.iconst 0, 1) := by decide +kernel
theorem dX5_accepts_86 : decode cX5_accepts 86 = .ok (.putfield 45, 3) := by decide +kernel
theorem dX5_accepts_89 : decode cX5_accepts 89 = .ok (.iload_n 2, 1) := by decide +kernel
theorem dX5_accepts_90 : decode cX5_accepts 90 = .ok (.bipush 114, 2) := by decide +kernel
theorem dX5_accepts_92 : decode cX5_accepts 92 = .ok (.if_icmp .eq 9, 3) := by decide +kernel
theorem dX5_accepts_95 : decode cX5_accepts 95 = .ok (.iload_n 2, 1) := by decide +kernel
theorem dX5_accepts_96 : decode cX5_accepts 96 = .ok (.bipush 108, 2) := by decide +kernel
theorem dX5_accepts_98 : decode cX5_accepts 98 = .ok (.if_icmp .ne 7, 3) := by decide +kernel
theorem dX5_accepts_101 : decode cX5_accepts 101 = .ok (.iconst 1, 1) := by decide +kernel
theorem dX5_accepts_102 : decode cX5_accepts 102 = .ok (.goto 4, 3) := by decide +kernel
theorem dX5_accepts_105 : decode cX5_accepts 105 = .ok (.iconst 0, 1) := by decide +kernel
theorem dX5_accepts_106 : decode cX5_accepts 106 = .ok (.ireturn, 1) := by decide +kernel
theorem dX5_accepts_107 : decode cX5_accepts 107 = .ok (.aload_n 0, 1) := by decide +kernel
theorem dX5_accepts_108 : decode cX5_accepts 108 = .ok (.iconst 3, 1) := by decide +kernel
theorem dX5_accepts_109 : decode cX5_accepts 109 = .ok (.putfield 11, 3) := by decide +kernel
theorem dX5_accepts_112 : decode cX5_accepts 112 = .ok (.aload_n 1, 1) := by decide +kernel
theorem dX5_accepts_113 : decode cX5_accepts 113 = .ok (.iload_n 2, 1) := by decide +kernel
theorem dX5_accepts_114 : decode cX5_accepts 114 = .ok (.bipush 49, 2) := by decide +kernel
theorem dX5_accepts_116 : decode cX5_accepts 116 = .ok (.if_icmp .ne 7, 3) := by decide +kernel
theorem dX5_accepts_119 : decode cX5_accepts 119 = .ok (.iconst 1, 1) := by decide +kernel
theorem dX5_accepts_120 : decode cX5_accepts 120 = .ok (.goto 4, 3) := by decide +kernel
theorem dX5_accepts_123 : decode cX5_accepts 123 = .ok (.iconst 0, 1) := by decide +kernel
theorem dX5_accepts_124 : decode cX5_accepts 124 = .ok (.putfield 49, 3) := by decide +kernel
theorem dX5_accepts_127 : decode cX5_accepts 127 = .ok (.iload_n 2, 1) := by decide +kernel
theorem dX5_accepts_128 : decode cX5_accepts 128 = .ok (.bipush 48, 2) := by decide +kernel
theorem dX5_accepts_130 : decode cX5_accepts 130 = .ok (.if_icmp .eq 9, 3) := by decide +kernel
theorem dX5_accepts_133 : decode cX5_accepts 133 = .ok (.iload_n 2, 1) := by decide +kernel
theorem dX5_accepts_134 : decode cX5_accepts 134 = .ok (.bipush 49, 2) := by decide +kernel
theorem dX5_accepts_136 : decode cX5_accepts 136 = .ok (.if_icmp .ne 7, 3) := by decide +kernel
theorem dX5_accepts_139 : decode cX5_accepts 139 = .ok (.iconst 1, 1) := by decide +kernel
theorem dX5_accepts_140 : decode cX5_accepts 140 = .ok (.goto 4, 3) := by decide +kernel
theorem dX5_accepts_143 : decode cX5_accepts 143 = .ok (.iconst 0, 1) := by decide +kernel
theorem dX5_accepts_144 : decode cX5_accepts 144 = .ok (.ireturn, 1) := by decide +kernel
theorem dX5_accepts_145 : decode cX5_accepts 145 = .ok (.aload_n 0, 1) := by decide +kernel
theorem dX5_accepts_146 : decode cX5_accepts 146 = .ok (.iconst 4, 1) := by decide +kernel
theorem dX5_accepts_147 : decode cX5_accepts 147 = .ok (.putfield 11, 3) := by decide +kernel
theorem dX5_accepts_150 : decode cX5_accepts 150 = .ok (.aload_n 1, 1) := by decide +kernel
theorem dX5_accepts_151 : decode cX5_accepts 151 = .ok (.iload_n 2, 1) := by decide +kernel
theorem dX5_accepts_152 : decode cX5_accepts 152 = .ok (.bipush 49, 2) := by decide +kernel
theorem dX5_accepts_154 : decode cX5_accepts 154 = .ok (.if_icmp .ne 7, 3) := by decide +kernel
theorem dX5_accepts_157 : decode cX5_accepts 157 = .ok (.iconst 1, 1) := by decide +kernel
theorem dX5_accepts_158 : decode cX5_accepts 158 = .ok (.goto 4, 3) := by decide +kernel
theorem dX5_accepts_161 : decode cX5_accepts 161 = .ok (.iconst 0, 1) := by decide +kernel
theorem dX5_accepts_162 : decode cX5_accepts 162 = .ok (.putfield 52, 3) := by decide +kernel
theorem dX5_accepts_165 : decode cX5_accepts 165 = .ok (.iload_n 2, 1) := by decide +kernel
theorem dX5_accepts_166 : decode cX5_accepts 166 = .ok (.bipush 48, 2) := by decide +kernel
theorem dX5_accepts_168 : decode cX5_accepts 168 = .ok (.if_icmp .eq 9, 3) := by decide +kernel
theorem dX5_accepts_171 : decode cX5_accepts 171 = .ok (.iload_n 2, 1) := by decide +kernel
theorem dX5_accepts_172 : decode cX5_accepts 172 = .ok (.bipush 49, 2) := by decide +kernel
theorem dX5_accepts_174 : decode cX5_accepts 174 = .ok (.if_icmp .ne 7, 3) := by decide +kernel
theorem dX5_accepts_177 : decode cX5_accepts 177 = .ok (.iconst 1, 1) := by decide +kernel
theorem dX5_accepts_178 : decode cX5_accepts 178 = .ok (.goto 4, 3) := by decide +kernel
theorem dX5_accepts_181 : decode cX5_accepts 181 = .ok (.iconst 0, 1) := by decide +kernel
theorem dX5_accepts_182 : decode cX5_accepts 182 = .ok (.ireturn, 1) := by decide +kernel
theorem dX5_accepts_183 : decode cX5_accepts 183 = .ok (.aload_n 0, 1) := by decide +kernel
theorem dX5_accepts_184 : decode cX5_accepts 184 = .ok (.aload_n 1, 1) := by decide +kernel
theorem dX5_accepts_185 : decode cX5_accepts 185 = .ok (.iload_n 2, 1) := by decide +kernel
theorem dX5_accepts_186 : decode cX5_accepts 186 = .ok (.invokevirtual 55, 3) := by decide +kernel
theorem dX5_accepts_189 : decode cX5_accepts 189 = .ok (.ireturn, 1) := by decide +kernel
theorem dX5_accepts_190 : decode cX5_accepts 190 = .ok (.aload_n 0, 1) := by decide +kernel
theorem dX5_accepts_191 : decode cX5_accepts 191 = .ok (.iconst 4, 1) := by decide +kernel
theorem dX5_accepts_192 : decode cX5_accepts 192 = .ok (.putfield 11, 3) := by decide +kernel
theorem dX5_accepts_195 : decode cX5_accepts 195 = .ok (.aload_n 1, 1) := by decide +kernel
theorem dX5_accepts_196 : decode cX5_accepts 196 = .ok (.iload_n 2, 1) := by decide +kernel
theorem dX5_accepts_197 : decode cX5_accepts 197 = .ok (.bipush 119, 2) := by decide +kernel
theorem dX5_accepts_199 : decode cX5_accepts 199 = .ok (.if_icmp .ne 7, 3) := by decide +kernel
theorem dX5_accepts_202 : decode cX5_accepts 202 = .ok (.iconst 1, 1) := by decide +kernel
theorem dX5_accepts_203 : decode cX5_accepts 203 = .ok (.goto 4, 3) := by decide +kernel
theorem dX5_accepts_206 : decode cX5_accepts 206 = .ok (.iconst 0, 1) := by decide +kernel
theorem dX5_accepts_207 : decode cX5_accepts 207 = .ok (.invokevirtual 58, 3) := by decide +kernel
theorem dX5_accepts_210 : decode cX5_accepts 210 = .ok (.iload_n 2, 1) := by decide +kernel
theorem dX5_accepts_211 : decode cX5_accepts 211 = .ok (.bipush 119, 2) := by decide +kernel
theorem dX5_accepts_213 : decode cX5_accepts 213 = .ok (.if_icmp .eq 9, 3) := by decide +kernel
theorem dX5_accepts_216 : decode cX5_accepts 216 = .ok (.iload_n 2, 1) := by decide +kernel
theorem dX5_accepts_217 : decode cX5_accepts 217 = .ok (.bipush 109, 2) := by decide +kernel
theorem dX5_accepts_219 : decode cX5_accepts 219 = .ok (.if_icmp .ne 7, 3) := by decide +kernel
theorem dX5_accepts_222 : decode cX5_accepts 222 = .ok (.iconst 1, 1) := by decide +kernel
theorem dX5_accepts_223 : decode cX5_accepts 223 = .ok (.goto 4, 3) := by decide +kernel
theorem dX5_accepts_226 : decode cX5_accepts 226 = .ok (.iconst 0, 1) := by decide +kernel
theorem dX5_accepts_227 : decode cX5_accepts 227 = .ok (.ireturn, 1) := by decide +kernel
theorem dX5_accepts_228 : decode cX5_accepts 228 = .ok (.aload_n 0, 1) := by decide +kernel
theorem dX5_accepts_229 : decode cX5_accepts 229 = .ok (.bipush 7, 2) := by decide +kernel
theorem dX5_accepts_231 : decode cX5_accepts 231 = .ok (.putfield 11, 3) := by decide +kernel
theorem dX5_accepts_234 : decode cX5_accepts 234 = .ok (.aload_n 0, 1) := by decide +kernel
theorem dX5_accepts_235 : decode cX5_accepts 235 = .ok (.iload_n 2, 1) := by decide +kernel
theorem dX5_accepts_236 : decode cX5_accepts 236 = .ok (.bipush 48, 2) := by decide +kernel
theorem dX5_accepts_238 : decode cX5_accepts 238 = .ok (.isub, 1) := by decide +kernel
theorem dX5_accepts_239 : decode cX5_accepts 239 = .ok (.putfield 18, 3) := by decide +kernel
theorem dX5_accepts_242 : decode cX5_accepts 242 = .ok (.aload_n 1, 1) := by decide +kernel
theorem dX5_accepts_243 : decode cX5_accepts 243 = .ok (.aload_n 0, 1) := by decide +kernel
theorem dX5_accepts_244 : decode cX5_accepts 244 = .ok (.getfield 18, 3) := by decide +kernel
theorem dX5_accepts_247 : decode cX5_accepts 247 = .ok (.invokevirtual 62, 3) := by decide +kernel
theorem dX5_accepts_250 : decode cX5_accepts 250 = .ok (.ifCond .eq 19, 3) := by decide +kernel
theorem dX5_accepts_253 : decode cX5_accepts 253 = .ok (.aload_n 0, 1) := by decide +kernel
theorem dX5_accepts_254 : decode cX5_accepts 254 = .ok (.aload_n 1, 1) := by decide +kernel
theorem dX5_accepts_255 : decode cX5_accepts 255 = .ok (.aload_n 0, 1) := by decide +kernel
theorem dX5_accepts_256 : decode cX5_accepts 256 = .ok (.getfield 18, 3) := by decide +kernel
theorem dX5_accepts_259 : decode cX5_accepts 259 = .ok (.invokevirtual 66, 3) := by decide +kernel
theorem dX5_accepts_262 : decode cX5_accepts 262 = .ok (.ifCond .eq 7, 3) := by decide +kernel
theorem dX5_accepts_265 : decode cX5_accepts 265 = .ok (.iconst 1, 1) := by decide +kernel
theorem dX5_accepts_266 : decode cX5_accepts 266 = .ok (.goto 4, 3) := by decide +kernel
theorem dX5_accepts_269 : decode cX5_accepts 269 = .ok (.iconst 0, 1) := by decide +kernel
theorem dX5_accepts_270 : decode cX5_accepts 270 = .ok (.ireturn, 1) := by decide +kernel
theorem dX5_accepts_271 : decode cX5_accepts 271 = .ok (.aload_n 0, 1) := by decide +kernel
theorem dX5_accepts_272 : decode cX5_accepts 272 = .ok (.aload_n 1, 1) := by decide +kernel
theorem dX5_accepts_273 : decode cX5_accepts 273 = .ok (.iload_n 2, 1) := by decide +kernel
theorem dX5_accepts_274 : decode cX5_accepts 274 = .ok (.bipush 48, 2) := by decide +kernel
theorem dX5_accepts_276 : decode cX5_accepts 276 = .ok (.isub, 1) := by decide +kernel
theorem dX5_accepts_277 : decode cX5_accepts 277 = .ok (.invokevirtual 70, 3) := by decide +kernel
theorem dX5_accepts_280 : decode cX5_accepts 280 = .ok (.ireturn, 1) := by decide +kernel
theorem dX5_accepts_281 : decode cX5_accepts 281 = .ok (.aload_n 0, 1) := by decide +kernel
theorem dX5_accepts_282 : decode cX5_accepts 282 = .ok (.aload_n 1, 1) := by decide +kernel
theorem dX5_accepts_283 : decode cX5_accepts 283 = .ok (.iload_n 2, 1) := by decide +kernel
theorem dX5_accepts_284 : decode cX5_accepts 284 = .ok (.bipush 48, 2) := by decide +kernel
theorem dX5_accepts_286 : decode cX5_accepts 286 = .ok (.isub, 1) := by decide +kernel
theorem dX5_accepts_287 : decode cX5_accepts 287 = .ok (.invokevirtual 73, 3) := by decide +kernel
theorem dX5_accepts_290 : decode cX5_accepts 290 = .ok (.ireturn, 1) := by decide +kernel
set_option maxRecDepth 20000 in
theorem ggX5_acceptsPart_X4_admitCouple : GoodIn wsX5_acceptsPart wsX4_admitCouple := goodIn_r _ [8, 9, 10, 11, 12, 13, 14, 15, 16, 17, 7, 18, 19, 42, 43, 44, 45, 46, 47, 48, 49, 50, 51] (by decide +kernel) (by decide +kernel)
set_option maxRecDepth 20000 in
theorem gX5_acceptsPart_X4_admitCouple : GoodIn wsX5_acceptsPart (wsV RX5 79 RX4 yX4_admitCouple wsX4_admitCouple) := goodIn_app (goodIn_of _ (by decide +kernel)) ggX5_acceptsPart_X4_admitCouple
set_option maxRecDepth 20000 in
theorem ggX5_acceptsPart_X5_someAreFree : GoodIn wsX5_acceptsPart wsX5_someAreFree := goodIn_r _ [24, 2, 25, 26, 27, 23, 28, 1, 29, 30, 31, 32, 33, 13, 34, 35, 36, 37, 42, 43, 44, 45, 46, 47, 48, 49, 50, 51, 38, 39, 40, 41] (by decide +kernel) (by decide +kernel)
set_option maxRecDepth 20000 in
theorem gX5_acceptsPart_X5_someAreFree : GoodIn wsX5_acceptsPart (wsV RX5 82 RX5 yX5_someAreFree wsX5_someAreFree) := goodIn_app (goodIn_of _ (by decide +kernel)) ggX5_acceptsPart_X5_someAreFree
theorem dX5_acceptsPart_0 : decode cX5_acceptsPart 0 = .ok (.aload_n 0, 1) := by decide +kernel
theorem dX5_acceptsPart_1 : decode cX5_acceptsPart 1 = .ok (.iload_n 2, 1) := by decide +kernel
theorem dX5_acceptsPart_2 : decode cX5_acceptsPart 2 = .ok (.putfield 15, 3) := by decide +kernel
theorem dX5_acceptsPart_5 : decode cX5_acceptsPart 5 = .ok (.iload_n 2, 1) := by decide +kernel
theorem dX5_acceptsPart_6 : decode cX5_acceptsPart 6 = .ok (.lookupswitch 101 #[(67, 50), (81, 89), (83, 69), (84, 89), (87, 89)], 50) := by decide +kernel
theorem dX5_acceptsPart_56 : decode cX5_acceptsPart 56 = .ok (.aload_n 1, 1) := by decide +kernel
theorem dX5_acceptsPart_57 : decode cX5_acceptsPart 57 = .ok (.getfield 76, 3) := by decide +kernel
theorem dX5_acceptsPart_60 : decode cX5_acceptsPart 60 = .ok (.iconst 2, 1) := by decide +kernel
theorem dX5_acceptsPart_61 : decode cX5_acceptsPart 61 = .ok (.iadd, 1) := by decide +kernel
theorem dX5_acceptsPart_62 : decode cX5_acceptsPart 62 = .ok (.bipush 7, 2) := by decide +kernel
theorem dX5_acceptsPart_64 : decode cX5_acceptsPart 64 = .ok (.if_icmp .le 5, 3) := by decide +kernel
theorem dX5_acceptsPart_67 : decode cX5_acceptsPart 67 = .ok (.iconst 0, 1) := by decide +kernel
theorem dX5_acceptsPart_68 : decode cX5_acceptsPart 68 = .ok (.ireturn, 1) := by decide +kernel
theorem dX5_acceptsPart_69 : decode cX5_acceptsPart 69 = .ok (.aload_n 1, 1) := by decide +kernel
theorem dX5_acceptsPart_70 : decode cX5_acceptsPart 70 = .ok (.invokevirtual 79, 3) := by decide +kernel
theorem dX5_acceptsPart_73 : decode cX5_acceptsPart 73 = .ok (.iconst 1, 1) := by decide +kernel
theorem dX5_acceptsPart_74 : decode cX5_acceptsPart 74 = .ok (.ireturn, 1) := by decide +kernel
theorem dX5_acceptsPart_75 : decode cX5_acceptsPart 75 = .ok (.aload_n 0, 1) := by decide +kernel
theorem dX5_acceptsPart_76 : decode cX5_acceptsPart 76 = .ok (.iconst 5, 1) := by decide +kernel
theorem dX5_acceptsPart_77 : decode cX5_acceptsPart 77 = .ok (.putfield 11, 3) := by decide +kernel
theorem dX5_acceptsPart_80 : decode cX5_acceptsPart 80 = .ok (.aload_n 1, 1) := by decide +kernel
theorem dX5_acceptsPart_81 : decode cX5_acceptsPart 81 = .ok (.getfield 76, 3) := by decide +kernel
theorem dX5_acceptsPart_84 : decode cX5_acceptsPart 84 = .ok (.bipush 7, 2) := by decide +kernel
theorem dX5_acceptsPart_86 : decode cX5_acceptsPart 86 = .ok (.if_icmp .ge 7, 3) := by decide +kernel
theorem dX5_acceptsPart_89 : decode cX5_acceptsPart 89 = .ok (.iconst 1, 1) := by decide +kernel
theorem dX5_acceptsPart_90 : decode cX5_acceptsPart 90 = .ok (.goto 4, 3) := by decide +kernel
theorem dX5_acceptsPart_93 : decode cX5_acceptsPart 93 = .ok (.iconst 0, 1) := by decide +kernel
theorem dX5_acceptsPart_94 : decode cX5_acceptsPart 94 = .ok (.ireturn, 1) := by decide +kernel
theorem dX5_acceptsPart_95 : decode cX5_acceptsPart 95 = .ok (.aload_n 0, 1) := by decide +kernel
theorem dX5_acceptsPart_96 : decode cX5_acceptsPart 96 = .ok (.bipush 6, 2) := by decide +kernel
theorem dX5_acceptsPart_98 : decode cX5_acceptsPart 98 = .ok (.putfield 11, 3) := by decide +kernel
theorem dX5_acceptsPart_101 : decode cX5_acceptsPart 101 = .ok (.aload_n 0, 1) := by decide +kernel
theorem dX5_acceptsPart_102 : decode cX5_acceptsPart 102 = .ok (.aload_n 1, 1) := by decide +kernel
theorem dX5_acceptsPart_103 : decode cX5_acceptsPart 103 = .ok (.invokevirtual 82, 3) := by decide +kernel
theorem dX5_acceptsPart_106 : decode cX5_acceptsPart 106 = .ok (.ireturn, 1) := by decide +kernel
theorem dX5_acceptsPart_107 : decode cX5_acceptsPart 107 = .ok (.iconst 0, 1) := by decide +kernel
theorem dX5_acceptsPart_108 : decode cX5_acceptsPart 108 = .ok (.ireturn, 1) := by decide +kernel
set_option maxRecDepth 20000 in
theorem ggX5_acceptsSecond_X4_hasPerson : GoodIn wsX5_acceptsSecond wsX4_hasPerson := goodIn_r _ [11, 12, 34, 35, 36, 37, 38, 39, 40, 41, 42, 43] (by decide +kernel) (by decide +kernel)
set_option maxRecDepth 20000 in
theorem gX5_acceptsSecond_X4_hasPerson : GoodIn wsX5_acceptsSecond (wsV RX5 62 RX4 yX4_hasPerson wsX4_hasPerson) := goodIn_app (goodIn_of _ (by decide +kernel)) ggX5_acceptsSecond_X4_hasPerson
set_option maxRecDepth 20000 in
theorem ggX5_acceptsSecond_X5_freeBeside : GoodIn wsX5_acceptsSecond wsX5_freeBeside := goodIn_r _ [17, 18, 4, 5, 6, 19, 20, 21, 22, 23, 24, 25, 26, 34, 35, 36, 37, 38, 39, 40, 41, 42, 43, 30, 31, 32, 33] (by decide +kernel) (by decide +kernel)
set_option maxRecDepth 20000 in
theorem gX5_acceptsSecond_X5_freeBeside : GoodIn wsX5_acceptsSecond (wsV RX5 66 RX5 yX5_freeBeside wsX5_freeBeside) := goodIn_app (goodIn_of _ (by decide +kernel)) ggX5_acceptsSecond_X5_freeBeside
set_option maxRecDepth 20000 in
theorem ggX5_acceptsSecond_X3_bothWays : GoodIn wsX5_acceptsSecond wsX3_bothWays := goodIn_r _ [29] (by decide +kernel) (by decide +kernel)
set_option maxRecDepth 20000 in
theorem gX5_acceptsSecond_X3_bothWays : GoodIn wsX5_acceptsSecond (va_wsS RX5 90 yX3_bothWays wsX3_bothWays) := goodIn_app (goodIn_of _ (by decide +kernel)) ggX5_acceptsSecond_X3_bothWays
theorem dX5_acceptsSecond_0 : decode cX5_acceptsSecond 0 = .ok (.aload_n 1, 1) := by decide +kernel
theorem dX5_acceptsSecond_1 : decode cX5_acceptsSecond 1 = .ok (.iload_n 2, 1) := by decide +kernel
theorem dX5_acceptsSecond_2 : decode cX5_acceptsSecond 2 = .ok (.invokevirtual 62, 3) := by decide +kernel
theorem dX5_acceptsSecond_5 : decode cX5_acceptsSecond 5 = .ok (.ifCond .eq 19, 3) := by decide +kernel
theorem dX5_acceptsSecond_8 : decode cX5_acceptsSecond 8 = .ok (.aload_n 0, 1) := by decide +kernel
theorem dX5_acceptsSecond_9 : decode cX5_acceptsSecond 9 = .ok (.aload_n 1, 1) := by decide +kernel
theorem dX5_acceptsSecond_10 : decode cX5_acceptsSecond 10 = .ok (.aload_n 0, 1) := by decide +kernel
theorem dX5_acceptsSecond_11 : decode cX5_acceptsSecond 11 = .ok (.getfield 18, 3) := by decide +kernel
theorem dX5_acceptsSecond_14 : decode cX5_acceptsSecond 14 = .ok (.invokevirtual 66, 3) := by decide +kernel
theorem dX5_acceptsSecond_17 : decode cX5_acceptsSecond 17 = .ok (.iload_n 2, 1) := by decide +kernel
theorem dX5_acceptsSecond_18 : decode cX5_acceptsSecond 18 = .ok (.ishr, 1) := by decide +kernel
theorem dX5_acceptsSecond_19 : decode cX5_acceptsSecond 19 = .ok (.iconst 1, 1) := by decide +kernel
theorem dX5_acceptsSecond_20 : decode cX5_acceptsSecond 20 = .ok (.iand, 1) := by decide +kernel
theorem dX5_acceptsSecond_21 : decode cX5_acceptsSecond 21 = .ok (.ifCond .ne 5, 3) := by decide +kernel
theorem dX5_acceptsSecond_24 : decode cX5_acceptsSecond 24 = .ok (.iconst 0, 1) := by decide +kernel
theorem dX5_acceptsSecond_25 : decode cX5_acceptsSecond 25 = .ok (.ireturn, 1) := by decide +kernel
theorem dX5_acceptsSecond_26 : decode cX5_acceptsSecond 26 = .ok (.aload_n 0, 1) := by decide +kernel
theorem dX5_acceptsSecond_27 : decode cX5_acceptsSecond 27 = .ok (.iload_n 2, 1) := by decide +kernel
theorem dX5_acceptsSecond_28 : decode cX5_acceptsSecond 28 = .ok (.putfield 21, 3) := by decide +kernel
theorem dX5_acceptsSecond_31 : decode cX5_acceptsSecond 31 = .ok (.aload_n 0, 1) := by decide +kernel
theorem dX5_acceptsSecond_32 : decode cX5_acceptsSecond 32 = .ok (.iconst 4, 1) := by decide +kernel
theorem dX5_acceptsSecond_33 : decode cX5_acceptsSecond 33 = .ok (.putfield 11, 3) := by decide +kernel
theorem dX5_acceptsSecond_36 : decode cX5_acceptsSecond 36 = .ok (.aload_n 0, 1) := by decide +kernel
theorem dX5_acceptsSecond_37 : decode cX5_acceptsSecond 37 = .ok (.getfield 15, 3) := by decide +kernel
theorem dX5_acceptsSecond_40 : decode cX5_acceptsSecond 40 = .ok (.bipush 81, 2) := by decide +kernel
theorem dX5_acceptsSecond_42 : decode cX5_acceptsSecond 42 = .ok (.if_icmp .ne 23, 3) := by decide +kernel
theorem dX5_acceptsSecond_45 : decode cX5_acceptsSecond 45 = .ok (.aload_n 1, 1) := by decide +kernel
theorem dX5_acceptsSecond_46 : decode cX5_acceptsSecond 46 = .ok (.dup, 1) := by decide +kernel
theorem dX5_acceptsSecond_47 : decode cX5_acceptsSecond 47 = .ok (.getfield 86, 3) := by decide +kernel
theorem dX5_acceptsSecond_50 : decode cX5_acceptsSecond 50 = .ok (.aload_n 0, 1) := by decide +kernel
theorem dX5_acceptsSecond_51 : decode cX5_acceptsSecond 51 = .ok (.getfield 18, 3) := by decide +kernel
theorem dX5_acceptsSecond_54 : decode cX5_acceptsSecond 54 = .ok (.iload_n 2, 1) := by decide +kernel
theorem dX5_acceptsSecond_55 : decode cX5_acceptsSecond 55 = .ok (.invokestatic 90, 3) := by decide +kernel
theorem dX5_acceptsSecond_58 : decode cX5_acceptsSecond 58 = .ok (.lor, 1) := by decide +kernel
theorem dX5_acceptsSecond_59 : decode cX5_acceptsSecond 59 = .ok (.putfield 86, 3) := by decide +kernel
theorem dX5_acceptsSecond_62 : decode cX5_acceptsSecond 62 = .ok (.goto 38, 3) := by decide +kernel
theorem dX5_acceptsSecond_65 : decode cX5_acceptsSecond 65 = .ok (.aload_n 0, 1) := by decide +kernel
theorem dX5_acceptsSecond_66 : decode cX5_acceptsSecond 66 = .ok (.getfield 15, 3) := by decide +kernel
theorem dX5_acceptsSecond_69 : decode cX5_acceptsSecond 69 = .ok (.bipush 84, 2) := by decide +kernel
theorem dX5_acceptsSecond_71 : decode cX5_acceptsSecond 71 = .ok (.if_icmp .ne 23, 3) := by decide +kernel
theorem dX5_acceptsSecond_74 : decode cX5_acceptsSecond 74 = .ok (.aload_n 1, 1) := by decide +kernel
theorem dX5_acceptsSecond_75 : decode cX5_acceptsSecond 75 = .ok (.dup, 1) := by decide +kernel
theorem dX5_acceptsSecond_76 : decode cX5_acceptsSecond 76 = .ok (.getfield 96, 3) := by decide +kernel
theorem dX5_acceptsSecond_79 : decode cX5_acceptsSecond 79 = .ok (.aload_n 0, 1) := by decide +kernel
theorem dX5_acceptsSecond_80 : decode cX5_acceptsSecond 80 = .ok (.getfield 18, 3) := by decide +kernel
theorem dX5_acceptsSecond_83 : decode cX5_acceptsSecond 83 = .ok (.iload_n 2, 1) := by decide +kernel
theorem dX5_acceptsSecond_84 : decode cX5_acceptsSecond 84 = .ok (.invokestatic 90, 3) := by decide +kernel
theorem dX5_acceptsSecond_87 : decode cX5_acceptsSecond 87 = .ok (.lor, 1) := by decide +kernel
theorem dX5_acceptsSecond_88 : decode cX5_acceptsSecond 88 = .ok (.putfield 96, 3) := by decide +kernel
theorem dX5_acceptsSecond_91 : decode cX5_acceptsSecond 91 = .ok (.goto 9, 3) := by decide +kernel
theorem dX5_acceptsSecond_94 : decode cX5_acceptsSecond 94 = .ok (.aload_n 0, 1) := by decide +kernel
theorem dX5_acceptsSecond_95 : decode cX5_acceptsSecond 95 = .ok (.bipush 8, 2) := by decide +kernel
theorem dX5_acceptsSecond_97 : decode cX5_acceptsSecond 97 = .ok (.putfield 11, 3) := by decide +kernel
theorem dX5_acceptsSecond_100 : decode cX5_acceptsSecond 100 = .ok (.iconst 1, 1) := by decide +kernel
theorem dX5_acceptsSecond_101 : decode cX5_acceptsSecond 101 = .ok (.ireturn, 1) := by decide +kernel
set_option maxRecDepth 20000 in
theorem ggX5_acceptsValue_X3_cell : GoodIn wsX5_acceptsValue wsX3_cell := goodIn_r _ [8] (by decide +kernel) (by decide +kernel)
set_option maxRecDepth 20000 in
theorem gX5_acceptsValue_X3_cell : GoodIn wsX5_acceptsValue (va_wsS RX5 102 yX3_cell wsX3_cell) := goodIn_app (goodIn_of _ (by decide +kernel)) ggX5_acceptsValue_X3_cell
theorem dX5_acceptsValue_0 : decode cX5_acceptsValue 0 = .ok (.iload_n 2, 1) := by decide +kernel
theorem dX5_acceptsValue_1 : decode cX5_acceptsValue 1 = .ok (.iconst 1, 1) := by decide +kernel
theorem dX5_acceptsValue_2 : decode cX5_acceptsValue 2 = .ok (.if_icmp .lt 9, 3) := by decide +kernel
theorem dX5_acceptsValue_5 : decode cX5_acceptsValue 5 = .ok (.iload_n 2, 1) := by decide +kernel
theorem dX5_acceptsValue_6 : decode cX5_acceptsValue 6 = .ok (.bipush 9, 2) := by decide +kernel
theorem dX5_acceptsValue_8 : decode cX5_acceptsValue 8 = .ok (.if_icmp .le 5, 3) := by decide +kernel
theorem dX5_acceptsValue_11 : decode cX5_acceptsValue 11 = .ok (.iconst 0, 1) := by decide +kernel
theorem dX5_acceptsValue_12 : decode cX5_acceptsValue 12 = .ok (.ireturn, 1) := by decide +kernel
theorem dX5_acceptsValue_13 : decode cX5_acceptsValue 13 = .ok (.aload_n 1, 1) := by decide +kernel
theorem dX5_acceptsValue_14 : decode cX5_acceptsValue 14 = .ok (.getfield 99, 3) := by decide +kernel
theorem dX5_acceptsValue_17 : decode cX5_acceptsValue 17 = .ok (.aload_n 0, 1) := by decide +kernel
theorem dX5_acceptsValue_18 : decode cX5_acceptsValue 18 = .ok (.getfield 18, 3) := by decide +kernel
theorem dX5_acceptsValue_21 : decode cX5_acceptsValue 21 = .ok (.aload_n 0, 1) := by decide +kernel
theorem dX5_acceptsValue_22 : decode cX5_acceptsValue 22 = .ok (.getfield 21, 3) := by decide +kernel
theorem dX5_acceptsValue_25 : decode cX5_acceptsValue 25 = .ok (.invokestatic 102, 3) := by decide +kernel
theorem dX5_acceptsValue_28 : decode cX5_acceptsValue 28 = .ok (.iload_n 2, 1) := by decide +kernel
theorem dX5_acceptsValue_29 : decode cX5_acceptsValue 29 = .ok (.iastore, 1) := by decide +kernel
theorem dX5_acceptsValue_30 : decode cX5_acceptsValue 30 = .ok (.aload_n 0, 1) := by decide +kernel
theorem dX5_acceptsValue_31 : decode cX5_acceptsValue 31 = .ok (.iconst 4, 1) := by decide +kernel
theorem dX5_acceptsValue_32 : decode cX5_acceptsValue 32 = .ok (.putfield 11, 3) := by decide +kernel
theorem dX5_acceptsValue_35 : decode cX5_acceptsValue 35 = .ok (.iconst 1, 1) := by decide +kernel
theorem dX5_acceptsValue_36 : decode cX5_acceptsValue 36 = .ok (.ireturn, 1) := by decide +kernel
set_option maxRecDepth 20000 in
theorem ggX5_someAreFree_X5_freeBeside : GoodIn wsX5_someAreFree wsX5_freeBeside := goodIn_r _ [6, 1, 7, 8, 9, 10, 11, 12, 13, 14, 15, 16, 17, 18, 19, 20, 21, 22, 23, 24, 25, 26, 27, 28, 29, 30, 31] (by decide +kernel) (by decide +kernel)
set_option maxRecDepth 20000 in
theorem gX5_someAreFree_X5_freeBeside : GoodIn wsX5_someAreFree (wsV RX5 66 RX5 yX5_freeBeside wsX5_freeBeside) := goodIn_app (goodIn_of _ (by decide +kernel)) ggX5_someAreFree_X5_freeBeside
theorem dX5_someAreFree_0 : decode cX5_someAreFree 0 = .ok (.iconst 0, 1) := by decide +kernel
theorem dX5_someAreFree_1 : decode cX5_someAreFree 1 = .ok (.istore_n 2, 1) := by decide +kernel
theorem dX5_someAreFree_2 : decode cX5_someAreFree 2 = .ok (.iload_n 2, 1) := by decide +kernel
theorem dX5_someAreFree_3 : decode cX5_someAreFree 3 = .ok (.aload_n 1, 1) := by decide +kernel
theorem dX5_someAreFree_4 : decode cX5_someAreFree 4 = .ok (.getfield 76, 3) := by decide +kernel
theorem dX5_someAreFree_7 : decode cX5_someAreFree 7 = .ok (.if_icmp .ge 26, 3) := by decide +kernel
theorem dX5_someAreFree_10 : decode cX5_someAreFree 10 = .ok (.iload_n 2, 1) := by decide +kernel
theorem dX5_someAreFree_11 : decode cX5_someAreFree 11 = .ok (.bipush 7, 2) := by decide +kernel
theorem dX5_someAreFree_13 : decode cX5_someAreFree 13 = .ok (.if_icmp .ge 20, 3) := by decide +kernel
theorem dX5_someAreFree_16 : decode cX5_someAreFree 16 = .ok (.aload_n 0, 1) := by decide +kernel
theorem dX5_someAreFree_17 : decode cX5_someAreFree 17 = .ok (.aload_n 1, 1) := by decide +kernel
theorem dX5_someAreFree_18 : decode cX5_someAreFree 18 = .ok (.iload_n 2, 1) := by decide +kernel
theorem dX5_someAreFree_19 : decode cX5_someAreFree 19 = .ok (.invokevirtual 66, 3) := by decide +kernel
theorem dX5_someAreFree_22 : decode cX5_someAreFree 22 = .ok (.ifCond .eq 5, 3) := by decide +kernel
theorem dX5_someAreFree_25 : decode cX5_someAreFree 25 = .ok (.iconst 1, 1) := by decide +kernel
theorem dX5_someAreFree_26 : decode cX5_someAreFree 26 = .ok (.ireturn, 1) := by decide +kernel
theorem dX5_someAreFree_27 : decode cX5_someAreFree 27 = .ok (.iinc 2 1, 3) := by decide +kernel
theorem dX5_someAreFree_30 : decode cX5_someAreFree 30 = .ok (.goto (-28), 3) := by decide +kernel
theorem dX5_someAreFree_33 : decode cX5_someAreFree 33 = .ok (.iconst 0, 1) := by decide +kernel
theorem dX5_someAreFree_34 : decode cX5_someAreFree 34 = .ok (.ireturn, 1) := by decide +kernel
set_option maxRecDepth 20000 in
theorem ggX5_freeBeside_X3_rowOf : GoodIn wsX5_freeBeside wsX3_rowOf := goodIn_r _ [9] (by decide +kernel) (by decide +kernel)
set_option maxRecDepth 20000 in
theorem gX5_freeBeside_X3_rowOf : GoodIn wsX5_freeBeside (va_wsS RX5 106 yX3_rowOf wsX3_rowOf) := goodIn_app (goodIn_of _ (by decide +kernel)) ggX5_freeBeside_X3_rowOf
set_option maxRecDepth 20000 in
theorem ggX5_freeBeside_X3_cell : GoodIn wsX5_freeBeside wsX3_cell := goodIn_r _ [12] (by decide +kernel) (by decide +kernel)
set_option maxRecDepth 20000 in
theorem gX5_freeBeside_X3_cell : GoodIn wsX5_freeBeside (va_wsS RX5 102 yX3_cell wsX3_cell) := goodIn_app (goodIn_of _ (by decide +kernel)) ggX5_freeBeside_X3_cell
theorem dX5_freeBeside_0 : decode cX5_freeBeside 0 = .ok (.iconst 1, 1) := by decide +kernel
theorem dX5_freeBeside_1 : decode cX5_freeBeside 1 = .ok (.aload_n 1, 1) := by decide +kernel
theorem dX5_freeBeside_2 : decode cX5_freeBeside 2 = .ok (.getfield 76, 3) := by decide +kernel
theorem dX5_freeBeside_5 : decode cX5_freeBeside 5 = .ok (.ishl, 1) := by decide +kernel
theorem dX5_freeBeside_6 : decode cX5_freeBeside 6 = .ok (.iconst 1, 1) := by decide +kernel
theorem dX5_freeBeside_7 : decode cX5_freeBeside 7 = .ok (.isub, 1) := by decide +kernel
theorem dX5_freeBeside_8 : decode cX5_freeBeside 8 = .ok (.iconst 1, 1) := by decide +kernel
theorem dX5_freeBeside_9 : decode cX5_freeBeside 9 = .ok (.iload_n 2, 1) := by decide +kernel
theorem dX5_freeBeside_10 : decode cX5_freeBeside 10 = .ok (.ishl, 1) := by decide +kernel
theorem dX5_freeBeside_11 : decode cX5_freeBeside 11 = .ok (.iconst (-1), 1) := by decide +kernel
theorem dX5_freeBeside_12 : decode cX5_freeBeside 12 = .ok (.ixor, 1) := by decide +kernel
theorem dX5_freeBeside_13 : decode cX5_freeBeside 13 = .ok (.iand, 1) := by decide +kernel
theorem dX5_freeBeside_14 : decode cX5_freeBeside 14 = .ok (.istore_n 3, 1) := by decide +kernel
theorem dX5_freeBeside_15 : decode cX5_freeBeside 15 = .ok (.aload_n 0, 1) := by decide +kernel
theorem dX5_freeBeside_16 : decode cX5_freeBeside 16 = .ok (.getfield 15, 3) := by decide +kernel
theorem dX5_freeBeside_19 : decode cX5_freeBeside 19 = .ok (.bipush 87, 2) := by decide +kernel
theorem dX5_freeBeside_21 : decode cX5_freeBeside 21 = .ok (.if_icmp .eq 21, 3) := by decide +kernel
theorem dX5_freeBeside_24 : decode cX5_freeBeside 24 = .ok (.iload_n 3, 1) := by decide +kernel
theorem dX5_freeBeside_25 : decode cX5_freeBeside 25 = .ok (.aload_n 1, 1) := by decide +kernel
theorem dX5_freeBeside_26 : decode cX5_freeBeside 26 = .ok (.getfield 86, 3) := by decide +kernel
theorem dX5_freeBeside_29 : decode cX5_freeBeside 29 = .ok (.aload_n 1, 1) := by decide +kernel
theorem dX5_freeBeside_30 : decode cX5_freeBeside 30 = .ok (.getfield 96, 3) := by decide +kernel
theorem dX5_freeBeside_33 : decode cX5_freeBeside 33 = .ok (.lor, 1) := by decide +kernel
theorem dX5_freeBeside_34 : decode cX5_freeBeside 34 = .ok (.iload_n 2, 1) := by decide +kernel
theorem dX5_freeBeside_35 : decode cX5_freeBeside 35 = .ok (.invokestatic 106, 3) := by decide +kernel
theorem dX5_freeBeside_38 : decode cX5_freeBeside 38 = .ok (.iconst (-1), 1) := by decide +kernel
theorem dX5_freeBeside_39 : decode cX5_freeBeside 39 = .ok (.ixor, 1) := by decide +kernel
theorem dX5_freeBeside_40 : decode cX5_freeBeside 40 = .ok (.iand, 1) := by decide +kernel
theorem dX5_freeBeside_41 : decode cX5_freeBeside 41 = .ok (.ireturn, 1) := by decide +kernel
theorem dX5_freeBeside_42 : decode cX5_freeBeside 42 = .ok (.iconst 0, 1) := by decide +kernel
theorem dX5_freeBeside_43 : decode cX5_freeBeside 43 = .ok (.istore 4, 2) := by decide +kernel
theorem dX5_freeBeside_45 : decode cX5_freeBeside 45 = .ok (.iload 4, 2) := by decide +kernel
theorem dX5_freeBeside_47 : decode cX5_freeBeside 47 = .ok (.aload_n 1, 1) := by decide +kernel
theorem dX5_freeBeside_48 : decode cX5_freeBeside 48 = .ok (.getfield 76, 3) := by decide +kernel
theorem dX5_freeBeside_51 : decode cX5_freeBeside 51 = .ok (.if_icmp .ge 39, 3) := by decide +kernel
theorem dX5_freeBeside_54 : decode cX5_freeBeside 54 = .ok (.iload 4, 2) := by decide +kernel
theorem dX5_freeBeside_56 : decode cX5_freeBeside 56 = .ok (.bipush 7, 2) := by decide +kernel
theorem dX5_freeBeside_58 : decode cX5_freeBeside 58 = .ok (.if_icmp .ge 32, 3) := by decide +kernel
theorem dX5_freeBeside_61 : decode cX5_freeBeside 61 = .ok (.aload_n 1, 1) := by decide +kernel
theorem dX5_freeBeside_62 : decode cX5_freeBeside 62 = .ok (.getfield 99, 3) := by decide +kernel
theorem dX5_freeBeside_65 : decode cX5_freeBeside 65 = .ok (.iload_n 2, 1) := by decide +kernel
theorem dX5_freeBeside_66 : decode cX5_freeBeside 66 = .ok (.iload 4, 2) := by decide +kernel
theorem dX5_freeBeside_68 : decode cX5_freeBeside 68 = .ok (.invokestatic 102, 3) := by decide +kernel
theorem dX5_freeBeside_71 : decode cX5_freeBeside 71 = .ok (.iaload, 1) := by decide +kernel
theorem dX5_freeBeside_72 : decode cX5_freeBeside 72 = .ok (.ifCond .eq 12, 3) := by decide +kernel
theorem dX5_freeBeside_75 : decode cX5_freeBeside 75 = .ok (.iload_n 3, 1) := by decide +kernel
theorem dX5_freeBeside_76 : decode cX5_freeBeside 76 = .ok (.iconst 1, 1) := by decide +kernel
theorem dX5_freeBeside_77 : decode cX5_freeBeside 77 = .ok (.iload 4, 2) := by decide +kernel
theorem dX5_freeBeside_79 : decode cX5_freeBeside 79 = .ok (.ishl, 1) := by decide +kernel
theorem dX5_freeBeside_80 : decode cX5_freeBeside 80 = .ok (.iconst (-1), 1) := by decide +kernel
theorem dX5_freeBeside_81 : decode cX5_freeBeside 81 = .ok (.ixor, 1) := by decide +kernel
theorem dX5_freeBeside_82 : decode cX5_freeBeside 82 = .ok (.iand, 1) := by decide +kernel
theorem dX5_freeBeside_83 : decode cX5_freeBeside 83 = .ok (.istore_n 3, 1) := by decide +kernel
theorem dX5_freeBeside_84 : decode cX5_freeBeside 84 = .ok (.iinc 4 1, 3) := by decide +kernel
theorem dX5_freeBeside_87 : decode cX5_freeBeside 87 = .ok (.goto (-42), 3) := by decide +kernel
theorem dX5_freeBeside_90 : decode cX5_freeBeside 90 = .ok (.iload_n 3, 1) := by decide +kernel
theorem dX5_freeBeside_91 : decode cX5_freeBeside 91 = .ok (.ireturn, 1) := by decide +kernel
theorem dX6_init_0 : decode cX6_init 0 = .ok (.aload_n 0, 1) := by decide +kernel
theorem dX6_init_1 : decode cX6_init 1 = .ok (.invokespecial 3, 3) := by decide +kernel
theorem dX6_init_4 : decode cX6_init 4 = .ok (.aload_n 0, 1) := by decide +kernel
theorem dX6_init_5 : decode cX6_init 5 = .ok (.iconst 1, 1) := by decide +kernel
theorem dX6_init_6 : decode cX6_init 6 = .ok (.newarray .int, 2) := by decide +kernel
theorem dX6_init_8 : decode cX6_init 8 = .ok (.putfield 9, 3) := by decide +kernel
theorem dX6_init_11 : decode cX6_init 11 = .ok (.aload_n 0, 1) := by decide +kernel
theorem dX6_init_12 : decode cX6_init 12 = .ok (.iconst 1, 1) := by decide +kernel
theorem dX6_init_13 : decode cX6_init 13 = .ok (.newarray .int, 2) := by decide +kernel
theorem dX6_init_15 : decode cX6_init 15 = .ok (.putfield 15, 3) := by decide +kernel
theorem dX6_init_18 : decode cX6_init 18 = .ok (.aload_n 0, 1) := by decide +kernel
theorem dX6_init_19 : decode cX6_init 19 = .ok (.iconst 0, 1) := by decide +kernel
theorem dX6_init_20 : decode cX6_init 20 = .ok (.putfield 18, 3) := by decide +kernel
theorem dX6_init_23 : decode cX6_init 23 = .ok (.return_, 1) := by decide +kernel
set_option maxRecDepth 20000 in
theorem ggX6_fewestSwaps_X6_begin : GoodIn wsX6_fewestSwaps wsX6_begin := goodIn_r _ [8, 3, 9, 10, 2, 48, 49, 50] (by decide +kernel) (by decide +kernel)
set_option maxRecDepth 20000 in
theorem gX6_fewestSwaps_X6_begin : GoodIn wsX6_fewestSwaps (wsV RX6 27 RX6 yX6_begin wsX6_begin) := goodIn_app (goodIn_of _ (by decide +kernel)) ggX6_fewestSwaps_X6_begin
set_option maxRecDepth 20000 in
theorem ggX6_fewestSwaps_X6_reaches : GoodIn wsX6_fewestSwaps wsX6_reaches := goodIn_r _ [14, 15, 16, 17, 18, 19, 20, 21, 22, 23, 24, 25, 26, 27, 28, 29, 30, 31, 32, 33, 34, 35, 36, 37, 38, 7, 39, 10, 2, 3, 45, 46, 47, 48, 49, 50] (by decide +kernel) (by decide +kernel)
set_option maxRecDepth 20000 in
theorem gX6_fewestSwaps_X6_reaches : GoodIn wsX6_fewestSwaps (wsV RX6 31 RX6 yX6_reaches wsX6_reaches) := goodIn_app (goodIn_of _ (by decide +kernel)) ggX6_fewestSwaps_X6_reaches
set_option maxRecDepth 20000 in
theorem ggX6_fewestSwaps_X6_swapsTo : GoodIn wsX6_fewestSwaps wsX6_swapsTo := goodIn_r _ [43, 10, 48, 49, 50] (by decide +kernel) (by decide +kernel)
set_option maxRecDepth 20000 in
theorem gX6_fewestSwaps_X6_swapsTo : GoodIn wsX6_fewestSwaps (wsV RX6 35 RX6 yX6_swapsTo wsX6_swapsTo) := goodIn_app (goodIn_of _ (by decide +kernel)) ggX6_fewestSwaps_X6_swapsTo
set_option maxRecDepth 20000 in
theorem ggX6_fewestSwaps_X2_seatingOf : GoodIn wsX6_fewestSwaps wsX2_seatingOf := goodIn_r _ [34, 35, 45, 46, 47] (by decide +kernel) (by decide +kernel)
set_option maxRecDepth 20000 in
theorem gX6_fewestSwaps_X2_seatingOf : GoodIn wsX6_fewestSwaps (wsV RX6 39 RX2 yX2_seatingOf wsX2_seatingOf) := goodIn_app (goodIn_of _ (by decide +kernel)) ggX6_fewestSwaps_X2_seatingOf
theorem dX6_fewestSwaps_0 : decode cX6_fewestSwaps 0 = .ok (.iload_n 3, 1) := by decide +kernel
theorem dX6_fewestSwaps_1 : decode cX6_fewestSwaps 1 = .ok (.iload 4, 2) := by decide +kernel
theorem dX6_fewestSwaps_3 : decode cX6_fewestSwaps 3 = .ok (.if_icmp .ne 5, 3) := by decide +kernel
theorem dX6_fewestSwaps_6 : decode cX6_fewestSwaps 6 = .ok (.iconst 0, 1) := by decide +kernel
theorem dX6_fewestSwaps_7 : decode cX6_fewestSwaps 7 = .ok (.ireturn, 1) := by decide +kernel
theorem dX6_fewestSwaps_8 : decode cX6_fewestSwaps 8 = .ok (.aload_n 0, 1) := by decide +kernel
theorem dX6_fewestSwaps_9 : decode cX6_fewestSwaps 9 = .ok (.aload_n 1, 1) := by decide +kernel
theorem dX6_fewestSwaps_10 : decode cX6_fewestSwaps 10 = .ok (.getfield 22, 3) := by decide +kernel
theorem dX6_fewestSwaps_13 : decode cX6_fewestSwaps 13 = .ok (.invokevirtual 27, 3) := by decide +kernel
theorem dX6_fewestSwaps_16 : decode cX6_fewestSwaps 16 = .ok (.aload_n 0, 1) := by decide +kernel
theorem dX6_fewestSwaps_17 : decode cX6_fewestSwaps 17 = .ok (.aload_n 1, 1) := by decide +kernel
theorem dX6_fewestSwaps_18 : decode cX6_fewestSwaps 18 = .ok (.iload_n 2, 1) := by decide +kernel
theorem dX6_fewestSwaps_19 : decode cX6_fewestSwaps 19 = .ok (.iload_n 3, 1) := by decide +kernel
theorem dX6_fewestSwaps_20 : decode cX6_fewestSwaps 20 = .ok (.iload 4, 2) := by decide +kernel
theorem dX6_fewestSwaps_22 : decode cX6_fewestSwaps 22 = .ok (.iconst 1, 1) := by decide +kernel
theorem dX6_fewestSwaps_23 : decode cX6_fewestSwaps 23 = .ok (.invokevirtual 31, 3) := by decide +kernel
theorem dX6_fewestSwaps_26 : decode cX6_fewestSwaps 26 = .ok (.ifCond .eq 5, 3) := by decide +kernel
theorem dX6_fewestSwaps_29 : decode cX6_fewestSwaps 29 = .ok (.iconst 1, 1) := by decide +kernel
theorem dX6_fewestSwaps_30 : decode cX6_fewestSwaps 30 = .ok (.ireturn, 1) := by decide +kernel
theorem dX6_fewestSwaps_31 : decode cX6_fewestSwaps 31 = .ok (.iconst 0, 1) := by decide +kernel
theorem dX6_fewestSwaps_32 : decode cX6_fewestSwaps 32 = .ok (.istore 5, 2) := by decide +kernel
theorem dX6_fewestSwaps_34 : decode cX6_fewestSwaps 34 = .ok (.iload 5, 2) := by decide +kernel
theorem dX6_fewestSwaps_36 : decode cX6_fewestSwaps 36 = .ok (.aload_n 0, 1) := by decide +kernel
theorem dX6_fewestSwaps_37 : decode cX6_fewestSwaps 37 = .ok (.getfield 18, 3) := by decide +kernel
theorem dX6_fewestSwaps_40 : decode cX6_fewestSwaps 40 = .ok (.if_icmp .ge 60, 3) := by decide +kernel
theorem dX6_fewestSwaps_43 : decode cX6_fewestSwaps 43 = .ok (.iload 5, 2) := by decide +kernel
theorem dX6_fewestSwaps_45 : decode cX6_fewestSwaps 45 = .ok (.aload_n 0, 1) := by decide +kernel
theorem dX6_fewestSwaps_46 : decode cX6_fewestSwaps 46 = .ok (.getfield 9, 3) := by decide +kernel
theorem dX6_fewestSwaps_49 : decode cX6_fewestSwaps 49 = .ok (.arraylength, 1) := by decide +kernel
theorem dX6_fewestSwaps_50 : decode cX6_fewestSwaps 50 = .ok (.if_icmp .ge 50, 3) := by decide +kernel
theorem dX6_fewestSwaps_53 : decode cX6_fewestSwaps 53 = .ok (.aload_n 0, 1) := by decide +kernel
theorem dX6_fewestSwaps_54 : decode cX6_fewestSwaps 54 = .ok (.getfield 9, 3) := by decide +kernel
theorem dX6_fewestSwaps_57 : decode cX6_fewestSwaps 57 = .ok (.iload 5, 2) := by decide +kernel
theorem dX6_fewestSwaps_59 : decode cX6_fewestSwaps 59 = .ok (.iaload, 1) := by decide +kernel
theorem dX6_fewestSwaps_60 : decode cX6_fewestSwaps 60 = .ok (.istore 6, 2) := by decide +kernel
theorem dX6_fewestSwaps_62 : decode cX6_fewestSwaps 62 = .ok (.iconst 1, 1) := by decide +kernel
theorem dX6_fewestSwaps_63 : decode cX6_fewestSwaps 63 = .ok (.aload_n 0, 1) := by decide +kernel
theorem dX6_fewestSwaps_64 : decode cX6_fewestSwaps 64 = .ok (.iload 6, 2) := by decide +kernel
theorem dX6_fewestSwaps_66 : decode cX6_fewestSwaps 66 = .ok (.invokevirtual 35, 3) := by decide +kernel
theorem dX6_fewestSwaps_69 : decode cX6_fewestSwaps 69 = .ok (.iadd, 1) := by decide +kernel
theorem dX6_fewestSwaps_70 : decode cX6_fewestSwaps 70 = .ok (.istore 7, 2) := by decide +kernel
theorem dX6_fewestSwaps_72 : decode cX6_fewestSwaps 72 = .ok (.aload_n 0, 1) := by decide +kernel
theorem dX6_fewestSwaps_73 : decode cX6_fewestSwaps 73 = .ok (.aload_n 1, 1) := by decide +kernel
theorem dX6_fewestSwaps_74 : decode cX6_fewestSwaps 74 = .ok (.iload_n 2, 1) := by decide +kernel
theorem dX6_fewestSwaps_75 : decode cX6_fewestSwaps 75 = .ok (.aload_n 1, 1) := by decide +kernel
theorem dX6_fewestSwaps_76 : decode cX6_fewestSwaps 76 = .ok (.iload 6, 2) := by decide +kernel
theorem dX6_fewestSwaps_78 : decode cX6_fewestSwaps 78 = .ok (.invokevirtual 39, 3) := by decide +kernel
theorem dX6_fewestSwaps_81 : decode cX6_fewestSwaps 81 = .ok (.iload 4, 2) := by decide +kernel
theorem dX6_fewestSwaps_83 : decode cX6_fewestSwaps 83 = .ok (.iload 7, 2) := by decide +kernel
theorem dX6_fewestSwaps_85 : decode cX6_fewestSwaps 85 = .ok (.invokevirtual 31, 3) := by decide +kernel
theorem dX6_fewestSwaps_88 : decode cX6_fewestSwaps 88 = .ok (.ifCond .eq 6, 3) := by decide +kernel
theorem dX6_fewestSwaps_91 : decode cX6_fewestSwaps 91 = .ok (.iload 7, 2) := by decide +kernel
theorem dX6_fewestSwaps_93 : decode cX6_fewestSwaps 93 = .ok (.ireturn, 1) := by decide +kernel
theorem dX6_fewestSwaps_94 : decode cX6_fewestSwaps 94 = .ok (.iinc 5 1, 3) := by decide +kernel
theorem dX6_fewestSwaps_97 : decode cX6_fewestSwaps 97 = .ok (.goto (-63), 3) := by decide +kernel
theorem dX6_fewestSwaps_100 : decode cX6_fewestSwaps 100 = .ok (.bipush (-9), 2) := by decide +kernel
theorem dX6_fewestSwaps_102 : decode cX6_fewestSwaps 102 = .ok (.ireturn, 1) := by decide +kernel
theorem dX6_begin_0 : decode cX6_begin 0 = .ok (.iload_n 1, 1) := by decide +kernel
theorem dX6_begin_1 : decode cX6_begin 1 = .ok (.aload_n 0, 1) := by decide +kernel
theorem dX6_begin_2 : decode cX6_begin 2 = .ok (.getfield 9, 3) := by decide +kernel
theorem dX6_begin_5 : decode cX6_begin 5 = .ok (.arraylength, 1) := by decide +kernel
theorem dX6_begin_6 : decode cX6_begin 6 = .ok (.if_icmp .le 17, 3) := by decide +kernel
theorem dX6_begin_9 : decode cX6_begin 9 = .ok (.aload_n 0, 1) := by decide +kernel
theorem dX6_begin_10 : decode cX6_begin 10 = .ok (.iload_n 1, 1) := by decide +kernel
theorem dX6_begin_11 : decode cX6_begin 11 = .ok (.newarray .int, 2) := by decide +kernel
theorem dX6_begin_13 : decode cX6_begin 13 = .ok (.putfield 9, 3) := by decide +kernel
theorem dX6_begin_16 : decode cX6_begin 16 = .ok (.aload_n 0, 1) := by decide +kernel
theorem dX6_begin_17 : decode cX6_begin 17 = .ok (.iload_n 1, 1) := by decide +kernel
theorem dX6_begin_18 : decode cX6_begin 18 = .ok (.newarray .int, 2) := by decide +kernel
theorem dX6_begin_20 : decode cX6_begin 20 = .ok (.putfield 15, 3) := by decide +kernel
theorem dX6_begin_23 : decode cX6_begin 23 = .ok (.iconst 0, 1) := by decide +kernel
theorem dX6_begin_24 : decode cX6_begin 24 = .ok (.istore_n 2, 1) := by decide +kernel
theorem dX6_begin_25 : decode cX6_begin 25 = .ok (.iload_n 2, 1) := by decide +kernel
theorem dX6_begin_26 : decode cX6_begin 26 = .ok (.aload_n 0, 1) := by decide +kernel
theorem dX6_begin_27 : decode cX6_begin 27 = .ok (.getfield 15, 3) := by decide +kernel
theorem dX6_begin_30 : decode cX6_begin 30 = .ok (.arraylength, 1) := by decide +kernel
theorem dX6_begin_31 : decode cX6_begin 31 = .ok (.if_icmp .ge 16, 3) := by decide +kernel
theorem dX6_begin_34 : decode cX6_begin 34 = .ok (.aload_n 0, 1) := by decide +kernel
theorem dX6_begin_35 : decode cX6_begin 35 = .ok (.getfield 15, 3) := by decide +kernel
theorem dX6_begin_38 : decode cX6_begin 38 = .ok (.iload_n 2, 1) := by decide +kernel
theorem dX6_begin_39 : decode cX6_begin 39 = .ok (.iconst 0, 1) := by decide +kernel
theorem dX6_begin_40 : decode cX6_begin 40 = .ok (.iastore, 1) := by decide +kernel
theorem dX6_begin_41 : decode cX6_begin 41 = .ok (.iinc 2 1, 3) := by decide +kernel
theorem dX6_begin_44 : decode cX6_begin 44 = .ok (.goto (-19), 3) := by decide +kernel
theorem dX6_begin_47 : decode cX6_begin 47 = .ok (.aload_n 0, 1) := by decide +kernel
theorem dX6_begin_48 : decode cX6_begin 48 = .ok (.iconst 0, 1) := by decide +kernel
theorem dX6_begin_49 : decode cX6_begin 49 = .ok (.putfield 18, 3) := by decide +kernel
theorem dX6_begin_52 : decode cX6_begin 52 = .ok (.return_, 1) := by decide +kernel
theorem dX6_swapsTo_0 : decode cX6_swapsTo 0 = .ok (.iload_n 1, 1) := by decide +kernel
theorem dX6_swapsTo_1 : decode cX6_swapsTo 1 = .ok (.ifCond .lt 21, 3) := by decide +kernel
theorem dX6_swapsTo_4 : decode cX6_swapsTo 4 = .ok (.iload_n 1, 1) := by decide +kernel
theorem dX6_swapsTo_5 : decode cX6_swapsTo 5 = .ok (.aload_n 0, 1) := by decide +kernel
theorem dX6_swapsTo_6 : decode cX6_swapsTo 6 = .ok (.getfield 15, 3) := by decide +kernel
theorem dX6_swapsTo_9 : decode cX6_swapsTo 9 = .ok (.arraylength, 1) := by decide +kernel
theorem dX6_swapsTo_10 : decode cX6_swapsTo 10 = .ok (.if_icmp .ge 12, 3) := by decide +kernel
theorem dX6_swapsTo_13 : decode cX6_swapsTo 13 = .ok (.aload_n 0, 1) := by decide +kernel
theorem dX6_swapsTo_14 : decode cX6_swapsTo 14 = .ok (.getfield 15, 3) := by decide +kernel
theorem dX6_swapsTo_17 : decode cX6_swapsTo 17 = .ok (.iload_n 1, 1) := by decide +kernel
theorem dX6_swapsTo_18 : decode cX6_swapsTo 18 = .ok (.iaload, 1) := by decide +kernel
theorem dX6_swapsTo_19 : decode cX6_swapsTo 19 = .ok (.goto 4, 3) := by decide +kernel
theorem dX6_swapsTo_22 : decode cX6_swapsTo 22 = .ok (.iconst 0, 1) := by decide +kernel
theorem dX6_swapsTo_23 : decode cX6_swapsTo 23 = .ok (.ireturn, 1) := by decide +kernel
set_option maxRecDepth 20000 in
theorem ggX6_reaches_X7_exchanged : GoodIn wsX6_reaches wsX7_exchanged := goodIn_r _ [4, 5, 6, 3, 7, 8, 9, 10] (by decide +kernel) (by decide +kernel)
set_option maxRecDepth 20000 in
theorem gX6_reaches_X7_exchanged : GoodIn wsX6_reaches (va_wsS RX6 42 yX7_exchanged wsX7_exchanged) := goodIn_app (goodIn_of _ (by decide +kernel)) ggX6_reaches_X7_exchanged
set_option maxRecDepth 20000 in
theorem ggX6_reaches_X2_rankOf : GoodIn wsX6_reaches wsX2_rankOf := goodIn_r _ [15, 16, 17, 18, 19, 14, 20, 21, 30, 31, 32] (by decide +kernel) (by decide +kernel)
set_option maxRecDepth 20000 in
theorem gX6_reaches_X2_rankOf : GoodIn wsX6_reaches (wsV RX6 48 RX2 yX2_rankOf wsX2_rankOf) := goodIn_app (goodIn_of _ (by decide +kernel)) ggX6_reaches_X2_rankOf
set_option maxRecDepth 20000 in
theorem ggX6_reaches_X6_enqueue : GoodIn wsX6_reaches wsX6_enqueue := goodIn_r _ [26, 27, 28, 29, 33, 34, 35] (by decide +kernel) (by decide +kernel)
set_option maxRecDepth 20000 in
theorem gX6_reaches_X6_enqueue : GoodIn wsX6_reaches (wsV RX6 51 RX6 yX6_enqueue wsX6_enqueue) := goodIn_app (goodIn_of _ (by decide +kernel)) ggX6_reaches_X6_enqueue
theorem dX6_reaches_0 : decode cX6_reaches 0 = .ok (.iconst 1, 1) := by decide +kernel
theorem dX6_reaches_1 : decode cX6_reaches 1 = .ok (.istore 6, 2) := by decide +kernel
theorem dX6_reaches_3 : decode cX6_reaches 3 = .ok (.iload 6, 2) := by decide +kernel
theorem dX6_reaches_5 : decode cX6_reaches 5 = .ok (.iload_n 2, 1) := by decide +kernel
theorem dX6_reaches_6 : decode cX6_reaches 6 = .ok (.if_icmp .ge 63, 3) := by decide +kernel
theorem dX6_reaches_9 : decode cX6_reaches 9 = .ok (.iload 6, 2) := by decide +kernel
theorem dX6_reaches_11 : decode cX6_reaches 11 = .ok (.bipush 7, 2) := by decide +kernel
theorem dX6_reaches_13 : decode cX6_reaches 13 = .ok (.if_icmp .ge 56, 3) := by decide +kernel
theorem dX6_reaches_16 : decode cX6_reaches 16 = .ok (.iconst 0, 1) := by decide +kernel
theorem dX6_reaches_17 : decode cX6_reaches 17 = .ok (.istore 7, 2) := by decide +kernel
theorem dX6_reaches_19 : decode cX6_reaches 19 = .ok (.iload 7, 2) := by decide +kernel
theorem dX6_reaches_21 : decode cX6_reaches 21 = .ok (.iload 6, 2) := by decide +kernel
theorem dX6_reaches_23 : decode cX6_reaches 23 = .ok (.if_icmp .ge 40, 3) := by decide +kernel
theorem dX6_reaches_26 : decode cX6_reaches 26 = .ok (.iload_n 3, 1) := by decide +kernel
theorem dX6_reaches_27 : decode cX6_reaches 27 = .ok (.iload 6, 2) := by decide +kernel
theorem dX6_reaches_29 : decode cX6_reaches 29 = .ok (.iload 7, 2) := by decide +kernel
theorem dX6_reaches_31 : decode cX6_reaches 31 = .ok (.invokestatic 42, 3) := by decide +kernel
theorem dX6_reaches_34 : decode cX6_reaches 34 = .ok (.istore 8, 2) := by decide +kernel
theorem dX6_reaches_36 : decode cX6_reaches 36 = .ok (.iload 8, 2) := by decide +kernel
theorem dX6_reaches_38 : decode cX6_reaches 38 = .ok (.iload 4, 2) := by decide +kernel
theorem dX6_reaches_40 : decode cX6_reaches 40 = .ok (.if_icmp .ne 5, 3) := by decide +kernel
theorem dX6_reaches_43 : decode cX6_reaches 43 = .ok (.iconst 1, 1) := by decide +kernel
theorem dX6_reaches_44 : decode cX6_reaches 44 = .ok (.ireturn, 1) := by decide +kernel
theorem dX6_reaches_45 : decode cX6_reaches 45 = .ok (.aload_n 0, 1) := by decide +kernel
theorem dX6_reaches_46 : decode cX6_reaches 46 = .ok (.aload_n 1, 1) := by decide +kernel
theorem dX6_reaches_47 : decode cX6_reaches 47 = .ok (.iload 8, 2) := by decide +kernel
theorem dX6_reaches_49 : decode cX6_reaches 49 = .ok (.invokevirtual 48, 3) := by decide +kernel
theorem dX6_reaches_52 : decode cX6_reaches 52 = .ok (.iload 5, 2) := by decide +kernel
theorem dX6_reaches_54 : decode cX6_reaches 54 = .ok (.invokevirtual 51, 3) := by decide +kernel
theorem dX6_reaches_57 : decode cX6_reaches 57 = .ok (.iinc 7 1, 3) := by decide +kernel
theorem dX6_reaches_60 : decode cX6_reaches 60 = .ok (.goto (-41), 3) := by decide +kernel
theorem dX6_reaches_63 : decode cX6_reaches 63 = .ok (.iinc 6 1, 3) := by decide +kernel
theorem dX6_reaches_66 : decode cX6_reaches 66 = .ok (.goto (-63), 3) := by decide +kernel
theorem dX6_reaches_69 : decode cX6_reaches 69 = .ok (.iconst 0, 1) := by decide +kernel
theorem dX6_reaches_70 : decode cX6_reaches 70 = .ok (.ireturn, 1) := by decide +kernel
theorem dX6_enqueue_0 : decode cX6_enqueue 0 = .ok (.iload_n 1, 1) := by decide +kernel
theorem dX6_enqueue_1 : decode cX6_enqueue 1 = .ok (.ifCond .lt 21, 3) := by decide +kernel
theorem dX6_enqueue_4 : decode cX6_enqueue 4 = .ok (.iload_n 1, 1) := by decide +kernel
theorem dX6_enqueue_5 : decode cX6_enqueue 5 = .ok (.aload_n 0, 1) := by decide +kernel
theorem dX6_enqueue_6 : decode cX6_enqueue 6 = .ok (.getfield 15, 3) := by decide +kernel
theorem dX6_enqueue_9 : decode cX6_enqueue 9 = .ok (.arraylength, 1) := by decide +kernel
theorem dX6_enqueue_10 : decode cX6_enqueue 10 = .ok (.if_icmp .ge 12, 3) := by decide +kernel
theorem dX6_enqueue_13 : decode cX6_enqueue 13 = .ok (.aload_n 0, 1) := by decide +kernel
theorem dX6_enqueue_14 : decode cX6_enqueue 14 = .ok (.getfield 15, 3) := by decide +kernel
theorem dX6_enqueue_17 : decode cX6_enqueue 17 = .ok (.iload_n 1, 1) := by decide +kernel
theorem dX6_enqueue_18 : decode cX6_enqueue 18 = .ok (.iaload, 1) := by decide +kernel
theorem dX6_enqueue_19 : decode cX6_enqueue 19 = .ok (.ifCond .eq 4, 3) := by decide +kernel
theorem dX6_enqueue_22 : decode cX6_enqueue 22 = .ok (.return_, 1) := by decide +kernel
theorem dX6_enqueue_23 : decode cX6_enqueue 23 = .ok (.aload_n 0, 1) := by decide +kernel
theorem dX6_enqueue_24 : decode cX6_enqueue 24 = .ok (.getfield 18, 3) := by decide +kernel
theorem dX6_enqueue_27 : decode cX6_enqueue 27 = .ok (.ifCond .lt 42, 3) := by decide +kernel
theorem dX6_enqueue_30 : decode cX6_enqueue 30 = .ok (.aload_n 0, 1) := by decide +kernel
theorem dX6_enqueue_31 : decode cX6_enqueue 31 = .ok (.getfield 18, 3) := by decide +kernel
theorem dX6_enqueue_34 : decode cX6_enqueue 34 = .ok (.aload_n 0, 1) := by decide +kernel
theorem dX6_enqueue_35 : decode cX6_enqueue 35 = .ok (.getfield 9, 3) := by decide +kernel
theorem dX6_enqueue_38 : decode cX6_enqueue 38 = .ok (.arraylength, 1) := by decide +kernel
theorem dX6_enqueue_39 : decode cX6_enqueue 39 = .ok (.if_icmp .ge 30, 3) := by decide +kernel
theorem dX6_enqueue_42 : decode cX6_enqueue 42 = .ok (.aload_n 0, 1) := by decide +kernel
theorem dX6_enqueue_43 : decode cX6_enqueue 43 = .ok (.getfield 15, 3) := by decide +kernel
theorem dX6_enqueue_46 : decode cX6_enqueue 46 = .ok (.iload_n 1, 1) := by decide +kernel
theorem dX6_enqueue_47 : decode cX6_enqueue 47 = .ok (.iload_n 2, 1) := by decide +kernel
theorem dX6_enqueue_48 : decode cX6_enqueue 48 = .ok (.iastore, 1) := by decide +kernel
theorem dX6_enqueue_49 : decode cX6_enqueue 49 = .ok (.aload_n 0, 1) := by decide +kernel
theorem dX6_enqueue_50 : decode cX6_enqueue 50 = .ok (.getfield 9, 3) := by decide +kernel
theorem dX6_enqueue_53 : decode cX6_enqueue 53 = .ok (.aload_n 0, 1) := by decide +kernel
theorem dX6_enqueue_54 : decode cX6_enqueue 54 = .ok (.getfield 18, 3) := by decide +kernel
theorem dX6_enqueue_57 : decode cX6_enqueue 57 = .ok (.iload_n 1, 1) := by decide +kernel
theorem dX6_enqueue_58 : decode cX6_enqueue 58 = .ok (.iastore, 1) := by decide +kernel
theorem dX6_enqueue_59 : decode cX6_enqueue 59 = .ok (.aload_n 0, 1) := by decide +kernel
theorem dX6_enqueue_60 : decode cX6_enqueue 60 = .ok (.dup, 1) := by decide +kernel
theorem dX6_enqueue_61 : decode cX6_enqueue 61 = .ok (.getfield 18, 3) := by decide +kernel
theorem dX6_enqueue_64 : decode cX6_enqueue 64 = .ok (.iconst 1, 1) := by decide +kernel
theorem dX6_enqueue_65 : decode cX6_enqueue 65 = .ok (.iadd, 1) := by decide +kernel
theorem dX6_enqueue_66 : decode cX6_enqueue 66 = .ok (.putfield 18, 3) := by decide +kernel
theorem dX6_enqueue_69 : decode cX6_enqueue 69 = .ok (.return_, 1) := by decide +kernel
theorem dX7_howMany_0 : decode cX7_howMany 0 = .ok (.getstatic 9, 3) := by decide +kernel
theorem dX7_howMany_3 : decode cX7_howMany 3 = .ok (.iload_n 0, 1) := by decide +kernel
theorem dX7_howMany_4 : decode cX7_howMany 4 = .ok (.bipush 7, 2) := by decide +kernel
theorem dX7_howMany_6 : decode cX7_howMany 6 = .ok (.iand, 1) := by decide +kernel
theorem dX7_howMany_7 : decode cX7_howMany 7 = .ok (.iaload, 1) := by decide +kernel
theorem dX7_howMany_8 : decode cX7_howMany 8 = .ok (.ireturn, 1) := by decide +kernel
set_option maxRecDepth 20000 in
theorem ggX7_asTold_X7_with : GoodIn wsX7_asTold wsX7_with := goodIn_r _ [4] (by decide +kernel) (by decide +kernel)
set_option maxRecDepth 20000 in
theorem gX7_asTold_X7_with : GoodIn wsX7_asTold (va_wsS RX7 15 yX7_with wsX7_with) := goodIn_app (goodIn_of _ (by decide +kernel)) ggX7_asTold_X7_with
theorem dX7_asTold_0 : decode cX7_asTold 0 = .ok (.iconst 0, 1) := by decide +kernel
theorem dX7_asTold_1 : decode cX7_asTold 1 = .ok (.istore_n 1, 1) := by decide +kernel
theorem dX7_asTold_2 : decode cX7_asTold 2 = .ok (.iconst 0, 1) := by decide +kernel
theorem dX7_asTold_3 : decode cX7_asTold 3 = .ok (.istore_n 2, 1) := by decide +kernel
theorem dX7_asTold_4 : decode cX7_asTold 4 = .ok (.iload_n 2, 1) := by decide +kernel
theorem dX7_asTold_5 : decode cX7_asTold 5 = .ok (.iload_n 0, 1) := by decide +kernel
theorem dX7_asTold_6 : decode cX7_asTold 6 = .ok (.if_icmp .ge 22, 3) := by decide +kernel
theorem dX7_asTold_9 : decode cX7_asTold 9 = .ok (.iload_n 2, 1) := by decide +kernel
theorem dX7_asTold_10 : decode cX7_asTold 10 = .ok (.bipush 7, 2) := by decide +kernel
theorem dX7_asTold_12 : decode cX7_asTold 12 = .ok (.if_icmp .ge 16, 3) := by decide +kernel
theorem dX7_asTold_15 : decode cX7_asTold 15 = .ok (.iload_n 1, 1) := by decide +kernel
theorem dX7_asTold_16 : decode cX7_asTold 16 = .ok (.iload_n 2, 1) := by decide +kernel
theorem dX7_asTold_17 : decode cX7_asTold 17 = .ok (.iload_n 2, 1) := by decide +kernel
theorem dX7_asTold_18 : decode cX7_asTold 18 = .ok (.invokestatic 15, 3) := by decide +kernel
theorem dX7_asTold_21 : decode cX7_asTold 21 = .ok (.istore_n 1, 1) := by decide +kernel
theorem dX7_asTold_22 : decode cX7_asTold 22 = .ok (.iinc 2 1, 3) := by decide +kernel
theorem dX7_asTold_25 : decode cX7_asTold 25 = .ok (.goto (-21), 3) := by decide +kernel
theorem dX7_asTold_28 : decode cX7_asTold 28 = .ok (.iload_n 1, 1) := by decide +kernel
theorem dX7_asTold_29 : decode cX7_asTold 29 = .ok (.ireturn, 1) := by decide +kernel
theorem dX7_personOn_0 : decode cX7_personOn 0 = .ok (.iload_n 0, 1) := by decide +kernel
theorem dX7_personOn_1 : decode cX7_personOn 1 = .ok (.bipush 18, 2) := by decide +kernel
theorem dX7_personOn_3 : decode cX7_personOn 3 = .ok (.iconst 3, 1) := by decide +kernel
theorem dX7_personOn_4 : decode cX7_personOn 4 = .ok (.iload_n 1, 1) := by decide +kernel
theorem dX7_personOn_5 : decode cX7_personOn 5 = .ok (.imul, 1) := by decide +kernel
theorem dX7_personOn_6 : decode cX7_personOn 6 = .ok (.isub, 1) := by decide +kernel
theorem dX7_personOn_7 : decode cX7_personOn 7 = .ok (.ishr, 1) := by decide +kernel
theorem dX7_personOn_8 : decode cX7_personOn 8 = .ok (.bipush 7, 2) := by decide +kernel
theorem dX7_personOn_10 : decode cX7_personOn 10 = .ok (.iand, 1) := by decide +kernel
theorem dX7_personOn_11 : decode cX7_personOn 11 = .ok (.ireturn, 1) := by decide +kernel
theorem dX7_with_0 : decode cX7_with 0 = .ok (.bipush 18, 2) := by decide +kernel
theorem dX7_with_2 : decode cX7_with 2 = .ok (.iconst 3, 1) := by decide +kernel
theorem dX7_with_3 : decode cX7_with 3 = .ok (.iload_n 1, 1) := by decide +kernel
theorem dX7_with_4 : decode cX7_with 4 = .ok (.imul, 1) := by decide +kernel
theorem dX7_with_5 : decode cX7_with 5 = .ok (.isub, 1) := by decide +kernel
theorem dX7_with_6 : decode cX7_with 6 = .ok (.istore_n 3, 1) := by decide +kernel
theorem dX7_with_7 : decode cX7_with 7 = .ok (.iload_n 0, 1) := by decide +kernel
theorem dX7_with_8 : decode cX7_with 8 = .ok (.bipush 7, 2) := by decide +kernel
theorem dX7_with_10 : decode cX7_with 10 = .ok (.iload_n 3, 1) := by decide +kernel
theorem dX7_with_11 : decode cX7_with 11 = .ok (.ishl, 1) := by decide +kernel
theorem dX7_with_12 : decode cX7_with 12 = .ok (.iconst (-1), 1) := by decide +kernel
theorem dX7_with_13 : decode cX7_with 13 = .ok (.ixor, 1) := by decide +kernel
theorem dX7_with_14 : decode cX7_with 14 = .ok (.iand, 1) := by decide +kernel
theorem dX7_with_15 : decode cX7_with 15 = .ok (.iload_n 2, 1) := by decide +kernel
theorem dX7_with_16 : decode cX7_with 16 = .ok (.bipush 7, 2) := by decide +kernel
theorem dX7_with_18 : decode cX7_with 18 = .ok (.iand, 1) := by decide +kernel
theorem dX7_with_19 : decode cX7_with 19 = .ok (.iload_n 3, 1) := by decide +kernel
theorem dX7_with_20 : decode cX7_with 20 = .ok (.ishl, 1) := by decide +kernel
theorem dX7_with_21 : decode cX7_with 21 = .ok (.ior, 1) := by decide +kernel
theorem dX7_with_22 : decode cX7_with 22 = .ok (.ireturn, 1) := by decide +kernel
set_option maxRecDepth 20000 in
theorem ggX7_chairOf_X7_personOn : GoodIn wsX7_chairOf wsX7_personOn := goodIn_r _ [4] (by decide +kernel) (by decide +kernel)
set_option maxRecDepth 20000 in
theorem gX7_chairOf_X7_personOn : GoodIn wsX7_chairOf (va_wsS RX7 19 yX7_personOn wsX7_personOn) := goodIn_app (goodIn_of _ (by decide +kernel)) ggX7_chairOf_X7_personOn
theorem dX7_chairOf_0 : decode cX7_chairOf 0 = .ok (.iconst 0, 1) := by decide +kernel
theorem dX7_chairOf_1 : decode cX7_chairOf 1 = .ok (.istore_n 3, 1) := by decide +kernel
theorem dX7_chairOf_2 : decode cX7_chairOf 2 = .ok (.iload_n 3, 1) := by decide +kernel
theorem dX7_chairOf_3 : decode cX7_chairOf 3 = .ok (.iload_n 2, 1) := by decide +kernel
theorem dX7_chairOf_4 : decode cX7_chairOf 4 = .ok (.if_icmp .ge 26, 3) := by decide +kernel
theorem dX7_chairOf_7 : decode cX7_chairOf 7 = .ok (.iload_n 3, 1) := by decide +kernel
theorem dX7_chairOf_8 : decode cX7_chairOf 8 = .ok (.bipush 7, 2) := by decide +kernel
theorem dX7_chairOf_10 : decode cX7_chairOf 10 = .ok (.if_icmp .ge 20, 3) := by decide +kernel
theorem dX7_chairOf_13 : decode cX7_chairOf 13 = .ok (.iload_n 0, 1) := by decide +kernel
theorem dX7_chairOf_14 : decode cX7_chairOf 14 = .ok (.iload_n 3, 1) := by decide +kernel
theorem dX7_chairOf_15 : decode cX7_chairOf 15 = .ok (.invokestatic 19, 3) := by decide +kernel
theorem dX7_chairOf_18 : decode cX7_chairOf 18 = .ok (.iload_n 1, 1) := by decide +kernel
theorem dX7_chairOf_19 : decode cX7_chairOf 19 = .ok (.if_icmp .ne 5, 3) := by decide +kernel
theorem dX7_chairOf_22 : decode cX7_chairOf 22 = .ok (.iload_n 3, 1) := by decide +kernel
theorem dX7_chairOf_23 : decode cX7_chairOf 23 = .ok (.ireturn, 1) := by decide +kernel
theorem dX7_chairOf_24 : decode cX7_chairOf 24 = .ok (.iinc 3 1, 3) := by decide +kernel
theorem dX7_chairOf_27 : decode cX7_chairOf 27 = .ok (.goto (-25), 3) := by decide +kernel
theorem dX7_chairOf_30 : decode cX7_chairOf 30 = .ok (.iconst 0, 1) := by decide +kernel
theorem dX7_chairOf_31 : decode cX7_chairOf 31 = .ok (.ireturn, 1) := by decide +kernel
set_option maxRecDepth 20000 in
theorem ggX7_exchanged_X7_personOn : GoodIn wsX7_exchanged wsX7_personOn := goodIn_r _ [4] (by decide +kernel) (by decide +kernel)
set_option maxRecDepth 20000 in
theorem gX7_exchanged_X7_personOn : GoodIn wsX7_exchanged (va_wsS RX7 19 yX7_personOn wsX7_personOn) := goodIn_app (goodIn_of _ (by decide +kernel)) ggX7_exchanged_X7_personOn
set_option maxRecDepth 20000 in
theorem ggX7_exchanged_X7_with : GoodIn wsX7_exchanged wsX7_with := goodIn_r _ [7] (by decide +kernel) (by decide +kernel)
set_option maxRecDepth 20000 in
theorem gX7_exchanged_X7_with : GoodIn wsX7_exchanged (va_wsS RX7 15 yX7_with wsX7_with) := goodIn_app (goodIn_of _ (by decide +kernel)) ggX7_exchanged_X7_with
theorem dX7_exchanged_0 : decode cX7_exchanged 0 = .ok (.iload_n 0, 1) := by decide +kernel
theorem dX7_exchanged_1 : decode cX7_exchanged 1 = .ok (.iload_n 1, 1) := by decide +kernel
theorem dX7_exchanged_2 : decode cX7_exchanged 2 = .ok (.invokestatic 19, 3) := by decide +kernel
theorem dX7_exchanged_5 : decode cX7_exchanged 5 = .ok (.istore_n 3, 1) := by decide +kernel
theorem dX7_exchanged_6 : decode cX7_exchanged 6 = .ok (.iload_n 0, 1) := by decide +kernel
theorem dX7_exchanged_7 : decode cX7_exchanged 7 = .ok (.iload_n 2, 1) := by decide +kernel
theorem dX7_exchanged_8 : decode cX7_exchanged 8 = .ok (.invokestatic 19, 3) := by decide +kernel
theorem dX7_exchanged_11 : decode cX7_exchanged 11 = .ok (.istore 4, 2) := by decide +kernel
theorem dX7_exchanged_13 : decode cX7_exchanged 13 = .ok (.iload_n 0, 1) := by decide +kernel
theorem dX7_exchanged_14 : decode cX7_exchanged 14 = .ok (.iload_n 1, 1) := by decide +kernel
theorem dX7_exchanged_15 : decode cX7_exchanged 15 = .ok (.iload 4, 2) := by decide +kernel
theorem dX7_exchanged_17 : decode cX7_exchanged 17 = .ok (.invokestatic 15, 3) := by decide +kernel
theorem dX7_exchanged_20 : decode cX7_exchanged 20 = .ok (.iload_n 2, 1) := by decide +kernel
theorem dX7_exchanged_21 : decode cX7_exchanged 21 = .ok (.iload_n 3, 1) := by decide +kernel
theorem dX7_exchanged_22 : decode cX7_exchanged 22 = .ok (.invokestatic 15, 3) := by decide +kernel
theorem dX7_exchanged_25 : decode cX7_exchanged 25 = .ok (.ireturn, 1) := by decide +kernel
set_option maxRecDepth 20000 in
theorem ggX7_elsewhere_X7_personOn : GoodIn wsX7_elsewhere wsX7_personOn := goodIn_r _ [4] (by decide +kernel) (by decide +kernel)
set_option maxRecDepth 20000 in
theorem gX7_elsewhere_X7_personOn : GoodIn wsX7_elsewhere (va_wsS RX7 19 yX7_personOn wsX7_personOn) := goodIn_app (goodIn_of _ (by decide +kernel)) ggX7_elsewhere_X7_personOn
theorem dX7_elsewhere_0 : decode cX7_elsewhere 0 = .ok (.iconst 0, 1) := by decide +kernel
theorem dX7_elsewhere_1 : decode cX7_elsewhere 1 = .ok (.istore_n 3, 1) := by decide +kernel
theorem dX7_elsewhere_2 : decode cX7_elsewhere 2 = .ok (.iconst 0, 1) := by decide +kernel
theorem dX7_elsewhere_3 : decode cX7_elsewhere 3 = .ok (.istore 4, 2) := by decide +kernel
theorem dX7_elsewhere_5 : decode cX7_elsewhere 5 = .ok (.iload 4, 2) := by decide +kernel
theorem dX7_elsewhere_7 : decode cX7_elsewhere 7 = .ok (.iload_n 2, 1) := by decide +kernel
theorem dX7_elsewhere_8 : decode cX7_elsewhere 8 = .ok (.if_icmp .ge 34, 3) := by decide +kernel
theorem dX7_elsewhere_11 : decode cX7_elsewhere 11 = .ok (.iload 4, 2) := by decide +kernel
theorem dX7_elsewhere_13 : decode cX7_elsewhere 13 = .ok (.bipush 7, 2) := by decide +kernel
theorem dX7_elsewhere_15 : decode cX7_elsewhere 15 = .ok (.if_icmp .ge 27, 3) := by decide +kernel
theorem dX7_elsewhere_18 : decode cX7_elsewhere 18 = .ok (.iload_n 0, 1) := by decide +kernel
theorem dX7_elsewhere_19 : decode cX7_elsewhere 19 = .ok (.iload 4, 2) := by decide +kernel
theorem dX7_elsewhere_21 : decode cX7_elsewhere 21 = .ok (.invokestatic 19, 3) := by decide +kernel
theorem dX7_elsewhere_24 : decode cX7_elsewhere 24 = .ok (.iload_n 1, 1) := by decide +kernel
theorem dX7_elsewhere_25 : decode cX7_elsewhere 25 = .ok (.iload 4, 2) := by decide +kernel
theorem dX7_elsewhere_27 : decode cX7_elsewhere 27 = .ok (.invokestatic 19, 3) := by decide +kernel
theorem dX7_elsewhere_30 : decode cX7_elsewhere 30 = .ok (.if_icmp .eq 6, 3) := by decide +kernel
theorem dX7_elsewhere_33 : decode cX7_elsewhere 33 = .ok (.iinc 3 1, 3) := by decide +kernel
theorem dX7_elsewhere_36 : decode cX7_elsewhere 36 = .ok (.iinc 4 1, 3) := by decide +kernel
theorem dX7_elsewhere_39 : decode cX7_elsewhere 39 = .ok (.goto (-34), 3) := by decide +kernel
theorem dX7_elsewhere_42 : decode cX7_elsewhere 42 = .ok (.iload_n 3, 1) := by decide +kernel
theorem dX7_elsewhere_43 : decode cX7_elsewhere 43 = .ok (.ireturn, 1) := by decide +kernel
theorem dX8_init_0 : decode cX8_init 0 = .ok (.aload_n 0, 1) := by decide +kernel
theorem dX8_init_1 : decode cX8_init 1 = .ok (.invokespecial 3, 3) := by decide +kernel
theorem dX8_init_4 : decode cX8_init 4 = .ok (.aload_n 0, 1) := by decide +kernel
theorem dX8_init_5 : decode cX8_init 5 = .ok (.bipush 64, 2) := by decide +kernel
theorem dX8_init_7 : decode cX8_init 7 = .ok (.newarray .int, 2) := by decide +kernel
theorem dX8_init_9 : decode cX8_init 9 = .ok (.putfield 11, 3) := by decide +kernel
theorem dX8_init_12 : decode cX8_init 12 = .ok (.aload_n 0, 1) := by decide +kernel
theorem dX8_init_13 : decode cX8_init 13 = .ok (.iconst 0, 1) := by decide +kernel
theorem dX8_init_14 : decode cX8_init 14 = .ok (.putfield 17, 3) := by decide +kernel
theorem dX8_init_17 : decode cX8_init 17 = .ok (.aload_n 0, 1) := by decide +kernel
theorem dX8_init_18 : decode cX8_init 18 = .ok (.iconst 0, 1) := by decide +kernel
theorem dX8_init_19 : decode cX8_init 19 = .ok (.putfield 21, 3) := by decide +kernel
theorem dX8_init_22 : decode cX8_init 22 = .ok (.return_, 1) := by decide +kernel
set_option maxRecDepth 20000 in
theorem ggX8_begin_X7_asTold : GoodIn wsX8_begin wsX7_asTold := goodIn_r _ [6, 7, 8, 5, 9] (by decide +kernel) (by decide +kernel)
set_option maxRecDepth 20000 in
theorem gX8_begin_X7_asTold : GoodIn wsX8_begin (va_wsS RX8 25 yX7_asTold wsX7_asTold) := goodIn_app (goodIn_of _ (by decide +kernel)) ggX8_begin_X7_asTold
theorem dX8_begin_0 : decode cX8_begin 0 = .ok (.aload_n 0, 1) := by decide +kernel
theorem dX8_begin_1 : decode cX8_begin 1 = .ok (.iload_n 1, 1) := by decide +kernel
theorem dX8_begin_2 : decode cX8_begin 2 = .ok (.invokestatic 25, 3) := by decide +kernel
theorem dX8_begin_5 : decode cX8_begin 5 = .ok (.putfield 17, 3) := by decide +kernel
theorem dX8_begin_8 : decode cX8_begin 8 = .ok (.iconst 0, 1) := by decide +kernel
theorem dX8_begin_9 : decode cX8_begin 9 = .ok (.istore_n 2, 1) := by decide +kernel
theorem dX8_begin_10 : decode cX8_begin 10 = .ok (.iload_n 2, 1) := by decide +kernel
theorem dX8_begin_11 : decode cX8_begin 11 = .ok (.aload_n 0, 1) := by decide +kernel
theorem dX8_begin_12 : decode cX8_begin 12 = .ok (.getfield 11, 3) := by decide +kernel
theorem dX8_begin_15 : decode cX8_begin 15 = .ok (.arraylength, 1) := by decide +kernel
theorem dX8_begin_16 : decode cX8_begin 16 = .ok (.if_icmp .ge 16, 3) := by decide +kernel
theorem dX8_begin_19 : decode cX8_begin 19 = .ok (.aload_n 0, 1) := by decide +kernel
theorem dX8_begin_20 : decode cX8_begin 20 = .ok (.getfield 11, 3) := by decide +kernel
theorem dX8_begin_23 : decode cX8_begin 23 = .ok (.iload_n 2, 1) := by decide +kernel
theorem dX8_begin_24 : decode cX8_begin 24 = .ok (.iconst 0, 1) := by decide +kernel
theorem dX8_begin_25 : decode cX8_begin 25 = .ok (.iastore, 1) := by decide +kernel
theorem dX8_begin_26 : decode cX8_begin 26 = .ok (.iinc 2 1, 3) := by decide +kernel
theorem dX8_begin_29 : decode cX8_begin 29 = .ok (.goto (-19), 3) := by decide +kernel
theorem dX8_begin_32 : decode cX8_begin 32 = .ok (.return_, 1) := by decide +kernel
theorem dX8_copy_0 : decode cX8_copy 0 = .ok (.aload_n 0, 1) := by decide +kernel
theorem dX8_copy_1 : decode cX8_copy 1 = .ok (.aload_n 1, 1) := by decide +kernel
theorem dX8_copy_2 : decode cX8_copy 2 = .ok (.getfield 17, 3) := by decide +kernel
theorem dX8_copy_5 : decode cX8_copy 5 = .ok (.putfield 17, 3) := by decide +kernel
theorem dX8_copy_8 : decode cX8_copy 8 = .ok (.iconst 0, 1) := by decide +kernel
theorem dX8_copy_9 : decode cX8_copy 9 = .ok (.istore_n 2, 1) := by decide +kernel
theorem dX8_copy_10 : decode cX8_copy 10 = .ok (.iload_n 2, 1) := by decide +kernel
theorem dX8_copy_11 : decode cX8_copy 11 = .ok (.aload_n 0, 1) := by decide +kernel
theorem dX8_copy_12 : decode cX8_copy 12 = .ok (.getfield 11, 3) := by decide +kernel
theorem dX8_copy_15 : decode cX8_copy 15 = .ok (.arraylength, 1) := by decide +kernel
theorem dX8_copy_16 : decode cX8_copy 16 = .ok (.if_icmp .ge 30, 3) := by decide +kernel
theorem dX8_copy_19 : decode cX8_copy 19 = .ok (.iload_n 2, 1) := by decide +kernel
theorem dX8_copy_20 : decode cX8_copy 20 = .ok (.aload_n 1, 1) := by decide +kernel
theorem dX8_copy_21 : decode cX8_copy 21 = .ok (.getfield 11, 3) := by decide +kernel
theorem dX8_copy_24 : decode cX8_copy 24 = .ok (.arraylength, 1) := by decide +kernel
theorem dX8_copy_25 : decode cX8_copy 25 = .ok (.if_icmp .ge 21, 3) := by decide +kernel
theorem dX8_copy_28 : decode cX8_copy 28 = .ok (.aload_n 0, 1) := by decide +kernel
theorem dX8_copy_29 : decode cX8_copy 29 = .ok (.getfield 11, 3) := by decide +kernel
theorem dX8_copy_32 : decode cX8_copy 32 = .ok (.iload_n 2, 1) := by decide +kernel
theorem dX8_copy_33 : decode cX8_copy 33 = .ok (.aload_n 1, 1) := by decide +kernel
theorem dX8_copy_34 : decode cX8_copy 34 = .ok (.getfield 11, 3) := by decide +kernel
theorem dX8_copy_37 : decode cX8_copy 37 = .ok (.iload_n 2, 1) := by decide +kernel
theorem dX8_copy_38 : decode cX8_copy 38 = .ok (.iaload, 1) := by decide +kernel
theorem dX8_copy_39 : decode cX8_copy 39 = .ok (.iastore, 1) := by decide +kernel
theorem dX8_copy_40 : decode cX8_copy 40 = .ok (.iinc 2 1, 3) := by decide +kernel
theorem dX8_copy_43 : decode cX8_copy 43 = .ok (.goto (-33), 3) := by decide +kernel
theorem dX8_copy_46 : decode cX8_copy 46 = .ok (.return_, 1) := by decide +kernel
set_option maxRecDepth 20000 in
theorem ggX8_mostDined_X4_neighbourPairs : GoodIn wsX8_mostDined wsX4_neighbourPairs := goodIn_r _ [11, 12, 13, 36, 37, 38, 39, 40, 41, 42, 43, 44, 45] (by decide +kernel) (by decide +kernel)
set_option maxRecDepth 20000 in
theorem gX8_mostDined_X4_neighbourPairs : GoodIn wsX8_mostDined (wsV RX8 31 RX4 yX4_neighbourPairs wsX4_neighbourPairs) := goodIn_app (goodIn_of _ (by decide +kernel)) ggX8_mostDined_X4_neighbourPairs
set_option maxRecDepth 20000 in
theorem ggX8_mostDined_X4_cellOfPair : GoodIn wsX8_mostDined wsX4_cellOfPair := goodIn_r _ [17, 18, 19, 20, 21, 22, 23, 24, 10, 25, 13, 26, 27, 28, 29, 30, 31, 32, 36, 37, 38, 39, 40, 41, 42, 43, 44, 45] (by decide +kernel) (by decide +kernel)
set_option maxRecDepth 20000 in
theorem gX8_mostDined_X4_cellOfPair : GoodIn wsX8_mostDined (wsV RX8 37 RX4 yX4_cellOfPair wsX4_cellOfPair) := goodIn_app (goodIn_of _ (by decide +kernel)) ggX8_mostDined_X4_cellOfPair
theorem dX8_mostDined_0 : decode cX8_mostDined 0 = .ok (.iconst 0, 1) := by decide +kernel
theorem dX8_mostDined_1 : decode cX8_mostDined 1 = .ok (.istore_n 2, 1) := by decide +kernel
theorem dX8_mostDined_2 : decode cX8_mostDined 2 = .ok (.aload_n 1, 1) := by decide +kernel
theorem dX8_mostDined_3 : decode cX8_mostDined 3 = .ok (.invokevirtual 31, 3) := by decide +kernel
theorem dX8_mostDined_6 : decode cX8_mostDined 6 = .ok (.istore_n 3, 1) := by decide +kernel
theorem dX8_mostDined_7 : decode cX8_mostDined 7 = .ok (.iconst 0, 1) := by decide +kernel
theorem dX8_mostDined_8 : decode cX8_mostDined 8 = .ok (.istore 4, 2) := by decide +kernel
theorem dX8_mostDined_10 : decode cX8_mostDined 10 = .ok (.iload 4, 2) := by decide +kernel
theorem dX8_mostDined_12 : decode cX8_mostDined 12 = .ok (.iload_n 3, 1) := by decide +kernel
theorem dX8_mostDined_13 : decode cX8_mostDined 13 = .ok (.if_icmp .ge 36, 3) := by decide +kernel
theorem dX8_mostDined_16 : decode cX8_mostDined 16 = .ok (.iload 4, 2) := by decide +kernel
theorem dX8_mostDined_18 : decode cX8_mostDined 18 = .ok (.bipush 7, 2) := by decide +kernel
theorem dX8_mostDined_20 : decode cX8_mostDined 20 = .ok (.if_icmp .ge 29, 3) := by decide +kernel
theorem dX8_mostDined_23 : decode cX8_mostDined 23 = .ok (.iload_n 2, 1) := by decide +kernel
theorem dX8_mostDined_24 : decode cX8_mostDined 24 = .ok (.aload_n 0, 1) := by decide +kernel
theorem dX8_mostDined_25 : decode cX8_mostDined 25 = .ok (.getfield 11, 3) := by decide +kernel
theorem dX8_mostDined_28 : decode cX8_mostDined 28 = .ok (.aload_n 1, 1) := by decide +kernel
theorem dX8_mostDined_29 : decode cX8_mostDined 29 = .ok (.aload_n 0, 1) := by decide +kernel
theorem dX8_mostDined_30 : decode cX8_mostDined 30 = .ok (.getfield 17, 3) := by decide +kernel
theorem dX8_mostDined_33 : decode cX8_mostDined 33 = .ok (.iload 4, 2) := by decide +kernel
theorem dX8_mostDined_35 : decode cX8_mostDined 35 = .ok (.invokevirtual 37, 3) := by decide +kernel
theorem dX8_mostDined_38 : decode cX8_mostDined 38 = .ok (.iaload, 1) := by decide +kernel
theorem dX8_mostDined_39 : decode cX8_mostDined 39 = .ok (.invokestatic 41, 3) := by decide +kernel
theorem dX8_mostDined_42 : decode cX8_mostDined 42 = .ok (.istore_n 2, 1) := by decide +kernel
theorem dX8_mostDined_43 : decode cX8_mostDined 43 = .ok (.iinc 4 1, 3) := by decide +kernel
theorem dX8_mostDined_46 : decode cX8_mostDined 46 = .ok (.goto (-36), 3) := by decide +kernel
theorem dX8_mostDined_49 : decode cX8_mostDined 49 = .ok (.iload_n 2, 1) := by decide +kernel
theorem dX8_mostDined_50 : decode cX8_mostDined 50 = .ok (.ireturn, 1) := by decide +kernel
set_option maxRecDepth 20000 in
theorem ggX8_pairsThatDined_X4_neighbourPairs : GoodIn wsX8_pairsThatDined wsX4_neighbourPairs := goodIn_r _ [7, 8, 9, 32, 33, 34, 35, 36, 37, 38, 39, 40, 41] (by decide +kernel) (by decide +kernel)
set_option maxRecDepth 20000 in
theorem gX8_pairsThatDined_X4_neighbourPairs : GoodIn wsX8_pairsThatDined (wsV RX8 31 RX4 yX4_neighbourPairs wsX4_neighbourPairs) := goodIn_app (goodIn_of _ (by decide +kernel)) ggX8_pairsThatDined_X4_neighbourPairs
set_option maxRecDepth 20000 in
theorem ggX8_pairsThatDined_X4_cellOfPair : GoodIn wsX8_pairsThatDined wsX4_cellOfPair := goodIn_r _ [13, 14, 15, 16, 17, 18, 19, 20, 6, 21, 9, 22, 23, 24, 25, 26, 27, 28, 32, 33, 34, 35, 36, 37, 38, 39, 40, 41] (by decide +kernel) (by decide +kernel)
set_option maxRecDepth 20000 in
theorem gX8_pairsThatDined_X4_cellOfPair : GoodIn wsX8_pairsThatDined (wsV RX8 37 RX4 yX4_cellOfPair wsX4_cellOfPair) := goodIn_app (goodIn_of _ (by decide +kernel)) ggX8_pairsThatDined_X4_cellOfPair
theorem dX8_pairsThatDined_0 : decode cX8_pairsThatDined 0 = .ok (.iconst 0, 1) := by decide +kernel
theorem dX8_pairsThatDined_1 : decode cX8_pairsThatDined 1 = .ok (.istore_n 2, 1) := by decide +kernel
theorem dX8_pairsThatDined_2 : decode cX8_pairsThatDined 2 = .ok (.aload_n 1, 1) := by decide +kernel
theorem dX8_pairsThatDined_3 : decode cX8_pairsThatDined 3 = .ok (.invokevirtual 31, 3) := by decide +kernel
theorem dX8_pairsThatDined_6 : decode cX8_pairsThatDined 6 = .ok (.istore_n 3, 1) := by decide +kernel
theorem dX8_pairsThatDined_7 : decode cX8_pairsThatDined 7 = .ok (.iconst 0, 1) := by decide +kernel
theorem dX8_pairsThatDined_8 : decode cX8_pairsThatDined 8 = .ok (.istore 4, 2) := by decide +kernel
theorem dX8_pairsThatDined_10 : decode cX8_pairsThatDined 10 = .ok (.iload 4, 2) := by decide +kernel
theorem dX8_pairsThatDined_12 : decode cX8_pairsThatDined 12 = .ok (.iload_n 3, 1) := by decide +kernel
theorem dX8_pairsThatDined_13 : decode cX8_pairsThatDined 13 = .ok (.if_icmp .ge 37, 3) := by decide +kernel
theorem dX8_pairsThatDined_16 : decode cX8_pairsThatDined 16 = .ok (.iload 4, 2) := by decide +kernel
theorem dX8_pairsThatDined_18 : decode cX8_pairsThatDined 18 = .ok (.bipush 7, 2) := by decide +kernel
theorem dX8_pairsThatDined_20 : decode cX8_pairsThatDined 20 = .ok (.if_icmp .ge 30, 3) := by decide +kernel
theorem dX8_pairsThatDined_23 : decode cX8_pairsThatDined 23 = .ok (.aload_n 0, 1) := by decide +kernel
theorem dX8_pairsThatDined_24 : decode cX8_pairsThatDined 24 = .ok (.getfield 11, 3) := by decide +kernel
theorem dX8_pairsThatDined_27 : decode cX8_pairsThatDined 27 = .ok (.aload_n 1, 1) := by decide +kernel
theorem dX8_pairsThatDined_28 : decode cX8_pairsThatDined 28 = .ok (.aload_n 0, 1) := by decide +kernel
theorem dX8_pairsThatDined_29 : decode cX8_pairsThatDined 29 = .ok (.getfield 17, 3) := by decide +kernel
theorem dX8_pairsThatDined_32 : decode cX8_pairsThatDined 32 = .ok (.iload 4, 2) := by decide +kernel
theorem dX8_pairsThatDined_34 : decode cX8_pairsThatDined 34 = .ok (.invokevirtual 37, 3) := by decide +kernel
theorem dX8_pairsThatDined_37 : decode cX8_pairsThatDined 37 = .ok (.iaload, 1) := by decide +kernel
theorem dX8_pairsThatDined_38 : decode cX8_pairsThatDined 38 = .ok (.ifCond .le 6, 3) := by decide +kernel
theorem dX8_pairsThatDined_41 : decode cX8_pairsThatDined 41 = .ok (.iinc 2 1, 3) := by decide +kernel
theorem dX8_pairsThatDined_44 : decode cX8_pairsThatDined 44 = .ok (.iinc 4 1, 3) := by decide +kernel
theorem dX8_pairsThatDined_47 : decode cX8_pairsThatDined 47 = .ok (.goto (-37), 3) := by decide +kernel
theorem dX8_pairsThatDined_50 : decode cX8_pairsThatDined 50 = .ok (.iload_n 2, 1) := by decide +kernel
theorem dX8_pairsThatDined_51 : decode cX8_pairsThatDined 51 = .ok (.ireturn, 1) := by decide +kernel
set_option maxRecDepth 20000 in
theorem ggX8_dine_X4_neighbourPairs : GoodIn wsX8_dine wsX4_neighbourPairs := goodIn_r _ [7, 8, 9, 32, 33, 34, 35, 36, 37, 38, 39, 40, 41] (by decide +kernel) (by decide +kernel)
set_option maxRecDepth 20000 in
theorem gX8_dine_X4_neighbourPairs : GoodIn wsX8_dine (wsV RX8 31 RX4 yX4_neighbourPairs wsX4_neighbourPairs) := goodIn_app (goodIn_of _ (by decide +kernel)) ggX8_dine_X4_neighbourPairs
set_option maxRecDepth 20000 in
theorem ggX8_dine_X4_cellOfPair : GoodIn wsX8_dine wsX4_cellOfPair := goodIn_r _ [13, 14, 15, 16, 17, 18, 19, 20, 6, 21, 9, 22, 23, 24, 25, 26, 27, 28, 32, 33, 34, 35, 36, 37, 38, 39, 40, 41] (by decide +kernel) (by decide +kernel)
set_option maxRecDepth 20000 in
theorem gX8_dine_X4_cellOfPair : GoodIn wsX8_dine (wsV RX8 37 RX4 yX4_cellOfPair wsX4_cellOfPair) := goodIn_app (goodIn_of _ (by decide +kernel)) ggX8_dine_X4_cellOfPair
theorem dX8_dine_0 : decode cX8_dine 0 = .ok (.aload_n 1, 1) := by decide +kernel
theorem dX8_dine_1 : decode cX8_dine 1 = .ok (.invokevirtual 31, 3) := by decide +kernel
theorem dX8_dine_4 : decode cX8_dine 4 = .ok (.istore_n 3, 1) := by decide +kernel
theorem dX8_dine_5 : decode cX8_dine 5 = .ok (.iconst 0, 1) := by decide +kernel
theorem dX8_dine_6 : decode cX8_dine 6 = .ok (.istore 4, 2) := by decide +kernel
theorem dX8_dine_8 : decode cX8_dine 8 = .ok (.iload 4, 2) := by decide +kernel
theorem dX8_dine_10 : decode cX8_dine 10 = .ok (.iload_n 3, 1) := by decide +kernel
theorem dX8_dine_11 : decode cX8_dine 11 = .ok (.if_icmp .ge 35, 3) := by decide +kernel
theorem dX8_dine_14 : decode cX8_dine 14 = .ok (.iload 4, 2) := by decide +kernel
theorem dX8_dine_16 : decode cX8_dine 16 = .ok (.bipush 7, 2) := by decide +kernel
theorem dX8_dine_18 : decode cX8_dine 18 = .ok (.if_icmp .ge 28, 3) := by decide +kernel
theorem dX8_dine_21 : decode cX8_dine 21 = .ok (.aload_n 0, 1) := by decide +kernel
theorem dX8_dine_22 : decode cX8_dine 22 = .ok (.getfield 11, 3) := by decide +kernel
theorem dX8_dine_25 : decode cX8_dine 25 = .ok (.aload_n 1, 1) := by decide +kernel
theorem dX8_dine_26 : decode cX8_dine 26 = .ok (.aload_n 0, 1) := by decide +kernel
theorem dX8_dine_27 : decode cX8_dine 27 = .ok (.getfield 17, 3) := by decide +kernel
theorem dX8_dine_30 : decode cX8_dine 30 = .ok (.iload 4, 2) := by decide +kernel
theorem dX8_dine_32 : decode cX8_dine 32 = .ok (.invokevirtual 37, 3) := by decide +kernel
theorem dX8_dine_35 : decode cX8_dine 35 = .ok (.dup2, 1) := by decide +kernel
theorem dX8_dine_36 : decode cX8_dine 36 = .ok (.iaload, 1) := by decide +kernel
theorem dX8_dine_37 : decode cX8_dine 37 = .ok (.iload_n 2, 1) := by decide +kernel
theorem dX8_dine_38 : decode cX8_dine 38 = .ok (.iadd, 1) := by decide +kernel
theorem dX8_dine_39 : decode cX8_dine 39 = .ok (.iastore, 1) := by decide +kernel
theorem dX8_dine_40 : decode cX8_dine 40 = .ok (.iinc 4 1, 3) := by decide +kernel
theorem dX8_dine_43 : decode cX8_dine 43 = .ok (.goto (-35), 3) := by decide +kernel
theorem dX8_dine_46 : decode cX8_dine 46 = .ok (.return_, 1) := by decide +kernel
theorem dX9_init_0 : decode cX9_init 0 = .ok (.aload_n 0, 1) := by decide +kernel
theorem dX9_init_1 : decode cX9_init 1 = .ok (.invokespecial 3, 3) := by decide +kernel
theorem dX9_init_4 : decode cX9_init 4 = .ok (.aload_n 0, 1) := by decide +kernel
theorem dX9_init_5 : decode cX9_init 5 = .ok (.bipush 64, 2) := by decide +kernel
theorem dX9_init_7 : decode cX9_init 7 = .ok (.newarray .int, 2) := by decide +kernel
theorem dX9_init_9 : decode cX9_init 9 = .ok (.putfield 9, 3) := by decide +kernel
theorem dX9_init_12 : decode cX9_init 12 = .ok (.aload_n 0, 1) := by decide +kernel
theorem dX9_init_13 : decode cX9_init 13 = .ok (.iconst 0, 1) := by decide +kernel
theorem dX9_init_14 : decode cX9_init 14 = .ok (.putfield 15, 3) := by decide +kernel
theorem dX9_init_17 : decode cX9_init 17 = .ok (.return_, 1) := by decide +kernel
theorem dX9_add_0 : decode cX9_add 0 = .ok (.iload_n 1, 1) := by decide +kernel
theorem dX9_add_1 : decode cX9_add 1 = .ok (.iconst 1, 1) := by decide +kernel
theorem dX9_add_2 : decode cX9_add 2 = .ok (.isub, 1) := by decide +kernel
theorem dX9_add_3 : decode cX9_add 3 = .ok (.istore 4, 2) := by decide +kernel
theorem dX9_add_5 : decode cX9_add 5 = .ok (.iload 4, 2) := by decide +kernel
theorem dX9_add_7 : decode cX9_add 7 = .ok (.ifCond .lt 52, 3) := by decide +kernel
theorem dX9_add_10 : decode cX9_add 10 = .ok (.aload_n 0, 1) := by decide +kernel

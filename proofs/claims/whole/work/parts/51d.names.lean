theorem dX9_add_11 : decode cX9_add 11 = .ok (.getfield 15, 3) := by decide +kernel
theorem dX9_add_14 : decode cX9_add 14 = .ok (.aload_n 0, 1) := by decide +kernel
theorem dX9_add_15 : decode cX9_add 15 = .ok (.getfield 9, 3) := by decide +kernel
theorem dX9_add_18 : decode cX9_add 18 = .ok (.arraylength, 1) := by decide +kernel
theorem dX9_add_19 : decode cX9_add 19 = .ok (.if_icmp .ge 40, 3) := by decide +kernel
theorem dX9_add_22 : decode cX9_add 22 = .ok (.aload_n 0, 1) := by decide +kernel
theorem dX9_add_23 : decode cX9_add 23 = .ok (.getfield 9, 3) := by decide +kernel
theorem dX9_add_26 : decode cX9_add 26 = .ok (.aload_n 0, 1) := by decide +kernel
theorem dX9_add_27 : decode cX9_add 27 = .ok (.getfield 15, 3) := by decide +kernel
theorem dX9_add_30 : decode cX9_add 30 = .ok (.lload_n 2, 1) := by decide +kernel
theorem dX9_add_31 : decode cX9_add 31 = .ok (.bipush 8, 2) := by decide +kernel
theorem dX9_add_33 : decode cX9_add 33 = .ok (.iload 4, 2) := by decide +kernel
theorem dX9_add_35 : decode cX9_add 35 = .ok (.imul, 1) := by decide +kernel
theorem dX9_add_36 : decode cX9_add 36 = .ok (.lushr, 1) := by decide +kernel
theorem dX9_add_37 : decode cX9_add 37 = .ok (.l2i, 1) := by decide +kernel
theorem dX9_add_38 : decode cX9_add 38 = .ok (.sipush 255, 3) := by decide +kernel
theorem dX9_add_41 : decode cX9_add 41 = .ok (.iand, 1) := by decide +kernel
theorem dX9_add_42 : decode cX9_add 42 = .ok (.iastore, 1) := by decide +kernel
theorem dX9_add_43 : decode cX9_add 43 = .ok (.aload_n 0, 1) := by decide +kernel
theorem dX9_add_44 : decode cX9_add 44 = .ok (.dup, 1) := by decide +kernel
theorem dX9_add_45 : decode cX9_add 45 = .ok (.getfield 15, 3) := by decide +kernel
theorem dX9_add_48 : decode cX9_add 48 = .ok (.iconst 1, 1) := by decide +kernel
theorem dX9_add_49 : decode cX9_add 49 = .ok (.iadd, 1) := by decide +kernel
theorem dX9_add_50 : decode cX9_add 50 = .ok (.putfield 15, 3) := by decide +kernel
theorem dX9_add_53 : decode cX9_add 53 = .ok (.iinc 4 (-1), 3) := by decide +kernel
theorem dX9_add_56 : decode cX9_add 56 = .ok (.goto (-51), 3) := by decide +kernel
theorem dX9_add_59 : decode cX9_add 59 = .ok (.return_, 1) := by decide +kernel
set_option maxRecDepth 20000 in
theorem ggX10_init_X9_init : GoodIn wsX10_init wsX9_init := goodIn_r _ [41, 42, 2, 3, 43, 44, 45, 98, 99] (by decide +kernel) (by decide +kernel)
set_option maxRecDepth 20000 in
theorem gX10_init_X9_init_n9 : GoodIn wsX10_init (wsX9_init) := ggX10_init_X9_init
set_option maxRecDepth 20000 in
theorem ggX10_init_X5_init : GoodIn wsX10_init wsX5_init := goodIn_r _ [47, 48, 2, 3, 49, 50, 51, 52, 112, 113, 114, 115] (by decide +kernel) (by decide +kernel)
set_option maxRecDepth 20000 in
theorem gX10_init_X5_init_n18 : GoodIn wsX10_init (wsX5_init) := ggX10_init_X5_init
set_option maxRecDepth 20000 in
theorem ggX10_init_X2_init : GoodIn wsX10_init wsX2_init := goodIn_r _ [54, 55, 2, 3, 43, 56, 57, 58, 116, 117, 118] (by decide +kernel) (by decide +kernel)
set_option maxRecDepth 20000 in
theorem gX10_init_X2_init_n25 : GoodIn wsX10_init (wsX2_init) := ggX10_init_X2_init
set_option maxRecDepth 20000 in
theorem ggX10_init_X8_init : GoodIn wsX10_init wsX8_init := goodIn_r _ [60, 61, 2, 3, 43, 62, 63, 64, 119, 120, 121] (by decide +kernel) (by decide +kernel)
set_option maxRecDepth 20000 in
theorem gX10_init_X8_init_n32 : GoodIn wsX10_init (wsX8_init) := ggX10_init_X8_init
set_option maxRecDepth 20000 in
theorem ggX10_init_X0_init : GoodIn wsX10_init wsX0_init := goodIn_r _ [66, 67, 2, 3, 43, 68, 69, 70, 71, 122, 123, 124] (by decide +kernel) (by decide +kernel)
set_option maxRecDepth 20000 in
theorem gX10_init_X0_init_n39 : GoodIn wsX10_init (wsX0_init) := ggX10_init_X0_init
set_option maxRecDepth 20000 in
theorem ggX10_init_X1_init : GoodIn wsX10_init wsX1_init := goodIn_r _ [73, 74, 2, 3, 43, 75, 76, 69, 77, 78, 125, 126, 127, 128] (by decide +kernel) (by decide +kernel)
set_option maxRecDepth 20000 in
theorem gX10_init_X1_init_n52 : GoodIn wsX10_init (wsX1_init) := ggX10_init_X1_init
set_option maxRecDepth 20000 in
theorem ggX10_init_X6_init : GoodIn wsX10_init wsX6_init := goodIn_r _ [80, 81, 2, 3, 43, 82, 83, 84, 129, 130, 131] (by decide +kernel) (by decide +kernel)
set_option maxRecDepth 20000 in
theorem gX10_init_X6_init_n59 : GoodIn wsX10_init (wsX6_init) := ggX10_init_X6_init
set_option maxRecDepth 20000 in
theorem ggX10_init_X4_init : GoodIn wsX10_init wsX4_init := goodIn_r _ [86, 87, 2, 3, 88, 89, 90, 91, 92, 93, 94, 95, 96, 43, 97, 132, 133, 134, 135, 136, 137, 138, 139, 140, 141] (by decide +kernel) (by decide +kernel)
set_option maxRecDepth 20000 in
theorem gX10_init_X4_init_n66 : GoodIn wsX10_init (wsX4_init) := ggX10_init_X4_init
theorem dX10_init_0 : decode cX10_init 0 = .ok (.aload_n 0, 1) := by decide +kernel
theorem dX10_init_1 : decode cX10_init 1 = .ok (.invokespecial 1, 3) := by decide +kernel
theorem dX10_init_4 : decode cX10_init 4 = .ok (.aload_n 0, 1) := by decide +kernel
theorem dX10_init_5 : decode cX10_init 5 = .ok (.new 7, 3) := by decide +kernel
theorem dX10_init_8 : decode cX10_init 8 = .ok (.dup, 1) := by decide +kernel
theorem dX10_init_9 : decode cX10_init 9 = .ok (.invokespecial 9, 3) := by decide +kernel
theorem dX10_init_12 : decode cX10_init 12 = .ok (.putfield 10, 3) := by decide +kernel
theorem dX10_init_15 : decode cX10_init 15 = .ok (.aload_n 0, 1) := by decide +kernel
theorem dX10_init_16 : decode cX10_init 16 = .ok (.new 16, 3) := by decide +kernel
theorem dX10_init_19 : decode cX10_init 19 = .ok (.dup, 1) := by decide +kernel
theorem dX10_init_20 : decode cX10_init 20 = .ok (.invokespecial 18, 3) := by decide +kernel
theorem dX10_init_23 : decode cX10_init 23 = .ok (.putfield 19, 3) := by decide +kernel
theorem dX10_init_26 : decode cX10_init 26 = .ok (.aload_n 0, 1) := by decide +kernel
theorem dX10_init_27 : decode cX10_init 27 = .ok (.new 23, 3) := by decide +kernel
theorem dX10_init_30 : decode cX10_init 30 = .ok (.dup, 1) := by decide +kernel
theorem dX10_init_31 : decode cX10_init 31 = .ok (.invokespecial 25, 3) := by decide +kernel
theorem dX10_init_34 : decode cX10_init 34 = .ok (.putfield 26, 3) := by decide +kernel
theorem dX10_init_37 : decode cX10_init 37 = .ok (.aload_n 0, 1) := by decide +kernel
theorem dX10_init_38 : decode cX10_init 38 = .ok (.new 30, 3) := by decide +kernel
theorem dX10_init_41 : decode cX10_init 41 = .ok (.dup, 1) := by decide +kernel
theorem dX10_init_42 : decode cX10_init 42 = .ok (.invokespecial 32, 3) := by decide +kernel
theorem dX10_init_45 : decode cX10_init 45 = .ok (.putfield 33, 3) := by decide +kernel
theorem dX10_init_48 : decode cX10_init 48 = .ok (.aload_n 0, 1) := by decide +kernel
theorem dX10_init_49 : decode cX10_init 49 = .ok (.new 37, 3) := by decide +kernel
theorem dX10_init_52 : decode cX10_init 52 = .ok (.dup, 1) := by decide +kernel
theorem dX10_init_53 : decode cX10_init 53 = .ok (.invokespecial 39, 3) := by decide +kernel
theorem dX10_init_56 : decode cX10_init 56 = .ok (.putfield 40, 3) := by decide +kernel
theorem dX10_init_59 : decode cX10_init 59 = .ok (.aload_n 0, 1) := by decide +kernel
theorem dX10_init_60 : decode cX10_init 60 = .ok (.new 30, 3) := by decide +kernel
theorem dX10_init_63 : decode cX10_init 63 = .ok (.dup, 1) := by decide +kernel
theorem dX10_init_64 : decode cX10_init 64 = .ok (.invokespecial 32, 3) := by decide +kernel
theorem dX10_init_67 : decode cX10_init 67 = .ok (.putfield 44, 3) := by decide +kernel
theorem dX10_init_70 : decode cX10_init 70 = .ok (.aload_n 0, 1) := by decide +kernel
theorem dX10_init_71 : decode cX10_init 71 = .ok (.new 30, 3) := by decide +kernel
theorem dX10_init_74 : decode cX10_init 74 = .ok (.dup, 1) := by decide +kernel
theorem dX10_init_75 : decode cX10_init 75 = .ok (.invokespecial 32, 3) := by decide +kernel
theorem dX10_init_78 : decode cX10_init 78 = .ok (.putfield 47, 3) := by decide +kernel
theorem dX10_init_81 : decode cX10_init 81 = .ok (.aload_n 0, 1) := by decide +kernel
theorem dX10_init_82 : decode cX10_init 82 = .ok (.new 50, 3) := by decide +kernel
theorem dX10_init_85 : decode cX10_init 85 = .ok (.dup, 1) := by decide +kernel
theorem dX10_init_86 : decode cX10_init 86 = .ok (.invokespecial 52, 3) := by decide +kernel
theorem dX10_init_89 : decode cX10_init 89 = .ok (.putfield 53, 3) := by decide +kernel
theorem dX10_init_92 : decode cX10_init 92 = .ok (.aload_n 0, 1) := by decide +kernel
theorem dX10_init_93 : decode cX10_init 93 = .ok (.new 57, 3) := by decide +kernel
theorem dX10_init_96 : decode cX10_init 96 = .ok (.dup, 1) := by decide +kernel
theorem dX10_init_97 : decode cX10_init 97 = .ok (.invokespecial 59, 3) := by decide +kernel
theorem dX10_init_100 : decode cX10_init 100 = .ok (.putfield 60, 3) := by decide +kernel
theorem dX10_init_103 : decode cX10_init 103 = .ok (.aload_n 0, 1) := by decide +kernel
theorem dX10_init_104 : decode cX10_init 104 = .ok (.new 64, 3) := by decide +kernel
theorem dX10_init_107 : decode cX10_init 107 = .ok (.dup, 1) := by decide +kernel
theorem dX10_init_108 : decode cX10_init 108 = .ok (.invokespecial 66, 3) := by decide +kernel
theorem dX10_init_111 : decode cX10_init 111 = .ok (.putfield 67, 3) := by decide +kernel
theorem dX10_init_114 : decode cX10_init 114 = .ok (.aload_n 0, 1) := by decide +kernel
theorem dX10_init_115 : decode cX10_init 115 = .ok (.new 64, 3) := by decide +kernel
theorem dX10_init_118 : decode cX10_init 118 = .ok (.dup, 1) := by decide +kernel
theorem dX10_init_119 : decode cX10_init 119 = .ok (.invokespecial 66, 3) := by decide +kernel
theorem dX10_init_122 : decode cX10_init 122 = .ok (.putfield 71, 3) := by decide +kernel
theorem dX10_init_125 : decode cX10_init 125 = .ok (.aload_n 0, 1) := by decide +kernel
theorem dX10_init_126 : decode cX10_init 126 = .ok (.lconst 0, 1) := by decide +kernel
theorem dX10_init_127 : decode cX10_init 127 = .ok (.putfield 74, 3) := by decide +kernel
theorem dX10_init_130 : decode cX10_init 130 = .ok (.return_, 1) := by decide +kernel
set_option maxRecDepth 20000 in
theorem ggX10_write_X9_add : GoodIn wsX10_write wsX9_add := goodIn_r _ [7, 8, 9, 22, 23] (by decide +kernel) (by decide +kernel)
set_option maxRecDepth 20000 in
theorem gX10_write_X9_add : GoodIn wsX10_write (wsV RX10 82 RX9 yX9_add wsX9_add) := goodIn_app (goodIn_of _ (by decide +kernel)) ggX10_write_X9_add
theorem dX10_write_0 : decode cX10_write 0 = .ok (.iload_n 1, 1) := by decide +kernel
theorem dX10_write_1 : decode cX10_write 1 = .ok (.iconst 1, 1) := by decide +kernel
theorem dX10_write_2 : decode cX10_write 2 = .ok (.if_icmp .lt 9, 3) := by decide +kernel
theorem dX10_write_5 : decode cX10_write 5 = .ok (.iload_n 1, 1) := by decide +kernel
theorem dX10_write_6 : decode cX10_write 6 = .ok (.bipush 8, 2) := by decide +kernel
theorem dX10_write_8 : decode cX10_write 8 = .ok (.if_icmp .le 6, 3) := by decide +kernel
theorem dX10_write_11 : decode cX10_write 11 = .ok (.bipush (-2), 2) := by decide +kernel
theorem dX10_write_13 : decode cX10_write 13 = .ok (.ireturn, 1) := by decide +kernel
theorem dX10_write_14 : decode cX10_write 14 = .ok (.aload_n 0, 1) := by decide +kernel
theorem dX10_write_15 : decode cX10_write 15 = .ok (.getfield 10, 3) := by decide +kernel
theorem dX10_write_18 : decode cX10_write 18 = .ok (.getfield 78, 3) := by decide +kernel
theorem dX10_write_21 : decode cX10_write 21 = .ok (.iload_n 1, 1) := by decide +kernel
theorem dX10_write_22 : decode cX10_write 22 = .ok (.iadd, 1) := by decide +kernel
theorem dX10_write_23 : decode cX10_write 23 = .ok (.bipush 64, 2) := by decide +kernel
theorem dX10_write_25 : decode cX10_write 25 = .ok (.if_icmp .le 6, 3) := by decide +kernel
theorem dX10_write_28 : decode cX10_write 28 = .ok (.bipush (-4), 2) := by decide +kernel
theorem dX10_write_30 : decode cX10_write 30 = .ok (.ireturn, 1) := by decide +kernel
theorem dX10_write_31 : decode cX10_write 31 = .ok (.aload_n 0, 1) := by decide +kernel
theorem dX10_write_32 : decode cX10_write 32 = .ok (.getfield 10, 3) := by decide +kernel
theorem dX10_write_35 : decode cX10_write 35 = .ok (.iload_n 1, 1) := by decide +kernel
theorem dX10_write_36 : decode cX10_write 36 = .ok (.lload_n 2, 1) := by decide +kernel
theorem dX10_write_37 : decode cX10_write 37 = .ok (.invokevirtual 82, 3) := by decide +kernel
theorem dX10_write_40 : decode cX10_write 40 = .ok (.aload_n 0, 1) := by decide +kernel
theorem dX10_write_41 : decode cX10_write 41 = .ok (.getfield 10, 3) := by decide +kernel
theorem dX10_write_44 : decode cX10_write 44 = .ok (.getfield 78, 3) := by decide +kernel
theorem dX10_write_47 : decode cX10_write 47 = .ok (.ireturn, 1) := by decide +kernel
theorem dX10_wipe_0 : decode cX10_wipe 0 = .ok (.aload_n 0, 1) := by decide +kernel
theorem dX10_wipe_1 : decode cX10_wipe 1 = .ok (.getfield 10, 3) := by decide +kernel
theorem dX10_wipe_4 : decode cX10_wipe 4 = .ok (.getfield 78, 3) := by decide +kernel
theorem dX10_wipe_7 : decode cX10_wipe 7 = .ok (.istore_n 1, 1) := by decide +kernel
theorem dX10_wipe_8 : decode cX10_wipe 8 = .ok (.aload_n 0, 1) := by decide +kernel
theorem dX10_wipe_9 : decode cX10_wipe 9 = .ok (.getfield 10, 3) := by decide +kernel
theorem dX10_wipe_12 : decode cX10_wipe 12 = .ok (.iconst 0, 1) := by decide +kernel
theorem dX10_wipe_13 : decode cX10_wipe 13 = .ok (.putfield 78, 3) := by decide +kernel
theorem dX10_wipe_16 : decode cX10_wipe 16 = .ok (.iload_n 1, 1) := by decide +kernel
theorem dX10_wipe_17 : decode cX10_wipe 17 = .ok (.ireturn, 1) := by decide +kernel
set_option maxRecDepth 20000 in
theorem ggX10_fault_X5_faultOf : GoodIn wsX10_fault wsX5_faultOf := goodIn_r _ [8, 9, 10, 11, 12, 13, 14, 15, 16, 17, 18, 19, 20, 21, 22, 23, 24, 25, 26, 27, 28, 29, 7, 30, 31, 32, 33, 34, 35, 36, 37, 38, 39, 40, 41, 42, 43, 44, 45, 46, 47, 48, 49, 50, 51, 52, 53, 54, 55, 56, 57, 58, 59, 60, 61, 62, 63, 64, 65, 66, 67, 68, 69, 70, 71, 72, 73, 74, 75, 76, 77, 78, 79, 80, 81, 82, 83, 84, 85, 86, 87, 88, 89, 90, 91, 92, 93, 94, 95, 96, 109, 110, 111, 112, 113, 114, 115, 116, 117, 118, 119, 120, 121, 122, 123, 124] (by decide +kernel) (by decide +kernel)
set_option maxRecDepth 20000 in
theorem gX10_fault_X5_faultOf : GoodIn wsX10_fault (wsV RX10 86 RX5 yX5_faultOf wsX5_faultOf) := goodIn_app (goodIn_of _ (by decide +kernel)) ggX10_fault_X5_faultOf
theorem dX10_fault_0 : decode cX10_fault 0 = .ok (.aload_n 0, 1) := by decide +kernel
theorem dX10_fault_1 : decode cX10_fault 1 = .ok (.getfield 19, 3) := by decide +kernel
theorem dX10_fault_4 : decode cX10_fault 4 = .ok (.aload_n 0, 1) := by decide +kernel
theorem dX10_fault_5 : decode cX10_fault 5 = .ok (.getfield 10, 3) := by decide +kernel
theorem dX10_fault_8 : decode cX10_fault 8 = .ok (.aload_n 0, 1) := by decide +kernel
theorem dX10_fault_9 : decode cX10_fault 9 = .ok (.getfield 71, 3) := by decide +kernel
theorem dX10_fault_12 : decode cX10_fault 12 = .ok (.invokevirtual 86, 3) := by decide +kernel
theorem dX10_fault_15 : decode cX10_fault 15 = .ok (.ireturn, 1) := by decide +kernel
set_option maxRecDepth 20000 in
theorem ggX10_party_X5_faultOf : GoodIn wsX10_party wsX5_faultOf := goodIn_r _ [17, 18, 19, 20, 21, 22, 23, 24, 25, 26, 27, 28, 29, 30, 31, 32, 33, 34, 35, 36, 37, 38, 16, 39, 40, 41, 42, 43, 44, 45, 46, 47, 48, 49, 50, 51, 52, 53, 54, 55, 56, 57, 58, 59, 60, 61, 62, 63, 64, 65, 66, 67, 68, 69, 70, 71, 72, 73, 74, 75, 76, 77, 78, 79, 80, 81, 82, 83, 84, 85, 86, 87, 88, 89, 90, 91, 92, 93, 94, 95, 96, 97, 98, 99, 100, 101, 102, 103, 104, 105, 155, 156, 157, 158, 159, 160, 145, 146, 147, 148, 149, 150, 151, 152, 153, 154] (by decide +kernel) (by decide +kernel)
set_option maxRecDepth 20000 in
theorem gX10_party_X5_faultOf : GoodIn wsX10_party (wsV RX10 86 RX5 yX5_faultOf wsX5_faultOf) := goodIn_app (goodIn_of _ (by decide +kernel)) ggX10_party_X5_faultOf
set_option maxRecDepth 20000 in
theorem ggX10_party_X2_forget : GoodIn wsX10_party wsX2_forget := goodIn_r _ [110, 111, 112, 161, 162, 163] (by decide +kernel) (by decide +kernel)
set_option maxRecDepth 20000 in
theorem gX10_party_X2_forget : GoodIn wsX10_party (wsV RX10 90 RX2 yX2_forget wsX2_forget) := goodIn_app (goodIn_of _ (by decide +kernel)) ggX10_party_X2_forget
set_option maxRecDepth 20000 in
theorem ggX10_party_X8_begin : GoodIn wsX10_party wsX8_begin := goodIn_r _ [117, 118, 119, 120, 121, 122, 123, 124, 125, 126, 142, 143, 144] (by decide +kernel) (by decide +kernel)
set_option maxRecDepth 20000 in
theorem gX10_party_X8_begin : GoodIn wsX10_party (wsV RX10 103 RX8 yX8_begin wsX8_begin) := goodIn_app (goodIn_of _ (by decide +kernel)) ggX10_party_X8_begin
theorem dX10_party_0 : decode cX10_party 0 = .ok (.aload_n 0, 1) := by decide +kernel
theorem dX10_party_1 : decode cX10_party 1 = .ok (.getfield 19, 3) := by decide +kernel
theorem dX10_party_4 : decode cX10_party 4 = .ok (.aload_n 0, 1) := by decide +kernel
theorem dX10_party_5 : decode cX10_party 5 = .ok (.getfield 10, 3) := by decide +kernel
theorem dX10_party_8 : decode cX10_party 8 = .ok (.aload_n 0, 1) := by decide +kernel
theorem dX10_party_9 : decode cX10_party 9 = .ok (.getfield 71, 3) := by decide +kernel
theorem dX10_party_12 : decode cX10_party 12 = .ok (.invokevirtual 86, 3) := by decide +kernel
theorem dX10_party_15 : decode cX10_party 15 = .ok (.bipush (-9), 2) := by decide +kernel
theorem dX10_party_17 : decode cX10_party 17 = .ok (.if_icmp .eq 6, 3) := by decide +kernel
theorem dX10_party_20 : decode cX10_party 20 = .ok (.bipush (-3), 2) := by decide +kernel
theorem dX10_party_22 : decode cX10_party 22 = .ok (.ireturn, 1) := by decide +kernel
theorem dX10_party_23 : decode cX10_party 23 = .ok (.aload_n 0, 1) := by decide +kernel
theorem dX10_party_24 : decode cX10_party 24 = .ok (.getfield 67, 3) := by decide +kernel
theorem dX10_party_27 : decode cX10_party 27 = .ok (.astore_n 1, 1) := by decide +kernel
theorem dX10_party_28 : decode cX10_party 28 = .ok (.aload_n 0, 1) := by decide +kernel
theorem dX10_party_29 : decode cX10_party 29 = .ok (.aload_n 0, 1) := by decide +kernel
theorem dX10_party_30 : decode cX10_party 30 = .ok (.getfield 71, 3) := by decide +kernel
theorem dX10_party_33 : decode cX10_party 33 = .ok (.putfield 67, 3) := by decide +kernel
theorem dX10_party_36 : decode cX10_party 36 = .ok (.aload_n 0, 1) := by decide +kernel
theorem dX10_party_37 : decode cX10_party 37 = .ok (.aload_n 1, 1) := by decide +kernel
theorem dX10_party_38 : decode cX10_party 38 = .ok (.putfield 71, 3) := by decide +kernel
theorem dX10_party_41 : decode cX10_party 41 = .ok (.aload_n 0, 1) := by decide +kernel
theorem dX10_party_42 : decode cX10_party 42 = .ok (.getfield 26, 3) := by decide +kernel
theorem dX10_party_45 : decode cX10_party 45 = .ok (.invokevirtual 90, 3) := by decide +kernel
theorem dX10_party_48 : decode cX10_party 48 = .ok (.aload_n 0, 1) := by decide +kernel
theorem dX10_party_49 : decode cX10_party 49 = .ok (.getfield 40, 3) := by decide +kernel
theorem dX10_party_52 : decode cX10_party 52 = .ok (.iconst 0, 1) := by decide +kernel
theorem dX10_party_53 : decode cX10_party 53 = .ok (.putfield 93, 3) := by decide +kernel
theorem dX10_party_56 : decode cX10_party 56 = .ok (.aload_n 0, 1) := by decide +kernel
theorem dX10_party_57 : decode cX10_party 57 = .ok (.getfield 44, 3) := by decide +kernel
theorem dX10_party_60 : decode cX10_party 60 = .ok (.iconst 0, 1) := by decide +kernel
theorem dX10_party_61 : decode cX10_party 61 = .ok (.putfield 96, 3) := by decide +kernel
theorem dX10_party_64 : decode cX10_party 64 = .ok (.aload_n 0, 1) := by decide +kernel
theorem dX10_party_65 : decode cX10_party 65 = .ok (.getfield 47, 3) := by decide +kernel
theorem dX10_party_68 : decode cX10_party 68 = .ok (.iconst 0, 1) := by decide +kernel
theorem dX10_party_69 : decode cX10_party 69 = .ok (.putfield 96, 3) := by decide +kernel
theorem dX10_party_72 : decode cX10_party 72 = .ok (.aload_n 0, 1) := by decide +kernel
theorem dX10_party_73 : decode cX10_party 73 = .ok (.getfield 33, 3) := by decide +kernel
theorem dX10_party_76 : decode cX10_party 76 = .ok (.aload_n 0, 1) := by decide +kernel
theorem dX10_party_77 : decode cX10_party 77 = .ok (.getfield 67, 3) := by decide +kernel
theorem dX10_party_80 : decode cX10_party 80 = .ok (.getfield 100, 3) := by decide +kernel
theorem dX10_party_83 : decode cX10_party 83 = .ok (.invokevirtual 103, 3) := by decide +kernel
theorem dX10_party_86 : decode cX10_party 86 = .ok (.aload_n 0, 1) := by decide +kernel
theorem dX10_party_87 : decode cX10_party 87 = .ok (.getfield 67, 3) := by decide +kernel
theorem dX10_party_90 : decode cX10_party 90 = .ok (.getfield 100, 3) := by decide +kernel
theorem dX10_party_93 : decode cX10_party 93 = .ok (.ireturn, 1) := by decide +kernel
set_option maxRecDepth 20000 in
theorem ggX10_person_X4_hasPerson : GoodIn wsX10_person wsX4_hasPerson := goodIn_r _ [12, 13, 75, 76, 77, 78, 79, 80, 81, 82, 83, 84] (by decide +kernel) (by decide +kernel)
set_option maxRecDepth 20000 in
theorem gX10_person_X4_hasPerson : GoodIn wsX10_person (wsV RX10 107 RX4 yX4_hasPerson wsX4_hasPerson) := goodIn_app (goodIn_of _ (by decide +kernel)) ggX10_person_X4_hasPerson
set_option maxRecDepth 20000 in
theorem ggX10_person_X7_chairOf : GoodIn wsX10_person wsX7_chairOf := goodIn_r _ [17, 18, 19, 16, 20] (by decide +kernel) (by decide +kernel)
set_option maxRecDepth 20000 in
theorem gX10_person_X7_chairOf : GoodIn wsX10_person (va_wsS RX10 114 yX7_chairOf wsX7_chairOf) := goodIn_app (goodIn_of _ (by decide +kernel)) ggX10_person_X7_chairOf
set_option maxRecDepth 20000 in
theorem ggX10_person_X4_isWoman : GoodIn wsX10_person wsX4_isWoman := goodIn_r _ [24, 25, 75, 76, 77, 78, 79, 80, 81, 82, 83, 84] (by decide +kernel) (by decide +kernel)
set_option maxRecDepth 20000 in
theorem gX10_person_X4_isWoman : GoodIn wsX10_person (wsV RX10 120 RX4 yX4_isWoman wsX4_isWoman) := goodIn_app (goodIn_of _ (by decide +kernel)) ggX10_person_X4_isWoman
set_option maxRecDepth 20000 in
theorem ggX10_person_X3_rowOf : GoodIn wsX10_person wsX3_rowOf := goodIn_r _ [29] (by decide +kernel) (by decide +kernel)
set_option maxRecDepth 20000 in
theorem gX10_person_X3_rowOf : GoodIn wsX10_person (va_wsS RX10 126 yX3_rowOf wsX3_rowOf) := goodIn_app (goodIn_of _ (by decide +kernel)) ggX10_person_X3_rowOf
set_option maxRecDepth 20000 in
theorem ggX10_person_X10_lowestOf : GoodIn wsX10_person wsX10_lowestOf := goodIn_r _ [33] (by decide +kernel) (by decide +kernel)
set_option maxRecDepth 20000 in
theorem gX10_person_X10_lowestOf : GoodIn wsX10_person (va_wsS RX10 132 yX10_lowestOf wsX10_lowestOf) := goodIn_app (goodIn_of _ (by decide +kernel)) ggX10_person_X10_lowestOf
set_option maxRecDepth 20000 in
theorem ggX10_person_X4_worthTo : GoodIn wsX10_person wsX4_worthTo := goodIn_r _ [37, 13, 38, 39, 40, 41, 11, 42, 43, 44, 45, 46, 47, 48, 19, 16, 20, 49, 50, 51, 52, 53, 54, 28, 55, 56, 27, 29, 57, 58, 59, 75, 76, 77, 78, 79, 80, 81, 82, 83, 84] (by decide +kernel) (by decide +kernel)
set_option maxRecDepth 20000 in
theorem gX10_person_X4_worthTo : GoodIn wsX10_person (wsV RX10 142 RX4 yX4_worthTo wsX4_worthTo) := goodIn_app (goodIn_of _ (by decide +kernel)) ggX10_person_X4_worthTo
theorem dX10_person_0 : decode cX10_person 0 = .ok (.aload_n 0, 1) := by decide +kernel
theorem dX10_person_1 : decode cX10_person 1 = .ok (.getfield 67, 3) := by decide +kernel
theorem dX10_person_4 : decode cX10_person 4 = .ok (.iload_n 1, 1) := by decide +kernel
theorem dX10_person_5 : decode cX10_person 5 = .ok (.invokevirtual 107, 3) := by decide +kernel
theorem dX10_person_8 : decode cX10_person 8 = .ok (.ifCond .ne 5, 3) := by decide +kernel
theorem dX10_person_11 : decode cX10_person 11 = .ok (.iconst (-1), 1) := by decide +kernel
theorem dX10_person_12 : decode cX10_person 12 = .ok (.ireturn, 1) := by decide +kernel
theorem dX10_person_13 : decode cX10_person 13 = .ok (.iload_n 2, 1) := by decide +kernel
theorem dX10_person_14 : decode cX10_person 14 = .ok (.tableswitch 129 0 5 #[38, 57, 74, 89, 101, 113], 38) := by decide +kernel
theorem dX10_person_52 : decode cX10_person 52 = .ok (.aload_n 0, 1) := by decide +kernel
theorem dX10_person_53 : decode cX10_person 53 = .ok (.getfield 33, 3) := by decide +kernel
theorem dX10_person_56 : decode cX10_person 56 = .ok (.getfield 111, 3) := by decide +kernel
theorem dX10_person_59 : decode cX10_person 59 = .ok (.iload_n 1, 1) := by decide +kernel
theorem dX10_person_60 : decode cX10_person 60 = .ok (.aload_n 0, 1) := by decide +kernel
theorem dX10_person_61 : decode cX10_person 61 = .ok (.getfield 67, 3) := by decide +kernel
theorem dX10_person_64 : decode cX10_person 64 = .ok (.getfield 100, 3) := by decide +kernel
theorem dX10_person_67 : decode cX10_person 67 = .ok (.invokestatic 114, 3) := by decide +kernel
theorem dX10_person_70 : decode cX10_person 70 = .ok (.ireturn, 1) := by decide +kernel
theorem dX10_person_71 : decode cX10_person 71 = .ok (.aload_n 0, 1) := by decide +kernel
theorem dX10_person_72 : decode cX10_person 72 = .ok (.getfield 67, 3) := by decide +kernel
theorem dX10_person_75 : decode cX10_person 75 = .ok (.iload_n 1, 1) := by decide +kernel
theorem dX10_person_76 : decode cX10_person 76 = .ok (.invokevirtual 120, 3) := by decide +kernel
theorem dX10_person_79 : decode cX10_person 79 = .ok (.ifCond .eq 7, 3) := by decide +kernel
theorem dX10_person_82 : decode cX10_person 82 = .ok (.iconst 1, 1) := by decide +kernel
theorem dX10_person_83 : decode cX10_person 83 = .ok (.goto 4, 3) := by decide +kernel
theorem dX10_person_86 : decode cX10_person 86 = .ok (.iconst 0, 1) := by decide +kernel
theorem dX10_person_87 : decode cX10_person 87 = .ok (.ireturn, 1) := by decide +kernel
theorem dX10_person_88 : decode cX10_person 88 = .ok (.aload_n 0, 1) := by decide +kernel
theorem dX10_person_89 : decode cX10_person 89 = .ok (.getfield 67, 3) := by decide +kernel
theorem dX10_person_92 : decode cX10_person 92 = .ok (.getfield 123, 3) := by decide +kernel
theorem dX10_person_95 : decode cX10_person 95 = .ok (.iload_n 1, 1) := by decide +kernel
theorem dX10_person_96 : decode cX10_person 96 = .ok (.invokestatic 126, 3) := by decide +kernel
theorem dX10_person_99 : decode cX10_person 99 = .ok (.invokestatic 132, 3) := by decide +kernel
theorem dX10_person_102 : decode cX10_person 102 = .ok (.ireturn, 1) := by decide +kernel
theorem dX10_person_103 : decode cX10_person 103 = .ok (.aload_n 0, 1) := by decide +kernel
theorem dX10_person_104 : decode cX10_person 104 = .ok (.getfield 67, 3) := by decide +kernel
theorem dX10_person_107 : decode cX10_person 107 = .ok (.getfield 136, 3) := by decide +kernel
theorem dX10_person_110 : decode cX10_person 110 = .ok (.iload_n 1, 1) := by decide +kernel
theorem dX10_person_111 : decode cX10_person 111 = .ok (.invokestatic 126, 3) := by decide +kernel
theorem dX10_person_114 : decode cX10_person 114 = .ok (.ireturn, 1) := by decide +kernel
theorem dX10_person_115 : decode cX10_person 115 = .ok (.aload_n 0, 1) := by decide +kernel
theorem dX10_person_116 : decode cX10_person 116 = .ok (.getfield 67, 3) := by decide +kernel
theorem dX10_person_119 : decode cX10_person 119 = .ok (.getfield 139, 3) := by decide +kernel
theorem dX10_person_122 : decode cX10_person 122 = .ok (.iload_n 1, 1) := by decide +kernel
theorem dX10_person_123 : decode cX10_person 123 = .ok (.invokestatic 126, 3) := by decide +kernel
theorem dX10_person_126 : decode cX10_person 126 = .ok (.ireturn, 1) := by decide +kernel
theorem dX10_person_127 : decode cX10_person 127 = .ok (.aload_n 0, 1) := by decide +kernel
theorem dX10_person_128 : decode cX10_person 128 = .ok (.getfield 67, 3) := by decide +kernel
theorem dX10_person_131 : decode cX10_person 131 = .ok (.iload_n 1, 1) := by decide +kernel
theorem dX10_person_132 : decode cX10_person 132 = .ok (.aload_n 0, 1) := by decide +kernel
theorem dX10_person_133 : decode cX10_person 133 = .ok (.getfield 33, 3) := by decide +kernel
theorem dX10_person_136 : decode cX10_person 136 = .ok (.getfield 111, 3) := by decide +kernel
theorem dX10_person_139 : decode cX10_person 139 = .ok (.invokevirtual 142, 3) := by decide +kernel
theorem dX10_person_142 : decode cX10_person 142 = .ok (.ireturn, 1) := by decide +kernel
theorem dX10_person_143 : decode cX10_person 143 = .ok (.bipush (-2), 2) := by decide +kernel
theorem dX10_person_145 : decode cX10_person 145 = .ok (.ireturn, 1) := by decide +kernel
set_option maxRecDepth 20000 in
theorem ggX10_chair_X4_hasPerson : GoodIn wsX10_chair wsX4_hasPerson := goodIn_r _ [8, 9, 29, 30, 31, 32, 33, 34, 35, 36, 37, 38] (by decide +kernel) (by decide +kernel)
set_option maxRecDepth 20000 in
theorem gX10_chair_X4_hasPerson : GoodIn wsX10_chair (wsV RX10 107 RX4 yX4_hasPerson wsX4_hasPerson) := goodIn_app (goodIn_of _ (by decide +kernel)) ggX10_chair_X4_hasPerson
set_option maxRecDepth 20000 in
theorem ggX10_chair_X7_personOn : GoodIn wsX10_chair wsX7_personOn := goodIn_r _ [13] (by decide +kernel) (by decide +kernel)
set_option maxRecDepth 20000 in
theorem gX10_chair_X7_personOn : GoodIn wsX10_chair (va_wsS RX10 146 yX7_personOn wsX7_personOn) := goodIn_app (goodIn_of _ (by decide +kernel)) ggX10_chair_X7_personOn
theorem dX10_chair_0 : decode cX10_chair 0 = .ok (.aload_n 0, 1) := by decide +kernel
theorem dX10_chair_1 : decode cX10_chair 1 = .ok (.getfield 67, 3) := by decide +kernel
theorem dX10_chair_4 : decode cX10_chair 4 = .ok (.iload_n 1, 1) := by decide +kernel
theorem dX10_chair_5 : decode cX10_chair 5 = .ok (.invokevirtual 107, 3) := by decide +kernel
theorem dX10_chair_8 : decode cX10_chair 8 = .ok (.ifCond .ne 5, 3) := by decide +kernel
theorem dX10_chair_11 : decode cX10_chair 11 = .ok (.iconst (-1), 1) := by decide +kernel
theorem dX10_chair_12 : decode cX10_chair 12 = .ok (.ireturn, 1) := by decide +kernel
theorem dX10_chair_13 : decode cX10_chair 13 = .ok (.aload_n 0, 1) := by decide +kernel
theorem dX10_chair_14 : decode cX10_chair 14 = .ok (.getfield 33, 3) := by decide +kernel
theorem dX10_chair_17 : decode cX10_chair 17 = .ok (.getfield 111, 3) := by decide +kernel
theorem dX10_chair_20 : decode cX10_chair 20 = .ok (.iload_n 1, 1) := by decide +kernel
theorem dX10_chair_21 : decode cX10_chair 21 = .ok (.invokestatic 146, 3) := by decide +kernel
theorem dX10_chair_24 : decode cX10_chair 24 = .ok (.ireturn, 1) := by decide +kernel
set_option maxRecDepth 20000 in
theorem ggX10_worth_X4_hasBoth : GoodIn wsX10_worth wsX4_hasBoth := goodIn_r _ [7, 8, 9, 10, 6, 11, 12, 29, 30, 31, 32, 33, 34, 35, 36, 37, 38] (by decide +kernel) (by decide +kernel)
set_option maxRecDepth 20000 in
theorem gX10_worth_X4_hasBoth : GoodIn wsX10_worth (wsV RX10 149 RX4 yX4_hasBoth wsX4_hasBoth) := goodIn_app (goodIn_of _ (by decide +kernel)) ggX10_worth_X4_hasBoth
set_option maxRecDepth 20000 in
theorem ggX10_worth_X3_cell : GoodIn wsX10_worth wsX3_cell := goodIn_r _ [16] (by decide +kernel) (by decide +kernel)
set_option maxRecDepth 20000 in
theorem gX10_worth_X3_cell : GoodIn wsX10_worth (va_wsS RX10 157 yX3_cell wsX3_cell) := goodIn_app (goodIn_of _ (by decide +kernel)) ggX10_worth_X3_cell
theorem dX10_worth_0 : decode cX10_worth 0 = .ok (.aload_n 0, 1) := by decide +kernel
theorem dX10_worth_1 : decode cX10_worth 1 = .ok (.getfield 67, 3) := by decide +kernel
theorem dX10_worth_4 : decode cX10_worth 4 = .ok (.iload_n 1, 1) := by decide +kernel
theorem dX10_worth_5 : decode cX10_worth 5 = .ok (.iload_n 2, 1) := by decide +kernel
theorem dX10_worth_6 : decode cX10_worth 6 = .ok (.invokevirtual 149, 3) := by decide +kernel
theorem dX10_worth_9 : decode cX10_worth 9 = .ok (.ifCond .ne 5, 3) := by decide +kernel
theorem dX10_worth_12 : decode cX10_worth 12 = .ok (.iconst (-1), 1) := by decide +kernel
theorem dX10_worth_13 : decode cX10_worth 13 = .ok (.ireturn, 1) := by decide +kernel
theorem dX10_worth_14 : decode cX10_worth 14 = .ok (.aload_n 0, 1) := by decide +kernel
theorem dX10_worth_15 : decode cX10_worth 15 = .ok (.getfield 67, 3) := by decide +kernel
theorem dX10_worth_18 : decode cX10_worth 18 = .ok (.getfield 153, 3) := by decide +kernel
theorem dX10_worth_21 : decode cX10_worth 21 = .ok (.iload_n 1, 1) := by decide +kernel
theorem dX10_worth_22 : decode cX10_worth 22 = .ok (.iload_n 2, 1) := by decide +kernel
theorem dX10_worth_23 : decode cX10_worth 23 = .ok (.invokestatic 157, 3) := by decide +kernel
theorem dX10_worth_26 : decode cX10_worth 26 = .ok (.iaload, 1) := by decide +kernel
theorem dX10_worth_27 : decode cX10_worth 27 = .ok (.ireturn, 1) := by decide +kernel
set_option maxRecDepth 20000 in
theorem ggX10_dined_X4_hasBoth : GoodIn wsX10_dined wsX4_hasBoth := goodIn_r _ [8, 9, 10, 11, 7, 12, 13, 36, 37, 38, 39, 40, 41, 42, 43, 44, 45] (by decide +kernel) (by decide +kernel)
set_option maxRecDepth 20000 in
theorem gX10_dined_X4_hasBoth : GoodIn wsX10_dined (wsV RX10 149 RX4 yX4_hasBoth wsX4_hasBoth) := goodIn_app (goodIn_of _ (by decide +kernel)) ggX10_dined_X4_hasBoth
set_option maxRecDepth 20000 in
theorem ggX10_dined_X3_cellOfTwo : GoodIn wsX10_dined wsX3_cellOfTwo := goodIn_r _ [17, 18, 19, 16, 20] (by decide +kernel) (by decide +kernel)
set_option maxRecDepth 20000 in
theorem gX10_dined_X3_cellOfTwo : GoodIn wsX10_dined (va_wsS RX10 163 yX3_cellOfTwo wsX3_cellOfTwo) := goodIn_app (goodIn_of _ (by decide +kernel)) ggX10_dined_X3_cellOfTwo
theorem dX10_dined_0 : decode cX10_dined 0 = .ok (.aload_n 0, 1) := by decide +kernel
theorem dX10_dined_1 : decode cX10_dined 1 = .ok (.getfield 67, 3) := by decide +kernel
theorem dX10_dined_4 : decode cX10_dined 4 = .ok (.iload_n 1, 1) := by decide +kernel
theorem dX10_dined_5 : decode cX10_dined 5 = .ok (.iload_n 2, 1) := by decide +kernel
theorem dX10_dined_6 : decode cX10_dined 6 = .ok (.invokevirtual 149, 3) := by decide +kernel
theorem dX10_dined_9 : decode cX10_dined 9 = .ok (.ifCond .ne 5, 3) := by decide +kernel
theorem dX10_dined_12 : decode cX10_dined 12 = .ok (.iconst (-1), 1) := by decide +kernel
theorem dX10_dined_13 : decode cX10_dined 13 = .ok (.ireturn, 1) := by decide +kernel
theorem dX10_dined_14 : decode cX10_dined 14 = .ok (.aload_n 0, 1) := by decide +kernel
theorem dX10_dined_15 : decode cX10_dined 15 = .ok (.getfield 33, 3) := by decide +kernel
theorem dX10_dined_18 : decode cX10_dined 18 = .ok (.getfield 160, 3) := by decide +kernel
theorem dX10_dined_21 : decode cX10_dined 21 = .ok (.iload_n 1, 1) := by decide +kernel
theorem dX10_dined_22 : decode cX10_dined 22 = .ok (.iload_n 2, 1) := by decide +kernel
theorem dX10_dined_23 : decode cX10_dined 23 = .ok (.invokestatic 163, 3) := by decide +kernel
theorem dX10_dined_26 : decode cX10_dined 26 = .ok (.iaload, 1) := by decide +kernel
theorem dX10_dined_27 : decode cX10_dined 27 = .ok (.ireturn, 1) := by decide +kernel
set_option maxRecDepth 20000 in
theorem ggX10_many_X2_list : GoodIn wsX10_many wsX2_list := goodIn_r _ [10, 11, 12, 13, 14, 15, 16, 17, 18, 19, 20, 21, 22, 9, 23, 24, 25, 26, 27, 28, 29, 30, 31, 32, 33, 34, 35, 36, 37, 38, 39, 40, 41, 42, 43, 44, 45, 46, 47, 48, 49, 50, 51, 52, 53, 54, 55, 56, 57, 58, 59, 60, 61, 62, 63, 64, 87, 88, 89, 77, 78, 79, 80, 81, 82, 83, 84, 85, 86] (by decide +kernel) (by decide +kernel)
set_option maxRecDepth 20000 in
theorem gX10_many_X2_list : GoodIn wsX10_many (wsV RX10 166 RX2 yX2_list wsX2_list) := goodIn_app (goodIn_of _ (by decide +kernel)) ggX10_many_X2_list
theorem dX10_many_0 : decode cX10_many 0 = .ok (.aload_n 0, 1) := by decide +kernel
theorem dX10_many_1 : decode cX10_many 1 = .ok (.getfield 26, 3) := by decide +kernel
theorem dX10_many_4 : decode cX10_many 4 = .ok (.aload_n 0, 1) := by decide +kernel
theorem dX10_many_5 : decode cX10_many 5 = .ok (.getfield 67, 3) := by decide +kernel
theorem dX10_many_8 : decode cX10_many 8 = .ok (.invokevirtual 166, 3) := by decide +kernel
theorem dX10_many_11 : decode cX10_many 11 = .ok (.iload_n 1, 1) := by decide +kernel
theorem dX10_many_12 : decode cX10_many 12 = .ok (.ifCond .eq 39, 3) := by decide +kernel
theorem dX10_many_15 : decode cX10_many 15 = .ok (.aload_n 0, 1) := by decide +kernel
theorem dX10_many_16 : decode cX10_many 16 = .ok (.getfield 67, 3) := by decide +kernel
theorem dX10_many_19 : decode cX10_many 19 = .ok (.getfield 170, 3) := by decide +kernel
theorem dX10_many_22 : decode cX10_many 22 = .ok (.ifCond .eq 29, 3) := by decide +kernel
theorem dX10_many_25 : decode cX10_many 25 = .ok (.aload_n 0, 1) := by decide +kernel
theorem dX10_many_26 : decode cX10_many 26 = .ok (.getfield 67, 3) := by decide +kernel
theorem dX10_many_29 : decode cX10_many 29 = .ok (.getfield 100, 3) := by decide +kernel
theorem dX10_many_32 : decode cX10_many 32 = .ok (.ifCond .le 19, 3) := by decide +kernel
theorem dX10_many_35 : decode cX10_many 35 = .ok (.aload_n 0, 1) := by decide +kernel
theorem dX10_many_36 : decode cX10_many 36 = .ok (.getfield 26, 3) := by decide +kernel
theorem dX10_many_39 : decode cX10_many 39 = .ok (.getfield 173, 3) := by decide +kernel
theorem dX10_many_42 : decode cX10_many 42 = .ok (.aload_n 0, 1) := by decide +kernel
theorem dX10_many_43 : decode cX10_many 43 = .ok (.getfield 67, 3) := by decide +kernel
theorem dX10_many_46 : decode cX10_many 46 = .ok (.getfield 100, 3) := by decide +kernel
theorem dX10_many_49 : decode cX10_many 49 = .ok (.idiv, 1) := by decide +kernel
theorem dX10_many_50 : decode cX10_many 50 = .ok (.ireturn, 1) := by decide +kernel
theorem dX10_many_51 : decode cX10_many 51 = .ok (.aload_n 0, 1) := by decide +kernel
theorem dX10_many_52 : decode cX10_many 52 = .ok (.getfield 26, 3) := by decide +kernel
theorem dX10_many_55 : decode cX10_many 55 = .ok (.getfield 173, 3) := by decide +kernel
theorem dX10_many_58 : decode cX10_many 58 = .ok (.ireturn, 1) := by decide +kernel
set_option maxRecDepth 20000 in
theorem ggX10_luck_X2_list : GoodIn wsX10_luck wsX2_list := goodIn_r _ [9, 10, 11, 12, 13, 14, 15, 16, 17, 18, 19, 20, 21, 8, 22, 23, 24, 25, 26, 27, 28, 29, 30, 31, 32, 33, 34, 35, 36, 37, 38, 39, 40, 41, 42, 43, 44, 45, 46, 47, 48, 49, 50, 51, 52, 53, 54, 55, 56, 57, 58, 59, 60, 61, 62, 63, 91, 92, 93, 81, 82, 83, 84, 85, 86, 87, 88, 89, 90] (by decide +kernel) (by decide +kernel)
set_option maxRecDepth 20000 in
theorem gX10_luck_X2_list : GoodIn wsX10_luck (wsV RX10 166 RX2 yX2_list wsX2_list) := goodIn_app (goodIn_of _ (by decide +kernel)) ggX10_luck_X2_list
set_option maxRecDepth 20000 in
theorem ggX10_luck_X7_howMany : GoodIn wsX10_luck wsX7_howMany := goodIn_r _ [18, 19] (by decide +kernel) (by decide +kernel)
set_option maxRecDepth 20000 in
theorem gX10_luck_X7_howMany : GoodIn wsX10_luck (va_wsS RX10 174 yX7_howMany wsX7_howMany) := goodIn_app (goodIn_of _ (by decide +kernel)) ggX10_luck_X7_howMany
set_option maxRecDepth 20000 in
theorem ggX10_luck_X10_commonDivisor : GoodIn wsX10_luck wsX10_commonDivisor := goodIn_r _ [68] (by decide +kernel) (by decide +kernel)
set_option maxRecDepth 20000 in
theorem gX10_luck_X10_commonDivisor : GoodIn wsX10_luck (va_wsS RX10 177 yX10_commonDivisor wsX10_commonDivisor) := goodIn_app (goodIn_of _ (by decide +kernel)) ggX10_luck_X10_commonDivisor
theorem dX10_luck_0 : decode cX10_luck 0 = .ok (.aload_n 0, 1) := by decide +kernel
theorem dX10_luck_1 : decode cX10_luck 1 = .ok (.getfield 26, 3) := by decide +kernel
theorem dX10_luck_4 : decode cX10_luck 4 = .ok (.aload_n 0, 1) := by decide +kernel
theorem dX10_luck_5 : decode cX10_luck 5 = .ok (.getfield 67, 3) := by decide +kernel
theorem dX10_luck_8 : decode cX10_luck 8 = .ok (.invokevirtual 166, 3) := by decide +kernel
theorem dX10_luck_11 : decode cX10_luck 11 = .ok (.aload_n 0, 1) := by decide +kernel
theorem dX10_luck_12 : decode cX10_luck 12 = .ok (.getfield 67, 3) := by decide +kernel
theorem dX10_luck_15 : decode cX10_luck 15 = .ok (.getfield 100, 3) := by decide +kernel
theorem dX10_luck_18 : decode cX10_luck 18 = .ok (.invokestatic 174, 3) := by decide +kernel
theorem dX10_luck_21 : decode cX10_luck 21 = .ok (.istore_n 2, 1) := by decide +kernel
theorem dX10_luck_22 : decode cX10_luck 22 = .ok (.aload_n 0, 1) := by decide +kernel
theorem dX10_luck_23 : decode cX10_luck 23 = .ok (.getfield 26, 3) := by decide +kernel
theorem dX10_luck_26 : decode cX10_luck 26 = .ok (.getfield 173, 3) := by decide +kernel
theorem dX10_luck_29 : decode cX10_luck 29 = .ok (.iload_n 2, 1) := by decide +kernel
theorem dX10_luck_30 : decode cX10_luck 30 = .ok (.invokestatic 177, 3) := by decide +kernel
theorem dX10_luck_33 : decode cX10_luck 33 = .ok (.istore_n 3, 1) := by decide +kernel
theorem dX10_luck_34 : decode cX10_luck 34 = .ok (.iload_n 3, 1) := by decide +kernel
theorem dX10_luck_35 : decode cX10_luck 35 = .ok (.iconst 1, 1) := by decide +kernel
theorem dX10_luck_36 : decode cX10_luck 36 = .ok (.if_icmp .ge 13, 3) := by decide +kernel
theorem dX10_luck_39 : decode cX10_luck 39 = .ok (.iload_n 1, 1) := by decide +kernel
theorem dX10_luck_40 : decode cX10_luck 40 = .ok (.ifCond .eq 7, 3) := by decide +kernel
theorem dX10_luck_43 : decode cX10_luck 43 = .ok (.iconst 0, 1) := by decide +kernel
theorem dX10_luck_44 : decode cX10_luck 44 = .ok (.goto 4, 3) := by decide +kernel
theorem dX10_luck_47 : decode cX10_luck 47 = .ok (.iconst 1, 1) := by decide +kernel
theorem dX10_luck_48 : decode cX10_luck 48 = .ok (.ireturn, 1) := by decide +kernel
theorem dX10_luck_49 : decode cX10_luck 49 = .ok (.iload_n 1, 1) := by decide +kernel
theorem dX10_luck_50 : decode cX10_luck 50 = .ok (.ifCond .eq 13, 3) := by decide +kernel
theorem dX10_luck_53 : decode cX10_luck 53 = .ok (.aload_n 0, 1) := by decide +kernel
theorem dX10_luck_54 : decode cX10_luck 54 = .ok (.getfield 26, 3) := by decide +kernel
theorem dX10_luck_57 : decode cX10_luck 57 = .ok (.getfield 173, 3) := by decide +kernel
theorem dX10_luck_60 : decode cX10_luck 60 = .ok (.goto 4, 3) := by decide +kernel
theorem dX10_luck_63 : decode cX10_luck 63 = .ok (.iload_n 2, 1) := by decide +kernel
theorem dX10_luck_64 : decode cX10_luck 64 = .ok (.iload_n 3, 1) := by decide +kernel
theorem dX10_luck_65 : decode cX10_luck 65 = .ok (.idiv, 1) := by decide +kernel
theorem dX10_luck_66 : decode cX10_luck 66 = .ok (.ireturn, 1) := by decide +kernel
set_option maxRecDepth 20000 in
theorem ggX10_rank_X2_list : GoodIn wsX10_rank wsX2_list := goodIn_r _ [9, 10, 11, 12, 13, 14, 15, 16, 17, 18, 19, 20, 21, 8, 22, 23, 24, 25, 26, 27, 28, 29, 30, 31, 32, 33, 34, 35, 36, 37, 38, 39, 40, 41, 42, 43, 44, 45, 46, 47, 48, 49, 50, 51, 52, 53, 54, 55, 56, 57, 58, 59, 60, 61, 62, 63, 87, 88, 89, 90, 91, 92, 93, 94, 95, 96, 97, 98, 99] (by decide +kernel) (by decide +kernel)
set_option maxRecDepth 20000 in
theorem gX10_rank_X2_list : GoodIn wsX10_rank (wsV RX10 166 RX2 yX2_list wsX2_list) := goodIn_app (goodIn_of _ (by decide +kernel)) ggX10_rank_X2_list
set_option maxRecDepth 20000 in
theorem ggX10_rank_X2_rankOf : GoodIn wsX10_rank wsX2_rankOf := goodIn_r _ [67, 11, 68, 69, 70, 8, 71, 13, 87, 88, 89] (by decide +kernel) (by decide +kernel)
set_option maxRecDepth 20000 in
theorem gX10_rank_X2_rankOf : GoodIn wsX10_rank (wsV RX10 180 RX2 yX2_rankOf wsX2_rankOf) := goodIn_app (goodIn_of _ (by decide +kernel)) ggX10_rank_X2_rankOf
theorem dX10_rank_0 : decode cX10_rank 0 = .ok (.aload_n 0, 1) := by decide +kernel
theorem dX10_rank_1 : decode cX10_rank 1 = .ok (.getfield 26, 3) := by decide +kernel
theorem dX10_rank_4 : decode cX10_rank 4 = .ok (.aload_n 0, 1) := by decide +kernel
theorem dX10_rank_5 : decode cX10_rank 5 = .ok (.getfield 67, 3) := by decide +kernel
theorem dX10_rank_8 : decode cX10_rank 8 = .ok (.invokevirtual 166, 3) := by decide +kernel
theorem dX10_rank_11 : decode cX10_rank 11 = .ok (.aload_n 0, 1) := by decide +kernel
theorem dX10_rank_12 : decode cX10_rank 12 = .ok (.getfield 26, 3) := by decide +kernel
theorem dX10_rank_15 : decode cX10_rank 15 = .ok (.aload_n 0, 1) := by decide +kernel
theorem dX10_rank_16 : decode cX10_rank 16 = .ok (.getfield 33, 3) := by decide +kernel
theorem dX10_rank_19 : decode cX10_rank 19 = .ok (.getfield 111, 3) := by decide +kernel
theorem dX10_rank_22 : decode cX10_rank 22 = .ok (.invokevirtual 180, 3) := by decide +kernel
theorem dX10_rank_25 : decode cX10_rank 25 = .ok (.ireturn, 1) := by decide +kernel
set_option maxRecDepth 20000 in
theorem ggX10_nth_X4_hasPerson : GoodIn wsX10_nth wsX4_hasPerson := goodIn_r _ [7, 8, 87, 88, 89, 90, 91, 92, 93, 94, 95, 96] (by decide +kernel) (by decide +kernel)
set_option maxRecDepth 20000 in
theorem gX10_nth_X4_hasPerson : GoodIn wsX10_nth (wsV RX10 107 RX4 yX4_hasPerson wsX4_hasPerson) := goodIn_app (goodIn_of _ (by decide +kernel)) ggX10_nth_X4_hasPerson
set_option maxRecDepth 20000 in
theorem ggX10_nth_X2_list : GoodIn wsX10_nth wsX2_list := goodIn_r _ [13, 14, 15, 16, 17, 18, 19, 20, 21, 22, 23, 24, 25, 12, 26, 27, 28, 29, 30, 6, 31, 32, 33, 34, 35, 36, 37, 38, 39, 40, 41, 42, 43, 8, 44, 45, 46, 47, 48, 49, 50, 51, 52, 53, 54, 55, 56, 57, 58, 59, 60, 61, 62, 63, 64, 65, 97, 98, 99, 87, 88, 89, 90, 91, 92, 93, 94, 95, 96] (by decide +kernel) (by decide +kernel)
set_option maxRecDepth 20000 in
theorem gX10_nth_X2_list : GoodIn wsX10_nth (wsV RX10 166 RX2 yX2_list wsX2_list) := goodIn_app (goodIn_of _ (by decide +kernel)) ggX10_nth_X2_list
set_option maxRecDepth 20000 in
theorem ggX10_nth_X2_hasRank : GoodIn wsX10_nth wsX2_hasRank := goodIn_r _ [69, 15, 97, 98, 99] (by decide +kernel) (by decide +kernel)
set_option maxRecDepth 20000 in
theorem gX10_nth_X2_hasRank : GoodIn wsX10_nth (wsV RX10 183 RX2 yX2_hasRank wsX2_hasRank) := goodIn_app (goodIn_of _ (by decide +kernel)) ggX10_nth_X2_hasRank
set_option maxRecDepth 20000 in
theorem ggX10_nth_X2_seatingOf : GoodIn wsX10_nth wsX2_seatingOf := goodIn_r _ [73, 17, 97, 98, 99] (by decide +kernel) (by decide +kernel)
set_option maxRecDepth 20000 in
theorem gX10_nth_X2_seatingOf : GoodIn wsX10_nth (wsV RX10 186 RX2 yX2_seatingOf wsX2_seatingOf) := goodIn_app (goodIn_of _ (by decide +kernel)) ggX10_nth_X2_seatingOf
set_option maxRecDepth 20000 in
theorem ggX10_nth_X7_personOn : GoodIn wsX10_nth wsX7_personOn := goodIn_r _ [46] (by decide +kernel) (by decide +kernel)
set_option maxRecDepth 20000 in
theorem gX10_nth_X7_personOn : GoodIn wsX10_nth (va_wsS RX10 146 yX7_personOn wsX7_personOn) := goodIn_app (goodIn_of _ (by decide +kernel)) ggX10_nth_X7_personOn
theorem dX10_nth_0 : decode cX10_nth 0 = .ok (.aload_n 0, 1) := by decide +kernel
theorem dX10_nth_1 : decode cX10_nth 1 = .ok (.getfield 67, 3) := by decide +kernel
theorem dX10_nth_4 : decode cX10_nth 4 = .ok (.iload_n 2, 1) := by decide +kernel
theorem dX10_nth_5 : decode cX10_nth 5 = .ok (.invokevirtual 107, 3) := by decide +kernel
theorem dX10_nth_8 : decode cX10_nth 8 = .ok (.ifCond .ne 5, 3) := by decide +kernel
theorem dX10_nth_11 : decode cX10_nth 11 = .ok (.iconst (-1), 1) := by decide +kernel
theorem dX10_nth_12 : decode cX10_nth 12 = .ok (.ireturn, 1) := by decide +kernel
theorem dX10_nth_13 : decode cX10_nth 13 = .ok (.aload_n 0, 1) := by decide +kernel
theorem dX10_nth_14 : decode cX10_nth 14 = .ok (.getfield 26, 3) := by decide +kernel
theorem dX10_nth_17 : decode cX10_nth 17 = .ok (.aload_n 0, 1) := by decide +kernel
theorem dX10_nth_18 : decode cX10_nth 18 = .ok (.getfield 67, 3) := by decide +kernel
theorem dX10_nth_21 : decode cX10_nth 21 = .ok (.invokevirtual 166, 3) := by decide +kernel
theorem dX10_nth_24 : decode cX10_nth 24 = .ok (.aload_n 0, 1) := by decide +kernel
theorem dX10_nth_25 : decode cX10_nth 25 = .ok (.getfield 26, 3) := by decide +kernel
theorem dX10_nth_28 : decode cX10_nth 28 = .ok (.iload_n 1, 1) := by decide +kernel
theorem dX10_nth_29 : decode cX10_nth 29 = .ok (.invokevirtual 183, 3) := by decide +kernel
theorem dX10_nth_32 : decode cX10_nth 32 = .ok (.ifCond .ne 6, 3) := by decide +kernel
theorem dX10_nth_35 : decode cX10_nth 35 = .ok (.bipush (-2), 2) := by decide +kernel
theorem dX10_nth_37 : decode cX10_nth 37 = .ok (.ireturn, 1) := by decide +kernel
theorem dX10_nth_38 : decode cX10_nth 38 = .ok (.aload_n 0, 1) := by decide +kernel
theorem dX10_nth_39 : decode cX10_nth 39 = .ok (.getfield 26, 3) := by decide +kernel
theorem dX10_nth_42 : decode cX10_nth 42 = .ok (.iload_n 1, 1) := by decide +kernel
theorem dX10_nth_43 : decode cX10_nth 43 = .ok (.invokevirtual 186, 3) := by decide +kernel
theorem dX10_nth_46 : decode cX10_nth 46 = .ok (.iload_n 2, 1) := by decide +kernel
theorem dX10_nth_47 : decode cX10_nth 47 = .ok (.invokestatic 146, 3) := by decide +kernel
theorem dX10_nth_50 : decode cX10_nth 50 = .ok (.ireturn, 1) := by decide +kernel
set_option maxRecDepth 20000 in
theorem ggX10_wrong_X4_firstWrong : GoodIn wsX10_wrong wsX4_firstWrong := goodIn_r _ [8, 9, 10, 11, 12, 13, 14, 15, 7, 16, 17, 18, 19, 20, 21, 22, 23, 24, 25, 26, 27, 28, 29, 30, 31, 32, 33, 34, 35, 36, 52, 53, 54, 55, 56, 57, 58, 59, 60, 61] (by decide +kernel) (by decide +kernel)
set_option maxRecDepth 20000 in
theorem gX10_wrong_X4_firstWrong : GoodIn wsX10_wrong (wsV RX10 189 RX4 yX4_firstWrong wsX4_firstWrong) := goodIn_app (goodIn_of _ (by decide +kernel)) ggX10_wrong_X4_firstWrong
theorem dX10_wrong_0 : decode cX10_wrong 0 = .ok (.aload_n 0, 1) := by decide +kernel
theorem dX10_wrong_1 : decode cX10_wrong 1 = .ok (.getfield 67, 3) := by decide +kernel
theorem dX10_wrong_4 : decode cX10_wrong 4 = .ok (.aload_n 0, 1) := by decide +kernel
theorem dX10_wrong_5 : decode cX10_wrong 5 = .ok (.getfield 33, 3) := by decide +kernel
theorem dX10_wrong_8 : decode cX10_wrong 8 = .ok (.getfield 111, 3) := by decide +kernel
theorem dX10_wrong_11 : decode cX10_wrong 11 = .ok (.invokevirtual 189, 3) := by decide +kernel
theorem dX10_wrong_14 : decode cX10_wrong 14 = .ok (.ireturn, 1) := by decide +kernel
set_option maxRecDepth 20000 in
theorem ggX10_draw_X2_list : GoodIn wsX10_draw wsX2_list := goodIn_r _ [11, 12, 13, 14, 15, 16, 17, 18, 19, 20, 21, 22, 23, 10, 24, 25, 26, 27, 28, 29, 30, 31, 32, 33, 34, 35, 36, 37, 38, 39, 40, 41, 42, 43, 44, 45, 46, 47, 48, 49, 50, 51, 52, 53, 54, 55, 56, 57, 58, 59, 60, 61, 62, 63, 64, 65, 102, 103, 104, 105, 106, 107, 108, 109, 110, 111, 112, 113, 114] (by decide +kernel) (by decide +kernel)
set_option maxRecDepth 20000 in
theorem gX10_draw_X2_list : GoodIn wsX10_draw (wsV RX10 166 RX2 yX2_list wsX2_list) := goodIn_app (goodIn_of _ (by decide +kernel)) ggX10_draw_X2_list
set_option maxRecDepth 20000 in
theorem ggX10_draw_X2_seatingOf : GoodIn wsX10_draw wsX2_seatingOf := goodIn_r _ [69, 15, 102, 103, 104] (by decide +kernel) (by decide +kernel)
set_option maxRecDepth 20000 in
theorem gX10_draw_X2_seatingOf : GoodIn wsX10_draw (wsV RX10 186 RX2 yX2_seatingOf wsX2_seatingOf) := goodIn_app (goodIn_of _ (by decide +kernel)) ggX10_draw_X2_seatingOf
set_option maxRecDepth 20000 in
theorem ggX10_draw_X10_actTo : GoodIn wsX10_draw wsX10_actTo := goodIn_r _ [74, 75, 76, 77, 78, 79, 80, 81, 82, 83, 84, 85, 86, 87, 88, 89, 90, 91, 92, 93, 94, 95, 96, 97, 98, 99, 100, 101, 115, 116, 117, 118, 119, 120] (by decide +kernel) (by decide +kernel)
set_option maxRecDepth 20000 in
theorem gX10_draw_X10_actTo : GoodIn wsX10_draw (wsV RX10 196 RX10 yX10_actTo wsX10_actTo) := goodIn_app (goodIn_of _ (by decide +kernel)) ggX10_draw_X10_actTo
theorem dX10_draw_0 : decode cX10_draw 0 = .ok (.aload_n 0, 1) := by decide +kernel
theorem dX10_draw_1 : decode cX10_draw 1 = .ok (.getfield 26, 3) := by decide +kernel
theorem dX10_draw_4 : decode cX10_draw 4 = .ok (.aload_n 0, 1) := by decide +kernel
theorem dX10_draw_5 : decode cX10_draw 5 = .ok (.getfield 67, 3) := by decide +kernel
theorem dX10_draw_8 : decode cX10_draw 8 = .ok (.invokevirtual 166, 3) := by decide +kernel
theorem dX10_draw_11 : decode cX10_draw 11 = .ok (.aload_n 0, 1) := by decide +kernel
theorem dX10_draw_12 : decode cX10_draw 12 = .ok (.getfield 26, 3) := by decide +kernel
theorem dX10_draw_15 : decode cX10_draw 15 = .ok (.getfield 173, 3) := by decide +kernel
theorem dX10_draw_18 : decode cX10_draw 18 = .ok (.iconst 1, 1) := by decide +kernel
theorem dX10_draw_19 : decode cX10_draw 19 = .ok (.if_icmp .ge 6, 3) := by decide +kernel
theorem dX10_draw_22 : decode cX10_draw 22 = .ok (.bipush (-3), 2) := by decide +kernel
theorem dX10_draw_24 : decode cX10_draw 24 = .ok (.ireturn, 1) := by decide +kernel
theorem dX10_draw_25 : decode cX10_draw 25 = .ok (.aload_n 0, 1) := by decide +kernel
theorem dX10_draw_26 : decode cX10_draw 26 = .ok (.aload_n 0, 1) := by decide +kernel
theorem dX10_draw_27 : decode cX10_draw 27 = .ok (.getfield 74, 3) := by decide +kernel
theorem dX10_draw_30 : decode cX10_draw 30 = .ok (.ldc2_w 192, 3) := by decide +kernel
theorem dX10_draw_33 : decode cX10_draw 33 = .ok (.lmul, 1) := by decide +kernel
theorem dX10_draw_34 : decode cX10_draw 34 = .ok (.ldc2_w 194, 3) := by decide +kernel
theorem dX10_draw_37 : decode cX10_draw 37 = .ok (.ladd, 1) := by decide +kernel
theorem dX10_draw_38 : decode cX10_draw 38 = .ok (.putfield 74, 3) := by decide +kernel
theorem dX10_draw_41 : decode cX10_draw 41 = .ok (.aload_n 0, 1) := by decide +kernel
theorem dX10_draw_42 : decode cX10_draw 42 = .ok (.getfield 74, 3) := by decide +kernel
theorem dX10_draw_45 : decode cX10_draw 45 = .ok (.bipush 33, 2) := by decide +kernel
theorem dX10_draw_47 : decode cX10_draw 47 = .ok (.lushr, 1) := by decide +kernel
theorem dX10_draw_48 : decode cX10_draw 48 = .ok (.l2i, 1) := by decide +kernel
theorem dX10_draw_49 : decode cX10_draw 49 = .ok (.aload_n 0, 1) := by decide +kernel
theorem dX10_draw_50 : decode cX10_draw 50 = .ok (.getfield 26, 3) := by decide +kernel
theorem dX10_draw_53 : decode cX10_draw 53 = .ok (.getfield 173, 3) := by decide +kernel
theorem dX10_draw_56 : decode cX10_draw 56 = .ok (.irem, 1) := by decide +kernel
theorem dX10_draw_57 : decode cX10_draw 57 = .ok (.istore_n 1, 1) := by decide +kernel
theorem dX10_draw_58 : decode cX10_draw 58 = .ok (.aload_n 0, 1) := by decide +kernel
theorem dX10_draw_59 : decode cX10_draw 59 = .ok (.aload_n 0, 1) := by decide +kernel
theorem dX10_draw_60 : decode cX10_draw 60 = .ok (.getfield 26, 3) := by decide +kernel
theorem dX10_draw_63 : decode cX10_draw 63 = .ok (.iload_n 1, 1) := by decide +kernel
theorem dX10_draw_64 : decode cX10_draw 64 = .ok (.invokevirtual 186, 3) := by decide +kernel
theorem dX10_draw_67 : decode cX10_draw 67 = .ok (.invokevirtual 196, 3) := by decide +kernel
theorem dX10_draw_70 : decode cX10_draw 70 = .ok (.iload_n 1, 1) := by decide +kernel
theorem dX10_draw_71 : decode cX10_draw 71 = .ok (.ireturn, 1) := by decide +kernel
set_option maxRecDepth 20000 in
theorem ggX10_take_X2_list : GoodIn wsX10_take wsX2_list := goodIn_r _ [10, 11, 12, 13, 14, 15, 16, 17, 18, 19, 20, 21, 22, 9, 23, 24, 25, 26, 27, 28, 29, 30, 31, 32, 33, 34, 35, 36, 37, 38, 39, 40, 41, 42, 43, 44, 45, 46, 47, 48, 49, 50, 51, 52, 53, 54, 55, 56, 57, 58, 59, 60, 61, 62, 63, 64, 120, 121, 122, 110, 111, 112, 113, 114, 115, 116, 117, 118, 119] (by decide +kernel) (by decide +kernel)
set_option maxRecDepth 20000 in
theorem gX10_take_X2_list : GoodIn wsX10_take (wsV RX10 166 RX2 yX2_list wsX2_list) := goodIn_app (goodIn_of _ (by decide +kernel)) ggX10_take_X2_list
set_option maxRecDepth 20000 in
theorem ggX10_take_X2_hasRank : GoodIn wsX10_take wsX2_hasRank := goodIn_r _ [68, 12, 120, 121, 122] (by decide +kernel) (by decide +kernel)
set_option maxRecDepth 20000 in
theorem gX10_take_X2_hasRank : GoodIn wsX10_take (wsV RX10 183 RX2 yX2_hasRank wsX2_hasRank) := goodIn_app (goodIn_of _ (by decide +kernel)) ggX10_take_X2_hasRank
set_option maxRecDepth 20000 in
theorem ggX10_take_X2_seatingOf : GoodIn wsX10_take wsX2_seatingOf := goodIn_r _ [72, 14, 120, 121, 122] (by decide +kernel) (by decide +kernel)
set_option maxRecDepth 20000 in
theorem gX10_take_X2_seatingOf : GoodIn wsX10_take (wsV RX10 186 RX2 yX2_seatingOf wsX2_seatingOf) := goodIn_app (goodIn_of _ (by decide +kernel)) ggX10_take_X2_seatingOf
set_option maxRecDepth 20000 in
theorem ggX10_take_X10_actTo : GoodIn wsX10_take wsX10_actTo := goodIn_r _ [77, 78, 3, 4, 79, 80, 81, 82, 83, 84, 85, 86, 87, 88, 89, 90, 95, 96, 97, 98, 99, 100, 101, 102, 103, 104, 105, 106, 107, 108, 109, 123, 124, 125] (by decide +kernel) (by decide +kernel)
set_option maxRecDepth 20000 in
theorem gX10_take_X10_actTo : GoodIn wsX10_take (wsV RX10 196 RX10 yX10_actTo wsX10_actTo) := goodIn_app (goodIn_of _ (by decide +kernel)) ggX10_take_X10_actTo
set_option maxRecDepth 20000 in
theorem ggX10_take_X7_elsewhere : GoodIn wsX10_take wsX7_elsewhere := goodIn_r _ [93, 94, 44, 18, 45] (by decide +kernel) (by decide +kernel)
set_option maxRecDepth 20000 in
theorem gX10_take_X7_elsewhere : GoodIn wsX10_take (va_wsS RX10 199 yX7_elsewhere wsX7_elsewhere) := goodIn_app (goodIn_of _ (by decide +kernel)) ggX10_take_X7_elsewhere
theorem dX10_take_0 : decode cX10_take 0 = .ok (.aload_n 0, 1) := by decide +kernel
theorem dX10_take_1 : decode cX10_take 1 = .ok (.getfield 26, 3) := by decide +kernel
theorem dX10_take_4 : decode cX10_take 4 = .ok (.aload_n 0, 1) := by decide +kernel
theorem dX10_take_5 : decode cX10_take 5 = .ok (.getfield 67, 3) := by decide +kernel
theorem dX10_take_8 : decode cX10_take 8 = .ok (.invokevirtual 166, 3) := by decide +kernel
theorem dX10_take_11 : decode cX10_take 11 = .ok (.aload_n 0, 1) := by decide +kernel
theorem dX10_take_12 : decode cX10_take 12 = .ok (.getfield 26, 3) := by decide +kernel
theorem dX10_take_15 : decode cX10_take 15 = .ok (.iload_n 1, 1) := by decide +kernel
theorem dX10_take_16 : decode cX10_take 16 = .ok (.invokevirtual 183, 3) := by decide +kernel
theorem dX10_take_19 : decode cX10_take 19 = .ok (.ifCond .ne 6, 3) := by decide +kernel
theorem dX10_take_22 : decode cX10_take 22 = .ok (.bipush (-2), 2) := by decide +kernel
theorem dX10_take_24 : decode cX10_take 24 = .ok (.ireturn, 1) := by decide +kernel
theorem dX10_take_25 : decode cX10_take 25 = .ok (.aload_n 0, 1) := by decide +kernel
theorem dX10_take_26 : decode cX10_take 26 = .ok (.getfield 33, 3) := by decide +kernel
theorem dX10_take_29 : decode cX10_take 29 = .ok (.getfield 111, 3) := by decide +kernel
theorem dX10_take_32 : decode cX10_take 32 = .ok (.istore_n 2, 1) := by decide +kernel
theorem dX10_take_33 : decode cX10_take 33 = .ok (.aload_n 0, 1) := by decide +kernel
theorem dX10_take_34 : decode cX10_take 34 = .ok (.aload_n 0, 1) := by decide +kernel
theorem dX10_take_35 : decode cX10_take 35 = .ok (.getfield 26, 3) := by decide +kernel
theorem dX10_take_38 : decode cX10_take 38 = .ok (.iload_n 1, 1) := by decide +kernel
theorem dX10_take_39 : decode cX10_take 39 = .ok (.invokevirtual 186, 3) := by decide +kernel
theorem dX10_take_42 : decode cX10_take 42 = .ok (.invokevirtual 196, 3) := by decide +kernel
theorem dX10_take_45 : decode cX10_take 45 = .ok (.iload_n 2, 1) := by decide +kernel
theorem dX10_take_46 : decode cX10_take 46 = .ok (.aload_n 0, 1) := by decide +kernel
theorem dX10_take_47 : decode cX10_take 47 = .ok (.getfield 33, 3) := by decide +kernel
theorem dX10_take_50 : decode cX10_take 50 = .ok (.getfield 111, 3) := by decide +kernel
theorem dX10_take_53 : decode cX10_take 53 = .ok (.aload_n 0, 1) := by decide +kernel
theorem dX10_take_54 : decode cX10_take 54 = .ok (.getfield 67, 3) := by decide +kernel
theorem dX10_take_57 : decode cX10_take 57 = .ok (.getfield 100, 3) := by decide +kernel
theorem dX10_take_60 : decode cX10_take 60 = .ok (.invokestatic 199, 3) := by decide +kernel
theorem dX10_take_63 : decode cX10_take 63 = .ok (.ireturn, 1) := by decide +kernel
set_option maxRecDepth 20000 in
theorem ggX10_swap_X4_hasBoth : GoodIn wsX10_swap wsX4_hasBoth := goodIn_r _ [9, 10, 11, 12, 8, 13, 14, 90, 91, 92, 93, 94, 95, 96, 97, 98, 99] (by decide +kernel) (by decide +kernel)
set_option maxRecDepth 20000 in
theorem gX10_swap_X4_hasBoth : GoodIn wsX10_swap (wsV RX10 149 RX4 yX4_hasBoth wsX4_hasBoth) := goodIn_app (goodIn_of _ (by decide +kernel)) ggX10_swap_X4_hasBoth
set_option maxRecDepth 20000 in
theorem ggX10_swap_X7_chairOf : GoodIn wsX10_swap wsX7_chairOf := goodIn_r _ [18, 19, 20, 17, 21] (by decide +kernel) (by decide +kernel)
set_option maxRecDepth 20000 in
theorem gX10_swap_X7_chairOf : GoodIn wsX10_swap (va_wsS RX10 114 yX7_chairOf wsX7_chairOf) := goodIn_app (goodIn_of _ (by decide +kernel)) ggX10_swap_X7_chairOf
set_option maxRecDepth 20000 in
theorem ggX10_swap_X7_exchanged : GoodIn wsX10_swap wsX7_exchanged := goodIn_r _ [24, 19, 20, 17, 21, 25, 26, 27] (by decide +kernel) (by decide +kernel)
set_option maxRecDepth 20000 in
theorem gX10_swap_X7_exchanged : GoodIn wsX10_swap (va_wsS RX10 202 yX7_exchanged wsX7_exchanged) := goodIn_app (goodIn_of _ (by decide +kernel)) ggX10_swap_X7_exchanged
set_option maxRecDepth 20000 in
theorem ggX10_swap_X10_actTo : GoodIn wsX10_swap wsX10_actTo := goodIn_r _ [32, 33, 2, 3, 34, 35, 36, 37, 38, 39, 40, 41, 42, 43, 44, 45, 75, 76, 77, 78, 79, 80, 81, 82, 83, 84, 85, 86, 87, 88, 89, 100, 101, 102] (by decide +kernel) (by decide +kernel)
set_option maxRecDepth 20000 in
theorem gX10_swap_X10_actTo : GoodIn wsX10_swap (wsV RX10 196 RX10 yX10_actTo wsX10_actTo) := goodIn_app (goodIn_of _ (by decide +kernel)) ggX10_swap_X10_actTo
set_option maxRecDepth 20000 in
theorem ggX10_swap_X10_lawfulNow : GoodIn wsX10_swap wsX10_lawfulNow := goodIn_r _ [49, 1, 2, 3, 50, 51, 52, 8, 53, 54, 55, 56, 57, 58, 59, 60, 61, 62, 63, 64, 65, 14, 66, 20, 17, 21, 67, 68, 69, 70, 71, 72, 73, 74, 75, 76, 77, 78, 79, 80, 81, 82, 83, 84, 85, 86, 87, 88, 89, 90, 91, 92, 93, 94, 95, 96, 97, 98, 99] (by decide +kernel) (by decide +kernel)
set_option maxRecDepth 20000 in
theorem gX10_swap_X10_lawfulNow : GoodIn wsX10_swap (wsV RX10 205 RX10 yX10_lawfulNow wsX10_lawfulNow) := goodIn_app (goodIn_of _ (by decide +kernel)) ggX10_swap_X10_lawfulNow
theorem dX10_swap_0 : decode cX10_swap 0 = .ok (.aload_n 0, 1) := by decide +kernel
theorem dX10_swap_1 : decode cX10_swap 1 = .ok (.getfield 67, 3) := by decide +kernel
theorem dX10_swap_4 : decode cX10_swap 4 = .ok (.iload_n 1, 1) := by decide +kernel
theorem dX10_swap_5 : decode cX10_swap 5 = .ok (.iload_n 2, 1) := by decide +kernel
theorem dX10_swap_6 : decode cX10_swap 6 = .ok (.invokevirtual 149, 3) := by decide +kernel
theorem dX10_swap_9 : decode cX10_swap 9 = .ok (.ifCond .ne 5, 3) := by decide +kernel
theorem dX10_swap_12 : decode cX10_swap 12 = .ok (.iconst (-1), 1) := by decide +kernel
theorem dX10_swap_13 : decode cX10_swap 13 = .ok (.ireturn, 1) := by decide +kernel
theorem dX10_swap_14 : decode cX10_swap 14 = .ok (.iload_n 1, 1) := by decide +kernel
theorem dX10_swap_15 : decode cX10_swap 15 = .ok (.iload_n 2, 1) := by decide +kernel
theorem dX10_swap_16 : decode cX10_swap 16 = .ok (.if_icmp .ne 6, 3) := by decide +kernel
theorem dX10_swap_19 : decode cX10_swap 19 = .ok (.bipush (-2), 2) := by decide +kernel
theorem dX10_swap_21 : decode cX10_swap 21 = .ok (.ireturn, 1) := by decide +kernel
theorem dX10_swap_22 : decode cX10_swap 22 = .ok (.aload_n 0, 1) := by decide +kernel
theorem dX10_swap_23 : decode cX10_swap 23 = .ok (.getfield 33, 3) := by decide +kernel
theorem dX10_swap_26 : decode cX10_swap 26 = .ok (.getfield 111, 3) := by decide +kernel
theorem dX10_swap_29 : decode cX10_swap 29 = .ok (.iload_n 1, 1) := by decide +kernel
theorem dX10_swap_30 : decode cX10_swap 30 = .ok (.aload_n 0, 1) := by decide +kernel
theorem dX10_swap_31 : decode cX10_swap 31 = .ok (.getfield 67, 3) := by decide +kernel
theorem dX10_swap_34 : decode cX10_swap 34 = .ok (.getfield 100, 3) := by decide +kernel
theorem dX10_swap_37 : decode cX10_swap 37 = .ok (.invokestatic 114, 3) := by decide +kernel
theorem dX10_swap_40 : decode cX10_swap 40 = .ok (.istore_n 3, 1) := by decide +kernel
theorem dX10_swap_41 : decode cX10_swap 41 = .ok (.aload_n 0, 1) := by decide +kernel
theorem dX10_swap_42 : decode cX10_swap 42 = .ok (.getfield 33, 3) := by decide +kernel
theorem dX10_swap_45 : decode cX10_swap 45 = .ok (.getfield 111, 3) := by decide +kernel
theorem dX10_swap_48 : decode cX10_swap 48 = .ok (.iload_n 2, 1) := by decide +kernel
theorem dX10_swap_49 : decode cX10_swap 49 = .ok (.aload_n 0, 1) := by decide +kernel
theorem dX10_swap_50 : decode cX10_swap 50 = .ok (.getfield 67, 3) := by decide +kernel
theorem dX10_swap_53 : decode cX10_swap 53 = .ok (.getfield 100, 3) := by decide +kernel
theorem dX10_swap_56 : decode cX10_swap 56 = .ok (.invokestatic 114, 3) := by decide +kernel
theorem dX10_swap_59 : decode cX10_swap 59 = .ok (.istore 4, 2) := by decide +kernel
theorem dX10_swap_61 : decode cX10_swap 61 = .ok (.aload_n 0, 1) := by decide +kernel
theorem dX10_swap_62 : decode cX10_swap 62 = .ok (.aload_n 0, 1) := by decide +kernel
theorem dX10_swap_63 : decode cX10_swap 63 = .ok (.getfield 33, 3) := by decide +kernel
theorem dX10_swap_66 : decode cX10_swap 66 = .ok (.getfield 111, 3) := by decide +kernel
theorem dX10_swap_69 : decode cX10_swap 69 = .ok (.iload_n 3, 1) := by decide +kernel
theorem dX10_swap_70 : decode cX10_swap 70 = .ok (.iload 4, 2) := by decide +kernel
theorem dX10_swap_72 : decode cX10_swap 72 = .ok (.invokestatic 202, 3) := by decide +kernel
theorem dX10_swap_75 : decode cX10_swap 75 = .ok (.invokevirtual 196, 3) := by decide +kernel
theorem dX10_swap_78 : decode cX10_swap 78 = .ok (.aload_n 0, 1) := by decide +kernel
theorem dX10_swap_79 : decode cX10_swap 79 = .ok (.invokevirtual 205, 3) := by decide +kernel
theorem dX10_swap_82 : decode cX10_swap 82 = .ok (.ireturn, 1) := by decide +kernel
set_option maxRecDepth 20000 in
theorem ggX10_course_X4_afterCourse : GoodIn wsX10_course wsX4_afterCourse := goodIn_r _ [8, 9, 10, 11, 12, 7, 13, 14, 15, 16, 17, 18, 19, 20, 21, 22, 23, 24, 25, 26, 27, 28, 29, 30, 31, 32, 33, 34, 35, 36, 98, 99, 100, 101, 102, 103, 104, 105, 106, 107] (by decide +kernel) (by decide +kernel)
set_option maxRecDepth 20000 in
theorem gX10_course_X4_afterCourse : GoodIn wsX10_course (wsV RX10 209 RX4 yX4_afterCourse wsX4_afterCourse) := goodIn_app (goodIn_of _ (by decide +kernel)) ggX10_course_X4_afterCourse
set_option maxRecDepth 20000 in
theorem ggX10_course_X10_actTo : GoodIn wsX10_course wsX10_actTo := goodIn_r _ [41, 42, 2, 3, 43, 44, 45, 46, 47, 48, 49, 50, 51, 52, 53, 54, 83, 84, 85, 86, 87, 88, 89, 90, 91, 92, 93, 94, 95, 96, 97, 108, 109, 110] (by decide +kernel) (by decide +kernel)
set_option maxRecDepth 20000 in
theorem gX10_course_X10_actTo : GoodIn wsX10_course (wsV RX10 196 RX10 yX10_actTo wsX10_actTo) := goodIn_app (goodIn_of _ (by decide +kernel)) ggX10_course_X10_actTo
set_option maxRecDepth 20000 in
theorem ggX10_course_X10_lawfulNow : GoodIn wsX10_course wsX10_lawfulNow := goodIn_r _ [58, 1, 2, 3, 59, 60, 61, 7, 62, 63, 64, 65, 66, 67, 68, 69, 70, 71, 72, 73, 74, 9, 22, 23, 24, 25, 75, 76, 77, 78, 79, 80, 81, 82, 83, 84, 85, 86, 87, 88, 89, 90, 91, 92, 93, 94, 95, 96, 97, 98, 99, 100, 101, 102, 103, 104, 105, 106, 107] (by decide +kernel) (by decide +kernel)
set_option maxRecDepth 20000 in
theorem gX10_course_X10_lawfulNow : GoodIn wsX10_course (wsV RX10 205 RX10 yX10_lawfulNow wsX10_lawfulNow) := goodIn_app (goodIn_of _ (by decide +kernel)) ggX10_course_X10_lawfulNow
theorem dX10_course_0 : decode cX10_course 0 = .ok (.iload_n 1, 1) := by decide +kernel
theorem dX10_course_1 : decode cX10_course 1 = .ok (.iconst 1, 1) := by decide +kernel
theorem dX10_course_2 : decode cX10_course 2 = .ok (.if_icmp .lt 9, 3) := by decide +kernel
theorem dX10_course_5 : decode cX10_course 5 = .ok (.iload_n 1, 1) := by decide +kernel
theorem dX10_course_6 : decode cX10_course 6 = .ok (.bipush 9, 2) := by decide +kernel
theorem dX10_course_8 : decode cX10_course 8 = .ok (.if_icmp .le 6, 3) := by decide +kernel
theorem dX10_course_11 : decode cX10_course 11 = .ok (.bipush (-2), 2) := by decide +kernel
theorem dX10_course_13 : decode cX10_course 13 = .ok (.ireturn, 1) := by decide +kernel
theorem dX10_course_14 : decode cX10_course 14 = .ok (.aload_n 0, 1) := by decide +kernel
theorem dX10_course_15 : decode cX10_course 15 = .ok (.aload_n 0, 1) := by decide +kernel
theorem dX10_course_16 : decode cX10_course 16 = .ok (.getfield 67, 3) := by decide +kernel
theorem dX10_course_19 : decode cX10_course 19 = .ok (.aload_n 0, 1) := by decide +kernel
theorem dX10_course_20 : decode cX10_course 20 = .ok (.getfield 33, 3) := by decide +kernel
theorem dX10_course_23 : decode cX10_course 23 = .ok (.getfield 111, 3) := by decide +kernel
theorem dX10_course_26 : decode cX10_course 26 = .ok (.iload_n 1, 1) := by decide +kernel
theorem dX10_course_27 : decode cX10_course 27 = .ok (.invokevirtual 209, 3) := by decide +kernel
theorem dX10_course_30 : decode cX10_course 30 = .ok (.invokevirtual 196, 3) := by decide +kernel
theorem dX10_course_33 : decode cX10_course 33 = .ok (.aload_n 0, 1) := by decide +kernel
theorem dX10_course_34 : decode cX10_course 34 = .ok (.invokevirtual 205, 3) := by decide +kernel
theorem dX10_course_37 : decode cX10_course 37 = .ok (.ireturn, 1) := by decide +kernel
set_option maxRecDepth 20000 in
theorem ggX10_dinner_X8_mostDined : GoodIn wsX10_dinner wsX8_mostDined := goodIn_r _ [9, 10, 11, 12, 13, 14, 15, 16, 17, 18, 19, 20, 21, 22, 23, 24, 25, 26, 27, 28, 29, 30, 31, 32, 33, 34, 35, 36, 37, 38, 39, 40, 41, 74, 75, 76, 77, 78, 79, 80, 81, 82, 83, 84, 85, 86] (by decide +kernel) (by decide +kernel)
set_option maxRecDepth 20000 in
theorem gX10_dinner_X8_mostDined : GoodIn wsX10_dinner (wsV RX10 212 RX8 yX8_mostDined wsX8_mostDined) := goodIn_app (goodIn_of _ (by decide +kernel)) ggX10_dinner_X8_mostDined
set_option maxRecDepth 20000 in
theorem ggX10_dinner_X8_pairsThatDined : GoodIn wsX10_dinner wsX8_pairsThatDined := goodIn_r _ [45, 10, 11, 16, 17, 18, 19, 20, 21, 22, 23, 24, 25, 26, 27, 28, 29, 30, 31, 32, 33, 34, 35, 36, 37, 38, 39, 40, 41, 74, 75, 76, 77, 78, 79, 80, 81, 82, 83, 84, 85, 86] (by decide +kernel) (by decide +kernel)
set_option maxRecDepth 20000 in
theorem gX10_dinner_X8_pairsThatDined : GoodIn wsX10_dinner (wsV RX10 216 RX8 yX8_pairsThatDined wsX8_pairsThatDined) := goodIn_app (goodIn_of _ (by decide +kernel)) ggX10_dinner_X8_pairsThatDined
set_option maxRecDepth 20000 in
theorem ggX10_dinner_X0_add : GoodIn wsX10_dinner wsX0_add := goodIn_r _ [50, 51, 52, 53, 54, 55, 56, 49, 57, 87, 88, 89] (by decide +kernel) (by decide +kernel)
set_option maxRecDepth 20000 in
theorem gX10_dinner_X0_add : GoodIn wsX10_dinner (wsV RX10 219 RX0 yX0_add wsX0_add) := goodIn_app (goodIn_of _ (by decide +kernel)) ggX10_dinner_X0_add
set_option maxRecDepth 20000 in
theorem ggX10_dinner_X8_dine : GoodIn wsX10_dinner wsX8_dine := goodIn_r _ [61, 10, 11, 16, 17, 18, 19, 20, 21, 22, 23, 24, 25, 26, 27, 28, 29, 30, 31, 32, 33, 34, 35, 36, 37, 38, 39, 40, 41, 74, 75, 76, 77, 78, 79, 80, 81, 82, 83, 84, 85, 86] (by decide +kernel) (by decide +kernel)
set_option maxRecDepth 20000 in
theorem gX10_dinner_X8_dine : GoodIn wsX10_dinner (wsV RX10 222 RX8 yX8_dine wsX8_dine) := goodIn_app (goodIn_of _ (by decide +kernel)) ggX10_dinner_X8_dine
theorem dX10_dinner_0 : decode cX10_dinner 0 = .ok (.aload_n 0, 1) := by decide +kernel
theorem dX10_dinner_1 : decode cX10_dinner 1 = .ok (.getfield 33, 3) := by decide +kernel
theorem dX10_dinner_4 : decode cX10_dinner 4 = .ok (.aload_n 0, 1) := by decide +kernel
theorem dX10_dinner_5 : decode cX10_dinner 5 = .ok (.getfield 67, 3) := by decide +kernel
theorem dX10_dinner_8 : decode cX10_dinner 8 = .ok (.invokevirtual 212, 3) := by decide +kernel
theorem dX10_dinner_11 : decode cX10_dinner 11 = .ok (.bipush 99, 2) := by decide +kernel
theorem dX10_dinner_13 : decode cX10_dinner 13 = .ok (.if_icmp .lt 6, 3) := by decide +kernel
theorem dX10_dinner_16 : decode cX10_dinner 16 = .ok (.bipush (-4), 2) := by decide +kernel
theorem dX10_dinner_18 : decode cX10_dinner 18 = .ok (.ireturn, 1) := by decide +kernel
theorem dX10_dinner_19 : decode cX10_dinner 19 = .ok (.aload_n 0, 1) := by decide +kernel
theorem dX10_dinner_20 : decode cX10_dinner 20 = .ok (.getfield 33, 3) := by decide +kernel
theorem dX10_dinner_23 : decode cX10_dinner 23 = .ok (.aload_n 0, 1) := by decide +kernel
theorem dX10_dinner_24 : decode cX10_dinner 24 = .ok (.getfield 67, 3) := by decide +kernel
theorem dX10_dinner_27 : decode cX10_dinner 27 = .ok (.invokevirtual 216, 3) := by decide +kernel
theorem dX10_dinner_30 : decode cX10_dinner 30 = .ok (.istore_n 1, 1) := by decide +kernel
theorem dX10_dinner_31 : decode cX10_dinner 31 = .ok (.aload_n 0, 1) := by decide +kernel
theorem dX10_dinner_32 : decode cX10_dinner 32 = .ok (.getfield 40, 3) := by decide +kernel
theorem dX10_dinner_35 : decode cX10_dinner 35 = .ok (.aload_n 0, 1) := by decide +kernel
theorem dX10_dinner_36 : decode cX10_dinner 36 = .ok (.getfield 33, 3) := by decide +kernel
theorem dX10_dinner_39 : decode cX10_dinner 39 = .ok (.getfield 111, 3) := by decide +kernel
theorem dX10_dinner_42 : decode cX10_dinner 42 = .ok (.iconst 1, 1) := by decide +kernel
theorem dX10_dinner_43 : decode cX10_dinner 43 = .ok (.invokevirtual 219, 3) := by decide +kernel
theorem dX10_dinner_46 : decode cX10_dinner 46 = .ok (.aload_n 0, 1) := by decide +kernel
theorem dX10_dinner_47 : decode cX10_dinner 47 = .ok (.getfield 33, 3) := by decide +kernel
theorem dX10_dinner_50 : decode cX10_dinner 50 = .ok (.aload_n 0, 1) := by decide +kernel
theorem dX10_dinner_51 : decode cX10_dinner 51 = .ok (.getfield 67, 3) := by decide +kernel
theorem dX10_dinner_54 : decode cX10_dinner 54 = .ok (.iconst 1, 1) := by decide +kernel
theorem dX10_dinner_55 : decode cX10_dinner 55 = .ok (.invokevirtual 222, 3) := by decide +kernel
theorem dX10_dinner_58 : decode cX10_dinner 58 = .ok (.iload_n 1, 1) := by decide +kernel
theorem dX10_dinner_59 : decode cX10_dinner 59 = .ok (.ireturn, 1) := by decide +kernel
set_option maxRecDepth 20000 in
theorem ggX10_undo_X0_seatingBefore : GoodIn wsX10_undo wsX0_seatingBefore := goodIn_r _ [10, 11, 62, 63, 64] (by decide +kernel) (by decide +kernel)
set_option maxRecDepth 20000 in
theorem gX10_undo_X0_seatingBefore : GoodIn wsX10_undo (wsV RX10 226 RX0 yX0_seatingBefore wsX0_seatingBefore) := goodIn_app (goodIn_of _ (by decide +kernel)) ggX10_undo_X0_seatingBefore
set_option maxRecDepth 20000 in
theorem ggX10_undo_X0_wasDinner : GoodIn wsX10_undo wsX0_wasDinner := goodIn_r _ [15, 16, 62, 63, 64] (by decide +kernel) (by decide +kernel)
set_option maxRecDepth 20000 in
theorem gX10_undo_X0_wasDinner : GoodIn wsX10_undo (wsV RX10 229 RX0 yX0_wasDinner wsX0_wasDinner) := goodIn_app (goodIn_of _ (by decide +kernel)) ggX10_undo_X0_wasDinner
set_option maxRecDepth 20000 in
theorem ggX10_undo_X8_dine : GoodIn wsX10_undo wsX8_dine := goodIn_r _ [21, 22, 23, 24, 25, 26, 27, 28, 29, 30, 31, 32, 33, 34, 35, 36, 37, 38, 39, 40, 41, 42, 43, 44, 45, 46, 47, 48, 49, 65, 66, 67, 68, 69, 70, 71, 72, 73, 74, 75, 76, 77] (by decide +kernel) (by decide +kernel)
set_option maxRecDepth 20000 in
theorem gX10_undo_X8_dine : GoodIn wsX10_undo (wsV RX10 222 RX8 yX8_dine wsX8_dine) := goodIn_app (goodIn_of _ (by decide +kernel)) ggX10_undo_X8_dine
theorem dX10_undo_0 : decode cX10_undo 0 = .ok (.aload_n 0, 1) := by decide +kernel
theorem dX10_undo_1 : decode cX10_undo 1 = .ok (.getfield 40, 3) := by decide +kernel
theorem dX10_undo_4 : decode cX10_undo 4 = .ok (.getfield 93, 3) := by decide +kernel
theorem dX10_undo_7 : decode cX10_undo 7 = .ok (.iconst 1, 1) := by decide +kernel
theorem dX10_undo_8 : decode cX10_undo 8 = .ok (.if_icmp .ge 6, 3) := by decide +kernel
theorem dX10_undo_11 : decode cX10_undo 11 = .ok (.bipush (-3), 2) := by decide +kernel
theorem dX10_undo_13 : decode cX10_undo 13 = .ok (.ireturn, 1) := by decide +kernel
theorem dX10_undo_14 : decode cX10_undo 14 = .ok (.aload_n 0, 1) := by decide +kernel
theorem dX10_undo_15 : decode cX10_undo 15 = .ok (.getfield 40, 3) := by decide +kernel
theorem dX10_undo_18 : decode cX10_undo 18 = .ok (.dup, 1) := by decide +kernel
theorem dX10_undo_19 : decode cX10_undo 19 = .ok (.getfield 93, 3) := by decide +kernel
theorem dX10_undo_22 : decode cX10_undo 22 = .ok (.iconst 1, 1) := by decide +kernel
theorem dX10_undo_23 : decode cX10_undo 23 = .ok (.isub, 1) := by decide +kernel
theorem dX10_undo_24 : decode cX10_undo 24 = .ok (.putfield 93, 3) := by decide +kernel
theorem dX10_undo_27 : decode cX10_undo 27 = .ok (.aload_n 0, 1) := by decide +kernel
theorem dX10_undo_28 : decode cX10_undo 28 = .ok (.getfield 33, 3) := by decide +kernel
theorem dX10_undo_31 : decode cX10_undo 31 = .ok (.aload_n 0, 1) := by decide +kernel
theorem dX10_undo_32 : decode cX10_undo 32 = .ok (.getfield 40, 3) := by decide +kernel
theorem dX10_undo_35 : decode cX10_undo 35 = .ok (.aload_n 0, 1) := by decide +kernel
theorem dX10_undo_36 : decode cX10_undo 36 = .ok (.getfield 40, 3) := by decide +kernel
theorem dX10_undo_39 : decode cX10_undo 39 = .ok (.getfield 93, 3) := by decide +kernel
theorem dX10_undo_42 : decode cX10_undo 42 = .ok (.invokevirtual 226, 3) := by decide +kernel
theorem dX10_undo_45 : decode cX10_undo 45 = .ok (.putfield 111, 3) := by decide +kernel
theorem dX10_undo_48 : decode cX10_undo 48 = .ok (.aload_n 0, 1) := by decide +kernel
theorem dX10_undo_49 : decode cX10_undo 49 = .ok (.getfield 40, 3) := by decide +kernel
theorem dX10_undo_52 : decode cX10_undo 52 = .ok (.aload_n 0, 1) := by decide +kernel
theorem dX10_undo_53 : decode cX10_undo 53 = .ok (.getfield 40, 3) := by decide +kernel
theorem dX10_undo_56 : decode cX10_undo 56 = .ok (.getfield 93, 3) := by decide +kernel
theorem dX10_undo_59 : decode cX10_undo 59 = .ok (.invokevirtual 229, 3) := by decide +kernel
theorem dX10_undo_62 : decode cX10_undo 62 = .ok (.ifCond .eq 15, 3) := by decide +kernel
theorem dX10_undo_65 : decode cX10_undo 65 = .ok (.aload_n 0, 1) := by decide +kernel
theorem dX10_undo_66 : decode cX10_undo 66 = .ok (.getfield 33, 3) := by decide +kernel
theorem dX10_undo_69 : decode cX10_undo 69 = .ok (.aload_n 0, 1) := by decide +kernel
theorem dX10_undo_70 : decode cX10_undo 70 = .ok (.getfield 67, 3) := by decide +kernel
theorem dX10_undo_73 : decode cX10_undo 73 = .ok (.iconst (-1), 1) := by decide +kernel
theorem dX10_undo_74 : decode cX10_undo 74 = .ok (.invokevirtual 222, 3) := by decide +kernel
theorem dX10_undo_77 : decode cX10_undo 77 = .ok (.aload_n 0, 1) := by decide +kernel
theorem dX10_undo_78 : decode cX10_undo 78 = .ok (.getfield 40, 3) := by decide +kernel
theorem dX10_undo_81 : decode cX10_undo 81 = .ok (.getfield 93, 3) := by decide +kernel
theorem dX10_undo_84 : decode cX10_undo 84 = .ok (.ireturn, 1) := by decide +kernel
set_option maxRecDepth 20000 in
theorem ggX10_good_X4_men : GoodIn wsX10_good wsX4_men := goodIn_r _ [8, 9, 10, 11, 12, 13, 14, 15, 16, 17, 77, 78, 79, 80, 81, 82, 83, 84, 85, 86] (by decide +kernel) (by decide +kernel)
set_option maxRecDepth 20000 in
theorem gX10_good_X4_men : GoodIn wsX10_good (wsV RX10 232 RX4 yX4_men wsX4_men) := goodIn_app (goodIn_of _ (by decide +kernel)) ggX10_good_X4_men
set_option maxRecDepth 20000 in
theorem ggX10_good_X4_afterCourse : GoodIn wsX10_good wsX4_afterCourse := goodIn_r _ [21, 9, 22, 5, 6, 7, 8, 10, 11, 12, 13, 14, 15, 16, 17, 23, 24, 25, 26, 27, 28, 29, 30, 31, 32, 33, 34, 35, 36, 37, 77, 78, 79, 80, 81, 82, 83, 84, 85, 86] (by decide +kernel) (by decide +kernel)
set_option maxRecDepth 20000 in
theorem gX10_good_X4_afterCourse : GoodIn wsX10_good (wsV RX10 209 RX4 yX4_afterCourse wsX4_afterCourse) := goodIn_app (goodIn_of _ (by decide +kernel)) ggX10_good_X4_afterCourse
set_option maxRecDepth 20000 in
theorem ggX10_good_X4_isLawful : GoodIn wsX10_good wsX4_isLawful := goodIn_r _ [41, 42, 43, 44, 45, 46, 47, 7, 48, 49, 50, 51, 52, 53, 9, 23, 24, 25, 26, 54, 55, 56, 57, 58, 59, 60, 61, 77, 78, 79, 80, 81, 82, 83, 84, 85, 86] (by decide +kernel) (by decide +kernel)
set_option maxRecDepth 20000 in
theorem gX10_good_X4_isLawful : GoodIn wsX10_good (wsV RX10 235 RX4 yX4_isLawful wsX4_isLawful) := goodIn_app (goodIn_of _ (by decide +kernel)) ggX10_good_X4_isLawful
theorem dX10_good_0 : decode cX10_good 0 = .ok (.iconst 0, 1) := by decide +kernel
theorem dX10_good_1 : decode cX10_good 1 = .ok (.istore_n 1, 1) := by decide +kernel
theorem dX10_good_2 : decode cX10_good 2 = .ok (.aload_n 0, 1) := by decide +kernel
theorem dX10_good_3 : decode cX10_good 3 = .ok (.getfield 67, 3) := by decide +kernel
theorem dX10_good_6 : decode cX10_good 6 = .ok (.invokevirtual 232, 3) := by decide +kernel
theorem dX10_good_9 : decode cX10_good 9 = .ok (.istore_n 2, 1) := by decide +kernel
theorem dX10_good_10 : decode cX10_good 10 = .ok (.iconst 1, 1) := by decide +kernel
theorem dX10_good_11 : decode cX10_good 11 = .ok (.istore_n 3, 1) := by decide +kernel
theorem dX10_good_12 : decode cX10_good 12 = .ok (.iload_n 3, 1) := by decide +kernel
theorem dX10_good_13 : decode cX10_good 13 = .ok (.iload_n 2, 1) := by decide +kernel
theorem dX10_good_14 : decode cX10_good 14 = .ok (.if_icmp .ge 43, 3) := by decide +kernel
theorem dX10_good_17 : decode cX10_good 17 = .ok (.iload_n 3, 1) := by decide +kernel
theorem dX10_good_18 : decode cX10_good 18 = .ok (.bipush 7, 2) := by decide +kernel
theorem dX10_good_20 : decode cX10_good 20 = .ok (.if_icmp .ge 37, 3) := by decide +kernel
theorem dX10_good_23 : decode cX10_good 23 = .ok (.aload_n 0, 1) := by decide +kernel
theorem dX10_good_24 : decode cX10_good 24 = .ok (.getfield 67, 3) := by decide +kernel
theorem dX10_good_27 : decode cX10_good 27 = .ok (.aload_n 0, 1) := by decide +kernel
theorem dX10_good_28 : decode cX10_good 28 = .ok (.getfield 67, 3) := by decide +kernel
theorem dX10_good_31 : decode cX10_good 31 = .ok (.aload_n 0, 1) := by decide +kernel
theorem dX10_good_32 : decode cX10_good 32 = .ok (.getfield 33, 3) := by decide +kernel
theorem dX10_good_35 : decode cX10_good 35 = .ok (.getfield 111, 3) := by decide +kernel
theorem dX10_good_38 : decode cX10_good 38 = .ok (.iload_n 3, 1) := by decide +kernel
theorem dX10_good_39 : decode cX10_good 39 = .ok (.invokevirtual 209, 3) := by decide +kernel
theorem dX10_good_42 : decode cX10_good 42 = .ok (.invokevirtual 235, 3) := by decide +kernel
theorem dX10_good_45 : decode cX10_good 45 = .ok (.ifCond .eq 6, 3) := by decide +kernel
theorem dX10_good_48 : decode cX10_good 48 = .ok (.iinc 1 1, 3) := by decide +kernel
theorem dX10_good_51 : decode cX10_good 51 = .ok (.iinc 3 1, 3) := by decide +kernel
theorem dX10_good_54 : decode cX10_good 54 = .ok (.goto (-42), 3) := by decide +kernel
theorem dX10_good_57 : decode cX10_good 57 = .ok (.iload_n 1, 1) := by decide +kernel
theorem dX10_good_58 : decode cX10_good 58 = .ok (.ireturn, 1) := by decide +kernel
set_option maxRecDepth 20000 in
theorem ggX10_worthOf_X4_weigh : GoodIn wsX10_worthOf wsX4_weigh := goodIn_r _ [10, 11, 12, 13, 9, 14, 15, 16, 17, 18, 19, 20, 21, 22, 23, 24, 25, 26, 27, 28, 97, 98, 99, 100, 101, 102, 103, 104, 105, 106] (by decide +kernel) (by decide +kernel)
set_option maxRecDepth 20000 in
theorem gX10_worthOf_X4_weigh : GoodIn wsX10_worthOf (wsV RX10 238 RX4 yX4_weigh wsX4_weigh) := goodIn_app (goodIn_of _ (by decide +kernel)) ggX10_worthOf_X4_weigh
set_option maxRecDepth 20000 in
theorem ggX10_worthOf_X2_list : GoodIn wsX10_worthOf wsX2_list := goodIn_r _ [33, 34, 35, 36, 37, 38, 39, 40, 19, 41, 42, 43, 44, 32, 45, 46, 47, 48, 49, 9, 50, 51, 52, 53, 54, 55, 56, 57, 11, 12, 13, 14, 15, 16, 17, 18, 20, 21, 22, 23, 24, 58, 59, 27, 60, 61, 62, 63, 64, 65, 66, 67, 68, 69, 70, 71, 107, 108, 109, 97, 98, 99, 100, 101, 102, 103, 104, 105, 106] (by decide +kernel) (by decide +kernel)
set_option maxRecDepth 20000 in
theorem gX10_worthOf_X2_list : GoodIn wsX10_worthOf (wsV RX10 166 RX2 yX2_list wsX2_list) := goodIn_app (goodIn_of _ (by decide +kernel)) ggX10_worthOf_X2_list
set_option maxRecDepth 20000 in
theorem ggX10_worthOf_X2_firstOfLeast : GoodIn wsX10_worthOf wsX2_firstOfLeast := goodIn_r _ [75, 35, 76, 77, 78, 32, 79, 37, 80, 7, 8, 9, 10, 11, 12, 13, 14, 15, 16, 17, 18, 19, 20, 21, 22, 23, 24, 25, 26, 27, 28, 107, 108, 109, 97, 98, 99, 100, 101, 102, 103, 104, 105, 106] (by decide +kernel) (by decide +kernel)
set_option maxRecDepth 20000 in
theorem gX10_worthOf_X2_firstOfLeast : GoodIn wsX10_worthOf (wsV RX10 242 RX2 yX2_firstOfLeast wsX2_firstOfLeast) := goodIn_app (goodIn_of _ (by decide +kernel)) ggX10_worthOf_X2_firstOfLeast
set_option maxRecDepth 20000 in
theorem ggX10_worthOf_X2_seatingOf : GoodIn wsX10_worthOf wsX2_seatingOf := goodIn_r _ [79, 37, 107, 108, 109] (by decide +kernel) (by decide +kernel)
set_option maxRecDepth 20000 in
theorem gX10_worthOf_X2_seatingOf : GoodIn wsX10_worthOf (wsV RX10 186 RX2 yX2_seatingOf wsX2_seatingOf) := goodIn_app (goodIn_of _ (by decide +kernel)) ggX10_worthOf_X2_seatingOf
theorem dX10_worthOf_0 : decode cX10_worthOf 0 = .ok (.iload_n 1, 1) := by decide +kernel
theorem dX10_worthOf_1 : decode cX10_worthOf 1 = .ok (.ifCond .ne 25, 3) := by decide +kernel
theorem dX10_worthOf_4 : decode cX10_worthOf 4 = .ok (.aload_n 0, 1) := by decide +kernel
theorem dX10_worthOf_5 : decode cX10_worthOf 5 = .ok (.getfield 67, 3) := by decide +kernel
theorem dX10_worthOf_8 : decode cX10_worthOf 8 = .ok (.aload_n 0, 1) := by decide +kernel
theorem dX10_worthOf_9 : decode cX10_worthOf 9 = .ok (.getfield 33, 3) := by decide +kernel
theorem dX10_worthOf_12 : decode cX10_worthOf 12 = .ok (.getfield 111, 3) := by decide +kernel
theorem dX10_worthOf_15 : decode cX10_worthOf 15 = .ok (.aload_n 0, 1) := by decide +kernel
theorem dX10_worthOf_16 : decode cX10_worthOf 16 = .ok (.getfield 67, 3) := by decide +kernel
theorem dX10_worthOf_19 : decode cX10_worthOf 19 = .ok (.getfield 153, 3) := by decide +kernel
theorem dX10_worthOf_22 : decode cX10_worthOf 22 = .ok (.invokevirtual 238, 3) := by decide +kernel
theorem dX10_worthOf_25 : decode cX10_worthOf 25 = .ok (.ireturn, 1) := by decide +kernel
theorem dX10_worthOf_26 : decode cX10_worthOf 26 = .ok (.aload_n 0, 1) := by decide +kernel
theorem dX10_worthOf_27 : decode cX10_worthOf 27 = .ok (.getfield 26, 3) := by decide +kernel
theorem dX10_worthOf_30 : decode cX10_worthOf 30 = .ok (.aload_n 0, 1) := by decide +kernel
theorem dX10_worthOf_31 : decode cX10_worthOf 31 = .ok (.getfield 67, 3) := by decide +kernel
theorem dX10_worthOf_34 : decode cX10_worthOf 34 = .ok (.invokevirtual 166, 3) := by decide +kernel
theorem dX10_worthOf_37 : decode cX10_worthOf 37 = .ok (.aload_n 0, 1) := by decide +kernel
theorem dX10_worthOf_38 : decode cX10_worthOf 38 = .ok (.getfield 26, 3) := by decide +kernel
theorem dX10_worthOf_41 : decode cX10_worthOf 41 = .ok (.aload_n 0, 1) := by decide +kernel
theorem dX10_worthOf_42 : decode cX10_worthOf 42 = .ok (.getfield 67, 3) := by decide +kernel
theorem dX10_worthOf_45 : decode cX10_worthOf 45 = .ok (.aload_n 0, 1) := by decide +kernel
theorem dX10_worthOf_46 : decode cX10_worthOf 46 = .ok (.getfield 67, 3) := by decide +kernel
theorem dX10_worthOf_49 : decode cX10_worthOf 49 = .ok (.getfield 153, 3) := by decide +kernel
theorem dX10_worthOf_52 : decode cX10_worthOf 52 = .ok (.iconst (-1), 1) := by decide +kernel
theorem dX10_worthOf_53 : decode cX10_worthOf 53 = .ok (.invokevirtual 242, 3) := by decide +kernel
theorem dX10_worthOf_56 : decode cX10_worthOf 56 = .ok (.istore_n 2, 1) := by decide +kernel
theorem dX10_worthOf_57 : decode cX10_worthOf 57 = .ok (.iload_n 2, 1) := by decide +kernel
theorem dX10_worthOf_58 : decode cX10_worthOf 58 = .ok (.ifCond .ge 8, 3) := by decide +kernel
theorem dX10_worthOf_61 : decode cX10_worthOf 61 = .ok (.bipush (-9), 2) := by decide +kernel
theorem dX10_worthOf_63 : decode cX10_worthOf 63 = .ok (.goto 25, 3) := by decide +kernel
theorem dX10_worthOf_66 : decode cX10_worthOf 66 = .ok (.aload_n 0, 1) := by decide +kernel
theorem dX10_worthOf_67 : decode cX10_worthOf 67 = .ok (.getfield 67, 3) := by decide +kernel
theorem dX10_worthOf_70 : decode cX10_worthOf 70 = .ok (.aload_n 0, 1) := by decide +kernel
theorem dX10_worthOf_71 : decode cX10_worthOf 71 = .ok (.getfield 26, 3) := by decide +kernel
theorem dX10_worthOf_74 : decode cX10_worthOf 74 = .ok (.iload_n 2, 1) := by decide +kernel
theorem dX10_worthOf_75 : decode cX10_worthOf 75 = .ok (.invokevirtual 186, 3) := by decide +kernel
theorem dX10_worthOf_78 : decode cX10_worthOf 78 = .ok (.aload_n 0, 1) := by decide +kernel
theorem dX10_worthOf_79 : decode cX10_worthOf 79 = .ok (.getfield 67, 3) := by decide +kernel
theorem dX10_worthOf_82 : decode cX10_worthOf 82 = .ok (.getfield 153, 3) := by decide +kernel
theorem dX10_worthOf_85 : decode cX10_worthOf 85 = .ok (.invokevirtual 238, 3) := by decide +kernel
theorem dX10_worthOf_88 : decode cX10_worthOf 88 = .ok (.ireturn, 1) := by decide +kernel
set_option maxRecDepth 20000 in
theorem ggX10_bestAt_X4_hasPerson : GoodIn wsX10_bestAt wsX4_hasPerson := goodIn_r _ [8, 9, 102, 103, 104, 105, 106, 107, 108, 109, 110, 111] (by decide +kernel) (by decide +kernel)
set_option maxRecDepth 20000 in
theorem gX10_bestAt_X4_hasPerson : GoodIn wsX10_bestAt (wsV RX10 107 RX4 yX4_hasPerson wsX4_hasPerson) := goodIn_app (goodIn_of _ (by decide +kernel)) ggX10_bestAt_X4_hasPerson
set_option maxRecDepth 20000 in
theorem ggX10_bestAt_X2_list : GoodIn wsX10_bestAt wsX2_list := goodIn_r _ [14, 15, 16, 17, 18, 19, 20, 21, 22, 23, 24, 25, 26, 13, 27, 28, 29, 30, 31, 7, 32, 33, 34, 35, 36, 37, 38, 39, 40, 41, 42, 43, 44, 9, 45, 46, 47, 48, 49, 50, 51, 52, 53, 54, 55, 56, 57, 58, 59, 60, 61, 62, 63, 64, 65, 66, 112, 113, 114, 102, 103, 104, 105, 106, 107, 108, 109, 110, 111] (by decide +kernel) (by decide +kernel)
set_option maxRecDepth 20000 in
theorem gX10_bestAt_X2_list : GoodIn wsX10_bestAt (wsV RX10 166 RX2 yX2_list wsX2_list) := goodIn_app (goodIn_of _ (by decide +kernel)) ggX10_bestAt_X2_list
set_option maxRecDepth 20000 in
theorem ggX10_bestAt_X2_firstOfLeast : GoodIn wsX10_bestAt wsX2_firstOfLeast := goodIn_r _ [70, 16, 71, 72, 73, 13, 74, 18, 75, 76, 77, 7, 78, 40, 41, 42, 43, 44, 9, 45, 46, 22, 47, 48, 49, 50, 51, 79, 80, 54, 81, 112, 113, 114, 102, 103, 104, 105, 106, 107, 108, 109, 110, 111] (by decide +kernel) (by decide +kernel)
set_option maxRecDepth 20000 in
theorem gX10_bestAt_X2_firstOfLeast : GoodIn wsX10_bestAt (wsV RX10 242 RX2 yX2_firstOfLeast wsX2_firstOfLeast) := goodIn_app (goodIn_of _ (by decide +kernel)) ggX10_bestAt_X2_firstOfLeast
set_option maxRecDepth 20000 in
theorem ggX10_bestAt_X2_personBy : GoodIn wsX10_bestAt wsX2_personBy := goodIn_r _ [85, 86, 87, 88, 13, 89, 16, 71, 72, 73, 74, 18, 60, 46, 22, 47, 112, 113, 114] (by decide +kernel) (by decide +kernel)
set_option maxRecDepth 20000 in
theorem gX10_bestAt_X2_personBy : GoodIn wsX10_bestAt (wsV RX10 246 RX2 yX2_personBy wsX2_personBy) := goodIn_app (goodIn_of _ (by decide +kernel)) ggX10_bestAt_X2_personBy
theorem dX10_bestAt_0 : decode cX10_bestAt 0 = .ok (.aload_n 0, 1) := by decide +kernel
theorem dX10_bestAt_1 : decode cX10_bestAt 1 = .ok (.getfield 67, 3) := by decide +kernel
theorem dX10_bestAt_4 : decode cX10_bestAt 4 = .ok (.iload_n 1, 1) := by decide +kernel
theorem dX10_bestAt_5 : decode cX10_bestAt 5 = .ok (.invokevirtual 107, 3) := by decide +kernel
theorem dX10_bestAt_8 : decode cX10_bestAt 8 = .ok (.ifCond .ne 5, 3) := by decide +kernel
theorem dX10_bestAt_11 : decode cX10_bestAt 11 = .ok (.iconst (-1), 1) := by decide +kernel
theorem dX10_bestAt_12 : decode cX10_bestAt 12 = .ok (.ireturn, 1) := by decide +kernel
theorem dX10_bestAt_13 : decode cX10_bestAt 13 = .ok (.aload_n 0, 1) := by decide +kernel
theorem dX10_bestAt_14 : decode cX10_bestAt 14 = .ok (.getfield 26, 3) := by decide +kernel
theorem dX10_bestAt_17 : decode cX10_bestAt 17 = .ok (.aload_n 0, 1) := by decide +kernel
theorem dX10_bestAt_18 : decode cX10_bestAt 18 = .ok (.getfield 67, 3) := by decide +kernel
theorem dX10_bestAt_21 : decode cX10_bestAt 21 = .ok (.invokevirtual 166, 3) := by decide +kernel
theorem dX10_bestAt_24 : decode cX10_bestAt 24 = .ok (.aload_n 0, 1) := by decide +kernel
theorem dX10_bestAt_25 : decode cX10_bestAt 25 = .ok (.getfield 26, 3) := by decide +kernel
theorem dX10_bestAt_28 : decode cX10_bestAt 28 = .ok (.aload_n 0, 1) := by decide +kernel
theorem dX10_bestAt_29 : decode cX10_bestAt 29 = .ok (.getfield 26, 3) := by decide +kernel
theorem dX10_bestAt_32 : decode cX10_bestAt 32 = .ok (.aload_n 0, 1) := by decide +kernel
theorem dX10_bestAt_33 : decode cX10_bestAt 33 = .ok (.getfield 67, 3) := by decide +kernel
theorem dX10_bestAt_36 : decode cX10_bestAt 36 = .ok (.aload_n 0, 1) := by decide +kernel
theorem dX10_bestAt_37 : decode cX10_bestAt 37 = .ok (.getfield 67, 3) := by decide +kernel
theorem dX10_bestAt_40 : decode cX10_bestAt 40 = .ok (.getfield 153, 3) := by decide +kernel
theorem dX10_bestAt_43 : decode cX10_bestAt 43 = .ok (.iconst (-1), 1) := by decide +kernel
theorem dX10_bestAt_44 : decode cX10_bestAt 44 = .ok (.invokevirtual 242, 3) := by decide +kernel
theorem dX10_bestAt_47 : decode cX10_bestAt 47 = .ok (.iload_n 1, 1) := by decide +kernel
theorem dX10_bestAt_48 : decode cX10_bestAt 48 = .ok (.invokevirtual 246, 3) := by decide +kernel
theorem dX10_bestAt_51 : decode cX10_bestAt 51 = .ok (.ireturn, 1) := by decide +kernel
set_option maxRecDepth 20000 in
theorem ggX10_few_X2_list : GoodIn wsX10_few wsX2_list := goodIn_r _ [9, 10, 11, 12, 13, 14, 15, 16, 17, 18, 19, 20, 21, 8, 22, 23, 24, 25, 26, 27, 28, 29, 30, 31, 32, 33, 34, 35, 36, 37, 38, 39, 40, 41, 42, 43, 44, 45, 46, 47, 48, 49, 50, 51, 52, 53, 54, 55, 56, 57, 58, 59, 60, 61, 62, 63, 96, 97, 98, 99, 100, 101, 102, 103, 104, 105, 106, 107, 108] (by decide +kernel) (by decide +kernel)
set_option maxRecDepth 20000 in
theorem gX10_few_X2_list : GoodIn wsX10_few (wsV RX10 166 RX2 yX2_list wsX2_list) := goodIn_app (goodIn_of _ (by decide +kernel)) ggX10_few_X2_list
set_option maxRecDepth 20000 in
theorem ggX10_few_X2_firstOfLeast : GoodIn wsX10_few wsX2_firstOfLeast := goodIn_r _ [67, 11, 68, 69, 70, 8, 71, 13, 72, 73, 74, 27, 75, 36, 37, 38, 39, 40, 41, 42, 43, 17, 44, 45, 46, 47, 48, 76, 77, 51, 78, 96, 97, 98, 99, 100, 101, 102, 103, 104, 105, 106, 107, 108] (by decide +kernel) (by decide +kernel)
set_option maxRecDepth 20000 in
theorem gX10_few_X2_firstOfLeast : GoodIn wsX10_few (wsV RX10 242 RX2 yX2_firstOfLeast wsX2_firstOfLeast) := goodIn_app (goodIn_of _ (by decide +kernel)) ggX10_few_X2_firstOfLeast
set_option maxRecDepth 20000 in
theorem ggX10_few_X2_seatingOf : GoodIn wsX10_few wsX2_seatingOf := goodIn_r _ [71, 13, 96, 97, 98] (by decide +kernel) (by decide +kernel)
set_option maxRecDepth 20000 in
theorem gX10_few_X2_seatingOf : GoodIn wsX10_few (wsV RX10 186 RX2 yX2_seatingOf wsX2_seatingOf) := goodIn_app (goodIn_of _ (by decide +kernel)) ggX10_few_X2_seatingOf
set_option maxRecDepth 20000 in
theorem ggX10_few_X4_weigh : GoodIn wsX10_few wsX4_weigh := goodIn_r _ [75, 36, 37, 38, 27, 39, 40, 41, 42, 43, 17, 44, 45, 46, 47, 48, 76, 77, 51, 78, 99, 100, 101, 102, 103, 104, 105, 106, 107, 108] (by decide +kernel) (by decide +kernel)
set_option maxRecDepth 20000 in
theorem gX10_few_X4_weigh : GoodIn wsX10_few (wsV RX10 238 RX4 yX4_weigh wsX4_weigh) := goodIn_app (goodIn_of _ (by decide +kernel)) ggX10_few_X4_weigh
theorem dX10_few_0 : decode cX10_few 0 = .ok (.aload_n 0, 1) := by decide +kernel
theorem dX10_few_1 : decode cX10_few 1 = .ok (.getfield 26, 3) := by decide +kernel
theorem dX10_few_4 : decode cX10_few 4 = .ok (.aload_n 0, 1) := by decide +kernel
theorem dX10_few_5 : decode cX10_few 5 = .ok (.getfield 67, 3) := by decide +kernel
theorem dX10_few_8 : decode cX10_few 8 = .ok (.invokevirtual 166, 3) := by decide +kernel
theorem dX10_few_11 : decode cX10_few 11 = .ok (.aload_n 0, 1) := by decide +kernel
theorem dX10_few_12 : decode cX10_few 12 = .ok (.getfield 26, 3) := by decide +kernel
theorem dX10_few_15 : decode cX10_few 15 = .ok (.aload_n 0, 1) := by decide +kernel
theorem dX10_few_16 : decode cX10_few 16 = .ok (.getfield 67, 3) := by decide +kernel
theorem dX10_few_19 : decode cX10_few 19 = .ok (.aload_n 0, 1) := by decide +kernel
theorem dX10_few_20 : decode cX10_few 20 = .ok (.getfield 33, 3) := by decide +kernel
theorem dX10_few_23 : decode cX10_few 23 = .ok (.getfield 160, 3) := by decide +kernel
theorem dX10_few_26 : decode cX10_few 26 = .ok (.iconst 1, 1) := by decide +kernel
theorem dX10_few_27 : decode cX10_few 27 = .ok (.invokevirtual 242, 3) := by decide +kernel
theorem dX10_few_30 : decode cX10_few 30 = .ok (.istore_n 1, 1) := by decide +kernel
theorem dX10_few_31 : decode cX10_few 31 = .ok (.iload_n 1, 1) := by decide +kernel
theorem dX10_few_32 : decode cX10_few 32 = .ok (.ifCond .ge 8, 3) := by decide +kernel
theorem dX10_few_35 : decode cX10_few 35 = .ok (.bipush (-9), 2) := by decide +kernel
theorem dX10_few_37 : decode cX10_few 37 = .ok (.goto 25, 3) := by decide +kernel
theorem dX10_few_40 : decode cX10_few 40 = .ok (.aload_n 0, 1) := by decide +kernel
theorem dX10_few_41 : decode cX10_few 41 = .ok (.getfield 67, 3) := by decide +kernel
theorem dX10_few_44 : decode cX10_few 44 = .ok (.aload_n 0, 1) := by decide +kernel
theorem dX10_few_45 : decode cX10_few 45 = .ok (.getfield 26, 3) := by decide +kernel
theorem dX10_few_48 : decode cX10_few 48 = .ok (.iload_n 1, 1) := by decide +kernel
theorem dX10_few_49 : decode cX10_few 49 = .ok (.invokevirtual 186, 3) := by decide +kernel
theorem dX10_few_52 : decode cX10_few 52 = .ok (.aload_n 0, 1) := by decide +kernel
theorem dX10_few_53 : decode cX10_few 53 = .ok (.getfield 33, 3) := by decide +kernel
theorem dX10_few_56 : decode cX10_few 56 = .ok (.getfield 160, 3) := by decide +kernel
theorem dX10_few_59 : decode cX10_few 59 = .ok (.invokevirtual 238, 3) := by decide +kernel
theorem dX10_few_62 : decode cX10_few 62 = .ok (.ireturn, 1) := by decide +kernel
set_option maxRecDepth 20000 in
theorem ggX10_fewAt_X4_hasPerson : GoodIn wsX10_fewAt wsX4_hasPerson := goodIn_r _ [9, 10, 106, 107, 108, 109, 110, 111, 112, 113, 114, 115] (by decide +kernel) (by decide +kernel)
set_option maxRecDepth 20000 in
theorem gX10_fewAt_X4_hasPerson : GoodIn wsX10_fewAt (wsV RX10 107 RX4 yX4_hasPerson wsX4_hasPerson) := goodIn_app (goodIn_of _ (by decide +kernel)) ggX10_fewAt_X4_hasPerson
set_option maxRecDepth 20000 in
theorem ggX10_fewAt_X2_list : GoodIn wsX10_fewAt wsX2_list := goodIn_r _ [15, 16, 17, 18, 19, 20, 21, 22, 23, 24, 25, 26, 27, 14, 28, 29, 30, 31, 32, 8, 33, 34, 35, 36, 37, 38, 39, 40, 41, 42, 43, 44, 45, 10, 46, 47, 48, 49, 50, 51, 52, 53, 54, 55, 56, 57, 58, 59, 60, 61, 62, 63, 64, 65, 66, 67, 116, 117, 118, 106, 107, 108, 109, 110, 111, 112, 113, 114, 115] (by decide +kernel) (by decide +kernel)
set_option maxRecDepth 20000 in
theorem gX10_fewAt_X2_list : GoodIn wsX10_fewAt (wsV RX10 166 RX2 yX2_list wsX2_list) := goodIn_app (goodIn_of _ (by decide +kernel)) ggX10_fewAt_X2_list
set_option maxRecDepth 20000 in
theorem ggX10_fewAt_X2_firstOfLeast : GoodIn wsX10_fewAt wsX2_firstOfLeast := goodIn_r _ [71, 17, 72, 73, 74, 14, 75, 19, 76, 77, 78, 8, 79, 41, 42, 43, 44, 45, 10, 46, 47, 23, 48, 49, 50, 51, 52, 80, 81, 55, 82, 116, 117, 118, 106, 107, 108, 109, 110, 111, 112, 113, 114, 115] (by decide +kernel) (by decide +kernel)
set_option maxRecDepth 20000 in
theorem gX10_fewAt_X2_firstOfLeast : GoodIn wsX10_fewAt (wsV RX10 242 RX2 yX2_firstOfLeast wsX2_firstOfLeast) := goodIn_app (goodIn_of _ (by decide +kernel)) ggX10_fewAt_X2_firstOfLeast
set_option maxRecDepth 20000 in
theorem ggX10_fewAt_X2_personBy : GoodIn wsX10_fewAt wsX2_personBy := goodIn_r _ [86, 87, 88, 89, 14, 90, 17, 72, 73, 74, 75, 19, 61, 47, 23, 48, 116, 117, 118] (by decide +kernel) (by decide +kernel)
set_option maxRecDepth 20000 in
theorem gX10_fewAt_X2_personBy : GoodIn wsX10_fewAt (wsV RX10 246 RX2 yX2_personBy wsX2_personBy) := goodIn_app (goodIn_of _ (by decide +kernel)) ggX10_fewAt_X2_personBy
theorem dX10_fewAt_0 : decode cX10_fewAt 0 = .ok (.aload_n 0, 1) := by decide +kernel
theorem dX10_fewAt_1 : decode cX10_fewAt 1 = .ok (.getfield 67, 3) := by decide +kernel
theorem dX10_fewAt_4 : decode cX10_fewAt 4 = .ok (.iload_n 1, 1) := by decide +kernel
theorem dX10_fewAt_5 : decode cX10_fewAt 5 = .ok (.invokevirtual 107, 3) := by decide +kernel
theorem dX10_fewAt_8 : decode cX10_fewAt 8 = .ok (.ifCond .ne 5, 3) := by decide +kernel
theorem dX10_fewAt_11 : decode cX10_fewAt 11 = .ok (.iconst (-1), 1) := by decide +kernel
theorem dX10_fewAt_12 : decode cX10_fewAt 12 = .ok (.ireturn, 1) := by decide +kernel
theorem dX10_fewAt_13 : decode cX10_fewAt 13 = .ok (.aload_n 0, 1) := by decide +kernel
theorem dX10_fewAt_14 : decode cX10_fewAt 14 = .ok (.getfield 26, 3) := by decide +kernel
theorem dX10_fewAt_17 : decode cX10_fewAt 17 = .ok (.aload_n 0, 1) := by decide +kernel
theorem dX10_fewAt_18 : decode cX10_fewAt 18 = .ok (.getfield 67, 3) := by decide +kernel
theorem dX10_fewAt_21 : decode cX10_fewAt 21 = .ok (.invokevirtual 166, 3) := by decide +kernel
theorem dX10_fewAt_24 : decode cX10_fewAt 24 = .ok (.aload_n 0, 1) := by decide +kernel
theorem dX10_fewAt_25 : decode cX10_fewAt 25 = .ok (.getfield 26, 3) := by decide +kernel
theorem dX10_fewAt_28 : decode cX10_fewAt 28 = .ok (.aload_n 0, 1) := by decide +kernel
theorem dX10_fewAt_29 : decode cX10_fewAt 29 = .ok (.getfield 26, 3) := by decide +kernel
theorem dX10_fewAt_32 : decode cX10_fewAt 32 = .ok (.aload_n 0, 1) := by decide +kernel
theorem dX10_fewAt_33 : decode cX10_fewAt 33 = .ok (.getfield 67, 3) := by decide +kernel
theorem dX10_fewAt_36 : decode cX10_fewAt 36 = .ok (.aload_n 0, 1) := by decide +kernel
theorem dX10_fewAt_37 : decode cX10_fewAt 37 = .ok (.getfield 33, 3) := by decide +kernel
theorem dX10_fewAt_40 : decode cX10_fewAt 40 = .ok (.getfield 160, 3) := by decide +kernel
theorem dX10_fewAt_43 : decode cX10_fewAt 43 = .ok (.iconst 1, 1) := by decide +kernel
theorem dX10_fewAt_44 : decode cX10_fewAt 44 = .ok (.invokevirtual 242, 3) := by decide +kernel
theorem dX10_fewAt_47 : decode cX10_fewAt 47 = .ok (.iload_n 1, 1) := by decide +kernel
theorem dX10_fewAt_48 : decode cX10_fewAt 48 = .ok (.invokevirtual 246, 3) := by decide +kernel
theorem dX10_fewAt_51 : decode cX10_fewAt 51 = .ok (.ireturn, 1) := by decide +kernel
set_option maxRecDepth 20000 in
theorem ggX10_changes_X10_isSlot : GoodIn wsX10_changes wsX10_isSlot := goodIn_r _ [11] (by decide +kernel) (by decide +kernel)
set_option maxRecDepth 20000 in
theorem gX10_changes_X10_isSlot : GoodIn wsX10_changes (va_wsS RX10 249 yX10_isSlot wsX10_isSlot) := goodIn_app (goodIn_of _ (by decide +kernel)) ggX10_changes_X10_isSlot
set_option maxRecDepth 20000 in
theorem ggX10_changes_X10_slotOf : GoodIn wsX10_changes wsX10_slotOf := goodIn_r _ [15, 16, 17, 119, 120, 121, 122, 123, 124, 125, 126, 127, 128, 129, 130] (by decide +kernel) (by decide +kernel)
set_option maxRecDepth 20000 in
theorem gX10_changes_X10_slotOf : GoodIn wsX10_changes (wsV RX10 252 RX10 yX10_slotOf wsX10_slotOf) := goodIn_app (goodIn_of _ (by decide +kernel)) ggX10_changes_X10_slotOf
set_option maxRecDepth 20000 in
theorem ggX10_changes_X2_list : GoodIn wsX10_changes wsX2_list := goodIn_r _ [22, 23, 24, 25, 26, 27, 28, 29, 30, 31, 32, 33, 34, 21, 35, 36, 37, 38, 39, 40, 41, 42, 43, 44, 45, 46, 47, 48, 49, 50, 51, 52, 53, 54, 55, 56, 57, 58, 59, 60, 61, 62, 63, 64, 65, 66, 67, 68, 69, 70, 71, 72, 73, 74, 75, 76, 141, 142, 143, 131, 132, 133, 134, 135, 136, 137, 138, 139, 140] (by decide +kernel) (by decide +kernel)
set_option maxRecDepth 20000 in
theorem gX10_changes_X2_list : GoodIn wsX10_changes (wsV RX10 166 RX2 yX2_list wsX2_list) := goodIn_app (goodIn_of _ (by decide +kernel)) ggX10_changes_X2_list
set_option maxRecDepth 20000 in
theorem ggX10_changes_X6_fewestSwaps : GoodIn wsX10_changes wsX6_fewestSwaps := goodIn_r _ [81, 82, 83, 84, 85, 86, 87, 80, 88, 27, 89, 90, 91, 92, 93, 94, 95, 30, 96, 97, 56, 57, 98, 75, 76, 99, 100, 101, 21, 102, 24, 103, 104, 105, 106, 26, 107, 108, 109, 110, 111, 112, 113, 114, 115, 141, 142, 143, 144, 145, 146] (by decide +kernel) (by decide +kernel)
set_option maxRecDepth 20000 in
theorem gX10_changes_X6_fewestSwaps : GoodIn wsX10_changes (wsV RX10 256 RX6 yX6_fewestSwaps wsX6_fewestSwaps) := goodIn_app (goodIn_of _ (by decide +kernel)) ggX10_changes_X6_fewestSwaps
theorem dX10_changes_0 : decode cX10_changes 0 = .ok (.iload_n 1, 1) := by decide +kernel
theorem dX10_changes_1 : decode cX10_changes 1 = .ok (.invokestatic 249, 3) := by decide +kernel
theorem dX10_changes_4 : decode cX10_changes 4 = .ok (.ifCond .ne 5, 3) := by decide +kernel
theorem dX10_changes_7 : decode cX10_changes 7 = .ok (.iconst (-1), 1) := by decide +kernel
theorem dX10_changes_8 : decode cX10_changes 8 = .ok (.ireturn, 1) := by decide +kernel
theorem dX10_changes_9 : decode cX10_changes 9 = .ok (.aload_n 0, 1) := by decide +kernel
theorem dX10_changes_10 : decode cX10_changes 10 = .ok (.iload_n 1, 1) := by decide +kernel
theorem dX10_changes_11 : decode cX10_changes 11 = .ok (.invokevirtual 252, 3) := by decide +kernel
theorem dX10_changes_14 : decode cX10_changes 14 = .ok (.astore_n 2, 1) := by decide +kernel
theorem dX10_changes_15 : decode cX10_changes 15 = .ok (.aload_n 2, 1) := by decide +kernel
theorem dX10_changes_16 : decode cX10_changes 16 = .ok (.getfield 96, 3) := by decide +kernel
theorem dX10_changes_19 : decode cX10_changes 19 = .ok (.ifCond .eq 15, 3) := by decide +kernel
theorem dX10_changes_22 : decode cX10_changes 22 = .ok (.aload_n 0, 1) := by decide +kernel
theorem dX10_changes_23 : decode cX10_changes 23 = .ok (.getfield 67, 3) := by decide +kernel
theorem dX10_changes_26 : decode cX10_changes 26 = .ok (.getfield 100, 3) := by decide +kernel
theorem dX10_changes_29 : decode cX10_changes 29 = .ok (.bipush 6, 2) := by decide +kernel
theorem dX10_changes_31 : decode cX10_changes 31 = .ok (.if_icmp .le 6, 3) := by decide +kernel
theorem dX10_changes_34 : decode cX10_changes 34 = .ok (.bipush (-3), 2) := by decide +kernel
theorem dX10_changes_36 : decode cX10_changes 36 = .ok (.ireturn, 1) := by decide +kernel
theorem dX10_changes_37 : decode cX10_changes 37 = .ok (.aload_n 0, 1) := by decide +kernel
theorem dX10_changes_38 : decode cX10_changes 38 = .ok (.getfield 26, 3) := by decide +kernel
theorem dX10_changes_41 : decode cX10_changes 41 = .ok (.aload_n 0, 1) := by decide +kernel
theorem dX10_changes_42 : decode cX10_changes 42 = .ok (.getfield 67, 3) := by decide +kernel
theorem dX10_changes_45 : decode cX10_changes 45 = .ok (.invokevirtual 166, 3) := by decide +kernel
theorem dX10_changes_48 : decode cX10_changes 48 = .ok (.aload_n 0, 1) := by decide +kernel
theorem dX10_changes_49 : decode cX10_changes 49 = .ok (.getfield 60, 3) := by decide +kernel
theorem dX10_changes_52 : decode cX10_changes 52 = .ok (.aload_n 0, 1) := by decide +kernel
theorem dX10_changes_53 : decode cX10_changes 53 = .ok (.getfield 26, 3) := by decide +kernel

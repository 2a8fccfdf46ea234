theorem dX10_changes_56 : decode cX10_changes 56 = .ok (.aload_n 0, 1) := by decide +kernel
theorem dX10_changes_57 : decode cX10_changes 57 = .ok (.getfield 67, 3) := by decide +kernel
theorem dX10_changes_60 : decode cX10_changes 60 = .ok (.getfield 100, 3) := by decide +kernel
theorem dX10_changes_63 : decode cX10_changes 63 = .ok (.aload_n 0, 1) := by decide +kernel
theorem dX10_changes_64 : decode cX10_changes 64 = .ok (.getfield 33, 3) := by decide +kernel
theorem dX10_changes_67 : decode cX10_changes 67 = .ok (.getfield 111, 3) := by decide +kernel
theorem dX10_changes_70 : decode cX10_changes 70 = .ok (.aload_n 2, 1) := by decide +kernel
theorem dX10_changes_71 : decode cX10_changes 71 = .ok (.getfield 111, 3) := by decide +kernel
theorem dX10_changes_74 : decode cX10_changes 74 = .ok (.invokevirtual 256, 3) := by decide +kernel
theorem dX10_changes_77 : decode cX10_changes 77 = .ok (.ireturn, 1) := by decide +kernel
set_option maxRecDepth 20000 in
theorem ggX10_gossip_X4_hasBoth : GoodIn wsX10_gossip wsX4_hasBoth := goodIn_r _ [8, 9, 10, 11, 7, 12, 13, 39, 40, 41, 42, 43, 44, 45, 46, 47, 48] (by decide +kernel) (by decide +kernel)
set_option maxRecDepth 20000 in
theorem gX10_gossip_X4_hasBoth : GoodIn wsX10_gossip (wsV RX10 149 RX4 yX4_hasBoth wsX4_hasBoth) := goodIn_app (goodIn_of _ (by decide +kernel)) ggX10_gossip_X4_hasBoth
set_option maxRecDepth 20000 in
theorem ggX10_gossip_X1_add : GoodIn wsX10_gossip wsX1_add := goodIn_r _ [18, 19, 20, 21, 22, 35, 36, 37, 38] (by decide +kernel) (by decide +kernel)
set_option maxRecDepth 20000 in
theorem gX10_gossip_X1_add : GoodIn wsX10_gossip (wsV RX10 261 RX1 yX1_add wsX1_add) := goodIn_app (goodIn_of _ (by decide +kernel)) ggX10_gossip_X1_add
theorem dX10_gossip_0 : decode cX10_gossip 0 = .ok (.aload_n 0, 1) := by decide +kernel
theorem dX10_gossip_1 : decode cX10_gossip 1 = .ok (.getfield 67, 3) := by decide +kernel
theorem dX10_gossip_4 : decode cX10_gossip 4 = .ok (.iload_n 1, 1) := by decide +kernel
theorem dX10_gossip_5 : decode cX10_gossip 5 = .ok (.iload_n 2, 1) := by decide +kernel
theorem dX10_gossip_6 : decode cX10_gossip 6 = .ok (.invokevirtual 149, 3) := by decide +kernel
theorem dX10_gossip_9 : decode cX10_gossip 9 = .ok (.ifCond .ne 5, 3) := by decide +kernel
theorem dX10_gossip_12 : decode cX10_gossip 12 = .ok (.iconst (-1), 1) := by decide +kernel
theorem dX10_gossip_13 : decode cX10_gossip 13 = .ok (.ireturn, 1) := by decide +kernel
theorem dX10_gossip_14 : decode cX10_gossip 14 = .ok (.iload_n 1, 1) := by decide +kernel
theorem dX10_gossip_15 : decode cX10_gossip 15 = .ok (.iload_n 2, 1) := by decide +kernel
theorem dX10_gossip_16 : decode cX10_gossip 16 = .ok (.if_icmp .ne 6, 3) := by decide +kernel
theorem dX10_gossip_19 : decode cX10_gossip 19 = .ok (.bipush (-2), 2) := by decide +kernel
theorem dX10_gossip_21 : decode cX10_gossip 21 = .ok (.ireturn, 1) := by decide +kernel
theorem dX10_gossip_22 : decode cX10_gossip 22 = .ok (.aload_n 0, 1) := by decide +kernel
theorem dX10_gossip_23 : decode cX10_gossip 23 = .ok (.getfield 53, 3) := by decide +kernel
theorem dX10_gossip_26 : decode cX10_gossip 26 = .ok (.getfield 260, 3) := by decide +kernel
theorem dX10_gossip_29 : decode cX10_gossip 29 = .ok (.bipush 8, 2) := by decide +kernel
theorem dX10_gossip_31 : decode cX10_gossip 31 = .ok (.if_icmp .lt 6, 3) := by decide +kernel
theorem dX10_gossip_34 : decode cX10_gossip 34 = .ok (.bipush (-4), 2) := by decide +kernel
theorem dX10_gossip_36 : decode cX10_gossip 36 = .ok (.ireturn, 1) := by decide +kernel
theorem dX10_gossip_37 : decode cX10_gossip 37 = .ok (.aload_n 0, 1) := by decide +kernel
theorem dX10_gossip_38 : decode cX10_gossip 38 = .ok (.getfield 53, 3) := by decide +kernel
theorem dX10_gossip_41 : decode cX10_gossip 41 = .ok (.iload_n 1, 1) := by decide +kernel
theorem dX10_gossip_42 : decode cX10_gossip 42 = .ok (.iload_n 2, 1) := by decide +kernel
theorem dX10_gossip_43 : decode cX10_gossip 43 = .ok (.iload_n 3, 1) := by decide +kernel
theorem dX10_gossip_44 : decode cX10_gossip 44 = .ok (.invokevirtual 261, 3) := by decide +kernel
theorem dX10_gossip_47 : decode cX10_gossip 47 = .ok (.aload_n 0, 1) := by decide +kernel
theorem dX10_gossip_48 : decode cX10_gossip 48 = .ok (.getfield 53, 3) := by decide +kernel
theorem dX10_gossip_51 : decode cX10_gossip 51 = .ok (.getfield 260, 3) := by decide +kernel
theorem dX10_gossip_54 : decode cX10_gossip 54 = .ok (.ireturn, 1) := by decide +kernel
theorem dX10_hush_0 : decode cX10_hush 0 = .ok (.aload_n 0, 1) := by decide +kernel
theorem dX10_hush_1 : decode cX10_hush 1 = .ok (.getfield 53, 3) := by decide +kernel
theorem dX10_hush_4 : decode cX10_hush 4 = .ok (.getfield 260, 3) := by decide +kernel
theorem dX10_hush_7 : decode cX10_hush 7 = .ok (.istore_n 1, 1) := by decide +kernel
theorem dX10_hush_8 : decode cX10_hush 8 = .ok (.aload_n 0, 1) := by decide +kernel
theorem dX10_hush_9 : decode cX10_hush 9 = .ok (.getfield 53, 3) := by decide +kernel
theorem dX10_hush_12 : decode cX10_hush 12 = .ok (.iconst 0, 1) := by decide +kernel
theorem dX10_hush_13 : decode cX10_hush 13 = .ok (.putfield 260, 3) := by decide +kernel
theorem dX10_hush_16 : decode cX10_hush 16 = .ok (.iload_n 1, 1) := by decide +kernel
theorem dX10_hush_17 : decode cX10_hush 17 = .ok (.ireturn, 1) := by decide +kernel
set_option maxRecDepth 20000 in
theorem ggX10_fits_X2_list : GoodIn wsX10_fits wsX2_list := goodIn_r _ [9, 10, 11, 12, 13, 14, 15, 16, 17, 18, 19, 20, 21, 8, 22, 23, 24, 25, 26, 27, 28, 29, 30, 31, 32, 33, 34, 35, 36, 37, 38, 39, 40, 41, 42, 43, 44, 45, 46, 47, 48, 49, 50, 51, 52, 53, 54, 55, 56, 57, 58, 59, 60, 61, 62, 63, 99, 100, 101, 102, 103, 104, 105, 106, 107, 108, 109, 110, 111] (by decide +kernel) (by decide +kernel)
set_option maxRecDepth 20000 in
theorem gX10_fits_X2_list : GoodIn wsX10_fits (wsV RX10 166 RX2 yX2_list wsX2_list) := goodIn_app (goodIn_of _ (by decide +kernel)) ggX10_fits_X2_list
set_option maxRecDepth 20000 in
theorem ggX10_fits_X2_seatingOf : GoodIn wsX10_fits wsX2_seatingOf := goodIn_r _ [67, 13, 99, 100, 101] (by decide +kernel) (by decide +kernel)
set_option maxRecDepth 20000 in
theorem gX10_fits_X2_seatingOf : GoodIn wsX10_fits (wsV RX10 186 RX2 yX2_seatingOf wsX2_seatingOf) := goodIn_app (goodIn_of _ (by decide +kernel)) ggX10_fits_X2_seatingOf
set_option maxRecDepth 20000 in
theorem ggX10_fits_X1_fitsBut : GoodIn wsX10_fits wsX1_fitsBut := goodIn_r _ [72, 73, 74, 75, 76, 77, 33, 34, 27, 35, 36, 37, 38, 39, 40, 41, 42, 43, 17, 44, 45, 46, 47, 48, 49, 50, 51, 52, 78, 79, 80, 81, 82, 83, 84, 85, 86, 112, 113, 114, 115, 102, 103, 104, 105, 106, 107, 108, 109, 110, 111] (by decide +kernel) (by decide +kernel)
set_option maxRecDepth 20000 in
theorem gX10_fits_X1_fitsBut : GoodIn wsX10_fits (wsV RX10 264 RX1 yX1_fitsBut wsX1_fitsBut) := goodIn_app (goodIn_of _ (by decide +kernel)) ggX10_fits_X1_fitsBut
theorem dX10_fits_0 : decode cX10_fits 0 = .ok (.iload_n 1, 1) := by decide +kernel
theorem dX10_fits_1 : decode cX10_fits 1 = .ok (.ifCond .lt 8, 3) := by decide +kernel
theorem dX10_fits_4 : decode cX10_fits 4 = .ok (.iload_n 1, 1) := by decide +kernel
theorem dX10_fits_5 : decode cX10_fits 5 = .ok (.iconst 1, 1) := by decide +kernel
theorem dX10_fits_6 : decode cX10_fits 6 = .ok (.if_icmp .le 6, 3) := by decide +kernel
theorem dX10_fits_9 : decode cX10_fits 9 = .ok (.bipush (-2), 2) := by decide +kernel
theorem dX10_fits_11 : decode cX10_fits 11 = .ok (.ireturn, 1) := by decide +kernel
theorem dX10_fits_12 : decode cX10_fits 12 = .ok (.aload_n 0, 1) := by decide +kernel
theorem dX10_fits_13 : decode cX10_fits 13 = .ok (.getfield 26, 3) := by decide +kernel
theorem dX10_fits_16 : decode cX10_fits 16 = .ok (.aload_n 0, 1) := by decide +kernel
theorem dX10_fits_17 : decode cX10_fits 17 = .ok (.getfield 67, 3) := by decide +kernel
theorem dX10_fits_20 : decode cX10_fits 20 = .ok (.invokevirtual 166, 3) := by decide +kernel
theorem dX10_fits_23 : decode cX10_fits 23 = .ok (.iconst 0, 1) := by decide +kernel
theorem dX10_fits_24 : decode cX10_fits 24 = .ok (.istore_n 2, 1) := by decide +kernel
theorem dX10_fits_25 : decode cX10_fits 25 = .ok (.iconst 0, 1) := by decide +kernel
theorem dX10_fits_26 : decode cX10_fits 26 = .ok (.istore_n 3, 1) := by decide +kernel
theorem dX10_fits_27 : decode cX10_fits 27 = .ok (.iload_n 3, 1) := by decide +kernel
theorem dX10_fits_28 : decode cX10_fits 28 = .ok (.aload_n 0, 1) := by decide +kernel
theorem dX10_fits_29 : decode cX10_fits 29 = .ok (.getfield 26, 3) := by decide +kernel
theorem dX10_fits_32 : decode cX10_fits 32 = .ok (.getfield 173, 3) := by decide +kernel
theorem dX10_fits_35 : decode cX10_fits 35 = .ok (.if_icmp .ge 35, 3) := by decide +kernel
theorem dX10_fits_38 : decode cX10_fits 38 = .ok (.aload_n 0, 1) := by decide +kernel
theorem dX10_fits_39 : decode cX10_fits 39 = .ok (.getfield 53, 3) := by decide +kernel
theorem dX10_fits_42 : decode cX10_fits 42 = .ok (.iload_n 1, 1) := by decide +kernel
theorem dX10_fits_43 : decode cX10_fits 43 = .ok (.aload_n 0, 1) := by decide +kernel
theorem dX10_fits_44 : decode cX10_fits 44 = .ok (.getfield 67, 3) := by decide +kernel
theorem dX10_fits_47 : decode cX10_fits 47 = .ok (.aload_n 0, 1) := by decide +kernel
theorem dX10_fits_48 : decode cX10_fits 48 = .ok (.getfield 26, 3) := by decide +kernel
theorem dX10_fits_51 : decode cX10_fits 51 = .ok (.iload_n 3, 1) := by decide +kernel
theorem dX10_fits_52 : decode cX10_fits 52 = .ok (.invokevirtual 186, 3) := by decide +kernel
theorem dX10_fits_55 : decode cX10_fits 55 = .ok (.invokevirtual 264, 3) := by decide +kernel
theorem dX10_fits_58 : decode cX10_fits 58 = .ok (.ifCond .eq 6, 3) := by decide +kernel
theorem dX10_fits_61 : decode cX10_fits 61 = .ok (.iinc 2 1, 3) := by decide +kernel
theorem dX10_fits_64 : decode cX10_fits 64 = .ok (.iinc 3 1, 3) := by decide +kernel
theorem dX10_fits_67 : decode cX10_fits 67 = .ok (.goto (-40), 3) := by decide +kernel
theorem dX10_fits_70 : decode cX10_fits 70 = .ok (.iload_n 2, 1) := by decide +kernel
theorem dX10_fits_71 : decode cX10_fits 71 = .ok (.ireturn, 1) := by decide +kernel
set_option maxRecDepth 20000 in
theorem ggX10_sat_X4_hasPerson : GoodIn wsX10_sat wsX4_hasPerson := goodIn_r _ [10, 11, 108, 109, 110, 111, 112, 113, 114, 115, 116, 117] (by decide +kernel) (by decide +kernel)
set_option maxRecDepth 20000 in
theorem gX10_sat_X4_hasPerson : GoodIn wsX10_sat (wsV RX10 107 RX4 yX4_hasPerson wsX4_hasPerson) := goodIn_app (goodIn_of _ (by decide +kernel)) ggX10_sat_X4_hasPerson
set_option maxRecDepth 20000 in
theorem ggX10_sat_X2_list : GoodIn wsX10_sat wsX2_list := goodIn_r _ [16, 17, 18, 19, 20, 21, 22, 23, 24, 25, 26, 27, 28, 15, 29, 30, 31, 32, 33, 9, 34, 35, 36, 37, 38, 39, 40, 41, 42, 43, 44, 45, 46, 11, 47, 48, 49, 50, 51, 52, 53, 54, 55, 56, 57, 58, 59, 60, 61, 62, 63, 64, 65, 66, 67, 68, 105, 106, 107, 108, 109, 110, 111, 112, 113, 114, 115, 116, 117] (by decide +kernel) (by decide +kernel)
set_option maxRecDepth 20000 in
theorem gX10_sat_X2_list : GoodIn wsX10_sat (wsV RX10 166 RX2 yX2_list wsX2_list) := goodIn_app (goodIn_of _ (by decide +kernel)) ggX10_sat_X2_list
set_option maxRecDepth 20000 in
theorem ggX10_sat_X2_seatingOf : GoodIn wsX10_sat wsX2_seatingOf := goodIn_r _ [72, 20, 105, 106, 107] (by decide +kernel) (by decide +kernel)
set_option maxRecDepth 20000 in
theorem gX10_sat_X2_seatingOf : GoodIn wsX10_sat (wsV RX10 186 RX2 yX2_seatingOf wsX2_seatingOf) := goodIn_app (goodIn_of _ (by decide +kernel)) ggX10_sat_X2_seatingOf
set_option maxRecDepth 20000 in
theorem ggX10_sat_X1_fitsBut : GoodIn wsX10_sat wsX1_fitsBut := goodIn_r _ [77, 78, 79, 80, 81, 82, 39, 40, 9, 41, 42, 43, 44, 45, 46, 11, 47, 48, 24, 49, 50, 51, 52, 53, 54, 55, 56, 57, 83, 84, 85, 86, 87, 88, 7, 8, 10, 118, 119, 120, 121, 108, 109, 110, 111, 112, 113, 114, 115, 116, 117] (by decide +kernel) (by decide +kernel)
set_option maxRecDepth 20000 in
theorem gX10_sat_X1_fitsBut : GoodIn wsX10_sat (wsV RX10 264 RX1 yX1_fitsBut wsX1_fitsBut) := goodIn_app (goodIn_of _ (by decide +kernel)) ggX10_sat_X1_fitsBut
set_option maxRecDepth 20000 in
theorem ggX10_sat_X7_chairOf : GoodIn wsX10_sat wsX7_chairOf := goodIn_r _ [91, 92, 48, 24, 49] (by decide +kernel) (by decide +kernel)
set_option maxRecDepth 20000 in
theorem gX10_sat_X7_chairOf : GoodIn wsX10_sat (va_wsS RX10 114 yX7_chairOf wsX7_chairOf) := goodIn_app (goodIn_of _ (by decide +kernel)) ggX10_sat_X7_chairOf
theorem dX10_sat_0 : decode cX10_sat 0 = .ok (.aload_n 0, 1) := by decide +kernel
theorem dX10_sat_1 : decode cX10_sat 1 = .ok (.getfield 67, 3) := by decide +kernel
theorem dX10_sat_4 : decode cX10_sat 4 = .ok (.iload_n 1, 1) := by decide +kernel
theorem dX10_sat_5 : decode cX10_sat 5 = .ok (.invokevirtual 107, 3) := by decide +kernel
theorem dX10_sat_8 : decode cX10_sat 8 = .ok (.ifCond .ne 5, 3) := by decide +kernel
theorem dX10_sat_11 : decode cX10_sat 11 = .ok (.iconst (-1), 1) := by decide +kernel
theorem dX10_sat_12 : decode cX10_sat 12 = .ok (.ireturn, 1) := by decide +kernel
theorem dX10_sat_13 : decode cX10_sat 13 = .ok (.iload_n 2, 1) := by decide +kernel
theorem dX10_sat_14 : decode cX10_sat 14 = .ok (.ifCond .lt 8, 3) := by decide +kernel
theorem dX10_sat_17 : decode cX10_sat 17 = .ok (.iload_n 2, 1) := by decide +kernel
theorem dX10_sat_18 : decode cX10_sat 18 = .ok (.iconst 1, 1) := by decide +kernel
theorem dX10_sat_19 : decode cX10_sat 19 = .ok (.if_icmp .le 6, 3) := by decide +kernel
theorem dX10_sat_22 : decode cX10_sat 22 = .ok (.bipush (-2), 2) := by decide +kernel
theorem dX10_sat_24 : decode cX10_sat 24 = .ok (.ireturn, 1) := by decide +kernel
theorem dX10_sat_25 : decode cX10_sat 25 = .ok (.aload_n 0, 1) := by decide +kernel
theorem dX10_sat_26 : decode cX10_sat 26 = .ok (.getfield 26, 3) := by decide +kernel
theorem dX10_sat_29 : decode cX10_sat 29 = .ok (.aload_n 0, 1) := by decide +kernel
theorem dX10_sat_30 : decode cX10_sat 30 = .ok (.getfield 67, 3) := by decide +kernel
theorem dX10_sat_33 : decode cX10_sat 33 = .ok (.invokevirtual 166, 3) := by decide +kernel
theorem dX10_sat_36 : decode cX10_sat 36 = .ok (.iconst 0, 1) := by decide +kernel
theorem dX10_sat_37 : decode cX10_sat 37 = .ok (.istore_n 3, 1) := by decide +kernel
theorem dX10_sat_38 : decode cX10_sat 38 = .ok (.iconst 0, 1) := by decide +kernel
theorem dX10_sat_39 : decode cX10_sat 39 = .ok (.istore 4, 2) := by decide +kernel
theorem dX10_sat_41 : decode cX10_sat 41 = .ok (.iload 4, 2) := by decide +kernel
theorem dX10_sat_43 : decode cX10_sat 43 = .ok (.aload_n 0, 1) := by decide +kernel
theorem dX10_sat_44 : decode cX10_sat 44 = .ok (.getfield 26, 3) := by decide +kernel
theorem dX10_sat_47 : decode cX10_sat 47 = .ok (.getfield 173, 3) := by decide +kernel
theorem dX10_sat_50 : decode cX10_sat 50 = .ok (.if_icmp .ge 55, 3) := by decide +kernel
theorem dX10_sat_53 : decode cX10_sat 53 = .ok (.aload_n 0, 1) := by decide +kernel
theorem dX10_sat_54 : decode cX10_sat 54 = .ok (.getfield 26, 3) := by decide +kernel
theorem dX10_sat_57 : decode cX10_sat 57 = .ok (.iload 4, 2) := by decide +kernel
theorem dX10_sat_59 : decode cX10_sat 59 = .ok (.invokevirtual 186, 3) := by decide +kernel
theorem dX10_sat_62 : decode cX10_sat 62 = .ok (.istore 5, 2) := by decide +kernel
theorem dX10_sat_64 : decode cX10_sat 64 = .ok (.aload_n 0, 1) := by decide +kernel
theorem dX10_sat_65 : decode cX10_sat 65 = .ok (.getfield 53, 3) := by decide +kernel
theorem dX10_sat_68 : decode cX10_sat 68 = .ok (.iload_n 2, 1) := by decide +kernel
theorem dX10_sat_69 : decode cX10_sat 69 = .ok (.aload_n 0, 1) := by decide +kernel
theorem dX10_sat_70 : decode cX10_sat 70 = .ok (.getfield 67, 3) := by decide +kernel
theorem dX10_sat_73 : decode cX10_sat 73 = .ok (.iload 5, 2) := by decide +kernel
theorem dX10_sat_75 : decode cX10_sat 75 = .ok (.invokevirtual 264, 3) := by decide +kernel
theorem dX10_sat_78 : decode cX10_sat 78 = .ok (.ifCond .eq 21, 3) := by decide +kernel
theorem dX10_sat_81 : decode cX10_sat 81 = .ok (.iload_n 3, 1) := by decide +kernel
theorem dX10_sat_82 : decode cX10_sat 82 = .ok (.iconst 1, 1) := by decide +kernel
theorem dX10_sat_83 : decode cX10_sat 83 = .ok (.iload 5, 2) := by decide +kernel
theorem dX10_sat_85 : decode cX10_sat 85 = .ok (.iload_n 1, 1) := by decide +kernel
theorem dX10_sat_86 : decode cX10_sat 86 = .ok (.aload_n 0, 1) := by decide +kernel
theorem dX10_sat_87 : decode cX10_sat 87 = .ok (.getfield 67, 3) := by decide +kernel
theorem dX10_sat_90 : decode cX10_sat 90 = .ok (.getfield 100, 3) := by decide +kernel
theorem dX10_sat_93 : decode cX10_sat 93 = .ok (.invokestatic 114, 3) := by decide +kernel
theorem dX10_sat_96 : decode cX10_sat 96 = .ok (.ishl, 1) := by decide +kernel
theorem dX10_sat_97 : decode cX10_sat 97 = .ok (.ior, 1) := by decide +kernel
theorem dX10_sat_98 : decode cX10_sat 98 = .ok (.istore_n 3, 1) := by decide +kernel
theorem dX10_sat_99 : decode cX10_sat 99 = .ok (.iinc 4 1, 3) := by decide +kernel
theorem dX10_sat_102 : decode cX10_sat 102 = .ok (.goto (-61), 3) := by decide +kernel
theorem dX10_sat_105 : decode cX10_sat 105 = .ok (.iload_n 3, 1) := by decide +kernel
theorem dX10_sat_106 : decode cX10_sat 106 = .ok (.ireturn, 1) := by decide +kernel
theorem dX10_seed_0 : decode cX10_seed 0 = .ok (.aload_n 0, 1) := by decide +kernel
theorem dX10_seed_1 : decode cX10_seed 1 = .ok (.getfield 74, 3) := by decide +kernel
theorem dX10_seed_4 : decode cX10_seed 4 = .ok (.lstore_n 3, 1) := by decide +kernel
theorem dX10_seed_5 : decode cX10_seed 5 = .ok (.aload_n 0, 1) := by decide +kernel
theorem dX10_seed_6 : decode cX10_seed 6 = .ok (.lload_n 1, 1) := by decide +kernel
theorem dX10_seed_7 : decode cX10_seed 7 = .ok (.putfield 74, 3) := by decide +kernel
theorem dX10_seed_10 : decode cX10_seed 10 = .ok (.lload_n 3, 1) := by decide +kernel
theorem dX10_seed_11 : decode cX10_seed 11 = .ok (.lreturn, 1) := by decide +kernel
set_option maxRecDepth 20000 in
theorem ggX10_keep_X10_isSlot : GoodIn wsX10_keep wsX10_isSlot := goodIn_r _ [6] (by decide +kernel) (by decide +kernel)
set_option maxRecDepth 20000 in
theorem gX10_keep_X10_isSlot : GoodIn wsX10_keep (va_wsS RX10 249 yX10_isSlot wsX10_isSlot) := goodIn_app (goodIn_of _ (by decide +kernel)) ggX10_keep_X10_isSlot
set_option maxRecDepth 20000 in
theorem ggX10_keep_X10_slotOf : GoodIn wsX10_keep wsX10_slotOf := goodIn_r _ [10, 11, 12, 56, 57, 58, 59, 60, 61, 62, 63, 64, 65, 66, 67] (by decide +kernel) (by decide +kernel)
set_option maxRecDepth 20000 in
theorem gX10_keep_X10_slotOf : GoodIn wsX10_keep (wsV RX10 252 RX10 yX10_slotOf wsX10_slotOf) := goodIn_app (goodIn_of _ (by decide +kernel)) ggX10_keep_X10_slotOf
set_option maxRecDepth 20000 in
theorem ggX10_keep_X8_copy : GoodIn wsX10_keep wsX8_copy := goodIn_r _ [17, 18, 19, 68, 69, 70] (by decide +kernel) (by decide +kernel)
set_option maxRecDepth 20000 in
theorem gX10_keep_X8_copy : GoodIn wsX10_keep (wsV RX10 268 RX8 yX8_copy wsX8_copy) := goodIn_app (goodIn_of _ (by decide +kernel)) ggX10_keep_X8_copy
set_option maxRecDepth 20000 in
theorem ggX10_keep_X10_lawfulNow : GoodIn wsX10_keep wsX10_lawfulNow := goodIn_r _ [23, 24, 1, 25, 26, 27, 28, 29, 30, 31, 32, 33, 34, 35, 36, 37, 38, 39, 40, 41, 42, 43, 44, 45, 46, 47, 48, 49, 50, 51, 52, 53, 54, 55, 56, 57, 58, 59, 60, 61, 62, 63, 64, 65, 66, 67, 68, 69, 70, 71, 72, 73, 74, 75, 76, 77, 78, 79, 80] (by decide +kernel) (by decide +kernel)
set_option maxRecDepth 20000 in
theorem gX10_keep_X10_lawfulNow : GoodIn wsX10_keep (wsV RX10 205 RX10 yX10_lawfulNow wsX10_lawfulNow) := goodIn_app (goodIn_of _ (by decide +kernel)) ggX10_keep_X10_lawfulNow
theorem dX10_keep_0 : decode cX10_keep 0 = .ok (.iload_n 1, 1) := by decide +kernel
theorem dX10_keep_1 : decode cX10_keep 1 = .ok (.invokestatic 249, 3) := by decide +kernel
theorem dX10_keep_4 : decode cX10_keep 4 = .ok (.ifCond .ne 5, 3) := by decide +kernel
theorem dX10_keep_7 : decode cX10_keep 7 = .ok (.iconst (-1), 1) := by decide +kernel
theorem dX10_keep_8 : decode cX10_keep 8 = .ok (.ireturn, 1) := by decide +kernel
theorem dX10_keep_9 : decode cX10_keep 9 = .ok (.aload_n 0, 1) := by decide +kernel
theorem dX10_keep_10 : decode cX10_keep 10 = .ok (.iload_n 1, 1) := by decide +kernel
theorem dX10_keep_11 : decode cX10_keep 11 = .ok (.invokevirtual 252, 3) := by decide +kernel
theorem dX10_keep_14 : decode cX10_keep 14 = .ok (.astore_n 2, 1) := by decide +kernel
theorem dX10_keep_15 : decode cX10_keep 15 = .ok (.aload_n 2, 1) := by decide +kernel
theorem dX10_keep_16 : decode cX10_keep 16 = .ok (.aload_n 0, 1) := by decide +kernel
theorem dX10_keep_17 : decode cX10_keep 17 = .ok (.getfield 33, 3) := by decide +kernel
theorem dX10_keep_20 : decode cX10_keep 20 = .ok (.invokevirtual 268, 3) := by decide +kernel
theorem dX10_keep_23 : decode cX10_keep 23 = .ok (.aload_n 2, 1) := by decide +kernel
theorem dX10_keep_24 : decode cX10_keep 24 = .ok (.iconst 1, 1) := by decide +kernel
theorem dX10_keep_25 : decode cX10_keep 25 = .ok (.putfield 96, 3) := by decide +kernel
theorem dX10_keep_28 : decode cX10_keep 28 = .ok (.aload_n 0, 1) := by decide +kernel
theorem dX10_keep_29 : decode cX10_keep 29 = .ok (.invokevirtual 205, 3) := by decide +kernel
theorem dX10_keep_32 : decode cX10_keep 32 = .ok (.ireturn, 1) := by decide +kernel
set_option maxRecDepth 20000 in
theorem ggX10_again_X10_isSlot : GoodIn wsX10_again wsX10_isSlot := goodIn_r _ [8] (by decide +kernel) (by decide +kernel)
set_option maxRecDepth 20000 in
theorem gX10_again_X10_isSlot : GoodIn wsX10_again (va_wsS RX10 249 yX10_isSlot wsX10_isSlot) := goodIn_app (goodIn_of _ (by decide +kernel)) ggX10_again_X10_isSlot
set_option maxRecDepth 20000 in
theorem ggX10_again_X10_slotOf : GoodIn wsX10_again wsX10_slotOf := goodIn_r _ [12, 13, 14, 61, 62, 63, 64, 65, 66, 67, 68, 69, 70, 71, 72] (by decide +kernel) (by decide +kernel)
set_option maxRecDepth 20000 in
theorem gX10_again_X10_slotOf : GoodIn wsX10_again (wsV RX10 252 RX10 yX10_slotOf wsX10_slotOf) := goodIn_app (goodIn_of _ (by decide +kernel)) ggX10_again_X10_slotOf
set_option maxRecDepth 20000 in
theorem ggX10_again_X8_copy : GoodIn wsX10_again wsX8_copy := goodIn_r _ [19, 20, 21, 58, 59, 60] (by decide +kernel) (by decide +kernel)
set_option maxRecDepth 20000 in
theorem gX10_again_X8_copy : GoodIn wsX10_again (wsV RX10 268 RX8 yX8_copy wsX8_copy) := goodIn_app (goodIn_of _ (by decide +kernel)) ggX10_again_X8_copy
set_option maxRecDepth 20000 in
theorem ggX10_again_X10_lawfulNow : GoodIn wsX10_again wsX10_lawfulNow := goodIn_r _ [25, 26, 2, 27, 28, 29, 30, 31, 32, 33, 34, 35, 36, 37, 38, 39, 40, 41, 42, 43, 44, 45, 46, 47, 48, 49, 50, 51, 52, 53, 54, 55, 56, 57, 61, 62, 63, 64, 65, 66, 67, 68, 69, 70, 71, 72, 58, 59, 60, 76, 77, 78, 79, 80, 81, 82, 83, 84, 85] (by decide +kernel) (by decide +kernel)
set_option maxRecDepth 20000 in
theorem gX10_again_X10_lawfulNow : GoodIn wsX10_again (wsV RX10 205 RX10 yX10_lawfulNow wsX10_lawfulNow) := goodIn_app (goodIn_of _ (by decide +kernel)) ggX10_again_X10_lawfulNow
theorem dX10_again_0 : decode cX10_again 0 = .ok (.iload_n 1, 1) := by decide +kernel
theorem dX10_again_1 : decode cX10_again 1 = .ok (.invokestatic 249, 3) := by decide +kernel
theorem dX10_again_4 : decode cX10_again 4 = .ok (.ifCond .ne 5, 3) := by decide +kernel
theorem dX10_again_7 : decode cX10_again 7 = .ok (.iconst (-1), 1) := by decide +kernel
theorem dX10_again_8 : decode cX10_again 8 = .ok (.ireturn, 1) := by decide +kernel
theorem dX10_again_9 : decode cX10_again 9 = .ok (.aload_n 0, 1) := by decide +kernel
theorem dX10_again_10 : decode cX10_again 10 = .ok (.iload_n 1, 1) := by decide +kernel
theorem dX10_again_11 : decode cX10_again 11 = .ok (.invokevirtual 252, 3) := by decide +kernel
theorem dX10_again_14 : decode cX10_again 14 = .ok (.astore_n 2, 1) := by decide +kernel
theorem dX10_again_15 : decode cX10_again 15 = .ok (.aload_n 2, 1) := by decide +kernel
theorem dX10_again_16 : decode cX10_again 16 = .ok (.getfield 96, 3) := by decide +kernel
theorem dX10_again_19 : decode cX10_again 19 = .ok (.ifCond .ne 6, 3) := by decide +kernel
theorem dX10_again_22 : decode cX10_again 22 = .ok (.bipush (-3), 2) := by decide +kernel
theorem dX10_again_24 : decode cX10_again 24 = .ok (.ireturn, 1) := by decide +kernel
theorem dX10_again_25 : decode cX10_again 25 = .ok (.aload_n 0, 1) := by decide +kernel
theorem dX10_again_26 : decode cX10_again 26 = .ok (.getfield 33, 3) := by decide +kernel
theorem dX10_again_29 : decode cX10_again 29 = .ok (.aload_n 2, 1) := by decide +kernel
theorem dX10_again_30 : decode cX10_again 30 = .ok (.invokevirtual 268, 3) := by decide +kernel
theorem dX10_again_33 : decode cX10_again 33 = .ok (.aload_n 0, 1) := by decide +kernel
theorem dX10_again_34 : decode cX10_again 34 = .ok (.getfield 40, 3) := by decide +kernel
theorem dX10_again_37 : decode cX10_again 37 = .ok (.iconst 0, 1) := by decide +kernel
theorem dX10_again_38 : decode cX10_again 38 = .ok (.putfield 93, 3) := by decide +kernel
theorem dX10_again_41 : decode cX10_again 41 = .ok (.aload_n 0, 1) := by decide +kernel
theorem dX10_again_42 : decode cX10_again 42 = .ok (.invokevirtual 205, 3) := by decide +kernel
theorem dX10_again_45 : decode cX10_again 45 = .ok (.ireturn, 1) := by decide +kernel
set_option maxRecDepth 20000 in
theorem ggX10_count_X4_men : GoodIn wsX10_count wsX4_men := goodIn_r _ [16, 17, 18, 19, 20, 21, 22, 23, 24, 25, 75, 76, 77, 78, 79, 80, 81, 82, 83, 84] (by decide +kernel) (by decide +kernel)
set_option maxRecDepth 20000 in
theorem gX10_count_X4_men : GoodIn wsX10_count (wsV RX10 232 RX4 yX4_men wsX4_men) := goodIn_app (goodIn_of _ (by decide +kernel)) ggX10_count_X4_men
set_option maxRecDepth 20000 in
theorem ggX10_count_X10_lawfulNow : GoodIn wsX10_count wsX10_lawfulNow := goodIn_r _ [30, 3, 31, 32, 33, 34, 35, 15, 36, 37, 38, 39, 40, 41, 42, 43, 44, 45, 46, 47, 48, 17, 49, 50, 51, 52, 53, 54, 55, 56, 57, 58, 59, 60, 61, 62, 63, 64, 65, 66, 67, 68, 69, 70, 71, 72, 92, 93, 94, 75, 76, 77, 78, 79, 80, 81, 82, 83, 84] (by decide +kernel) (by decide +kernel)
set_option maxRecDepth 20000 in
theorem gX10_count_X10_lawfulNow : GoodIn wsX10_count (wsV RX10 205 RX10 yX10_lawfulNow wsX10_lawfulNow) := goodIn_app (goodIn_of _ (by decide +kernel)) ggX10_count_X10_lawfulNow
theorem dX10_count_0 : decode cX10_count 0 = .ok (.iload_n 1, 1) := by decide +kernel
theorem dX10_count_1 : decode cX10_count 1 = .ok (.tableswitch 152 0 8 #[51, 59, 67, 83, 99, 115, 131, 139, 147], 51) := by decide +kernel
theorem dX10_count_52 : decode cX10_count 52 = .ok (.aload_n 0, 1) := by decide +kernel
theorem dX10_count_53 : decode cX10_count 53 = .ok (.getfield 10, 3) := by decide +kernel
theorem dX10_count_56 : decode cX10_count 56 = .ok (.getfield 78, 3) := by decide +kernel
theorem dX10_count_59 : decode cX10_count 59 = .ok (.ireturn, 1) := by decide +kernel
theorem dX10_count_60 : decode cX10_count 60 = .ok (.aload_n 0, 1) := by decide +kernel
theorem dX10_count_61 : decode cX10_count 61 = .ok (.getfield 67, 3) := by decide +kernel
theorem dX10_count_64 : decode cX10_count 64 = .ok (.getfield 100, 3) := by decide +kernel
theorem dX10_count_67 : decode cX10_count 67 = .ok (.ireturn, 1) := by decide +kernel
theorem dX10_count_68 : decode cX10_count 68 = .ok (.aload_n 0, 1) := by decide +kernel
theorem dX10_count_69 : decode cX10_count 69 = .ok (.getfield 67, 3) := by decide +kernel
theorem dX10_count_72 : decode cX10_count 72 = .ok (.getfield 100, 3) := by decide +kernel
theorem dX10_count_75 : decode cX10_count 75 = .ok (.aload_n 0, 1) := by decide +kernel
theorem dX10_count_76 : decode cX10_count 76 = .ok (.getfield 67, 3) := by decide +kernel
theorem dX10_count_79 : decode cX10_count 79 = .ok (.invokevirtual 232, 3) := by decide +kernel
theorem dX10_count_82 : decode cX10_count 82 = .ok (.isub, 1) := by decide +kernel
theorem dX10_count_83 : decode cX10_count 83 = .ok (.ireturn, 1) := by decide +kernel
theorem dX10_count_84 : decode cX10_count 84 = .ok (.aload_n 0, 1) := by decide +kernel
theorem dX10_count_85 : decode cX10_count 85 = .ok (.getfield 67, 3) := by decide +kernel
theorem dX10_count_88 : decode cX10_count 88 = .ok (.getfield 170, 3) := by decide +kernel
theorem dX10_count_91 : decode cX10_count 91 = .ok (.ifCond .eq 7, 3) := by decide +kernel
theorem dX10_count_94 : decode cX10_count 94 = .ok (.iconst 1, 1) := by decide +kernel
theorem dX10_count_95 : decode cX10_count 95 = .ok (.goto 4, 3) := by decide +kernel
theorem dX10_count_98 : decode cX10_count 98 = .ok (.iconst 0, 1) := by decide +kernel
theorem dX10_count_99 : decode cX10_count 99 = .ok (.ireturn, 1) := by decide +kernel
theorem dX10_count_100 : decode cX10_count 100 = .ok (.aload_n 0, 1) := by decide +kernel
theorem dX10_count_101 : decode cX10_count 101 = .ok (.getfield 67, 3) := by decide +kernel
theorem dX10_count_104 : decode cX10_count 104 = .ok (.getfield 272, 3) := by decide +kernel
theorem dX10_count_107 : decode cX10_count 107 = .ok (.ifCond .eq 7, 3) := by decide +kernel
theorem dX10_count_110 : decode cX10_count 110 = .ok (.iconst 1, 1) := by decide +kernel
theorem dX10_count_111 : decode cX10_count 111 = .ok (.goto 4, 3) := by decide +kernel
theorem dX10_count_114 : decode cX10_count 114 = .ok (.iconst 0, 1) := by decide +kernel
theorem dX10_count_115 : decode cX10_count 115 = .ok (.ireturn, 1) := by decide +kernel
theorem dX10_count_116 : decode cX10_count 116 = .ok (.aload_n 0, 1) := by decide +kernel
theorem dX10_count_117 : decode cX10_count 117 = .ok (.getfield 67, 3) := by decide +kernel
theorem dX10_count_120 : decode cX10_count 120 = .ok (.getfield 275, 3) := by decide +kernel
theorem dX10_count_123 : decode cX10_count 123 = .ok (.ifCond .eq 7, 3) := by decide +kernel
theorem dX10_count_126 : decode cX10_count 126 = .ok (.iconst 1, 1) := by decide +kernel
theorem dX10_count_127 : decode cX10_count 127 = .ok (.goto 4, 3) := by decide +kernel
theorem dX10_count_130 : decode cX10_count 130 = .ok (.iconst 0, 1) := by decide +kernel
theorem dX10_count_131 : decode cX10_count 131 = .ok (.ireturn, 1) := by decide +kernel
theorem dX10_count_132 : decode cX10_count 132 = .ok (.aload_n 0, 1) := by decide +kernel
theorem dX10_count_133 : decode cX10_count 133 = .ok (.getfield 40, 3) := by decide +kernel
theorem dX10_count_136 : decode cX10_count 136 = .ok (.getfield 93, 3) := by decide +kernel
theorem dX10_count_139 : decode cX10_count 139 = .ok (.ireturn, 1) := by decide +kernel
theorem dX10_count_140 : decode cX10_count 140 = .ok (.aload_n 0, 1) := by decide +kernel
theorem dX10_count_141 : decode cX10_count 141 = .ok (.getfield 53, 3) := by decide +kernel
theorem dX10_count_144 : decode cX10_count 144 = .ok (.getfield 260, 3) := by decide +kernel
theorem dX10_count_147 : decode cX10_count 147 = .ok (.ireturn, 1) := by decide +kernel
theorem dX10_count_148 : decode cX10_count 148 = .ok (.aload_n 0, 1) := by decide +kernel
theorem dX10_count_149 : decode cX10_count 149 = .ok (.invokevirtual 205, 3) := by decide +kernel
theorem dX10_count_152 : decode cX10_count 152 = .ok (.ireturn, 1) := by decide +kernel
theorem dX10_count_153 : decode cX10_count 153 = .ok (.bipush (-2), 2) := by decide +kernel
theorem dX10_count_155 : decode cX10_count 155 = .ok (.ireturn, 1) := by decide +kernel
set_option maxRecDepth 20000 in
theorem ggX10_lawfulNow_X4_isLawful : GoodIn wsX10_lawfulNow wsX4_isLawful := goodIn_r _ [8, 9, 10, 11, 12, 13, 14, 7, 15, 16, 17, 18, 19, 20, 21, 22, 23, 24, 25, 26, 27, 28, 29, 30, 31, 32, 33, 49, 50, 51, 52, 53, 54, 55, 56, 57, 58] (by decide +kernel) (by decide +kernel)
set_option maxRecDepth 20000 in
theorem gX10_lawfulNow_X4_isLawful : GoodIn wsX10_lawfulNow (wsV RX10 235 RX4 yX4_isLawful wsX4_isLawful) := goodIn_app (goodIn_of _ (by decide +kernel)) ggX10_lawfulNow_X4_isLawful
theorem dX10_lawfulNow_0 : decode cX10_lawfulNow 0 = .ok (.aload_n 0, 1) := by decide +kernel
theorem dX10_lawfulNow_1 : decode cX10_lawfulNow 1 = .ok (.getfield 67, 3) := by decide +kernel
theorem dX10_lawfulNow_4 : decode cX10_lawfulNow 4 = .ok (.aload_n 0, 1) := by decide +kernel
theorem dX10_lawfulNow_5 : decode cX10_lawfulNow 5 = .ok (.getfield 33, 3) := by decide +kernel
theorem dX10_lawfulNow_8 : decode cX10_lawfulNow 8 = .ok (.getfield 111, 3) := by decide +kernel
theorem dX10_lawfulNow_11 : decode cX10_lawfulNow 11 = .ok (.invokevirtual 235, 3) := by decide +kernel
theorem dX10_lawfulNow_14 : decode cX10_lawfulNow 14 = .ok (.ifCond .eq 7, 3) := by decide +kernel
theorem dX10_lawfulNow_17 : decode cX10_lawfulNow 17 = .ok (.iconst 1, 1) := by decide +kernel
theorem dX10_lawfulNow_18 : decode cX10_lawfulNow 18 = .ok (.goto 4, 3) := by decide +kernel
theorem dX10_lawfulNow_21 : decode cX10_lawfulNow 21 = .ok (.iconst 0, 1) := by decide +kernel
theorem dX10_lawfulNow_22 : decode cX10_lawfulNow 22 = .ok (.ireturn, 1) := by decide +kernel
set_option maxRecDepth 20000 in
theorem ggX10_actTo_X0_add : GoodIn wsX10_actTo wsX0_add := goodIn_r _ [8, 9, 10, 11, 12, 13, 14, 7, 15, 31, 32, 33] (by decide +kernel) (by decide +kernel)
set_option maxRecDepth 20000 in
theorem gX10_actTo_X0_add : GoodIn wsX10_actTo (wsV RX10 219 RX0 yX0_add wsX0_add) := goodIn_app (goodIn_of _ (by decide +kernel)) ggX10_actTo_X0_add
theorem dX10_actTo_0 : decode cX10_actTo 0 = .ok (.aload_n 0, 1) := by decide +kernel
theorem dX10_actTo_1 : decode cX10_actTo 1 = .ok (.getfield 40, 3) := by decide +kernel
theorem dX10_actTo_4 : decode cX10_actTo 4 = .ok (.aload_n 0, 1) := by decide +kernel
theorem dX10_actTo_5 : decode cX10_actTo 5 = .ok (.getfield 33, 3) := by decide +kernel
theorem dX10_actTo_8 : decode cX10_actTo 8 = .ok (.getfield 111, 3) := by decide +kernel
theorem dX10_actTo_11 : decode cX10_actTo 11 = .ok (.iconst 0, 1) := by decide +kernel
theorem dX10_actTo_12 : decode cX10_actTo 12 = .ok (.invokevirtual 219, 3) := by decide +kernel
theorem dX10_actTo_15 : decode cX10_actTo 15 = .ok (.aload_n 0, 1) := by decide +kernel
theorem dX10_actTo_16 : decode cX10_actTo 16 = .ok (.getfield 33, 3) := by decide +kernel
theorem dX10_actTo_19 : decode cX10_actTo 19 = .ok (.iload_n 1, 1) := by decide +kernel
theorem dX10_actTo_20 : decode cX10_actTo 20 = .ok (.putfield 111, 3) := by decide +kernel
theorem dX10_actTo_23 : decode cX10_actTo 23 = .ok (.return_, 1) := by decide +kernel
theorem dX10_isSlot_0 : decode cX10_isSlot 0 = .ok (.iload_n 0, 1) := by decide +kernel
theorem dX10_isSlot_1 : decode cX10_isSlot 1 = .ok (.ifCond .eq 8, 3) := by decide +kernel
theorem dX10_isSlot_4 : decode cX10_isSlot 4 = .ok (.iload_n 0, 1) := by decide +kernel
theorem dX10_isSlot_5 : decode cX10_isSlot 5 = .ok (.iconst 1, 1) := by decide +kernel
theorem dX10_isSlot_6 : decode cX10_isSlot 6 = .ok (.if_icmp .ne 7, 3) := by decide +kernel
theorem dX10_isSlot_9 : decode cX10_isSlot 9 = .ok (.iconst 1, 1) := by decide +kernel
theorem dX10_isSlot_10 : decode cX10_isSlot 10 = .ok (.goto 4, 3) := by decide +kernel
theorem dX10_isSlot_13 : decode cX10_isSlot 13 = .ok (.iconst 0, 1) := by decide +kernel
theorem dX10_isSlot_14 : decode cX10_isSlot 14 = .ok (.ireturn, 1) := by decide +kernel
theorem dX10_slotOf_0 : decode cX10_slotOf 0 = .ok (.iload_n 1, 1) := by decide +kernel
theorem dX10_slotOf_1 : decode cX10_slotOf 1 = .ok (.ifCond .ne 10, 3) := by decide +kernel
theorem dX10_slotOf_4 : decode cX10_slotOf 4 = .ok (.aload_n 0, 1) := by decide +kernel
theorem dX10_slotOf_5 : decode cX10_slotOf 5 = .ok (.getfield 44, 3) := by decide +kernel
theorem dX10_slotOf_8 : decode cX10_slotOf 8 = .ok (.goto 7, 3) := by decide +kernel
theorem dX10_slotOf_11 : decode cX10_slotOf 11 = .ok (.aload_n 0, 1) := by decide +kernel
theorem dX10_slotOf_12 : decode cX10_slotOf 12 = .ok (.getfield 47, 3) := by decide +kernel
theorem dX10_slotOf_15 : decode cX10_slotOf 15 = .ok (.areturn, 1) := by decide +kernel
theorem dX10_lowestOf_0 : decode cX10_lowestOf 0 = .ok (.iconst 0, 1) := by decide +kernel
theorem dX10_lowestOf_1 : decode cX10_lowestOf 1 = .ok (.istore_n 1, 1) := by decide +kernel
theorem dX10_lowestOf_2 : decode cX10_lowestOf 2 = .ok (.iload_n 1, 1) := by decide +kernel
theorem dX10_lowestOf_3 : decode cX10_lowestOf 3 = .ok (.bipush 7, 2) := by decide +kernel
theorem dX10_lowestOf_5 : decode cX10_lowestOf 5 = .ok (.if_icmp .ge 19, 3) := by decide +kernel
theorem dX10_lowestOf_8 : decode cX10_lowestOf 8 = .ok (.iload_n 0, 1) := by decide +kernel
theorem dX10_lowestOf_9 : decode cX10_lowestOf 9 = .ok (.iload_n 1, 1) := by decide +kernel
theorem dX10_lowestOf_10 : decode cX10_lowestOf 10 = .ok (.ishr, 1) := by decide +kernel
theorem dX10_lowestOf_11 : decode cX10_lowestOf 11 = .ok (.iconst 1, 1) := by decide +kernel
theorem dX10_lowestOf_12 : decode cX10_lowestOf 12 = .ok (.iand, 1) := by decide +kernel
theorem dX10_lowestOf_13 : decode cX10_lowestOf 13 = .ok (.ifCond .eq 5, 3) := by decide +kernel
theorem dX10_lowestOf_16 : decode cX10_lowestOf 16 = .ok (.iload_n 1, 1) := by decide +kernel
theorem dX10_lowestOf_17 : decode cX10_lowestOf 17 = .ok (.ireturn, 1) := by decide +kernel
theorem dX10_lowestOf_18 : decode cX10_lowestOf 18 = .ok (.iinc 1 1, 3) := by decide +kernel
theorem dX10_lowestOf_21 : decode cX10_lowestOf 21 = .ok (.goto (-19), 3) := by decide +kernel
theorem dX10_lowestOf_24 : decode cX10_lowestOf 24 = .ok (.bipush (-9), 2) := by decide +kernel
theorem dX10_lowestOf_26 : decode cX10_lowestOf 26 = .ok (.ireturn, 1) := by decide +kernel
theorem dX10_commonDivisor_0 : decode cX10_commonDivisor 0 = .ok (.iload_n 0, 1) := by decide +kernel
theorem dX10_commonDivisor_1 : decode cX10_commonDivisor 1 = .ok (.istore_n 2, 1) := by decide +kernel
theorem dX10_commonDivisor_2 : decode cX10_commonDivisor 2 = .ok (.iload_n 1, 1) := by decide +kernel
theorem dX10_commonDivisor_3 : decode cX10_commonDivisor 3 = .ok (.istore_n 3, 1) := by decide +kernel
theorem dX10_commonDivisor_4 : decode cX10_commonDivisor 4 = .ok (.iconst 0, 1) := by decide +kernel
theorem dX10_commonDivisor_5 : decode cX10_commonDivisor 5 = .ok (.istore 4, 2) := by decide +kernel
theorem dX10_commonDivisor_7 : decode cX10_commonDivisor 7 = .ok (.iload 4, 2) := by decide +kernel
theorem dX10_commonDivisor_9 : decode cX10_commonDivisor 9 = .ok (.bipush 64, 2) := by decide +kernel
theorem dX10_commonDivisor_11 : decode cX10_commonDivisor 11 = .ok (.if_icmp .ge 23, 3) := by decide +kernel
theorem dX10_commonDivisor_14 : decode cX10_commonDivisor 14 = .ok (.iload_n 3, 1) := by decide +kernel
theorem dX10_commonDivisor_15 : decode cX10_commonDivisor 15 = .ok (.ifCond .le 19, 3) := by decide +kernel
theorem dX10_commonDivisor_18 : decode cX10_commonDivisor 18 = .ok (.iload_n 2, 1) := by decide +kernel
theorem dX10_commonDivisor_19 : decode cX10_commonDivisor 19 = .ok (.iload_n 3, 1) := by decide +kernel
theorem dX10_commonDivisor_20 : decode cX10_commonDivisor 20 = .ok (.irem, 1) := by decide +kernel
theorem dX10_commonDivisor_21 : decode cX10_commonDivisor 21 = .ok (.istore 5, 2) := by decide +kernel
theorem dX10_commonDivisor_23 : decode cX10_commonDivisor 23 = .ok (.iload_n 3, 1) := by decide +kernel
theorem dX10_commonDivisor_24 : decode cX10_commonDivisor 24 = .ok (.istore_n 2, 1) := by decide +kernel
theorem dX10_commonDivisor_25 : decode cX10_commonDivisor 25 = .ok (.iload 5, 2) := by decide +kernel
theorem dX10_commonDivisor_27 : decode cX10_commonDivisor 27 = .ok (.istore_n 3, 1) := by decide +kernel
theorem dX10_commonDivisor_28 : decode cX10_commonDivisor 28 = .ok (.iinc 4 1, 3) := by decide +kernel
theorem dX10_commonDivisor_31 : decode cX10_commonDivisor 31 = .ok (.goto (-24), 3) := by decide +kernel
theorem dX10_commonDivisor_34 : decode cX10_commonDivisor 34 = .ok (.iload_n 2, 1) := by decide +kernel
theorem dX10_commonDivisor_35 : decode cX10_commonDivisor 35 = .ok (.ireturn, 1) := by decide +kernel
theorem dX11_init_0 : decode cX11_init 0 = .ok (.aload_n 0, 1) := by decide +kernel
theorem dX11_init_1 : decode cX11_init 1 = .ok (.invokespecial 1, 3) := by decide +kernel
theorem dX11_init_4 : decode cX11_init 4 = .ok (.aload_n 0, 1) := by decide +kernel
theorem dX11_init_5 : decode cX11_init 5 = .ok (.bipush 7, 2) := by decide +kernel
theorem dX11_init_7 : decode cX11_init 7 = .ok (.newarray .boolean, 2) := by decide +kernel
theorem dX11_init_9 : decode cX11_init 9 = .ok (.putfield 7, 3) := by decide +kernel
theorem dX11_init_12 : decode cX11_init 12 = .ok (.aload_n 0, 1) := by decide +kernel
theorem dX11_init_13 : decode cX11_init 13 = .ok (.bipush 7, 2) := by decide +kernel
theorem dX11_init_15 : decode cX11_init 15 = .ok (.newarray .int, 2) := by decide +kernel
theorem dX11_init_17 : decode cX11_init 17 = .ok (.putfield 13, 3) := by decide +kernel
theorem dX11_init_20 : decode cX11_init 20 = .ok (.aload_n 0, 1) := by decide +kernel
theorem dX11_init_21 : decode cX11_init 21 = .ok (.bipush 7, 2) := by decide +kernel
theorem dX11_init_23 : decode cX11_init 23 = .ok (.newarray .int, 2) := by decide +kernel
theorem dX11_init_25 : decode cX11_init 25 = .ok (.putfield 17, 3) := by decide +kernel
theorem dX11_init_28 : decode cX11_init 28 = .ok (.aload_n 0, 1) := by decide +kernel
theorem dX11_init_29 : decode cX11_init 29 = .ok (.bipush 7, 2) := by decide +kernel
theorem dX11_init_31 : decode cX11_init 31 = .ok (.newarray .int, 2) := by decide +kernel
theorem dX11_init_33 : decode cX11_init 33 = .ok (.putfield 20, 3) := by decide +kernel
theorem dX11_init_36 : decode cX11_init 36 = .ok (.aload_n 0, 1) := by decide +kernel
theorem dX11_init_37 : decode cX11_init 37 = .ok (.bipush 49, 2) := by decide +kernel
theorem dX11_init_39 : decode cX11_init 39 = .ok (.newarray .int, 2) := by decide +kernel
theorem dX11_init_41 : decode cX11_init 41 = .ok (.putfield 23, 3) := by decide +kernel
theorem dX11_init_44 : decode cX11_init 44 = .ok (.aload_n 0, 1) := by decide +kernel
theorem dX11_init_45 : decode cX11_init 45 = .ok (.bipush 7, 2) := by decide +kernel
theorem dX11_init_47 : decode cX11_init 47 = .ok (.newarray .boolean, 2) := by decide +kernel
theorem dX11_init_49 : decode cX11_init 49 = .ok (.putfield 26, 3) := by decide +kernel
theorem dX11_init_52 : decode cX11_init 52 = .ok (.aload_n 0, 1) := by decide +kernel
theorem dX11_init_53 : decode cX11_init 53 = .ok (.bipush 7, 2) := by decide +kernel
theorem dX11_init_55 : decode cX11_init 55 = .ok (.newarray .int, 2) := by decide +kernel
theorem dX11_init_57 : decode cX11_init 57 = .ok (.putfield 29, 3) := by decide +kernel
theorem dX11_init_60 : decode cX11_init 60 = .ok (.aload_n 0, 1) := by decide +kernel
theorem dX11_init_61 : decode cX11_init 61 = .ok (.bipush 7, 2) := by decide +kernel
theorem dX11_init_63 : decode cX11_init 63 = .ok (.newarray .int, 2) := by decide +kernel
theorem dX11_init_65 : decode cX11_init 65 = .ok (.putfield 32, 3) := by decide +kernel
theorem dX11_init_68 : decode cX11_init 68 = .ok (.aload_n 0, 1) := by decide +kernel
theorem dX11_init_69 : decode cX11_init 69 = .ok (.bipush 7, 2) := by decide +kernel
theorem dX11_init_71 : decode cX11_init 71 = .ok (.newarray .int, 2) := by decide +kernel
theorem dX11_init_73 : decode cX11_init 73 = .ok (.putfield 35, 3) := by decide +kernel
theorem dX11_init_76 : decode cX11_init 76 = .ok (.aload_n 0, 1) := by decide +kernel
theorem dX11_init_77 : decode cX11_init 77 = .ok (.bipush 49, 2) := by decide +kernel
theorem dX11_init_79 : decode cX11_init 79 = .ok (.newarray .int, 2) := by decide +kernel
theorem dX11_init_81 : decode cX11_init 81 = .ok (.putfield 38, 3) := by decide +kernel
theorem dX11_init_84 : decode cX11_init 84 = .ok (.aload_n 0, 1) := by decide +kernel
theorem dX11_init_85 : decode cX11_init 85 = .ok (.bipush 7, 2) := by decide +kernel
theorem dX11_init_87 : decode cX11_init 87 = .ok (.newarray .int, 2) := by decide +kernel
theorem dX11_init_89 : decode cX11_init 89 = .ok (.putfield 41, 3) := by decide +kernel
theorem dX11_init_92 : decode cX11_init 92 = .ok (.aload_n 0, 1) := by decide +kernel
theorem dX11_init_93 : decode cX11_init 93 = .ok (.bipush 49, 2) := by decide +kernel
theorem dX11_init_95 : decode cX11_init 95 = .ok (.newarray .int, 2) := by decide +kernel
theorem dX11_init_97 : decode cX11_init 97 = .ok (.putfield 44, 3) := by decide +kernel
theorem dX11_init_100 : decode cX11_init 100 = .ok (.aload_n 0, 1) := by decide +kernel
theorem dX11_init_101 : decode cX11_init 101 = .ok (.bipush 64, 2) := by decide +kernel
theorem dX11_init_103 : decode cX11_init 103 = .ok (.newarray .int, 2) := by decide +kernel
theorem dX11_init_105 : decode cX11_init 105 = .ok (.putfield 47, 3) := by decide +kernel
theorem dX11_init_108 : decode cX11_init 108 = .ok (.aload_n 0, 1) := by decide +kernel
theorem dX11_init_109 : decode cX11_init 109 = .ok (.bipush 7, 2) := by decide +kernel
theorem dX11_init_111 : decode cX11_init 111 = .ok (.newarray .int, 2) := by decide +kernel
theorem dX11_init_113 : decode cX11_init 113 = .ok (.putfield 50, 3) := by decide +kernel
theorem dX11_init_116 : decode cX11_init 116 = .ok (.aload_n 0, 1) := by decide +kernel
theorem dX11_init_117 : decode cX11_init 117 = .ok (.sipush 896, 3) := by decide +kernel
theorem dX11_init_120 : decode cX11_init 120 = .ok (.newarray .int, 2) := by decide +kernel
theorem dX11_init_122 : decode cX11_init 122 = .ok (.putfield 53, 3) := by decide +kernel
theorem dX11_init_125 : decode cX11_init 125 = .ok (.aload_n 0, 1) := by decide +kernel
theorem dX11_init_126 : decode cX11_init 126 = .ok (.bipush 7, 2) := by decide +kernel
theorem dX11_init_128 : decode cX11_init 128 = .ok (.newarray .int, 2) := by decide +kernel
theorem dX11_init_130 : decode cX11_init 130 = .ok (.putfield 56, 3) := by decide +kernel
theorem dX11_init_133 : decode cX11_init 133 = .ok (.aload_n 0, 1) := by decide +kernel
theorem dX11_init_134 : decode cX11_init 134 = .ok (.bipush 7, 2) := by decide +kernel
theorem dX11_init_136 : decode cX11_init 136 = .ok (.newarray .int, 2) := by decide +kernel
theorem dX11_init_138 : decode cX11_init 138 = .ok (.putfield 59, 3) := by decide +kernel
theorem dX11_init_141 : decode cX11_init 141 = .ok (.aload_n 0, 1) := by decide +kernel
theorem dX11_init_142 : decode cX11_init 142 = .ok (.sipush 720, 3) := by decide +kernel
theorem dX11_init_145 : decode cX11_init 145 = .ok (.newarray .int, 2) := by decide +kernel
theorem dX11_init_147 : decode cX11_init 147 = .ok (.putfield 62, 3) := by decide +kernel
theorem dX11_init_150 : decode cX11_init 150 = .ok (.aload_n 0, 1) := by decide +kernel
theorem dX11_init_151 : decode cX11_init 151 = .ok (.sipush 720, 3) := by decide +kernel
theorem dX11_init_154 : decode cX11_init 154 = .ok (.newarray .int, 2) := by decide +kernel
theorem dX11_init_156 : decode cX11_init 156 = .ok (.putfield 65, 3) := by decide +kernel
theorem dX11_init_159 : decode cX11_init 159 = .ok (.aload_n 0, 1) := by decide +kernel
theorem dX11_init_160 : decode cX11_init 160 = .ok (.bipush 7, 2) := by decide +kernel
theorem dX11_init_162 : decode cX11_init 162 = .ok (.newarray .int, 2) := by decide +kernel
theorem dX11_init_164 : decode cX11_init 164 = .ok (.putfield 68, 3) := by decide +kernel
theorem dX11_init_167 : decode cX11_init 167 = .ok (.aload_n 0, 1) := by decide +kernel
theorem dX11_init_168 : decode cX11_init 168 = .ok (.bipush 8, 2) := by decide +kernel
theorem dX11_init_170 : decode cX11_init 170 = .ok (.newarray .int, 2) := by decide +kernel
theorem dX11_init_172 : decode cX11_init 172 = .ok (.putfield 71, 3) := by decide +kernel
theorem dX11_init_175 : decode cX11_init 175 = .ok (.aload_n 0, 1) := by decide +kernel
theorem dX11_init_176 : decode cX11_init 176 = .ok (.bipush 8, 2) := by decide +kernel
theorem dX11_init_178 : decode cX11_init 178 = .ok (.newarray .int, 2) := by decide +kernel
theorem dX11_init_180 : decode cX11_init 180 = .ok (.putfield 74, 3) := by decide +kernel
theorem dX11_init_183 : decode cX11_init 183 = .ok (.aload_n 0, 1) := by decide +kernel
theorem dX11_init_184 : decode cX11_init 184 = .ok (.bipush 8, 2) := by decide +kernel
theorem dX11_init_186 : decode cX11_init 186 = .ok (.newarray .boolean, 2) := by decide +kernel
theorem dX11_init_188 : decode cX11_init 188 = .ok (.putfield 77, 3) := by decide +kernel
theorem dX11_init_191 : decode cX11_init 191 = .ok (.aload_n 0, 1) := by decide +kernel
theorem dX11_init_192 : decode cX11_init 192 = .ok (.bipush 7, 2) := by decide +kernel
theorem dX11_init_194 : decode cX11_init 194 = .ok (.newarray .int, 2) := by decide +kernel
theorem dX11_init_196 : decode cX11_init 196 = .ok (.putfield 80, 3) := by decide +kernel
theorem dX11_init_199 : decode cX11_init 199 = .ok (.aload_n 0, 1) := by decide +kernel
theorem dX11_init_200 : decode cX11_init 200 = .ok (.iconst 2, 1) := by decide +kernel
theorem dX11_init_201 : decode cX11_init 201 = .ok (.newarray .boolean, 2) := by decide +kernel
theorem dX11_init_203 : decode cX11_init 203 = .ok (.putfield 83, 3) := by decide +kernel
theorem dX11_init_206 : decode cX11_init 206 = .ok (.aload_n 0, 1) := by decide +kernel
theorem dX11_init_207 : decode cX11_init 207 = .ok (.bipush 112, 2) := by decide +kernel
theorem dX11_init_209 : decode cX11_init 209 = .ok (.newarray .int, 2) := by decide +kernel
theorem dX11_init_211 : decode cX11_init 211 = .ok (.putfield 86, 3) := by decide +kernel
theorem dX11_init_214 : decode cX11_init 214 = .ok (.aload_n 0, 1) := by decide +kernel
theorem dX11_init_215 : decode cX11_init 215 = .ok (.iconst 0, 1) := by decide +kernel
theorem dX11_init_216 : decode cX11_init 216 = .ok (.putfield 89, 3) := by decide +kernel
theorem dX11_init_219 : decode cX11_init 219 = .ok (.return_, 1) := by decide +kernel
theorem dX11_in_0 : decode cX11_in 0 = .ok (.lload_n 0, 1) := by decide +kernel
theorem dX11_in_1 : decode cX11_in 1 = .ok (.lload_n 2, 1) := by decide +kernel
theorem dX11_in_2 : decode cX11_in 2 = .ok (.lcmp, 1) := by decide +kernel
theorem dX11_in_3 : decode cX11_in 3 = .ok (.ifCond .lt 14, 3) := by decide +kernel
theorem dX11_in_6 : decode cX11_in 6 = .ok (.lload_n 0, 1) := by decide +kernel
theorem dX11_in_7 : decode cX11_in 7 = .ok (.lload 4, 2) := by decide +kernel
theorem dX11_in_9 : decode cX11_in 9 = .ok (.lcmp, 1) := by decide +kernel
theorem dX11_in_10 : decode cX11_in 10 = .ok (.ifCond .gt 7, 3) := by decide +kernel
theorem dX11_in_13 : decode cX11_in 13 = .ok (.iconst 1, 1) := by decide +kernel
theorem dX11_in_14 : decode cX11_in 14 = .ok (.goto 4, 3) := by decide +kernel
theorem dX11_in_17 : decode cX11_in 17 = .ok (.iconst 0, 1) := by decide +kernel
theorem dX11_in_18 : decode cX11_in 18 = .ok (.ireturn, 1) := by decide +kernel
set_option maxRecDepth 20000 in
theorem ggX11_write_X11_in : GoodIn wsX11_write wsX11_in := goodIn_r _ [8] (by decide +kernel) (by decide +kernel)
set_option maxRecDepth 20000 in
theorem gX11_write_X11_in : GoodIn wsX11_write (va_wsS RX11 95 yX11_in wsX11_in) := goodIn_app (goodIn_of _ (by decide +kernel)) ggX11_write_X11_in
theorem dX11_write_0 : decode cX11_write 0 = .ok (.iload_n 1, 1) := by decide +kernel
theorem dX11_write_1 : decode cX11_write 1 = .ok (.i2l, 1) := by decide +kernel
theorem dX11_write_2 : decode cX11_write 2 = .ok (.lconst 1, 1) := by decide +kernel
theorem dX11_write_3 : decode cX11_write 3 = .ok (.ldc2_w 93, 3) := by decide +kernel
theorem dX11_write_6 : decode cX11_write 6 = .ok (.invokestatic 95, 3) := by decide +kernel
theorem dX11_write_9 : decode cX11_write 9 = .ok (.ifCond .ne 6, 3) := by decide +kernel
theorem dX11_write_12 : decode cX11_write 12 = .ok (.bipush (-2), 2) := by decide +kernel
theorem dX11_write_14 : decode cX11_write 14 = .ok (.ireturn, 1) := by decide +kernel
theorem dX11_write_15 : decode cX11_write 15 = .ok (.aload_n 0, 1) := by decide +kernel
theorem dX11_write_16 : decode cX11_write 16 = .ok (.getfield 99, 3) := by decide +kernel
theorem dX11_write_19 : decode cX11_write 19 = .ok (.iload_n 1, 1) := by decide +kernel
theorem dX11_write_20 : decode cX11_write 20 = .ok (.iadd, 1) := by decide +kernel
theorem dX11_write_21 : decode cX11_write 21 = .ok (.bipush 64, 2) := by decide +kernel
theorem dX11_write_23 : decode cX11_write 23 = .ok (.if_icmp .le 6, 3) := by decide +kernel
theorem dX11_write_26 : decode cX11_write 26 = .ok (.bipush (-4), 2) := by decide +kernel
theorem dX11_write_28 : decode cX11_write 28 = .ok (.ireturn, 1) := by decide +kernel
theorem dX11_write_29 : decode cX11_write 29 = .ok (.iload_n 1, 1) := by decide +kernel
theorem dX11_write_30 : decode cX11_write 30 = .ok (.iconst 1, 1) := by decide +kernel
theorem dX11_write_31 : decode cX11_write 31 = .ok (.isub, 1) := by decide +kernel
theorem dX11_write_32 : decode cX11_write 32 = .ok (.istore 4, 2) := by decide +kernel
theorem dX11_write_34 : decode cX11_write 34 = .ok (.iload 4, 2) := by decide +kernel
theorem dX11_write_36 : decode cX11_write 36 = .ok (.ifCond .lt 40, 3) := by decide +kernel
theorem dX11_write_39 : decode cX11_write 39 = .ok (.aload_n 0, 1) := by decide +kernel
theorem dX11_write_40 : decode cX11_write 40 = .ok (.getfield 47, 3) := by decide +kernel
theorem dX11_write_43 : decode cX11_write 43 = .ok (.aload_n 0, 1) := by decide +kernel
theorem dX11_write_44 : decode cX11_write 44 = .ok (.getfield 99, 3) := by decide +kernel
theorem dX11_write_47 : decode cX11_write 47 = .ok (.lload_n 2, 1) := by decide +kernel
theorem dX11_write_48 : decode cX11_write 48 = .ok (.bipush 8, 2) := by decide +kernel
theorem dX11_write_50 : decode cX11_write 50 = .ok (.iload 4, 2) := by decide +kernel
theorem dX11_write_52 : decode cX11_write 52 = .ok (.imul, 1) := by decide +kernel
theorem dX11_write_53 : decode cX11_write 53 = .ok (.lshr, 1) := by decide +kernel
theorem dX11_write_54 : decode cX11_write 54 = .ok (.ldc2_w 102, 3) := by decide +kernel
theorem dX11_write_57 : decode cX11_write 57 = .ok (.land, 1) := by decide +kernel
theorem dX11_write_58 : decode cX11_write 58 = .ok (.l2i, 1) := by decide +kernel
theorem dX11_write_59 : decode cX11_write 59 = .ok (.iastore, 1) := by decide +kernel
theorem dX11_write_60 : decode cX11_write 60 = .ok (.aload_n 0, 1) := by decide +kernel
theorem dX11_write_61 : decode cX11_write 61 = .ok (.dup, 1) := by decide +kernel
theorem dX11_write_62 : decode cX11_write 62 = .ok (.getfield 99, 3) := by decide +kernel
theorem dX11_write_65 : decode cX11_write 65 = .ok (.iconst 1, 1) := by decide +kernel
theorem dX11_write_66 : decode cX11_write 66 = .ok (.iadd, 1) := by decide +kernel
theorem dX11_write_67 : decode cX11_write 67 = .ok (.putfield 99, 3) := by decide +kernel
theorem dX11_write_70 : decode cX11_write 70 = .ok (.iinc 4 (-1), 3) := by decide +kernel
theorem dX11_write_73 : decode cX11_write 73 = .ok (.goto (-39), 3) := by decide +kernel
theorem dX11_write_76 : decode cX11_write 76 = .ok (.aload_n 0, 1) := by decide +kernel
theorem dX11_write_77 : decode cX11_write 77 = .ok (.getfield 99, 3) := by decide +kernel
theorem dX11_write_80 : decode cX11_write 80 = .ok (.ireturn, 1) := by decide +kernel
theorem dX11_wipe_0 : decode cX11_wipe 0 = .ok (.aload_n 0, 1) := by decide +kernel
theorem dX11_wipe_1 : decode cX11_wipe 1 = .ok (.getfield 99, 3) := by decide +kernel
theorem dX11_wipe_4 : decode cX11_wipe 4 = .ok (.istore_n 1, 1) := by decide +kernel
theorem dX11_wipe_5 : decode cX11_wipe 5 = .ok (.aload_n 0, 1) := by decide +kernel
theorem dX11_wipe_6 : decode cX11_wipe 6 = .ok (.iconst 0, 1) := by decide +kernel
theorem dX11_wipe_7 : decode cX11_wipe 7 = .ok (.putfield 99, 3) := by decide +kernel
theorem dX11_wipe_10 : decode cX11_wipe 10 = .ok (.iload_n 1, 1) := by decide +kernel
theorem dX11_wipe_11 : decode cX11_wipe 11 = .ok (.ireturn, 1) := by decide +kernel
theorem dX11_fail_0 : decode cX11_fail 0 = .ok (.aload_n 0, 1) := by decide +kernel
theorem dX11_fail_1 : decode cX11_fail 1 = .ok (.aload_n 0, 1) := by decide +kernel
theorem dX11_fail_2 : decode cX11_fail 2 = .ok (.getfield 104, 3) := by decide +kernel
theorem dX11_fail_5 : decode cX11_fail 5 = .ok (.bipush (-9), 2) := by decide +kernel
theorem dX11_fail_7 : decode cX11_fail 7 = .ok (.if_icmp .ne 10, 3) := by decide +kernel
theorem dX11_fail_10 : decode cX11_fail 10 = .ok (.aload_n 0, 1) := by decide +kernel
theorem dX11_fail_11 : decode cX11_fail 11 = .ok (.getfield 107, 3) := by decide +kernel
theorem dX11_fail_14 : decode cX11_fail 14 = .ok (.goto 7, 3) := by decide +kernel
theorem dX11_fail_17 : decode cX11_fail 17 = .ok (.aload_n 0, 1) := by decide +kernel
theorem dX11_fail_18 : decode cX11_fail 18 = .ok (.getfield 104, 3) := by decide +kernel
theorem dX11_fail_21 : decode cX11_fail 21 = .ok (.putfield 104, 3) := by decide +kernel
theorem dX11_fail_24 : decode cX11_fail 24 = .ok (.return_, 1) := by decide +kernel
set_option maxRecDepth 20000 in
theorem ggX11_figure_X11_in : GoodIn wsX11_figure wsX11_in := goodIn_r _ [9] (by decide +kernel) (by decide +kernel)
set_option maxRecDepth 20000 in
theorem gX11_figure_X11_in : GoodIn wsX11_figure (va_wsS RX11 95 yX11_in wsX11_in) := goodIn_app (goodIn_of _ (by decide +kernel)) ggX11_figure_X11_in
set_option maxRecDepth 20000 in
theorem ggX11_figure_X11_fail : GoodIn wsX11_figure wsX11_fail := goodIn_r _ [13, 1, 2, 14, 15, 16, 17, 18, 19, 20, 21, 22, 23, 24, 25, 26, 27, 28, 29, 30, 31, 32, 33, 34, 35, 36, 37, 38, 39, 40, 41, 42, 43, 44, 45, 46, 47, 48, 49, 50, 51, 52, 53, 54, 55] (by decide +kernel) (by decide +kernel)
set_option maxRecDepth 20000 in
theorem gX11_figure_X11_fail : GoodIn wsX11_figure (wsV RX11 112 RX11 yX11_fail wsX11_fail) := goodIn_app (goodIn_of _ (by decide +kernel)) ggX11_figure_X11_fail
theorem dX11_figure_0 : decode cX11_figure 0 = .ok (.aload_n 0, 1) := by decide +kernel
theorem dX11_figure_1 : decode cX11_figure 1 = .ok (.getfield 104, 3) := by decide +kernel
theorem dX11_figure_4 : decode cX11_figure 4 = .ok (.bipush (-9), 2) := by decide +kernel
theorem dX11_figure_6 : decode cX11_figure 6 = .ok (.if_icmp .ne 29, 3) := by decide +kernel
theorem dX11_figure_9 : decode cX11_figure 9 = .ok (.aload_n 0, 1) := by decide +kernel
theorem dX11_figure_10 : decode cX11_figure 10 = .ok (.getfield 107, 3) := by decide +kernel
theorem dX11_figure_13 : decode cX11_figure 13 = .ok (.aload_n 0, 1) := by decide +kernel
theorem dX11_figure_14 : decode cX11_figure 14 = .ok (.getfield 99, 3) := by decide +kernel
theorem dX11_figure_17 : decode cX11_figure 17 = .ok (.if_icmp .ge 18, 3) := by decide +kernel
theorem dX11_figure_20 : decode cX11_figure 20 = .ok (.aload_n 0, 1) := by decide +kernel
theorem dX11_figure_21 : decode cX11_figure 21 = .ok (.getfield 47, 3) := by decide +kernel
theorem dX11_figure_24 : decode cX11_figure 24 = .ok (.aload_n 0, 1) := by decide +kernel
theorem dX11_figure_25 : decode cX11_figure 25 = .ok (.getfield 107, 3) := by decide +kernel
theorem dX11_figure_28 : decode cX11_figure 28 = .ok (.iaload, 1) := by decide +kernel
theorem dX11_figure_29 : decode cX11_figure 29 = .ok (.bipush 48, 2) := by decide +kernel
theorem dX11_figure_31 : decode cX11_figure 31 = .ok (.isub, 1) := by decide +kernel
theorem dX11_figure_32 : decode cX11_figure 32 = .ok (.goto 4, 3) := by decide +kernel
theorem dX11_figure_35 : decode cX11_figure 35 = .ok (.iconst (-1), 1) := by decide +kernel
theorem dX11_figure_36 : decode cX11_figure 36 = .ok (.istore_n 2, 1) := by decide +kernel
theorem dX11_figure_37 : decode cX11_figure 37 = .ok (.iload_n 2, 1) := by decide +kernel
theorem dX11_figure_38 : decode cX11_figure 38 = .ok (.i2l, 1) := by decide +kernel
theorem dX11_figure_39 : decode cX11_figure 39 = .ok (.lconst 0, 1) := by decide +kernel
theorem dX11_figure_40 : decode cX11_figure 40 = .ok (.ldc2_w 110, 3) := by decide +kernel
theorem dX11_figure_43 : decode cX11_figure 43 = .ok (.invokestatic 95, 3) := by decide +kernel
theorem dX11_figure_46 : decode cX11_figure 46 = .ok (.ifCond .eq 11, 3) := by decide +kernel
theorem dX11_figure_49 : decode cX11_figure 49 = .ok (.iload_n 1, 1) := by decide +kernel
theorem dX11_figure_50 : decode cX11_figure 50 = .ok (.iload_n 2, 1) := by decide +kernel
theorem dX11_figure_51 : decode cX11_figure 51 = .ok (.ishr, 1) := by decide +kernel
theorem dX11_figure_52 : decode cX11_figure 52 = .ok (.iconst 1, 1) := by decide +kernel
theorem dX11_figure_53 : decode cX11_figure 53 = .ok (.iand, 1) := by decide +kernel
theorem dX11_figure_54 : decode cX11_figure 54 = .ok (.ifCond .ne 9, 3) := by decide +kernel
theorem dX11_figure_57 : decode cX11_figure 57 = .ok (.aload_n 0, 1) := by decide +kernel
theorem dX11_figure_58 : decode cX11_figure 58 = .ok (.invokevirtual 112, 3) := by decide +kernel
theorem dX11_figure_61 : decode cX11_figure 61 = .ok (.iconst 0, 1) := by decide +kernel
theorem dX11_figure_62 : decode cX11_figure 62 = .ok (.ireturn, 1) := by decide +kernel
theorem dX11_figure_63 : decode cX11_figure 63 = .ok (.aload_n 0, 1) := by decide +kernel
theorem dX11_figure_64 : decode cX11_figure 64 = .ok (.dup, 1) := by decide +kernel
theorem dX11_figure_65 : decode cX11_figure 65 = .ok (.getfield 107, 3) := by decide +kernel
theorem dX11_figure_68 : decode cX11_figure 68 = .ok (.iconst 1, 1) := by decide +kernel
theorem dX11_figure_69 : decode cX11_figure 69 = .ok (.iadd, 1) := by decide +kernel
theorem dX11_figure_70 : decode cX11_figure 70 = .ok (.putfield 107, 3) := by decide +kernel
theorem dX11_figure_73 : decode cX11_figure 73 = .ok (.iload_n 2, 1) := by decide +kernel
theorem dX11_figure_74 : decode cX11_figure 74 = .ok (.ireturn, 1) := by decide +kernel
set_option maxRecDepth 20000 in
theorem ggX11_either_X11_fail : GoodIn wsX11_either wsX11_fail := goodIn_r _ [9, 1, 2, 10, 11, 12, 13, 14, 15, 16, 17, 18, 19, 20, 21, 22, 23, 24, 25, 26, 27, 28, 29, 30, 31, 32, 33, 34, 35, 36, 37, 38, 39, 40, 41, 42, 43, 44, 45, 46, 47, 48, 49, 50, 51] (by decide +kernel) (by decide +kernel)
set_option maxRecDepth 20000 in
theorem gX11_either_X11_fail : GoodIn wsX11_either (wsV RX11 112 RX11 yX11_fail wsX11_fail) := goodIn_app (goodIn_of _ (by decide +kernel)) ggX11_either_X11_fail
theorem dX11_either_0 : decode cX11_either 0 = .ok (.aload_n 0, 1) := by decide +kernel
theorem dX11_either_1 : decode cX11_either 1 = .ok (.getfield 104, 3) := by decide +kernel
theorem dX11_either_4 : decode cX11_either 4 = .ok (.bipush (-9), 2) := by decide +kernel
theorem dX11_either_6 : decode cX11_either 6 = .ok (.if_icmp .ne 26, 3) := by decide +kernel
theorem dX11_either_9 : decode cX11_either 9 = .ok (.aload_n 0, 1) := by decide +kernel
theorem dX11_either_10 : decode cX11_either 10 = .ok (.getfield 107, 3) := by decide +kernel
theorem dX11_either_13 : decode cX11_either 13 = .ok (.aload_n 0, 1) := by decide +kernel
theorem dX11_either_14 : decode cX11_either 14 = .ok (.getfield 99, 3) := by decide +kernel
theorem dX11_either_17 : decode cX11_either 17 = .ok (.if_icmp .ge 15, 3) := by decide +kernel
theorem dX11_either_20 : decode cX11_either 20 = .ok (.aload_n 0, 1) := by decide +kernel
theorem dX11_either_21 : decode cX11_either 21 = .ok (.getfield 47, 3) := by decide +kernel
theorem dX11_either_24 : decode cX11_either 24 = .ok (.aload_n 0, 1) := by decide +kernel
theorem dX11_either_25 : decode cX11_either 25 = .ok (.getfield 107, 3) := by decide +kernel
theorem dX11_either_28 : decode cX11_either 28 = .ok (.iaload, 1) := by decide +kernel
theorem dX11_either_29 : decode cX11_either 29 = .ok (.goto 4, 3) := by decide +kernel
theorem dX11_either_32 : decode cX11_either 32 = .ok (.iconst (-1), 1) := by decide +kernel
theorem dX11_either_33 : decode cX11_either 33 = .ok (.istore_n 3, 1) := by decide +kernel
theorem dX11_either_34 : decode cX11_either 34 = .ok (.iload_n 3, 1) := by decide +kernel
theorem dX11_either_35 : decode cX11_either 35 = .ok (.iload_n 1, 1) := by decide +kernel
theorem dX11_either_36 : decode cX11_either 36 = .ok (.if_icmp .eq 14, 3) := by decide +kernel
theorem dX11_either_39 : decode cX11_either 39 = .ok (.iload_n 3, 1) := by decide +kernel
theorem dX11_either_40 : decode cX11_either 40 = .ok (.iload_n 2, 1) := by decide +kernel
theorem dX11_either_41 : decode cX11_either 41 = .ok (.if_icmp .eq 9, 3) := by decide +kernel
theorem dX11_either_44 : decode cX11_either 44 = .ok (.aload_n 0, 1) := by decide +kernel
theorem dX11_either_45 : decode cX11_either 45 = .ok (.invokevirtual 112, 3) := by decide +kernel
theorem dX11_either_48 : decode cX11_either 48 = .ok (.iconst 0, 1) := by decide +kernel
theorem dX11_either_49 : decode cX11_either 49 = .ok (.ireturn, 1) := by decide +kernel
theorem dX11_either_50 : decode cX11_either 50 = .ok (.aload_n 0, 1) := by decide +kernel
theorem dX11_either_51 : decode cX11_either 51 = .ok (.dup, 1) := by decide +kernel
theorem dX11_either_52 : decode cX11_either 52 = .ok (.getfield 107, 3) := by decide +kernel
theorem dX11_either_55 : decode cX11_either 55 = .ok (.iconst 1, 1) := by decide +kernel
theorem dX11_either_56 : decode cX11_either 56 = .ok (.iadd, 1) := by decide +kernel
theorem dX11_either_57 : decode cX11_either 57 = .ok (.putfield 107, 3) := by decide +kernel
theorem dX11_either_60 : decode cX11_either 60 = .ok (.iload_n 3, 1) := by decide +kernel
theorem dX11_either_61 : decode cX11_either 61 = .ok (.iload_n 1, 1) := by decide +kernel
theorem dX11_either_62 : decode cX11_either 62 = .ok (.if_icmp .ne 7, 3) := by decide +kernel
theorem dX11_either_65 : decode cX11_either 65 = .ok (.iconst 1, 1) := by decide +kernel
theorem dX11_either_66 : decode cX11_either 66 = .ok (.goto 4, 3) := by decide +kernel
theorem dX11_either_69 : decode cX11_either 69 = .ok (.iconst 0, 1) := by decide +kernel
theorem dX11_either_70 : decode cX11_either 70 = .ok (.ireturn, 1) := by decide +kernel
theorem dX11_add_0 : decode cX11_add 0 = .ok (.aload_n 0, 1) := by decide +kernel
theorem dX11_add_1 : decode cX11_add 1 = .ok (.getfield 7, 3) := by decide +kernel
theorem dX11_add_4 : decode cX11_add 4 = .ok (.aload_n 0, 1) := by decide +kernel
theorem dX11_add_5 : decode cX11_add 5 = .ok (.getfield 115, 3) := by decide +kernel
theorem dX11_add_8 : decode cX11_add 8 = .ok (.iload_n 1, 1) := by decide +kernel
theorem dX11_add_9 : decode cX11_add 9 = .ok (.bastore, 1) := by decide +kernel
theorem dX11_add_10 : decode cX11_add 10 = .ok (.aload_n 0, 1) := by decide +kernel
theorem dX11_add_11 : decode cX11_add 11 = .ok (.getfield 13, 3) := by decide +kernel
theorem dX11_add_14 : decode cX11_add 14 = .ok (.aload_n 0, 1) := by decide +kernel
theorem dX11_add_15 : decode cX11_add 15 = .ok (.getfield 115, 3) := by decide +kernel
theorem dX11_add_18 : decode cX11_add 18 = .ok (.iload_n 2, 1) := by decide +kernel
theorem dX11_add_19 : decode cX11_add 19 = .ok (.iastore, 1) := by decide +kernel
theorem dX11_add_20 : decode cX11_add 20 = .ok (.aload_n 0, 1) := by decide +kernel
theorem dX11_add_21 : decode cX11_add 21 = .ok (.getfield 17, 3) := by decide +kernel
theorem dX11_add_24 : decode cX11_add 24 = .ok (.aload_n 0, 1) := by decide +kernel
theorem dX11_add_25 : decode cX11_add 25 = .ok (.getfield 115, 3) := by decide +kernel
theorem dX11_add_28 : decode cX11_add 28 = .ok (.iconst 0, 1) := by decide +kernel
theorem dX11_add_29 : decode cX11_add 29 = .ok (.iastore, 1) := by decide +kernel
theorem dX11_add_30 : decode cX11_add 30 = .ok (.aload_n 0, 1) := by decide +kernel
theorem dX11_add_31 : decode cX11_add 31 = .ok (.getfield 20, 3) := by decide +kernel
theorem dX11_add_34 : decode cX11_add 34 = .ok (.aload_n 0, 1) := by decide +kernel
theorem dX11_add_35 : decode cX11_add 35 = .ok (.getfield 115, 3) := by decide +kernel
theorem dX11_add_38 : decode cX11_add 38 = .ok (.iconst 0, 1) := by decide +kernel
theorem dX11_add_39 : decode cX11_add 39 = .ok (.iastore, 1) := by decide +kernel
theorem dX11_add_40 : decode cX11_add 40 = .ok (.iconst 0, 1) := by decide +kernel
theorem dX11_add_41 : decode cX11_add 41 = .ok (.istore_n 3, 1) := by decide +kernel
theorem dX11_add_42 : decode cX11_add 42 = .ok (.iload_n 3, 1) := by decide +kernel
theorem dX11_add_43 : decode cX11_add 43 = .ok (.bipush 7, 2) := by decide +kernel
theorem dX11_add_45 : decode cX11_add 45 = .ok (.if_icmp .ge 24, 3) := by decide +kernel
theorem dX11_add_48 : decode cX11_add 48 = .ok (.aload_n 0, 1) := by decide +kernel
theorem dX11_add_49 : decode cX11_add 49 = .ok (.getfield 23, 3) := by decide +kernel
theorem dX11_add_52 : decode cX11_add 52 = .ok (.bipush 7, 2) := by decide +kernel
theorem dX11_add_54 : decode cX11_add 54 = .ok (.aload_n 0, 1) := by decide +kernel
theorem dX11_add_55 : decode cX11_add 55 = .ok (.getfield 115, 3) := by decide +kernel
theorem dX11_add_58 : decode cX11_add 58 = .ok (.imul, 1) := by decide +kernel
theorem dX11_add_59 : decode cX11_add 59 = .ok (.iload_n 3, 1) := by decide +kernel
theorem dX11_add_60 : decode cX11_add 60 = .ok (.iadd, 1) := by decide +kernel
theorem dX11_add_61 : decode cX11_add 61 = .ok (.iconst 0, 1) := by decide +kernel
theorem dX11_add_62 : decode cX11_add 62 = .ok (.iastore, 1) := by decide +kernel
theorem dX11_add_63 : decode cX11_add 63 = .ok (.iinc 3 1, 3) := by decide +kernel
theorem dX11_add_66 : decode cX11_add 66 = .ok (.goto (-24), 3) := by decide +kernel
theorem dX11_add_69 : decode cX11_add 69 = .ok (.aload_n 0, 1) := by decide +kernel
theorem dX11_add_70 : decode cX11_add 70 = .ok (.dup, 1) := by decide +kernel
theorem dX11_add_71 : decode cX11_add 71 = .ok (.getfield 115, 3) := by decide +kernel
theorem dX11_add_74 : decode cX11_add 74 = .ok (.iconst 1, 1) := by decide +kernel
theorem dX11_add_75 : decode cX11_add 75 = .ok (.iadd, 1) := by decide +kernel
theorem dX11_add_76 : decode cX11_add 76 = .ok (.putfield 115, 3) := by decide +kernel
theorem dX11_add_79 : decode cX11_add 79 = .ok (.return_, 1) := by decide +kernel
theorem dX11_open_0 : decode cX11_open 0 = .ok (.iconst 0, 1) := by decide +kernel
theorem dX11_open_1 : decode cX11_open 1 = .ok (.istore_n 3, 1) := by decide +kernel
theorem dX11_open_2 : decode cX11_open 2 = .ok (.iconst 0, 1) := by decide +kernel
theorem dX11_open_3 : decode cX11_open 3 = .ok (.istore 4, 2) := by decide +kernel
theorem dX11_open_5 : decode cX11_open 5 = .ok (.iload 4, 2) := by decide +kernel
theorem dX11_open_7 : decode cX11_open 7 = .ok (.aload_n 0, 1) := by decide +kernel
theorem dX11_open_8 : decode cX11_open 8 = .ok (.getfield 115, 3) := by decide +kernel
theorem dX11_open_11 : decode cX11_open 11 = .ok (.if_icmp .ge 86, 3) := by decide +kernel
theorem dX11_open_14 : decode cX11_open 14 = .ok (.iload_n 2, 1) := by decide +kernel
theorem dX11_open_15 : decode cX11_open 15 = .ok (.ifCond .eq 26, 3) := by decide +kernel
theorem dX11_open_18 : decode cX11_open 18 = .ok (.aload_n 0, 1) := by decide +kernel
theorem dX11_open_19 : decode cX11_open 19 = .ok (.getfield 23, 3) := by decide +kernel
theorem dX11_open_22 : decode cX11_open 22 = .ok (.bipush 7, 2) := by decide +kernel
theorem dX11_open_24 : decode cX11_open 24 = .ok (.iload_n 1, 1) := by decide +kernel
theorem dX11_open_25 : decode cX11_open 25 = .ok (.imul, 1) := by decide +kernel
theorem dX11_open_26 : decode cX11_open 26 = .ok (.iload 4, 2) := by decide +kernel
theorem dX11_open_28 : decode cX11_open 28 = .ok (.iadd, 1) := by decide +kernel
theorem dX11_open_29 : decode cX11_open 29 = .ok (.iaload, 1) := by decide +kernel
theorem dX11_open_30 : decode cX11_open 30 = .ok (.ifCond .ne 7, 3) := by decide +kernel
theorem dX11_open_33 : decode cX11_open 33 = .ok (.iconst 1, 1) := by decide +kernel
theorem dX11_open_34 : decode cX11_open 34 = .ok (.goto 33, 3) := by decide +kernel
theorem dX11_open_37 : decode cX11_open 37 = .ok (.iconst 0, 1) := by decide +kernel
theorem dX11_open_38 : decode cX11_open 38 = .ok (.goto 29, 3) := by decide +kernel
theorem dX11_open_41 : decode cX11_open 41 = .ok (.aload_n 0, 1) := by decide +kernel
theorem dX11_open_42 : decode cX11_open 42 = .ok (.getfield 17, 3) := by decide +kernel
theorem dX11_open_45 : decode cX11_open 45 = .ok (.iload_n 1, 1) := by decide +kernel
theorem dX11_open_46 : decode cX11_open 46 = .ok (.iaload, 1) := by decide +kernel
theorem dX11_open_47 : decode cX11_open 47 = .ok (.aload_n 0, 1) := by decide +kernel
theorem dX11_open_48 : decode cX11_open 48 = .ok (.getfield 20, 3) := by decide +kernel
theorem dX11_open_51 : decode cX11_open 51 = .ok (.iload_n 1, 1) := by decide +kernel
theorem dX11_open_52 : decode cX11_open 52 = .ok (.iaload, 1) := by decide +kernel
theorem dX11_open_53 : decode cX11_open 53 = .ok (.ior, 1) := by decide +kernel
theorem dX11_open_54 : decode cX11_open 54 = .ok (.iload 4, 2) := by decide +kernel
theorem dX11_open_56 : decode cX11_open 56 = .ok (.ishr, 1) := by decide +kernel
theorem dX11_open_57 : decode cX11_open 57 = .ok (.iconst 1, 1) := by decide +kernel
theorem dX11_open_58 : decode cX11_open 58 = .ok (.iand, 1) := by decide +kernel
theorem dX11_open_59 : decode cX11_open 59 = .ok (.ifCond .ne 7, 3) := by decide +kernel
theorem dX11_open_62 : decode cX11_open 62 = .ok (.iconst 1, 1) := by decide +kernel
theorem dX11_open_63 : decode cX11_open 63 = .ok (.goto 4, 3) := by decide +kernel
theorem dX11_open_66 : decode cX11_open 66 = .ok (.iconst 0, 1) := by decide +kernel
theorem dX11_open_67 : decode cX11_open 67 = .ok (.istore 5, 2) := by decide +kernel
theorem dX11_open_69 : decode cX11_open 69 = .ok (.iload_n 3, 1) := by decide +kernel
theorem dX11_open_70 : decode cX11_open 70 = .ok (.iload 4, 2) := by decide +kernel
theorem dX11_open_72 : decode cX11_open 72 = .ok (.iload_n 1, 1) := by decide +kernel
theorem dX11_open_73 : decode cX11_open 73 = .ok (.if_icmp .eq 15, 3) := by decide +kernel
theorem dX11_open_76 : decode cX11_open 76 = .ok (.iload 5, 2) := by decide +kernel
theorem dX11_open_78 : decode cX11_open 78 = .ok (.ifCond .eq 10, 3) := by decide +kernel
theorem dX11_open_81 : decode cX11_open 81 = .ok (.iconst 1, 1) := by decide +kernel
theorem dX11_open_82 : decode cX11_open 82 = .ok (.iload 4, 2) := by decide +kernel
theorem dX11_open_84 : decode cX11_open 84 = .ok (.ishl, 1) := by decide +kernel
theorem dX11_open_85 : decode cX11_open 85 = .ok (.goto 4, 3) := by decide +kernel
theorem dX11_open_88 : decode cX11_open 88 = .ok (.iconst 0, 1) := by decide +kernel
theorem dX11_open_89 : decode cX11_open 89 = .ok (.ior, 1) := by decide +kernel
theorem dX11_open_90 : decode cX11_open 90 = .ok (.istore_n 3, 1) := by decide +kernel
theorem dX11_open_91 : decode cX11_open 91 = .ok (.iinc 4 1, 3) := by decide +kernel
theorem dX11_open_94 : decode cX11_open 94 = .ok (.goto (-89), 3) := by decide +kernel
theorem dX11_open_97 : decode cX11_open 97 = .ok (.iload_n 3, 1) := by decide +kernel
theorem dX11_open_98 : decode cX11_open 98 = .ok (.ireturn, 1) := by decide +kernel
set_option maxRecDepth 20000 in
theorem ggX11_begins_X11_open : GoodIn wsX11_begins wsX11_open := goodIn_r _ [6, 1, 7, 8, 9, 10, 11, 12, 13, 14, 15, 16, 17, 18, 19, 20, 21, 22, 23, 24, 25, 26, 27, 28, 29, 30, 31, 32, 33, 34, 35, 36, 37, 38, 39, 40, 41, 42, 43, 44, 45, 46, 47, 48, 49, 50, 51] (by decide +kernel) (by decide +kernel)
set_option maxRecDepth 20000 in
theorem gX11_begins_X11_open : GoodIn wsX11_begins (wsV RX11 118 RX11 yX11_open wsX11_open) := goodIn_app (goodIn_of _ (by decide +kernel)) ggX11_begins_X11_open
theorem dX11_begins_0 : decode cX11_begins 0 = .ok (.iconst 0, 1) := by decide +kernel
theorem dX11_begins_1 : decode cX11_begins 1 = .ok (.istore_n 2, 1) := by decide +kernel
theorem dX11_begins_2 : decode cX11_begins 2 = .ok (.iconst 0, 1) := by decide +kernel
theorem dX11_begins_3 : decode cX11_begins 3 = .ok (.istore_n 3, 1) := by decide +kernel
theorem dX11_begins_4 : decode cX11_begins 4 = .ok (.iload_n 3, 1) := by decide +kernel
theorem dX11_begins_5 : decode cX11_begins 5 = .ok (.aload_n 0, 1) := by decide +kernel
theorem dX11_begins_6 : decode cX11_begins 6 = .ok (.getfield 115, 3) := by decide +kernel
theorem dX11_begins_9 : decode cX11_begins 9 = .ok (.if_icmp .ge 28, 3) := by decide +kernel
theorem dX11_begins_12 : decode cX11_begins 12 = .ok (.iload_n 2, 1) := by decide +kernel
theorem dX11_begins_13 : decode cX11_begins 13 = .ok (.aload_n 0, 1) := by decide +kernel
theorem dX11_begins_14 : decode cX11_begins 14 = .ok (.iload_n 3, 1) := by decide +kernel
theorem dX11_begins_15 : decode cX11_begins 15 = .ok (.iload_n 1, 1) := by decide +kernel
theorem dX11_begins_16 : decode cX11_begins 16 = .ok (.invokevirtual 118, 3) := by decide +kernel
theorem dX11_begins_19 : decode cX11_begins 19 = .ok (.ifCond .eq 9, 3) := by decide +kernel
theorem dX11_begins_22 : decode cX11_begins 22 = .ok (.iconst 1, 1) := by decide +kernel
theorem dX11_begins_23 : decode cX11_begins 23 = .ok (.iload_n 3, 1) := by decide +kernel
theorem dX11_begins_24 : decode cX11_begins 24 = .ok (.ishl, 1) := by decide +kernel
theorem dX11_begins_25 : decode cX11_begins 25 = .ok (.goto 4, 3) := by decide +kernel
theorem dX11_begins_28 : decode cX11_begins 28 = .ok (.iconst 0, 1) := by decide +kernel
theorem dX11_begins_29 : decode cX11_begins 29 = .ok (.ior, 1) := by decide +kernel
theorem dX11_begins_30 : decode cX11_begins 30 = .ok (.istore_n 2, 1) := by decide +kernel
theorem dX11_begins_31 : decode cX11_begins 31 = .ok (.iinc 3 1, 3) := by decide +kernel
theorem dX11_begins_34 : decode cX11_begins 34 = .ok (.goto (-30), 3) := by decide +kernel
theorem dX11_begins_37 : decode cX11_begins 37 = .ok (.iload_n 2, 1) := by decide +kernel
theorem dX11_begins_38 : decode cX11_begins 38 = .ok (.ireturn, 1) := by decide +kernel
set_option maxRecDepth 20000 in
theorem ggX11_readText_X11_either : GoodIn wsX11_readText wsX11_either := goodIn_r _ [13, 2, 1, 4, 5, 14, 15, 16, 12, 17, 51, 52, 53, 54, 55, 56, 57, 58, 59, 60, 61, 62, 63, 64, 65, 66, 67, 68, 69, 70, 71, 72, 73, 74, 75, 76, 77, 78, 79, 80, 81, 82, 83, 84, 85, 86, 87, 88, 89, 90, 91, 92] (by decide +kernel) (by decide +kernel)
set_option maxRecDepth 20000 in
theorem gX11_readText_X11_either : GoodIn wsX11_readText (wsV RX11 122 RX11 yX11_either wsX11_either) := goodIn_app (goodIn_of _ (by decide +kernel)) ggX11_readText_X11_either
set_option maxRecDepth 20000 in
theorem ggX11_readText_X11_figure : GoodIn wsX11_readText wsX11_figure := goodIn_r _ [21, 2, 1, 4, 5, 22, 23, 24, 12, 25, 14, 15, 16, 17, 51, 52, 53, 54, 55, 56, 57, 58, 59, 60, 61, 62, 63, 64, 65, 66, 67, 68, 69, 70, 71, 72, 73, 74, 75, 76, 77, 78, 79, 80, 81, 82, 83, 84, 85, 86, 87, 88, 89, 90, 91, 92] (by decide +kernel) (by decide +kernel)
set_option maxRecDepth 20000 in
theorem gX11_readText_X11_figure : GoodIn wsX11_readText (wsV RX11 130 RX11 yX11_figure wsX11_figure) := goodIn_app (goodIn_of _ (by decide +kernel)) ggX11_readText_X11_figure
set_option maxRecDepth 20000 in
theorem ggX11_readText_X11_readPart : GoodIn wsX11_readText wsX11_readPart := goodIn_r _ [29, 3, 1, 2, 30, 31, 32, 33, 12, 34, 35, 36, 37, 38, 9, 10, 11, 13, 4, 5, 14, 15, 16, 17, 39, 40, 41, 42, 43, 44, 45, 46, 47, 48, 49, 50, 18, 19, 20, 21, 22, 23, 24, 25, 51, 52, 53, 54, 55, 56, 57, 58, 59, 60, 61, 62, 63, 64, 65, 66, 67, 68, 69, 70, 71, 72, 73, 74, 75, 76, 77, 78, 79, 80, 81, 82, 83, 84, 85, 86, 87, 88, 89, 90, 91, 92] (by decide +kernel) (by decide +kernel)
set_option maxRecDepth 20000 in
theorem gX11_readText_X11_readPart : GoodIn wsX11_readText (wsV RX11 140 RX11 yX11_readPart wsX11_readPart) := goodIn_app (goodIn_of _ (by decide +kernel)) ggX11_readText_X11_readPart
theorem dX11_readText_0 : decode cX11_readText 0 = .ok (.aload_n 0, 1) := by decide +kernel
theorem dX11_readText_1 : decode cX11_readText 1 = .ok (.iconst 0, 1) := by decide +kernel
theorem dX11_readText_2 : decode cX11_readText 2 = .ok (.putfield 107, 3) := by decide +kernel
theorem dX11_readText_5 : decode cX11_readText 5 = .ok (.aload_n 0, 1) := by decide +kernel
theorem dX11_readText_6 : decode cX11_readText 6 = .ok (.bipush (-9), 2) := by decide +kernel
theorem dX11_readText_8 : decode cX11_readText 8 = .ok (.putfield 104, 3) := by decide +kernel
theorem dX11_readText_11 : decode cX11_readText 11 = .ok (.aload_n 0, 1) := by decide +kernel
theorem dX11_readText_12 : decode cX11_readText 12 = .ok (.iconst 0, 1) := by decide +kernel
theorem dX11_readText_13 : decode cX11_readText 13 = .ok (.putfield 115, 3) := by decide +kernel
theorem dX11_readText_16 : decode cX11_readText 16 = .ok (.aload_n 0, 1) := by decide +kernel
theorem dX11_readText_17 : decode cX11_readText 17 = .ok (.getfield 99, 3) := by decide +kernel
theorem dX11_readText_20 : decode cX11_readText 20 = .ok (.ifCond .eq 14, 3) := by decide +kernel
theorem dX11_readText_23 : decode cX11_readText 23 = .ok (.aload_n 0, 1) := by decide +kernel
theorem dX11_readText_24 : decode cX11_readText 24 = .ok (.getfield 47, 3) := by decide +kernel
theorem dX11_readText_27 : decode cX11_readText 27 = .ok (.iconst 0, 1) := by decide +kernel
theorem dX11_readText_28 : decode cX11_readText 28 = .ok (.iaload, 1) := by decide +kernel
theorem dX11_readText_29 : decode cX11_readText 29 = .ok (.bipush 77, 2) := by decide +kernel
theorem dX11_readText_31 : decode cX11_readText 31 = .ok (.if_icmp .eq 5, 3) := by decide +kernel
theorem dX11_readText_34 : decode cX11_readText 34 = .ok (.iconst 0, 1) := by decide +kernel
theorem dX11_readText_35 : decode cX11_readText 35 = .ok (.ireturn, 1) := by decide +kernel
theorem dX11_readText_36 : decode cX11_readText 36 = .ok (.aload_n 0, 1) := by decide +kernel
theorem dX11_readText_37 : decode cX11_readText 37 = .ok (.iconst 1, 1) := by decide +kernel
theorem dX11_readText_38 : decode cX11_readText 38 = .ok (.putfield 107, 3) := by decide +kernel
theorem dX11_readText_41 : decode cX11_readText 41 = .ok (.aload_n 0, 1) := by decide +kernel
theorem dX11_readText_42 : decode cX11_readText 42 = .ok (.aload_n 0, 1) := by decide +kernel
theorem dX11_readText_43 : decode cX11_readText 43 = .ok (.bipush 114, 2) := by decide +kernel
theorem dX11_readText_45 : decode cX11_readText 45 = .ok (.bipush 108, 2) := by decide +kernel
theorem dX11_readText_47 : decode cX11_readText 47 = .ok (.invokevirtual 122, 3) := by decide +kernel
theorem dX11_readText_50 : decode cX11_readText 50 = .ok (.putfield 126, 3) := by decide +kernel
theorem dX11_readText_53 : decode cX11_readText 53 = .ok (.aload_n 0, 1) := by decide +kernel
theorem dX11_readText_54 : decode cX11_readText 54 = .ok (.aload_n 0, 1) := by decide +kernel
theorem dX11_readText_55 : decode cX11_readText 55 = .ok (.iconst 3, 1) := by decide +kernel
theorem dX11_readText_56 : decode cX11_readText 56 = .ok (.invokevirtual 130, 3) := by decide +kernel
theorem dX11_readText_59 : decode cX11_readText 59 = .ok (.iconst 1, 1) := by decide +kernel
theorem dX11_readText_60 : decode cX11_readText 60 = .ok (.if_icmp .ne 7, 3) := by decide +kernel
theorem dX11_readText_63 : decode cX11_readText 63 = .ok (.iconst 1, 1) := by decide +kernel
theorem dX11_readText_64 : decode cX11_readText 64 = .ok (.goto 4, 3) := by decide +kernel
theorem dX11_readText_67 : decode cX11_readText 67 = .ok (.iconst 0, 1) := by decide +kernel
theorem dX11_readText_68 : decode cX11_readText 68 = .ok (.putfield 134, 3) := by decide +kernel
theorem dX11_readText_71 : decode cX11_readText 71 = .ok (.aload_n 0, 1) := by decide +kernel
theorem dX11_readText_72 : decode cX11_readText 72 = .ok (.aload_n 0, 1) := by decide +kernel
theorem dX11_readText_73 : decode cX11_readText 73 = .ok (.iconst 3, 1) := by decide +kernel
theorem dX11_readText_74 : decode cX11_readText 74 = .ok (.invokevirtual 130, 3) := by decide +kernel
theorem dX11_readText_77 : decode cX11_readText 77 = .ok (.iconst 1, 1) := by decide +kernel
theorem dX11_readText_78 : decode cX11_readText 78 = .ok (.if_icmp .ne 7, 3) := by decide +kernel
theorem dX11_readText_81 : decode cX11_readText 81 = .ok (.iconst 1, 1) := by decide +kernel
theorem dX11_readText_82 : decode cX11_readText 82 = .ok (.goto 4, 3) := by decide +kernel
theorem dX11_readText_85 : decode cX11_readText 85 = .ok (.iconst 0, 1) := by decide +kernel
theorem dX11_readText_86 : decode cX11_readText 86 = .ok (.putfield 137, 3) := by decide +kernel
theorem dX11_readText_89 : decode cX11_readText 89 = .ok (.aload_n 0, 1) := by decide +kernel
theorem dX11_readText_90 : decode cX11_readText 90 = .ok (.getfield 104, 3) := by decide +kernel
theorem dX11_readText_93 : decode cX11_readText 93 = .ok (.bipush (-9), 2) := by decide +kernel
theorem dX11_readText_95 : decode cX11_readText 95 = .ok (.if_icmp .ne 30, 3) := by decide +kernel
theorem dX11_readText_98 : decode cX11_readText 98 = .ok (.aload_n 0, 1) := by decide +kernel
theorem dX11_readText_99 : decode cX11_readText 99 = .ok (.getfield 107, 3) := by decide +kernel
theorem dX11_readText_102 : decode cX11_readText 102 = .ok (.aload_n 0, 1) := by decide +kernel
theorem dX11_readText_103 : decode cX11_readText 103 = .ok (.getfield 99, 3) := by decide +kernel
theorem dX11_readText_106 : decode cX11_readText 106 = .ok (.if_icmp .ge 19, 3) := by decide +kernel
theorem dX11_readText_109 : decode cX11_readText 109 = .ok (.aload_n 0, 1) := by decide +kernel
theorem dX11_readText_110 : decode cX11_readText 110 = .ok (.aload_n 0, 1) := by decide +kernel
theorem dX11_readText_111 : decode cX11_readText 111 = .ok (.getfield 47, 3) := by decide +kernel
theorem dX11_readText_114 : decode cX11_readText 114 = .ok (.aload_n 0, 1) := by decide +kernel
theorem dX11_readText_115 : decode cX11_readText 115 = .ok (.getfield 107, 3) := by decide +kernel
theorem dX11_readText_118 : decode cX11_readText 118 = .ok (.iaload, 1) := by decide +kernel
theorem dX11_readText_119 : decode cX11_readText 119 = .ok (.invokevirtual 140, 3) := by decide +kernel
theorem dX11_readText_122 : decode cX11_readText 122 = .ok (.goto (-33), 3) := by decide +kernel
theorem dX11_readText_125 : decode cX11_readText 125 = .ok (.aload_n 0, 1) := by decide +kernel
theorem dX11_readText_126 : decode cX11_readText 126 = .ok (.getfield 104, 3) := by decide +kernel
theorem dX11_readText_129 : decode cX11_readText 129 = .ok (.ireturn, 1) := by decide +kernel
set_option maxRecDepth 20000 in
theorem ggX11_readPart_X11_add : GoodIn wsX11_readPart wsX11_add := goodIn_r _ [9, 10, 1, 11, 12, 13, 4, 44, 45, 46, 47, 48, 49, 50, 51, 52, 53, 54, 55, 56, 57, 58, 59, 60, 61, 62, 63, 64, 65, 66, 67, 68, 69, 70, 71, 72, 73, 74, 75, 76, 77, 78, 79, 80, 81, 82, 83, 84, 85] (by decide +kernel) (by decide +kernel)
set_option maxRecDepth 20000 in
theorem gX11_readPart_X11_add : GoodIn wsX11_readPart (wsV RX11 144 RX11 yX11_add wsX11_add) := goodIn_app (goodIn_of _ (by decide +kernel)) ggX11_readPart_X11_add
set_option maxRecDepth 20000 in
theorem ggX11_readPart_X11_either : GoodIn wsX11_readPart wsX11_either := goodIn_r _ [17, 3, 2, 18, 19, 20, 21, 22, 8, 23, 44, 45, 46, 47, 48, 49, 50, 51, 52, 53, 54, 55, 56, 57, 58, 59, 60, 61, 62, 63, 64, 65, 66, 67, 68, 69, 70, 71, 72, 73, 74, 75, 76, 77, 78, 79, 80, 81, 82, 83, 84, 85] (by decide +kernel) (by decide +kernel)
set_option maxRecDepth 20000 in
theorem gX11_readPart_X11_either : GoodIn wsX11_readPart (wsV RX11 122 RX11 yX11_either wsX11_either) := goodIn_app (goodIn_of _ (by decide +kernel)) ggX11_readPart_X11_either
set_option maxRecDepth 20000 in
theorem ggX11_readPart_X11_begins : GoodIn wsX11_readPart wsX11_begins := goodIn_r _ [27, 1, 28, 29, 30, 8, 31, 4, 12, 13, 44, 45, 46, 47, 48, 49, 50, 51, 52, 53, 54, 55, 56, 57, 58, 59, 60, 61, 62, 63, 64, 65, 66, 67, 68, 69, 70, 71, 72, 73, 74, 75, 76, 77, 78, 79, 80, 81, 82, 83, 84, 85] (by decide +kernel) (by decide +kernel)
set_option maxRecDepth 20000 in
theorem gX11_readPart_X11_begins : GoodIn wsX11_readPart (wsV RX11 148 RX11 yX11_begins wsX11_begins) := goodIn_app (goodIn_of _ (by decide +kernel)) ggX11_readPart_X11_begins
set_option maxRecDepth 20000 in
theorem ggX11_readPart_X11_readPair : GoodIn wsX11_readPart wsX11_readPair := goodIn_r _ [35, 2, 3, 12, 13, 24, 25, 26, 8, 27, 1, 28, 29, 30, 31, 4, 36, 37, 38, 39, 18, 19, 40, 41, 42, 43, 20, 21, 22, 23, 44, 45, 46, 47, 48, 49, 50, 51, 52, 53, 54, 55, 56, 57, 58, 59, 60, 61, 62, 63, 64, 65, 66, 67, 68, 69, 70, 71, 72, 73, 74, 75, 76, 77, 78, 79, 80, 81, 82, 83, 84, 85] (by decide +kernel) (by decide +kernel)
set_option maxRecDepth 20000 in
theorem gX11_readPart_X11_readPair : GoodIn wsX11_readPart (wsV RX11 152 RX11 yX11_readPair wsX11_readPair) := goodIn_app (goodIn_of _ (by decide +kernel)) ggX11_readPart_X11_readPair
set_option maxRecDepth 20000 in
theorem ggX11_readPart_X11_figure : GoodIn wsX11_readPart wsX11_figure := goodIn_r _ [39, 3, 2, 18, 19, 40, 41, 42, 8, 43, 20, 21, 22, 23, 44, 45, 46, 47, 48, 49, 50, 51, 52, 53, 54, 55, 56, 57, 58, 59, 60, 61, 62, 63, 64, 65, 66, 67, 68, 69, 70, 71, 72, 73, 74, 75, 76, 77, 78, 79, 80, 81, 82, 83, 84, 85] (by decide +kernel) (by decide +kernel)
set_option maxRecDepth 20000 in
theorem gX11_readPart_X11_figure : GoodIn wsX11_readPart (wsV RX11 130 RX11 yX11_figure wsX11_figure) := goodIn_app (goodIn_of _ (by decide +kernel)) ggX11_readPart_X11_figure
set_option maxRecDepth 20000 in
theorem ggX11_readPart_X11_open : GoodIn wsX11_readPart wsX11_open := goodIn_r _ [31, 1, 4, 12, 13, 44, 45, 46, 47, 48, 49, 50, 51, 52, 53, 54, 55, 56, 57, 58, 59, 60, 61, 62, 63, 64, 65, 66, 67, 68, 69, 70, 71, 72, 73, 74, 75, 76, 77, 78, 79, 80, 81, 82, 83, 84, 85] (by decide +kernel) (by decide +kernel)
set_option maxRecDepth 20000 in
theorem gX11_readPart_X11_open : GoodIn wsX11_readPart (wsV RX11 118 RX11 yX11_open wsX11_open) := goodIn_app (goodIn_of _ (by decide +kernel)) ggX11_readPart_X11_open
set_option maxRecDepth 20000 in
theorem ggX11_readPart_X11_fail : GoodIn wsX11_readPart wsX11_fail := goodIn_r _ [23, 3, 2, 44, 45, 46, 47, 48, 49, 50, 51, 52, 53, 54, 55, 56, 57, 58, 59, 60, 61, 62, 63, 64, 65, 66, 67, 68, 69, 70, 71, 72, 73, 74, 75, 76, 77, 78, 79, 80, 81, 82, 83, 84, 85] (by decide +kernel) (by decide +kernel)
set_option maxRecDepth 20000 in
theorem gX11_readPart_X11_fail : GoodIn wsX11_readPart (wsV RX11 112 RX11 yX11_fail wsX11_fail) := goodIn_app (goodIn_of _ (by decide +kernel)) ggX11_readPart_X11_fail
theorem dX11_readPart_0 : decode cX11_readPart 0 = .ok (.iload_n 1, 1) := by decide +kernel
theorem dX11_readPart_1 : decode cX11_readPart 1 = .ok (.bipush 67, 2) := by decide +kernel
theorem dX11_readPart_3 : decode cX11_readPart 3 = .ok (.if_icmp .ne 47, 3) := by decide +kernel
theorem dX11_readPart_6 : decode cX11_readPart 6 = .ok (.aload_n 0, 1) := by decide +kernel
theorem dX11_readPart_7 : decode cX11_readPart 7 = .ok (.getfield 115, 3) := by decide +kernel
theorem dX11_readPart_10 : decode cX11_readPart 10 = .ok (.bipush 6, 2) := by decide +kernel
theorem dX11_readPart_12 : decode cX11_readPart 12 = .ok (.if_icmp .ge 38, 3) := by decide +kernel
theorem dX11_readPart_15 : decode cX11_readPart 15 = .ok (.aload_n 0, 1) := by decide +kernel
theorem dX11_readPart_16 : decode cX11_readPart 16 = .ok (.dup, 1) := by decide +kernel
theorem dX11_readPart_17 : decode cX11_readPart 17 = .ok (.getfield 107, 3) := by decide +kernel
theorem dX11_readPart_20 : decode cX11_readPart 20 = .ok (.iconst 1, 1) := by decide +kernel
theorem dX11_readPart_21 : decode cX11_readPart 21 = .ok (.iadd, 1) := by decide +kernel
theorem dX11_readPart_22 : decode cX11_readPart 22 = .ok (.putfield 107, 3) := by decide +kernel
theorem dX11_readPart_25 : decode cX11_readPart 25 = .ok (.aload_n 0, 1) := by decide +kernel
theorem dX11_readPart_26 : decode cX11_readPart 26 = .ok (.iconst 1, 1) := by decide +kernel
theorem dX11_readPart_27 : decode cX11_readPart 27 = .ok (.aload_n 0, 1) := by decide +kernel
theorem dX11_readPart_28 : decode cX11_readPart 28 = .ok (.getfield 115, 3) := by decide +kernel
theorem dX11_readPart_31 : decode cX11_readPart 31 = .ok (.iconst 1, 1) := by decide +kernel
theorem dX11_readPart_32 : decode cX11_readPart 32 = .ok (.iadd, 1) := by decide +kernel
theorem dX11_readPart_33 : decode cX11_readPart 33 = .ok (.invokevirtual 144, 3) := by decide +kernel
theorem dX11_readPart_36 : decode cX11_readPart 36 = .ok (.aload_n 0, 1) := by decide +kernel
theorem dX11_readPart_37 : decode cX11_readPart 37 = .ok (.iconst 0, 1) := by decide +kernel
theorem dX11_readPart_38 : decode cX11_readPart 38 = .ok (.aload_n 0, 1) := by decide +kernel
theorem dX11_readPart_39 : decode cX11_readPart 39 = .ok (.getfield 115, 3) := by decide +kernel
theorem dX11_readPart_42 : decode cX11_readPart 42 = .ok (.iconst 1, 1) := by decide +kernel
theorem dX11_readPart_43 : decode cX11_readPart 43 = .ok (.isub, 1) := by decide +kernel
theorem dX11_readPart_44 : decode cX11_readPart 44 = .ok (.invokevirtual 144, 3) := by decide +kernel
theorem dX11_readPart_47 : decode cX11_readPart 47 = .ok (.goto 177, 3) := by decide +kernel
theorem dX11_readPart_50 : decode cX11_readPart 50 = .ok (.iload_n 1, 1) := by decide +kernel
theorem dX11_readPart_51 : decode cX11_readPart 51 = .ok (.bipush 83, 2) := by decide +kernel
theorem dX11_readPart_53 : decode cX11_readPart 53 = .ok (.if_icmp .ne 50, 3) := by decide +kernel
theorem dX11_readPart_56 : decode cX11_readPart 56 = .ok (.aload_n 0, 1) := by decide +kernel
theorem dX11_readPart_57 : decode cX11_readPart 57 = .ok (.getfield 115, 3) := by decide +kernel
theorem dX11_readPart_60 : decode cX11_readPart 60 = .ok (.bipush 7, 2) := by decide +kernel
theorem dX11_readPart_62 : decode cX11_readPart 62 = .ok (.if_icmp .ge 41, 3) := by decide +kernel
theorem dX11_readPart_65 : decode cX11_readPart 65 = .ok (.aload_n 0, 1) := by decide +kernel
theorem dX11_readPart_66 : decode cX11_readPart 66 = .ok (.dup, 1) := by decide +kernel
theorem dX11_readPart_67 : decode cX11_readPart 67 = .ok (.getfield 107, 3) := by decide +kernel
theorem dX11_readPart_70 : decode cX11_readPart 70 = .ok (.iconst 1, 1) := by decide +kernel
theorem dX11_readPart_71 : decode cX11_readPart 71 = .ok (.iadd, 1) := by decide +kernel
theorem dX11_readPart_72 : decode cX11_readPart 72 = .ok (.putfield 107, 3) := by decide +kernel
theorem dX11_readPart_75 : decode cX11_readPart 75 = .ok (.aload_n 0, 1) := by decide +kernel
theorem dX11_readPart_76 : decode cX11_readPart 76 = .ok (.bipush 119, 2) := by decide +kernel
theorem dX11_readPart_78 : decode cX11_readPart 78 = .ok (.bipush 109, 2) := by decide +kernel
theorem dX11_readPart_80 : decode cX11_readPart 80 = .ok (.invokevirtual 122, 3) := by decide +kernel
theorem dX11_readPart_83 : decode cX11_readPart 83 = .ok (.istore_n 2, 1) := by decide +kernel
theorem dX11_readPart_84 : decode cX11_readPart 84 = .ok (.aload_n 0, 1) := by decide +kernel
theorem dX11_readPart_85 : decode cX11_readPart 85 = .ok (.getfield 104, 3) := by decide +kernel
theorem dX11_readPart_88 : decode cX11_readPart 88 = .ok (.bipush (-9), 2) := by decide +kernel
theorem dX11_readPart_90 : decode cX11_readPart 90 = .ok (.if_icmp .ne 10, 3) := by decide +kernel
theorem dX11_readPart_93 : decode cX11_readPart 93 = .ok (.aload_n 0, 1) := by decide +kernel
theorem dX11_readPart_94 : decode cX11_readPart 94 = .ok (.iload_n 2, 1) := by decide +kernel
theorem dX11_readPart_95 : decode cX11_readPart 95 = .ok (.bipush (-9), 2) := by decide +kernel
theorem dX11_readPart_97 : decode cX11_readPart 97 = .ok (.invokevirtual 144, 3) := by decide +kernel
theorem dX11_readPart_100 : decode cX11_readPart 100 = .ok (.goto 124, 3) := by decide +kernel
theorem dX11_readPart_103 : decode cX11_readPart 103 = .ok (.iload_n 1, 1) := by decide +kernel
theorem dX11_readPart_104 : decode cX11_readPart 104 = .ok (.bipush 81, 2) := by decide +kernel
theorem dX11_readPart_106 : decode cX11_readPart 106 = .ok (.if_icmp .eq 9, 3) := by decide +kernel
theorem dX11_readPart_109 : decode cX11_readPart 109 = .ok (.iload_n 1, 1) := by decide +kernel
theorem dX11_readPart_110 : decode cX11_readPart 110 = .ok (.bipush 84, 2) := by decide +kernel
theorem dX11_readPart_112 : decode cX11_readPart 112 = .ok (.if_icmp .ne 29, 3) := by decide +kernel
theorem dX11_readPart_115 : decode cX11_readPart 115 = .ok (.aload_n 0, 1) := by decide +kernel
theorem dX11_readPart_116 : decode cX11_readPart 116 = .ok (.iconst 0, 1) := by decide +kernel
theorem dX11_readPart_117 : decode cX11_readPart 117 = .ok (.invokevirtual 148, 3) := by decide +kernel
theorem dX11_readPart_120 : decode cX11_readPart 120 = .ok (.ifCond .eq 21, 3) := by decide +kernel
theorem dX11_readPart_123 : decode cX11_readPart 123 = .ok (.aload_n 0, 1) := by decide +kernel
theorem dX11_readPart_124 : decode cX11_readPart 124 = .ok (.iload_n 1, 1) := by decide +kernel
theorem dX11_readPart_125 : decode cX11_readPart 125 = .ok (.bipush 81, 2) := by decide +kernel
theorem dX11_readPart_127 : decode cX11_readPart 127 = .ok (.if_icmp .ne 7, 3) := by decide +kernel
theorem dX11_readPart_130 : decode cX11_readPart 130 = .ok (.iconst 1, 1) := by decide +kernel
theorem dX11_readPart_131 : decode cX11_readPart 131 = .ok (.goto 4, 3) := by decide +kernel
theorem dX11_readPart_134 : decode cX11_readPart 134 = .ok (.iconst 0, 1) := by decide +kernel
theorem dX11_readPart_135 : decode cX11_readPart 135 = .ok (.invokevirtual 152, 3) := by decide +kernel
theorem dX11_readPart_138 : decode cX11_readPart 138 = .ok (.goto 86, 3) := by decide +kernel
theorem dX11_readPart_141 : decode cX11_readPart 141 = .ok (.iload_n 1, 1) := by decide +kernel
theorem dX11_readPart_142 : decode cX11_readPart 142 = .ok (.bipush 87, 2) := by decide +kernel
theorem dX11_readPart_144 : decode cX11_readPart 144 = .ok (.if_icmp .ne 76, 3) := by decide +kernel
theorem dX11_readPart_147 : decode cX11_readPart 147 = .ok (.aload_n 0, 1) := by decide +kernel
theorem dX11_readPart_148 : decode cX11_readPart 148 = .ok (.iconst 1, 1) := by decide +kernel
theorem dX11_readPart_149 : decode cX11_readPart 149 = .ok (.invokevirtual 148, 3) := by decide +kernel
theorem dX11_readPart_152 : decode cX11_readPart 152 = .ok (.ifCond .eq 68, 3) := by decide +kernel
theorem dX11_readPart_155 : decode cX11_readPart 155 = .ok (.aload_n 0, 1) := by decide +kernel
theorem dX11_readPart_156 : decode cX11_readPart 156 = .ok (.dup, 1) := by decide +kernel
theorem dX11_readPart_157 : decode cX11_readPart 157 = .ok (.getfield 107, 3) := by decide +kernel
theorem dX11_readPart_160 : decode cX11_readPart 160 = .ok (.iconst 1, 1) := by decide +kernel
theorem dX11_readPart_161 : decode cX11_readPart 161 = .ok (.iadd, 1) := by decide +kernel
theorem dX11_readPart_162 : decode cX11_readPart 162 = .ok (.putfield 107, 3) := by decide +kernel
theorem dX11_readPart_165 : decode cX11_readPart 165 = .ok (.aload_n 0, 1) := by decide +kernel
theorem dX11_readPart_166 : decode cX11_readPart 166 = .ok (.aload_n 0, 1) := by decide +kernel
theorem dX11_readPart_167 : decode cX11_readPart 167 = .ok (.iconst 1, 1) := by decide +kernel
theorem dX11_readPart_168 : decode cX11_readPart 168 = .ok (.invokevirtual 148, 3) := by decide +kernel
theorem dX11_readPart_171 : decode cX11_readPart 171 = .ok (.invokevirtual 130, 3) := by decide +kernel
theorem dX11_readPart_174 : decode cX11_readPart 174 = .ok (.istore_n 2, 1) := by decide +kernel
theorem dX11_readPart_175 : decode cX11_readPart 175 = .ok (.aload_n 0, 1) := by decide +kernel
theorem dX11_readPart_176 : decode cX11_readPart 176 = .ok (.aload_n 0, 1) := by decide +kernel
theorem dX11_readPart_177 : decode cX11_readPart 177 = .ok (.iload_n 2, 1) := by decide +kernel
theorem dX11_readPart_178 : decode cX11_readPart 178 = .ok (.iconst 1, 1) := by decide +kernel
theorem dX11_readPart_179 : decode cX11_readPart 179 = .ok (.invokevirtual 118, 3) := by decide +kernel
theorem dX11_readPart_182 : decode cX11_readPart 182 = .ok (.invokevirtual 130, 3) := by decide +kernel
theorem dX11_readPart_185 : decode cX11_readPart 185 = .ok (.istore_n 3, 1) := by decide +kernel
theorem dX11_readPart_186 : decode cX11_readPart 186 = .ok (.aload_n 0, 1) := by decide +kernel
theorem dX11_readPart_187 : decode cX11_readPart 187 = .ok (.sipush 1022, 3) := by decide +kernel
theorem dX11_readPart_190 : decode cX11_readPart 190 = .ok (.invokevirtual 130, 3) := by decide +kernel
theorem dX11_readPart_193 : decode cX11_readPart 193 = .ok (.istore 4, 2) := by decide +kernel
theorem dX11_readPart_195 : decode cX11_readPart 195 = .ok (.aload_n 0, 1) := by decide +kernel
theorem dX11_readPart_196 : decode cX11_readPart 196 = .ok (.getfield 104, 3) := by decide +kernel
theorem dX11_readPart_199 : decode cX11_readPart 199 = .ok (.bipush (-9), 2) := by decide +kernel
theorem dX11_readPart_201 : decode cX11_readPart 201 = .ok (.if_icmp .ne 16, 3) := by decide +kernel
theorem dX11_readPart_204 : decode cX11_readPart 204 = .ok (.aload_n 0, 1) := by decide +kernel
theorem dX11_readPart_205 : decode cX11_readPart 205 = .ok (.getfield 23, 3) := by decide +kernel
theorem dX11_readPart_208 : decode cX11_readPart 208 = .ok (.bipush 7, 2) := by decide +kernel
theorem dX11_readPart_210 : decode cX11_readPart 210 = .ok (.iload_n 2, 1) := by decide +kernel
theorem dX11_readPart_211 : decode cX11_readPart 211 = .ok (.imul, 1) := by decide +kernel
theorem dX11_readPart_212 : decode cX11_readPart 212 = .ok (.iload_n 3, 1) := by decide +kernel
theorem dX11_readPart_213 : decode cX11_readPart 213 = .ok (.iadd, 1) := by decide +kernel
theorem dX11_readPart_214 : decode cX11_readPart 214 = .ok (.iload 4, 2) := by decide +kernel
theorem dX11_readPart_216 : decode cX11_readPart 216 = .ok (.iastore, 1) := by decide +kernel
theorem dX11_readPart_217 : decode cX11_readPart 217 = .ok (.goto 7, 3) := by decide +kernel
theorem dX11_readPart_220 : decode cX11_readPart 220 = .ok (.aload_n 0, 1) := by decide +kernel
theorem dX11_readPart_221 : decode cX11_readPart 221 = .ok (.invokevirtual 112, 3) := by decide +kernel
theorem dX11_readPart_224 : decode cX11_readPart 224 = .ok (.return_, 1) := by decide +kernel
set_option maxRecDepth 20000 in
theorem ggX11_readPair_X11_begins : GoodIn wsX11_readPair wsX11_begins := goodIn_r _ [9, 10, 11, 12, 13, 8, 14, 15, 3, 4, 30, 31, 32, 33, 34, 35, 36, 37, 38, 39, 40, 41, 42, 43, 44, 45, 46, 47, 48, 49, 50, 51, 52, 53, 54, 55, 56, 57, 58, 59, 60, 61, 62, 63, 64, 65, 66, 67, 68, 69, 70, 71] (by decide +kernel) (by decide +kernel)
set_option maxRecDepth 20000 in
theorem gX11_readPair_X11_begins : GoodIn wsX11_readPair (wsV RX11 148 RX11 yX11_begins wsX11_begins) := goodIn_app (goodIn_of _ (by decide +kernel)) ggX11_readPair_X11_begins
set_option maxRecDepth 20000 in
theorem ggX11_readPair_X11_figure : GoodIn wsX11_readPair wsX11_figure := goodIn_r _ [19, 2, 1, 20, 21, 22, 23, 24, 8, 25, 26, 27, 28, 29, 30, 31, 32, 33, 34, 35, 36, 37, 38, 39, 40, 41, 42, 43, 44, 45, 46, 47, 48, 49, 50, 51, 52, 53, 54, 55, 56, 57, 58, 59, 60, 61, 62, 63, 64, 65, 66, 67, 68, 69, 70, 71] (by decide +kernel) (by decide +kernel)
set_option maxRecDepth 20000 in
theorem gX11_readPair_X11_figure : GoodIn wsX11_readPair (wsV RX11 130 RX11 yX11_figure wsX11_figure) := goodIn_app (goodIn_of _ (by decide +kernel)) ggX11_readPair_X11_figure
set_option maxRecDepth 20000 in
theorem ggX11_readPair_X11_open : GoodIn wsX11_readPair wsX11_open := goodIn_r _ [14, 10, 15, 3, 4, 30, 31, 32, 33, 34, 35, 36, 37, 38, 39, 40, 41, 42, 43, 44, 45, 46, 47, 48, 49, 50, 51, 52, 53, 54, 55, 56, 57, 58, 59, 60, 61, 62, 63, 64, 65, 66, 67, 68, 69, 70, 71] (by decide +kernel) (by decide +kernel)
set_option maxRecDepth 20000 in
theorem gX11_readPair_X11_open : GoodIn wsX11_readPair (wsV RX11 118 RX11 yX11_open wsX11_open) := goodIn_app (goodIn_of _ (by decide +kernel)) ggX11_readPair_X11_open
theorem dX11_readPair_0 : decode cX11_readPair 0 = .ok (.aload_n 0, 1) := by decide +kernel
theorem dX11_readPair_1 : decode cX11_readPair 1 = .ok (.dup, 1) := by decide +kernel
theorem dX11_readPair_2 : decode cX11_readPair 2 = .ok (.getfield 107, 3) := by decide +kernel
theorem dX11_readPair_5 : decode cX11_readPair 5 = .ok (.iconst 1, 1) := by decide +kernel
theorem dX11_readPair_6 : decode cX11_readPair 6 = .ok (.iadd, 1) := by decide +kernel
theorem dX11_readPair_7 : decode cX11_readPair 7 = .ok (.putfield 107, 3) := by decide +kernel
theorem dX11_readPair_10 : decode cX11_readPair 10 = .ok (.aload_n 0, 1) := by decide +kernel
theorem dX11_readPair_11 : decode cX11_readPair 11 = .ok (.aload_n 0, 1) := by decide +kernel
theorem dX11_readPair_12 : decode cX11_readPair 12 = .ok (.iconst 0, 1) := by decide +kernel
theorem dX11_readPair_13 : decode cX11_readPair 13 = .ok (.invokevirtual 148, 3) := by decide +kernel
theorem dX11_readPair_16 : decode cX11_readPair 16 = .ok (.invokevirtual 130, 3) := by decide +kernel
theorem dX11_readPair_19 : decode cX11_readPair 19 = .ok (.istore_n 2, 1) := by decide +kernel
theorem dX11_readPair_20 : decode cX11_readPair 20 = .ok (.aload_n 0, 1) := by decide +kernel
theorem dX11_readPair_21 : decode cX11_readPair 21 = .ok (.aload_n 0, 1) := by decide +kernel
theorem dX11_readPair_22 : decode cX11_readPair 22 = .ok (.iload_n 2, 1) := by decide +kernel
theorem dX11_readPair_23 : decode cX11_readPair 23 = .ok (.iconst 0, 1) := by decide +kernel
theorem dX11_readPair_24 : decode cX11_readPair 24 = .ok (.invokevirtual 118, 3) := by decide +kernel
theorem dX11_readPair_27 : decode cX11_readPair 27 = .ok (.invokevirtual 130, 3) := by decide +kernel
theorem dX11_readPair_30 : decode cX11_readPair 30 = .ok (.istore_n 3, 1) := by decide +kernel

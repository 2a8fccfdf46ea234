theorem dX0_init_17 : decode cX0_init 17 = .ok (.putfield 15, 3) := by decide +kernel
theorem dX0_init_20 : decode cX0_init 20 = .ok (.aload_n 0, 1) := by decide +kernel
theorem dX0_init_21 : decode cX0_init 21 = .ok (.iconst 0, 1) := by decide +kernel
theorem dX0_init_22 : decode cX0_init 22 = .ok (.putfield 19, 3) := by decide +kernel
theorem dX0_init_25 : decode cX0_init 25 = .ok (.return_, 1) := by decide +kernel
set_option maxRecDepth 20000 in
theorem ggX0_add_X0_forgetFirst : GoodIn wsX0_add wsX0_forgetFirst := goodIn_r _ [8, 2, 3, 1, 9, 10, 11] (by decide +kernel) (by decide +kernel)
set_option maxRecDepth 20000 in
theorem gX0_add_X0_forgetFirst : GoodIn wsX0_add (wsV RX0 23 RX0 yX0_forgetFirst wsX0_forgetFirst) := goodIn_app (goodIn_of _ (by decide +kernel)) ggX0_add_X0_forgetFirst
theorem dX0_add_0 : decode cX0_add 0 = .ok (.aload_n 0, 1) := by decide +kernel
theorem dX0_add_1 : decode cX0_add 1 = .ok (.getfield 19, 3) := by decide +kernel
theorem dX0_add_4 : decode cX0_add 4 = .ok (.bipush 16, 2) := by decide +kernel
theorem dX0_add_6 : decode cX0_add 6 = .ok (.if_icmp .lt 7, 3) := by decide +kernel
theorem dX0_add_9 : decode cX0_add 9 = .ok (.aload_n 0, 1) := by decide +kernel
theorem dX0_add_10 : decode cX0_add 10 = .ok (.invokevirtual 23, 3) := by decide +kernel
theorem dX0_add_13 : decode cX0_add 13 = .ok (.aload_n 0, 1) := by decide +kernel
theorem dX0_add_14 : decode cX0_add 14 = .ok (.getfield 19, 3) := by decide +kernel
theorem dX0_add_17 : decode cX0_add 17 = .ok (.ifCond .lt 42, 3) := by decide +kernel
theorem dX0_add_20 : decode cX0_add 20 = .ok (.aload_n 0, 1) := by decide +kernel
theorem dX0_add_21 : decode cX0_add 21 = .ok (.getfield 19, 3) := by decide +kernel
theorem dX0_add_24 : decode cX0_add 24 = .ok (.bipush 16, 2) := by decide +kernel
theorem dX0_add_26 : decode cX0_add 26 = .ok (.if_icmp .ge 33, 3) := by decide +kernel
theorem dX0_add_29 : decode cX0_add 29 = .ok (.aload_n 0, 1) := by decide +kernel
theorem dX0_add_30 : decode cX0_add 30 = .ok (.getfield 9, 3) := by decide +kernel
theorem dX0_add_33 : decode cX0_add 33 = .ok (.aload_n 0, 1) := by decide +kernel
theorem dX0_add_34 : decode cX0_add 34 = .ok (.getfield 19, 3) := by decide +kernel
theorem dX0_add_37 : decode cX0_add 37 = .ok (.iload_n 1, 1) := by decide +kernel
theorem dX0_add_38 : decode cX0_add 38 = .ok (.iastore, 1) := by decide +kernel
theorem dX0_add_39 : decode cX0_add 39 = .ok (.aload_n 0, 1) := by decide +kernel
theorem dX0_add_40 : decode cX0_add 40 = .ok (.getfield 15, 3) := by decide +kernel
theorem dX0_add_43 : decode cX0_add 43 = .ok (.aload_n 0, 1) := by decide +kernel
theorem dX0_add_44 : decode cX0_add 44 = .ok (.getfield 19, 3) := by decide +kernel
theorem dX0_add_47 : decode cX0_add 47 = .ok (.iload_n 2, 1) := by decide +kernel
theorem dX0_add_48 : decode cX0_add 48 = .ok (.bastore, 1) := by decide +kernel
theorem dX0_add_49 : decode cX0_add 49 = .ok (.aload_n 0, 1) := by decide +kernel
theorem dX0_add_50 : decode cX0_add 50 = .ok (.dup, 1) := by decide +kernel
theorem dX0_add_51 : decode cX0_add 51 = .ok (.getfield 19, 3) := by decide +kernel
theorem dX0_add_54 : decode cX0_add 54 = .ok (.iconst 1, 1) := by decide +kernel
theorem dX0_add_55 : decode cX0_add 55 = .ok (.iadd, 1) := by decide +kernel
theorem dX0_add_56 : decode cX0_add 56 = .ok (.putfield 19, 3) := by decide +kernel
theorem dX0_add_59 : decode cX0_add 59 = .ok (.return_, 1) := by decide +kernel
theorem dX0_forgetFirst_0 : decode cX0_forgetFirst 0 = .ok (.iconst 1, 1) := by decide +kernel
theorem dX0_forgetFirst_1 : decode cX0_forgetFirst 1 = .ok (.istore_n 1, 1) := by decide +kernel
theorem dX0_forgetFirst_2 : decode cX0_forgetFirst 2 = .ok (.iload_n 1, 1) := by decide +kernel
theorem dX0_forgetFirst_3 : decode cX0_forgetFirst 3 = .ok (.bipush 16, 2) := by decide +kernel
theorem dX0_forgetFirst_5 : decode cX0_forgetFirst 5 = .ok (.if_icmp .ge 37, 3) := by decide +kernel
theorem dX0_forgetFirst_8 : decode cX0_forgetFirst 8 = .ok (.aload_n 0, 1) := by decide +kernel
theorem dX0_forgetFirst_9 : decode cX0_forgetFirst 9 = .ok (.getfield 9, 3) := by decide +kernel
theorem dX0_forgetFirst_12 : decode cX0_forgetFirst 12 = .ok (.iload_n 1, 1) := by decide +kernel
theorem dX0_forgetFirst_13 : decode cX0_forgetFirst 13 = .ok (.iconst 1, 1) := by decide +kernel
theorem dX0_forgetFirst_14 : decode cX0_forgetFirst 14 = .ok (.isub, 1) := by decide +kernel
theorem dX0_forgetFirst_15 : decode cX0_forgetFirst 15 = .ok (.aload_n 0, 1) := by decide +kernel
theorem dX0_forgetFirst_16 : decode cX0_forgetFirst 16 = .ok (.getfield 9, 3) := by decide +kernel
theorem dX0_forgetFirst_19 : decode cX0_forgetFirst 19 = .ok (.iload_n 1, 1) := by decide +kernel
theorem dX0_forgetFirst_20 : decode cX0_forgetFirst 20 = .ok (.iaload, 1) := by decide +kernel
theorem dX0_forgetFirst_21 : decode cX0_forgetFirst 21 = .ok (.iastore, 1) := by decide +kernel
theorem dX0_forgetFirst_22 : decode cX0_forgetFirst 22 = .ok (.aload_n 0, 1) := by decide +kernel
theorem dX0_forgetFirst_23 : decode cX0_forgetFirst 23 = .ok (.getfield 15, 3) := by decide +kernel
theorem dX0_forgetFirst_26 : decode cX0_forgetFirst 26 = .ok (.iload_n 1, 1) := by decide +kernel
theorem dX0_forgetFirst_27 : decode cX0_forgetFirst 27 = .ok (.iconst 1, 1) := by decide +kernel
theorem dX0_forgetFirst_28 : decode cX0_forgetFirst 28 = .ok (.isub, 1) := by decide +kernel
theorem dX0_forgetFirst_29 : decode cX0_forgetFirst 29 = .ok (.aload_n 0, 1) := by decide +kernel
theorem dX0_forgetFirst_30 : decode cX0_forgetFirst 30 = .ok (.getfield 15, 3) := by decide +kernel
theorem dX0_forgetFirst_33 : decode cX0_forgetFirst 33 = .ok (.iload_n 1, 1) := by decide +kernel
theorem dX0_forgetFirst_34 : decode cX0_forgetFirst 34 = .ok (.baload, 1) := by decide +kernel
theorem dX0_forgetFirst_35 : decode cX0_forgetFirst 35 = .ok (.bastore, 1) := by decide +kernel
theorem dX0_forgetFirst_36 : decode cX0_forgetFirst 36 = .ok (.iinc 1 1, 3) := by decide +kernel
theorem dX0_forgetFirst_39 : decode cX0_forgetFirst 39 = .ok (.goto (-37), 3) := by decide +kernel
theorem dX0_forgetFirst_42 : decode cX0_forgetFirst 42 = .ok (.aload_n 0, 1) := by decide +kernel
theorem dX0_forgetFirst_43 : decode cX0_forgetFirst 43 = .ok (.bipush 15, 2) := by decide +kernel
theorem dX0_forgetFirst_45 : decode cX0_forgetFirst 45 = .ok (.putfield 19, 3) := by decide +kernel
theorem dX0_forgetFirst_48 : decode cX0_forgetFirst 48 = .ok (.return_, 1) := by decide +kernel
theorem dX0_seatingBefore_0 : decode cX0_seatingBefore 0 = .ok (.iload_n 1, 1) := by decide +kernel
theorem dX0_seatingBefore_1 : decode cX0_seatingBefore 1 = .ok (.ifCond .lt 18, 3) := by decide +kernel
theorem dX0_seatingBefore_4 : decode cX0_seatingBefore 4 = .ok (.iload_n 1, 1) := by decide +kernel
theorem dX0_seatingBefore_5 : decode cX0_seatingBefore 5 = .ok (.bipush 16, 2) := by decide +kernel
theorem dX0_seatingBefore_7 : decode cX0_seatingBefore 7 = .ok (.if_icmp .ge 12, 3) := by decide +kernel
theorem dX0_seatingBefore_10 : decode cX0_seatingBefore 10 = .ok (.aload_n 0, 1) := by decide +kernel
theorem dX0_seatingBefore_11 : decode cX0_seatingBefore 11 = .ok (.getfield 9, 3) := by decide +kernel
theorem dX0_seatingBefore_14 : decode cX0_seatingBefore 14 = .ok (.iload_n 1, 1) := by decide +kernel
theorem dX0_seatingBefore_15 : decode cX0_seatingBefore 15 = .ok (.iaload, 1) := by decide +kernel
theorem dX0_seatingBefore_16 : decode cX0_seatingBefore 16 = .ok (.goto 4, 3) := by decide +kernel
theorem dX0_seatingBefore_19 : decode cX0_seatingBefore 19 = .ok (.iconst 0, 1) := by decide +kernel
theorem dX0_seatingBefore_20 : decode cX0_seatingBefore 20 = .ok (.ireturn, 1) := by decide +kernel
theorem dX0_wasDinner_0 : decode cX0_wasDinner 0 = .ok (.iload_n 1, 1) := by decide +kernel
theorem dX0_wasDinner_1 : decode cX0_wasDinner 1 = .ok (.ifCond .lt 22, 3) := by decide +kernel
theorem dX0_wasDinner_4 : decode cX0_wasDinner 4 = .ok (.iload_n 1, 1) := by decide +kernel
theorem dX0_wasDinner_5 : decode cX0_wasDinner 5 = .ok (.bipush 16, 2) := by decide +kernel
theorem dX0_wasDinner_7 : decode cX0_wasDinner 7 = .ok (.if_icmp .ge 16, 3) := by decide +kernel
theorem dX0_wasDinner_10 : decode cX0_wasDinner 10 = .ok (.aload_n 0, 1) := by decide +kernel
theorem dX0_wasDinner_11 : decode cX0_wasDinner 11 = .ok (.getfield 15, 3) := by decide +kernel
theorem dX0_wasDinner_14 : decode cX0_wasDinner 14 = .ok (.iload_n 1, 1) := by decide +kernel
theorem dX0_wasDinner_15 : decode cX0_wasDinner 15 = .ok (.baload, 1) := by decide +kernel
theorem dX0_wasDinner_16 : decode cX0_wasDinner 16 = .ok (.ifCond .eq 7, 3) := by decide +kernel
theorem dX0_wasDinner_19 : decode cX0_wasDinner 19 = .ok (.iconst 1, 1) := by decide +kernel
theorem dX0_wasDinner_20 : decode cX0_wasDinner 20 = .ok (.goto 4, 3) := by decide +kernel
theorem dX0_wasDinner_23 : decode cX0_wasDinner 23 = .ok (.iconst 0, 1) := by decide +kernel
theorem dX0_wasDinner_24 : decode cX0_wasDinner 24 = .ok (.ireturn, 1) := by decide +kernel
theorem dX1_init_0 : decode cX1_init 0 = .ok (.aload_n 0, 1) := by decide +kernel
theorem dX1_init_1 : decode cX1_init 1 = .ok (.invokespecial 3, 3) := by decide +kernel
theorem dX1_init_4 : decode cX1_init 4 = .ok (.aload_n 0, 1) := by decide +kernel
theorem dX1_init_5 : decode cX1_init 5 = .ok (.bipush 8, 2) := by decide +kernel
theorem dX1_init_7 : decode cX1_init 7 = .ok (.newarray .int, 2) := by decide +kernel
theorem dX1_init_9 : decode cX1_init 9 = .ok (.putfield 9, 3) := by decide +kernel
theorem dX1_init_12 : decode cX1_init 12 = .ok (.aload_n 0, 1) := by decide +kernel
theorem dX1_init_13 : decode cX1_init 13 = .ok (.bipush 8, 2) := by decide +kernel
theorem dX1_init_15 : decode cX1_init 15 = .ok (.newarray .int, 2) := by decide +kernel
theorem dX1_init_17 : decode cX1_init 17 = .ok (.putfield 15, 3) := by decide +kernel
theorem dX1_init_20 : decode cX1_init 20 = .ok (.aload_n 0, 1) := by decide +kernel
theorem dX1_init_21 : decode cX1_init 21 = .ok (.bipush 8, 2) := by decide +kernel
theorem dX1_init_23 : decode cX1_init 23 = .ok (.newarray .boolean, 2) := by decide +kernel
theorem dX1_init_25 : decode cX1_init 25 = .ok (.putfield 18, 3) := by decide +kernel
theorem dX1_init_28 : decode cX1_init 28 = .ok (.aload_n 0, 1) := by decide +kernel
theorem dX1_init_29 : decode cX1_init 29 = .ok (.iconst 0, 1) := by decide +kernel
theorem dX1_init_30 : decode cX1_init 30 = .ok (.putfield 22, 3) := by decide +kernel
theorem dX1_init_33 : decode cX1_init 33 = .ok (.return_, 1) := by decide +kernel
theorem dX1_add_0 : decode cX1_add 0 = .ok (.aload_n 0, 1) := by decide +kernel
theorem dX1_add_1 : decode cX1_add 1 = .ok (.getfield 22, 3) := by decide +kernel
theorem dX1_add_4 : decode cX1_add 4 = .ok (.ifCond .lt 52, 3) := by decide +kernel
theorem dX1_add_7 : decode cX1_add 7 = .ok (.aload_n 0, 1) := by decide +kernel
theorem dX1_add_8 : decode cX1_add 8 = .ok (.getfield 22, 3) := by decide +kernel
theorem dX1_add_11 : decode cX1_add 11 = .ok (.bipush 8, 2) := by decide +kernel
theorem dX1_add_13 : decode cX1_add 13 = .ok (.if_icmp .ge 43, 3) := by decide +kernel
theorem dX1_add_16 : decode cX1_add 16 = .ok (.aload_n 0, 1) := by decide +kernel
theorem dX1_add_17 : decode cX1_add 17 = .ok (.getfield 9, 3) := by decide +kernel
theorem dX1_add_20 : decode cX1_add 20 = .ok (.aload_n 0, 1) := by decide +kernel
theorem dX1_add_21 : decode cX1_add 21 = .ok (.getfield 22, 3) := by decide +kernel
theorem dX1_add_24 : decode cX1_add 24 = .ok (.iload_n 1, 1) := by decide +kernel
theorem dX1_add_25 : decode cX1_add 25 = .ok (.iastore, 1) := by decide +kernel
theorem dX1_add_26 : decode cX1_add 26 = .ok (.aload_n 0, 1) := by decide +kernel
theorem dX1_add_27 : decode cX1_add 27 = .ok (.getfield 15, 3) := by decide +kernel
theorem dX1_add_30 : decode cX1_add 30 = .ok (.aload_n 0, 1) := by decide +kernel
theorem dX1_add_31 : decode cX1_add 31 = .ok (.getfield 22, 3) := by decide +kernel
theorem dX1_add_34 : decode cX1_add 34 = .ok (.iload_n 2, 1) := by decide +kernel
theorem dX1_add_35 : decode cX1_add 35 = .ok (.iastore, 1) := by decide +kernel
theorem dX1_add_36 : decode cX1_add 36 = .ok (.aload_n 0, 1) := by decide +kernel
theorem dX1_add_37 : decode cX1_add 37 = .ok (.getfield 18, 3) := by decide +kernel
theorem dX1_add_40 : decode cX1_add 40 = .ok (.aload_n 0, 1) := by decide +kernel
theorem dX1_add_41 : decode cX1_add 41 = .ok (.getfield 22, 3) := by decide +kernel
theorem dX1_add_44 : decode cX1_add 44 = .ok (.iload_n 3, 1) := by decide +kernel
theorem dX1_add_45 : decode cX1_add 45 = .ok (.bastore, 1) := by decide +kernel
theorem dX1_add_46 : decode cX1_add 46 = .ok (.aload_n 0, 1) := by decide +kernel
theorem dX1_add_47 : decode cX1_add 47 = .ok (.dup, 1) := by decide +kernel
theorem dX1_add_48 : decode cX1_add 48 = .ok (.getfield 22, 3) := by decide +kernel
theorem dX1_add_51 : decode cX1_add 51 = .ok (.iconst 1, 1) := by decide +kernel
theorem dX1_add_52 : decode cX1_add 52 = .ok (.iadd, 1) := by decide +kernel
theorem dX1_add_53 : decode cX1_add 53 = .ok (.putfield 22, 3) := by decide +kernel
theorem dX1_add_56 : decode cX1_add 56 = .ok (.return_, 1) := by decide +kernel
set_option maxRecDepth 20000 in
theorem ggX1_fitsBut_X4_neighbours : GoodIn wsX1_fitsBut wsX4_neighbours := goodIn_r _ [9, 10, 11, 12, 8, 13, 14, 15, 16, 17, 18, 19, 20, 21, 22, 23, 24, 25, 26, 27, 41, 42, 43, 44, 45, 46, 47, 48, 49, 50] (by decide +kernel) (by decide +kernel)
set_option maxRecDepth 20000 in
theorem gX1_fitsBut_X4_neighbours : GoodIn wsX1_fitsBut (wsV RX1 26 RX4 yX4_neighbours wsX4_neighbours) := goodIn_app (goodIn_of _ (by decide +kernel)) ggX1_fitsBut_X4_neighbours
set_option maxRecDepth 20000 in
theorem ggX1_fitsBut_X3_bothWays : GoodIn wsX1_fitsBut wsX3_bothWays := goodIn_r _ [27] (by decide +kernel) (by decide +kernel)
set_option maxRecDepth 20000 in
theorem gX1_fitsBut_X3_bothWays : GoodIn wsX1_fitsBut (va_wsS RX1 32 yX3_bothWays wsX3_bothWays) := goodIn_app (goodIn_of _ (by decide +kernel)) ggX1_fitsBut_X3_bothWays
set_option maxRecDepth 20000 in
theorem ggX1_fitsBut_X4_hasBoth : GoodIn wsX1_fitsBut wsX4_hasBoth := goodIn_r _ [32, 33, 34, 35, 8, 36, 15, 41, 42, 43, 44, 45, 46, 47, 48, 49, 50] (by decide +kernel) (by decide +kernel)
set_option maxRecDepth 20000 in
theorem gX1_fitsBut_X4_hasBoth : GoodIn wsX1_fitsBut (wsV RX1 38 RX4 yX4_hasBoth wsX4_hasBoth) := goodIn_app (goodIn_of _ (by decide +kernel)) ggX1_fitsBut_X4_hasBoth
theorem dX1_fitsBut_0 : decode cX1_fitsBut 0 = .ok (.aload_n 2, 1) := by decide +kernel
theorem dX1_fitsBut_1 : decode cX1_fitsBut 1 = .ok (.iload_n 3, 1) := by decide +kernel
theorem dX1_fitsBut_2 : decode cX1_fitsBut 2 = .ok (.invokevirtual 26, 3) := by decide +kernel
theorem dX1_fitsBut_5 : decode cX1_fitsBut 5 = .ok (.lstore 4, 2) := by decide +kernel
theorem dX1_fitsBut_7 : decode cX1_fitsBut 7 = .ok (.iconst 0, 1) := by decide +kernel
theorem dX1_fitsBut_8 : decode cX1_fitsBut 8 = .ok (.istore 6, 2) := by decide +kernel
theorem dX1_fitsBut_10 : decode cX1_fitsBut 10 = .ok (.iconst 0, 1) := by decide +kernel
theorem dX1_fitsBut_11 : decode cX1_fitsBut 11 = .ok (.istore 7, 2) := by decide +kernel
theorem dX1_fitsBut_13 : decode cX1_fitsBut 13 = .ok (.iload 7, 2) := by decide +kernel
theorem dX1_fitsBut_15 : decode cX1_fitsBut 15 = .ok (.aload_n 0, 1) := by decide +kernel
theorem dX1_fitsBut_16 : decode cX1_fitsBut 16 = .ok (.getfield 22, 3) := by decide +kernel
theorem dX1_fitsBut_19 : decode cX1_fitsBut 19 = .ok (.if_icmp .ge 90, 3) := by decide +kernel
theorem dX1_fitsBut_22 : decode cX1_fitsBut 22 = .ok (.iload 7, 2) := by decide +kernel
theorem dX1_fitsBut_24 : decode cX1_fitsBut 24 = .ok (.bipush 8, 2) := by decide +kernel
theorem dX1_fitsBut_26 : decode cX1_fitsBut 26 = .ok (.if_icmp .ge 83, 3) := by decide +kernel
theorem dX1_fitsBut_29 : decode cX1_fitsBut 29 = .ok (.iload 6, 2) := by decide +kernel
theorem dX1_fitsBut_31 : decode cX1_fitsBut 31 = .ok (.iload_n 1, 1) := by decide +kernel
theorem dX1_fitsBut_32 : decode cX1_fitsBut 32 = .ok (.if_icmp .gt 77, 3) := by decide +kernel
theorem dX1_fitsBut_35 : decode cX1_fitsBut 35 = .ok (.lload 4, 2) := by decide +kernel
theorem dX1_fitsBut_37 : decode cX1_fitsBut 37 = .ok (.aload_n 0, 1) := by decide +kernel
theorem dX1_fitsBut_38 : decode cX1_fitsBut 38 = .ok (.getfield 9, 3) := by decide +kernel
theorem dX1_fitsBut_41 : decode cX1_fitsBut 41 = .ok (.iload 7, 2) := by decide +kernel
theorem dX1_fitsBut_43 : decode cX1_fitsBut 43 = .ok (.iaload, 1) := by decide +kernel
theorem dX1_fitsBut_44 : decode cX1_fitsBut 44 = .ok (.aload_n 0, 1) := by decide +kernel
theorem dX1_fitsBut_45 : decode cX1_fitsBut 45 = .ok (.getfield 15, 3) := by decide +kernel
theorem dX1_fitsBut_48 : decode cX1_fitsBut 48 = .ok (.iload 7, 2) := by decide +kernel
theorem dX1_fitsBut_50 : decode cX1_fitsBut 50 = .ok (.iaload, 1) := by decide +kernel
theorem dX1_fitsBut_51 : decode cX1_fitsBut 51 = .ok (.invokestatic 32, 3) := by decide +kernel
theorem dX1_fitsBut_54 : decode cX1_fitsBut 54 = .ok (.land, 1) := by decide +kernel
theorem dX1_fitsBut_55 : decode cX1_fitsBut 55 = .ok (.lconst 0, 1) := by decide +kernel
theorem dX1_fitsBut_56 : decode cX1_fitsBut 56 = .ok (.lcmp, 1) := by decide +kernel
theorem dX1_fitsBut_57 : decode cX1_fitsBut 57 = .ok (.ifCond .eq 7, 3) := by decide +kernel
theorem dX1_fitsBut_60 : decode cX1_fitsBut 60 = .ok (.iconst 1, 1) := by decide +kernel
theorem dX1_fitsBut_61 : decode cX1_fitsBut 61 = .ok (.goto 4, 3) := by decide +kernel
theorem dX1_fitsBut_64 : decode cX1_fitsBut 64 = .ok (.iconst 0, 1) := by decide +kernel
theorem dX1_fitsBut_65 : decode cX1_fitsBut 65 = .ok (.istore 8, 2) := by decide +kernel
theorem dX1_fitsBut_67 : decode cX1_fitsBut 67 = .ok (.iload 8, 2) := by decide +kernel
theorem dX1_fitsBut_69 : decode cX1_fitsBut 69 = .ok (.aload_n 0, 1) := by decide +kernel
theorem dX1_fitsBut_70 : decode cX1_fitsBut 70 = .ok (.getfield 18, 3) := by decide +kernel
theorem dX1_fitsBut_73 : decode cX1_fitsBut 73 = .ok (.iload 7, 2) := by decide +kernel
theorem dX1_fitsBut_75 : decode cX1_fitsBut 75 = .ok (.baload, 1) := by decide +kernel
theorem dX1_fitsBut_76 : decode cX1_fitsBut 76 = .ok (.if_icmp .eq 27, 3) := by decide +kernel
theorem dX1_fitsBut_79 : decode cX1_fitsBut 79 = .ok (.aload_n 2, 1) := by decide +kernel
theorem dX1_fitsBut_80 : decode cX1_fitsBut 80 = .ok (.aload_n 0, 1) := by decide +kernel
theorem dX1_fitsBut_81 : decode cX1_fitsBut 81 = .ok (.getfield 9, 3) := by decide +kernel
theorem dX1_fitsBut_84 : decode cX1_fitsBut 84 = .ok (.iload 7, 2) := by decide +kernel
theorem dX1_fitsBut_86 : decode cX1_fitsBut 86 = .ok (.iaload, 1) := by decide +kernel
theorem dX1_fitsBut_87 : decode cX1_fitsBut 87 = .ok (.aload_n 0, 1) := by decide +kernel
theorem dX1_fitsBut_88 : decode cX1_fitsBut 88 = .ok (.getfield 15, 3) := by decide +kernel
theorem dX1_fitsBut_91 : decode cX1_fitsBut 91 = .ok (.iload 7, 2) := by decide +kernel
theorem dX1_fitsBut_93 : decode cX1_fitsBut 93 = .ok (.iaload, 1) := by decide +kernel
theorem dX1_fitsBut_94 : decode cX1_fitsBut 94 = .ok (.invokevirtual 38, 3) := by decide +kernel
theorem dX1_fitsBut_97 : decode cX1_fitsBut 97 = .ok (.ifCond .eq 6, 3) := by decide +kernel
theorem dX1_fitsBut_100 : decode cX1_fitsBut 100 = .ok (.iinc 6 1, 3) := by decide +kernel
theorem dX1_fitsBut_103 : decode cX1_fitsBut 103 = .ok (.iinc 7 1, 3) := by decide +kernel
theorem dX1_fitsBut_106 : decode cX1_fitsBut 106 = .ok (.goto (-93), 3) := by decide +kernel
theorem dX1_fitsBut_109 : decode cX1_fitsBut 109 = .ok (.iload 6, 2) := by decide +kernel
theorem dX1_fitsBut_111 : decode cX1_fitsBut 111 = .ok (.iload_n 1, 1) := by decide +kernel
theorem dX1_fitsBut_112 : decode cX1_fitsBut 112 = .ok (.if_icmp .gt 7, 3) := by decide +kernel
theorem dX1_fitsBut_115 : decode cX1_fitsBut 115 = .ok (.iconst 1, 1) := by decide +kernel
theorem dX1_fitsBut_116 : decode cX1_fitsBut 116 = .ok (.goto 4, 3) := by decide +kernel
theorem dX1_fitsBut_119 : decode cX1_fitsBut 119 = .ok (.iconst 0, 1) := by decide +kernel
theorem dX1_fitsBut_120 : decode cX1_fitsBut 120 = .ok (.ireturn, 1) := by decide +kernel
theorem dX2_init_0 : decode cX2_init 0 = .ok (.aload_n 0, 1) := by decide +kernel
theorem dX2_init_1 : decode cX2_init 1 = .ok (.invokespecial 3, 3) := by decide +kernel
theorem dX2_init_4 : decode cX2_init 4 = .ok (.aload_n 0, 1) := by decide +kernel
theorem dX2_init_5 : decode cX2_init 5 = .ok (.iconst 1, 1) := by decide +kernel
theorem dX2_init_6 : decode cX2_init 6 = .ok (.newarray .int, 2) := by decide +kernel
theorem dX2_init_8 : decode cX2_init 8 = .ok (.putfield 9, 3) := by decide +kernel
theorem dX2_init_11 : decode cX2_init 11 = .ok (.aload_n 0, 1) := by decide +kernel
theorem dX2_init_12 : decode cX2_init 12 = .ok (.iconst 0, 1) := by decide +kernel
theorem dX2_init_13 : decode cX2_init 13 = .ok (.putfield 15, 3) := by decide +kernel
theorem dX2_init_16 : decode cX2_init 16 = .ok (.aload_n 0, 1) := by decide +kernel
theorem dX2_init_17 : decode cX2_init 17 = .ok (.iconst 0, 1) := by decide +kernel
theorem dX2_init_18 : decode cX2_init 18 = .ok (.putfield 19, 3) := by decide +kernel
theorem dX2_init_21 : decode cX2_init 21 = .ok (.return_, 1) := by decide +kernel
theorem dX2_forget_0 : decode cX2_forget 0 = .ok (.aload_n 0, 1) := by decide +kernel
theorem dX2_forget_1 : decode cX2_forget 1 = .ok (.iconst 0, 1) := by decide +kernel
theorem dX2_forget_2 : decode cX2_forget 2 = .ok (.putfield 15, 3) := by decide +kernel
theorem dX2_forget_5 : decode cX2_forget 5 = .ok (.aload_n 0, 1) := by decide +kernel
theorem dX2_forget_6 : decode cX2_forget 6 = .ok (.iconst 0, 1) := by decide +kernel
theorem dX2_forget_7 : decode cX2_forget 7 = .ok (.putfield 19, 3) := by decide +kernel
theorem dX2_forget_10 : decode cX2_forget 10 = .ok (.return_, 1) := by decide +kernel
set_option maxRecDepth 20000 in
theorem ggX2_list_X7_howMany : GoodIn wsX2_list wsX7_howMany := goodIn_r _ [9, 10] (by decide +kernel) (by decide +kernel)
set_option maxRecDepth 20000 in
theorem gX2_list_X7_howMany : GoodIn wsX2_list (va_wsS RX2 28 yX7_howMany wsX7_howMany) := goodIn_app (goodIn_of _ (by decide +kernel)) ggX2_list_X7_howMany
set_option maxRecDepth 20000 in
theorem ggX2_list_X2_seatFrom : GoodIn wsX2_list wsX2_seatFrom := goodIn_r _ [14, 3, 15, 16, 17, 18, 19, 20, 21, 22, 23, 24, 25, 26, 27, 28, 29, 30, 31, 32, 33, 34, 35, 8, 36, 37, 38, 39, 40, 41, 42, 43, 44, 45, 46, 47, 13, 48, 2, 4, 49, 50, 51, 52, 53, 54, 55, 11, 12, 59, 60, 61, 62, 63, 64, 65, 66, 67, 68, 56, 57, 58] (by decide +kernel) (by decide +kernel)
set_option maxRecDepth 20000 in
theorem gX2_list_X2_seatFrom : GoodIn wsX2_list (va_wsS RX2 34 yX2_seatFrom wsX2_seatFrom) := goodIn_app (goodIn_of _ (by decide +kernel)) ggX2_list_X2_seatFrom
theorem dX2_list_0 : decode cX2_list 0 = .ok (.aload_n 0, 1) := by decide +kernel
theorem dX2_list_1 : decode cX2_list 1 = .ok (.getfield 15, 3) := by decide +kernel
theorem dX2_list_4 : decode cX2_list 4 = .ok (.ifCond .eq 4, 3) := by decide +kernel
theorem dX2_list_7 : decode cX2_list 7 = .ok (.return_, 1) := by decide +kernel
theorem dX2_list_8 : decode cX2_list 8 = .ok (.aload_n 0, 1) := by decide +kernel
theorem dX2_list_9 : decode cX2_list 9 = .ok (.iconst 1, 1) := by decide +kernel
theorem dX2_list_10 : decode cX2_list 10 = .ok (.putfield 15, 3) := by decide +kernel
theorem dX2_list_13 : decode cX2_list 13 = .ok (.aload_n 0, 1) := by decide +kernel
theorem dX2_list_14 : decode cX2_list 14 = .ok (.iconst 0, 1) := by decide +kernel
theorem dX2_list_15 : decode cX2_list 15 = .ok (.putfield 19, 3) := by decide +kernel
theorem dX2_list_18 : decode cX2_list 18 = .ok (.aload_n 1, 1) := by decide +kernel
theorem dX2_list_19 : decode cX2_list 19 = .ok (.getfield 23, 3) := by decide +kernel
theorem dX2_list_22 : decode cX2_list 22 = .ok (.invokestatic 28, 3) := by decide +kernel
theorem dX2_list_25 : decode cX2_list 25 = .ok (.istore_n 2, 1) := by decide +kernel
theorem dX2_list_26 : decode cX2_list 26 = .ok (.iload_n 2, 1) := by decide +kernel
theorem dX2_list_27 : decode cX2_list 27 = .ok (.aload_n 0, 1) := by decide +kernel
theorem dX2_list_28 : decode cX2_list 28 = .ok (.getfield 9, 3) := by decide +kernel
theorem dX2_list_31 : decode cX2_list 31 = .ok (.arraylength, 1) := by decide +kernel
theorem dX2_list_32 : decode cX2_list 32 = .ok (.if_icmp .le 10, 3) := by decide +kernel
theorem dX2_list_35 : decode cX2_list 35 = .ok (.aload_n 0, 1) := by decide +kernel
theorem dX2_list_36 : decode cX2_list 36 = .ok (.iload_n 2, 1) := by decide +kernel
theorem dX2_list_37 : decode cX2_list 37 = .ok (.newarray .int, 2) := by decide +kernel
theorem dX2_list_39 : decode cX2_list 39 = .ok (.putfield 9, 3) := by decide +kernel
theorem dX2_list_42 : decode cX2_list 42 = .ok (.aload_n 0, 1) := by decide +kernel
theorem dX2_list_43 : decode cX2_list 43 = .ok (.aload_n 1, 1) := by decide +kernel
theorem dX2_list_44 : decode cX2_list 44 = .ok (.iconst 0, 1) := by decide +kernel
theorem dX2_list_45 : decode cX2_list 45 = .ok (.iconst 0, 1) := by decide +kernel
theorem dX2_list_46 : decode cX2_list 46 = .ok (.iconst 0, 1) := by decide +kernel
theorem dX2_list_47 : decode cX2_list 47 = .ok (.invokestatic 34, 3) := by decide +kernel
theorem dX2_list_50 : decode cX2_list 50 = .ok (.return_, 1) := by decide +kernel
set_option maxRecDepth 20000 in
theorem ggX2_seatFrom_X4_isLawful : GoodIn wsX2_seatFrom wsX4_isLawful := goodIn_r _ [7, 8, 9, 10, 11, 12, 13, 6, 14, 15, 16, 17, 18, 19, 20, 21, 22, 23, 24, 25, 26, 27, 28, 29, 30, 31, 32, 49, 50, 51, 52, 53, 54, 55, 56, 57, 58] (by decide +kernel) (by decide +kernel)
set_option maxRecDepth 20000 in
theorem gX2_seatFrom_X4_isLawful : GoodIn wsX2_seatFrom (wsV RX2 38 RX4 yX4_isLawful wsX4_isLawful) := goodIn_app (goodIn_of _ (by decide +kernel)) ggX2_seatFrom_X4_isLawful
set_option maxRecDepth 20000 in
theorem ggX2_seatFrom_X2_add : GoodIn wsX2_seatFrom wsX2_add := goodIn_r _ [37, 38, 39, 59, 60, 61] (by decide +kernel) (by decide +kernel)
set_option maxRecDepth 20000 in
theorem gX2_seatFrom_X2_add : GoodIn wsX2_seatFrom (wsV RX2 42 RX2 yX2_add wsX2_add) := goodIn_app (goodIn_of _ (by decide +kernel)) ggX2_seatFrom_X2_add
set_option maxRecDepth 20000 in
theorem ggX2_seatFrom_X7_personOn : GoodIn wsX2_seatFrom wsX7_personOn := goodIn_r _ [24] (by decide +kernel) (by decide +kernel)
set_option maxRecDepth 20000 in
theorem gX2_seatFrom_X7_personOn : GoodIn wsX2_seatFrom (va_wsS RX2 50 yX7_personOn wsX7_personOn) := goodIn_app (goodIn_of _ (by decide +kernel)) ggX2_seatFrom_X7_personOn
set_option maxRecDepth 20000 in
theorem ggX2_seatFrom_X3_rowOf : GoodIn wsX2_seatFrom wsX3_rowOf := goodIn_r _ [43] (by decide +kernel) (by decide +kernel)
set_option maxRecDepth 20000 in
theorem gX2_seatFrom_X3_rowOf : GoodIn wsX2_seatFrom (va_wsS RX2 54 yX3_rowOf wsX3_rowOf) := goodIn_app (goodIn_of _ (by decide +kernel)) ggX2_seatFrom_X3_rowOf
set_option maxRecDepth 20000 in
theorem ggX2_seatFrom_X7_with : GoodIn wsX2_seatFrom wsX7_with := goodIn_r _ [46] (by decide +kernel) (by decide +kernel)
set_option maxRecDepth 20000 in
theorem gX2_seatFrom_X7_with : GoodIn wsX2_seatFrom (va_wsS RX2 60 yX7_with wsX7_with) := goodIn_app (goodIn_of _ (by decide +kernel)) ggX2_seatFrom_X7_with
set_option maxRecDepth 20000 in
theorem ggX2_seatFrom_X2_seatFrom : GoodIn wsX2_seatFrom wsX2_seatFrom := goodIn_r _ [0, 1, 2, 3, 4, 5, 6, 7, 8, 9, 10, 11, 12, 13, 14, 15, 16, 17, 18, 19, 20, 21, 22, 23, 24, 25, 26, 27, 28, 29, 30, 31, 32, 33, 34, 35, 36, 37, 38, 39, 40, 41, 42, 43, 44, 45, 46, 47, 48, 49, 50, 51, 52, 53, 54, 55, 56, 57, 58, 59, 60, 61] (by decide +kernel) (by decide +kernel)
set_option maxRecDepth 20000 in
theorem gX2_seatFrom_X2_seatFrom : GoodIn wsX2_seatFrom (va_wsS RX2 34 yX2_seatFrom wsX2_seatFrom) := goodIn_app (goodIn_of _ (by decide +kernel)) ggX2_seatFrom_X2_seatFrom
theorem dX2_seatFrom_0 : decode cX2_seatFrom 0 = .ok (.iload_n 2, 1) := by decide +kernel
theorem dX2_seatFrom_1 : decode cX2_seatFrom 1 = .ok (.aload_n 1, 1) := by decide +kernel
theorem dX2_seatFrom_2 : decode cX2_seatFrom 2 = .ok (.getfield 23, 3) := by decide +kernel
theorem dX2_seatFrom_5 : decode cX2_seatFrom 5 = .ok (.if_icmp .ge 9, 3) := by decide +kernel
theorem dX2_seatFrom_8 : decode cX2_seatFrom 8 = .ok (.iload_n 2, 1) := by decide +kernel
theorem dX2_seatFrom_9 : decode cX2_seatFrom 9 = .ok (.bipush 7, 2) := by decide +kernel
theorem dX2_seatFrom_11 : decode cX2_seatFrom 11 = .ok (.if_icmp .lt 19, 3) := by decide +kernel
theorem dX2_seatFrom_14 : decode cX2_seatFrom 14 = .ok (.aload_n 1, 1) := by decide +kernel
theorem dX2_seatFrom_15 : decode cX2_seatFrom 15 = .ok (.iload 4, 2) := by decide +kernel
theorem dX2_seatFrom_17 : decode cX2_seatFrom 17 = .ok (.invokevirtual 38, 3) := by decide +kernel
theorem dX2_seatFrom_20 : decode cX2_seatFrom 20 = .ok (.ifCond .eq 9, 3) := by decide +kernel
theorem dX2_seatFrom_23 : decode cX2_seatFrom 23 = .ok (.aload_n 0, 1) := by decide +kernel
theorem dX2_seatFrom_24 : decode cX2_seatFrom 24 = .ok (.iload 4, 2) := by decide +kernel
theorem dX2_seatFrom_26 : decode cX2_seatFrom 26 = .ok (.invokevirtual 42, 3) := by decide +kernel
theorem dX2_seatFrom_29 : decode cX2_seatFrom 29 = .ok (.return_, 1) := by decide +kernel
theorem dX2_seatFrom_30 : decode cX2_seatFrom 30 = .ok (.iload_n 3, 1) := by decide +kernel
theorem dX2_seatFrom_31 : decode cX2_seatFrom 31 = .ok (.istore 5, 2) := by decide +kernel
theorem dX2_seatFrom_33 : decode cX2_seatFrom 33 = .ok (.iload_n 2, 1) := by decide +kernel
theorem dX2_seatFrom_34 : decode cX2_seatFrom 34 = .ok (.ifCond .le 23, 3) := by decide +kernel
theorem dX2_seatFrom_37 : decode cX2_seatFrom 37 = .ok (.iload 5, 2) := by decide +kernel
theorem dX2_seatFrom_39 : decode cX2_seatFrom 39 = .ok (.aload_n 1, 1) := by decide +kernel
theorem dX2_seatFrom_40 : decode cX2_seatFrom 40 = .ok (.getfield 46, 3) := by decide +kernel
theorem dX2_seatFrom_43 : decode cX2_seatFrom 43 = .ok (.iload 4, 2) := by decide +kernel
theorem dX2_seatFrom_45 : decode cX2_seatFrom 45 = .ok (.iload_n 2, 1) := by decide +kernel
theorem dX2_seatFrom_46 : decode cX2_seatFrom 46 = .ok (.iconst 1, 1) := by decide +kernel
theorem dX2_seatFrom_47 : decode cX2_seatFrom 47 = .ok (.isub, 1) := by decide +kernel
theorem dX2_seatFrom_48 : decode cX2_seatFrom 48 = .ok (.invokestatic 50, 3) := by decide +kernel
theorem dX2_seatFrom_51 : decode cX2_seatFrom 51 = .ok (.invokestatic 54, 3) := by decide +kernel
theorem dX2_seatFrom_54 : decode cX2_seatFrom 54 = .ok (.ior, 1) := by decide +kernel
theorem dX2_seatFrom_55 : decode cX2_seatFrom 55 = .ok (.istore 5, 2) := by decide +kernel
theorem dX2_seatFrom_57 : decode cX2_seatFrom 57 = .ok (.iconst 0, 1) := by decide +kernel
theorem dX2_seatFrom_58 : decode cX2_seatFrom 58 = .ok (.istore 6, 2) := by decide +kernel
theorem dX2_seatFrom_60 : decode cX2_seatFrom 60 = .ok (.iload 6, 2) := by decide +kernel
theorem dX2_seatFrom_62 : decode cX2_seatFrom 62 = .ok (.aload_n 1, 1) := by decide +kernel
theorem dX2_seatFrom_63 : decode cX2_seatFrom 63 = .ok (.getfield 23, 3) := by decide +kernel
theorem dX2_seatFrom_66 : decode cX2_seatFrom 66 = .ok (.if_icmp .ge 48, 3) := by decide +kernel
theorem dX2_seatFrom_69 : decode cX2_seatFrom 69 = .ok (.iload 6, 2) := by decide +kernel
theorem dX2_seatFrom_71 : decode cX2_seatFrom 71 = .ok (.bipush 7, 2) := by decide +kernel
theorem dX2_seatFrom_73 : decode cX2_seatFrom 73 = .ok (.if_icmp .ge 41, 3) := by decide +kernel
theorem dX2_seatFrom_76 : decode cX2_seatFrom 76 = .ok (.iload 5, 2) := by decide +kernel
theorem dX2_seatFrom_78 : decode cX2_seatFrom 78 = .ok (.iload 6, 2) := by decide +kernel
theorem dX2_seatFrom_80 : decode cX2_seatFrom 80 = .ok (.ishr, 1) := by decide +kernel
theorem dX2_seatFrom_81 : decode cX2_seatFrom 81 = .ok (.iconst 1, 1) := by decide +kernel
theorem dX2_seatFrom_82 : decode cX2_seatFrom 82 = .ok (.iand, 1) := by decide +kernel
theorem dX2_seatFrom_83 : decode cX2_seatFrom 83 = .ok (.ifCond .ne 25, 3) := by decide +kernel
theorem dX2_seatFrom_86 : decode cX2_seatFrom 86 = .ok (.aload_n 0, 1) := by decide +kernel
theorem dX2_seatFrom_87 : decode cX2_seatFrom 87 = .ok (.aload_n 1, 1) := by decide +kernel
theorem dX2_seatFrom_88 : decode cX2_seatFrom 88 = .ok (.iload_n 2, 1) := by decide +kernel
theorem dX2_seatFrom_89 : decode cX2_seatFrom 89 = .ok (.iconst 1, 1) := by decide +kernel
theorem dX2_seatFrom_90 : decode cX2_seatFrom 90 = .ok (.iadd, 1) := by decide +kernel
theorem dX2_seatFrom_91 : decode cX2_seatFrom 91 = .ok (.iload_n 3, 1) := by decide +kernel
theorem dX2_seatFrom_92 : decode cX2_seatFrom 92 = .ok (.iconst 1, 1) := by decide +kernel
theorem dX2_seatFrom_93 : decode cX2_seatFrom 93 = .ok (.iload 6, 2) := by decide +kernel
theorem dX2_seatFrom_95 : decode cX2_seatFrom 95 = .ok (.ishl, 1) := by decide +kernel
theorem dX2_seatFrom_96 : decode cX2_seatFrom 96 = .ok (.ior, 1) := by decide +kernel
theorem dX2_seatFrom_97 : decode cX2_seatFrom 97 = .ok (.iload 4, 2) := by decide +kernel
theorem dX2_seatFrom_99 : decode cX2_seatFrom 99 = .ok (.iload_n 2, 1) := by decide +kernel
theorem dX2_seatFrom_100 : decode cX2_seatFrom 100 = .ok (.iload 6, 2) := by decide +kernel
theorem dX2_seatFrom_102 : decode cX2_seatFrom 102 = .ok (.invokestatic 60, 3) := by decide +kernel
theorem dX2_seatFrom_105 : decode cX2_seatFrom 105 = .ok (.invokestatic 34, 3) := by decide +kernel
theorem dX2_seatFrom_108 : decode cX2_seatFrom 108 = .ok (.iinc 6 1, 3) := by decide +kernel
theorem dX2_seatFrom_111 : decode cX2_seatFrom 111 = .ok (.goto (-51), 3) := by decide +kernel
theorem dX2_seatFrom_114 : decode cX2_seatFrom 114 = .ok (.return_, 1) := by decide +kernel
theorem dX2_add_0 : decode cX2_add 0 = .ok (.aload_n 0, 1) := by decide +kernel
theorem dX2_add_1 : decode cX2_add 1 = .ok (.getfield 19, 3) := by decide +kernel
theorem dX2_add_4 : decode cX2_add 4 = .ok (.ifCond .lt 35, 3) := by decide +kernel
theorem dX2_add_7 : decode cX2_add 7 = .ok (.aload_n 0, 1) := by decide +kernel
theorem dX2_add_8 : decode cX2_add 8 = .ok (.getfield 19, 3) := by decide +kernel
theorem dX2_add_11 : decode cX2_add 11 = .ok (.aload_n 0, 1) := by decide +kernel
theorem dX2_add_12 : decode cX2_add 12 = .ok (.getfield 9, 3) := by decide +kernel
theorem dX2_add_15 : decode cX2_add 15 = .ok (.arraylength, 1) := by decide +kernel
theorem dX2_add_16 : decode cX2_add 16 = .ok (.if_icmp .ge 23, 3) := by decide +kernel
theorem dX2_add_19 : decode cX2_add 19 = .ok (.aload_n 0, 1) := by decide +kernel
theorem dX2_add_20 : decode cX2_add 20 = .ok (.getfield 9, 3) := by decide +kernel
theorem dX2_add_23 : decode cX2_add 23 = .ok (.aload_n 0, 1) := by decide +kernel
theorem dX2_add_24 : decode cX2_add 24 = .ok (.getfield 19, 3) := by decide +kernel
theorem dX2_add_27 : decode cX2_add 27 = .ok (.iload_n 1, 1) := by decide +kernel
theorem dX2_add_28 : decode cX2_add 28 = .ok (.iastore, 1) := by decide +kernel
theorem dX2_add_29 : decode cX2_add 29 = .ok (.aload_n 0, 1) := by decide +kernel
theorem dX2_add_30 : decode cX2_add 30 = .ok (.dup, 1) := by decide +kernel
theorem dX2_add_31 : decode cX2_add 31 = .ok (.getfield 19, 3) := by decide +kernel
theorem dX2_add_34 : decode cX2_add 34 = .ok (.iconst 1, 1) := by decide +kernel
theorem dX2_add_35 : decode cX2_add 35 = .ok (.iadd, 1) := by decide +kernel
theorem dX2_add_36 : decode cX2_add 36 = .ok (.putfield 19, 3) := by decide +kernel
theorem dX2_add_39 : decode cX2_add 39 = .ok (.return_, 1) := by decide +kernel
theorem dX2_hasRank_0 : decode cX2_hasRank 0 = .ok (.iload_n 1, 1) := by decide +kernel
theorem dX2_hasRank_1 : decode cX2_hasRank 1 = .ok (.ifCond .lt 15, 3) := by decide +kernel
theorem dX2_hasRank_4 : decode cX2_hasRank 4 = .ok (.iload_n 1, 1) := by decide +kernel
theorem dX2_hasRank_5 : decode cX2_hasRank 5 = .ok (.aload_n 0, 1) := by decide +kernel
theorem dX2_hasRank_6 : decode cX2_hasRank 6 = .ok (.getfield 19, 3) := by decide +kernel
theorem dX2_hasRank_9 : decode cX2_hasRank 9 = .ok (.if_icmp .ge 7, 3) := by decide +kernel
theorem dX2_hasRank_12 : decode cX2_hasRank 12 = .ok (.iconst 1, 1) := by decide +kernel
theorem dX2_hasRank_13 : decode cX2_hasRank 13 = .ok (.goto 4, 3) := by decide +kernel
theorem dX2_hasRank_16 : decode cX2_hasRank 16 = .ok (.iconst 0, 1) := by decide +kernel
theorem dX2_hasRank_17 : decode cX2_hasRank 17 = .ok (.ireturn, 1) := by decide +kernel
theorem dX2_seatingOf_0 : decode cX2_seatingOf 0 = .ok (.iload_n 1, 1) := by decide +kernel
theorem dX2_seatingOf_1 : decode cX2_seatingOf 1 = .ok (.ifCond .lt 21, 3) := by decide +kernel
theorem dX2_seatingOf_4 : decode cX2_seatingOf 4 = .ok (.iload_n 1, 1) := by decide +kernel
theorem dX2_seatingOf_5 : decode cX2_seatingOf 5 = .ok (.aload_n 0, 1) := by decide +kernel
theorem dX2_seatingOf_6 : decode cX2_seatingOf 6 = .ok (.getfield 9, 3) := by decide +kernel
theorem dX2_seatingOf_9 : decode cX2_seatingOf 9 = .ok (.arraylength, 1) := by decide +kernel
theorem dX2_seatingOf_10 : decode cX2_seatingOf 10 = .ok (.if_icmp .ge 12, 3) := by decide +kernel
theorem dX2_seatingOf_13 : decode cX2_seatingOf 13 = .ok (.aload_n 0, 1) := by decide +kernel
theorem dX2_seatingOf_14 : decode cX2_seatingOf 14 = .ok (.getfield 9, 3) := by decide +kernel
theorem dX2_seatingOf_17 : decode cX2_seatingOf 17 = .ok (.iload_n 1, 1) := by decide +kernel
theorem dX2_seatingOf_18 : decode cX2_seatingOf 18 = .ok (.iaload, 1) := by decide +kernel
theorem dX2_seatingOf_19 : decode cX2_seatingOf 19 = .ok (.goto 4, 3) := by decide +kernel
theorem dX2_seatingOf_22 : decode cX2_seatingOf 22 = .ok (.iconst 0, 1) := by decide +kernel
theorem dX2_seatingOf_23 : decode cX2_seatingOf 23 = .ok (.ireturn, 1) := by decide +kernel
set_option maxRecDepth 20000 in
theorem ggX2_personBy_X2_hasRank : GoodIn wsX2_personBy wsX2_hasRank := goodIn_r _ [5, 6, 16, 17, 18] (by decide +kernel) (by decide +kernel)
set_option maxRecDepth 20000 in
theorem gX2_personBy_X2_hasRank : GoodIn wsX2_personBy (wsV RX2 64 RX2 yX2_hasRank wsX2_hasRank) := goodIn_app (goodIn_of _ (by decide +kernel)) ggX2_personBy_X2_hasRank
set_option maxRecDepth 20000 in
theorem ggX2_personBy_X2_seatingOf : GoodIn wsX2_personBy wsX2_seatingOf := goodIn_r _ [10, 11, 16, 17, 18] (by decide +kernel) (by decide +kernel)
set_option maxRecDepth 20000 in
theorem gX2_personBy_X2_seatingOf : GoodIn wsX2_personBy (wsV RX2 67 RX2 yX2_seatingOf wsX2_seatingOf) := goodIn_app (goodIn_of _ (by decide +kernel)) ggX2_personBy_X2_seatingOf
set_option maxRecDepth 20000 in
theorem ggX2_personBy_X7_personOn : GoodIn wsX2_personBy wsX7_personOn := goodIn_r _ [15] (by decide +kernel) (by decide +kernel)
set_option maxRecDepth 20000 in
theorem gX2_personBy_X7_personOn : GoodIn wsX2_personBy (va_wsS RX2 50 yX7_personOn wsX7_personOn) := goodIn_app (goodIn_of _ (by decide +kernel)) ggX2_personBy_X7_personOn
theorem dX2_personBy_0 : decode cX2_personBy 0 = .ok (.aload_n 0, 1) := by decide +kernel
theorem dX2_personBy_1 : decode cX2_personBy 1 = .ok (.iload_n 1, 1) := by decide +kernel
theorem dX2_personBy_2 : decode cX2_personBy 2 = .ok (.invokevirtual 64, 3) := by decide +kernel
theorem dX2_personBy_5 : decode cX2_personBy 5 = .ok (.ifCond .eq 15, 3) := by decide +kernel
theorem dX2_personBy_8 : decode cX2_personBy 8 = .ok (.aload_n 0, 1) := by decide +kernel
theorem dX2_personBy_9 : decode cX2_personBy 9 = .ok (.iload_n 1, 1) := by decide +kernel
theorem dX2_personBy_10 : decode cX2_personBy 10 = .ok (.invokevirtual 67, 3) := by decide +kernel
theorem dX2_personBy_13 : decode cX2_personBy 13 = .ok (.iload_n 2, 1) := by decide +kernel
theorem dX2_personBy_14 : decode cX2_personBy 14 = .ok (.invokestatic 50, 3) := by decide +kernel
theorem dX2_personBy_17 : decode cX2_personBy 17 = .ok (.goto 5, 3) := by decide +kernel
theorem dX2_personBy_20 : decode cX2_personBy 20 = .ok (.bipush (-9), 2) := by decide +kernel
theorem dX2_personBy_22 : decode cX2_personBy 22 = .ok (.ireturn, 1) := by decide +kernel
set_option maxRecDepth 20000 in
theorem ggX2_rankOf_X2_seatingOf : GoodIn wsX2_rankOf wsX2_seatingOf := goodIn_r _ [6, 7, 8, 9, 10] (by decide +kernel) (by decide +kernel)
set_option maxRecDepth 20000 in
theorem gX2_rankOf_X2_seatingOf : GoodIn wsX2_rankOf (wsV RX2 67 RX2 yX2_seatingOf wsX2_seatingOf) := goodIn_app (goodIn_of _ (by decide +kernel)) ggX2_rankOf_X2_seatingOf
theorem dX2_rankOf_0 : decode cX2_rankOf 0 = .ok (.iconst 0, 1) := by decide +kernel
theorem dX2_rankOf_1 : decode cX2_rankOf 1 = .ok (.istore_n 2, 1) := by decide +kernel
theorem dX2_rankOf_2 : decode cX2_rankOf 2 = .ok (.aload_n 0, 1) := by decide +kernel
theorem dX2_rankOf_3 : decode cX2_rankOf 3 = .ok (.getfield 19, 3) := by decide +kernel
theorem dX2_rankOf_6 : decode cX2_rankOf 6 = .ok (.istore_n 3, 1) := by decide +kernel
theorem dX2_rankOf_7 : decode cX2_rankOf 7 = .ok (.iconst 0, 1) := by decide +kernel
theorem dX2_rankOf_8 : decode cX2_rankOf 8 = .ok (.istore 4, 2) := by decide +kernel
theorem dX2_rankOf_10 : decode cX2_rankOf 10 = .ok (.iload 4, 2) := by decide +kernel
theorem dX2_rankOf_12 : decode cX2_rankOf 12 = .ok (.bipush 16, 2) := by decide +kernel
theorem dX2_rankOf_14 : decode cX2_rankOf 14 = .ok (.if_icmp .ge 42, 3) := by decide +kernel
theorem dX2_rankOf_17 : decode cX2_rankOf 17 = .ok (.iload_n 2, 1) := by decide +kernel
theorem dX2_rankOf_18 : decode cX2_rankOf 18 = .ok (.iload_n 3, 1) := by decide +kernel
theorem dX2_rankOf_19 : decode cX2_rankOf 19 = .ok (.if_icmp .ge 37, 3) := by decide +kernel
theorem dX2_rankOf_22 : decode cX2_rankOf 22 = .ok (.iload_n 2, 1) := by decide +kernel
theorem dX2_rankOf_23 : decode cX2_rankOf 23 = .ok (.iload_n 3, 1) := by decide +kernel
theorem dX2_rankOf_24 : decode cX2_rankOf 24 = .ok (.iadd, 1) := by decide +kernel
theorem dX2_rankOf_25 : decode cX2_rankOf 25 = .ok (.iconst 2, 1) := by decide +kernel
theorem dX2_rankOf_26 : decode cX2_rankOf 26 = .ok (.idiv, 1) := by decide +kernel
theorem dX2_rankOf_27 : decode cX2_rankOf 27 = .ok (.istore 5, 2) := by decide +kernel
theorem dX2_rankOf_29 : decode cX2_rankOf 29 = .ok (.aload_n 0, 1) := by decide +kernel
theorem dX2_rankOf_30 : decode cX2_rankOf 30 = .ok (.iload 5, 2) := by decide +kernel
theorem dX2_rankOf_32 : decode cX2_rankOf 32 = .ok (.invokevirtual 67, 3) := by decide +kernel
theorem dX2_rankOf_35 : decode cX2_rankOf 35 = .ok (.iload_n 1, 1) := by decide +kernel
theorem dX2_rankOf_36 : decode cX2_rankOf 36 = .ok (.if_icmp .ge 11, 3) := by decide +kernel
theorem dX2_rankOf_39 : decode cX2_rankOf 39 = .ok (.iload 5, 2) := by decide +kernel
theorem dX2_rankOf_41 : decode cX2_rankOf 41 = .ok (.iconst 1, 1) := by decide +kernel
theorem dX2_rankOf_42 : decode cX2_rankOf 42 = .ok (.iadd, 1) := by decide +kernel
theorem dX2_rankOf_43 : decode cX2_rankOf 43 = .ok (.istore_n 2, 1) := by decide +kernel
theorem dX2_rankOf_44 : decode cX2_rankOf 44 = .ok (.goto 6, 3) := by decide +kernel
theorem dX2_rankOf_47 : decode cX2_rankOf 47 = .ok (.iload 5, 2) := by decide +kernel
theorem dX2_rankOf_49 : decode cX2_rankOf 49 = .ok (.istore_n 3, 1) := by decide +kernel
theorem dX2_rankOf_50 : decode cX2_rankOf 50 = .ok (.iinc 4 1, 3) := by decide +kernel
theorem dX2_rankOf_53 : decode cX2_rankOf 53 = .ok (.goto (-43), 3) := by decide +kernel
theorem dX2_rankOf_56 : decode cX2_rankOf 56 = .ok (.iload_n 2, 1) := by decide +kernel
theorem dX2_rankOf_57 : decode cX2_rankOf 57 = .ok (.aload_n 0, 1) := by decide +kernel
theorem dX2_rankOf_58 : decode cX2_rankOf 58 = .ok (.getfield 19, 3) := by decide +kernel
theorem dX2_rankOf_61 : decode cX2_rankOf 61 = .ok (.if_icmp .ge 16, 3) := by decide +kernel
theorem dX2_rankOf_64 : decode cX2_rankOf 64 = .ok (.aload_n 0, 1) := by decide +kernel
theorem dX2_rankOf_65 : decode cX2_rankOf 65 = .ok (.iload_n 2, 1) := by decide +kernel
theorem dX2_rankOf_66 : decode cX2_rankOf 66 = .ok (.invokevirtual 67, 3) := by decide +kernel
theorem dX2_rankOf_69 : decode cX2_rankOf 69 = .ok (.iload_n 1, 1) := by decide +kernel
theorem dX2_rankOf_70 : decode cX2_rankOf 70 = .ok (.if_icmp .ne 7, 3) := by decide +kernel
theorem dX2_rankOf_73 : decode cX2_rankOf 73 = .ok (.iload_n 2, 1) := by decide +kernel
theorem dX2_rankOf_74 : decode cX2_rankOf 74 = .ok (.goto 5, 3) := by decide +kernel
theorem dX2_rankOf_77 : decode cX2_rankOf 77 = .ok (.bipush (-9), 2) := by decide +kernel
theorem dX2_rankOf_79 : decode cX2_rankOf 79 = .ok (.ireturn, 1) := by decide +kernel
set_option maxRecDepth 20000 in
theorem ggX2_firstOfLeast_X2_seatingOf : GoodIn wsX2_firstOfLeast wsX2_seatingOf := goodIn_r _ [6, 7, 31, 32, 33] (by decide +kernel) (by decide +kernel)
set_option maxRecDepth 20000 in
theorem gX2_firstOfLeast_X2_seatingOf : GoodIn wsX2_firstOfLeast (wsV RX2 67 RX2 yX2_seatingOf wsX2_seatingOf) := goodIn_app (goodIn_of _ (by decide +kernel)) ggX2_firstOfLeast_X2_seatingOf
set_option maxRecDepth 20000 in
theorem ggX2_firstOfLeast_X4_weigh : GoodIn wsX2_firstOfLeast wsX4_weigh := goodIn_r _ [12, 13, 14, 15, 11, 16, 17, 18, 19, 20, 21, 22, 23, 24, 25, 26, 27, 28, 29, 30, 34, 35, 36, 37, 38, 39, 40, 41, 42, 43] (by decide +kernel) (by decide +kernel)
set_option maxRecDepth 20000 in
theorem gX2_firstOfLeast_X4_weigh : GoodIn wsX2_firstOfLeast (wsV RX2 70 RX4 yX4_weigh wsX4_weigh) := goodIn_app (goodIn_of _ (by decide +kernel)) ggX2_firstOfLeast_X4_weigh
theorem dX2_firstOfLeast_0 : decode cX2_firstOfLeast 0 = .ok (.bipush (-9), 2) := by decide +kernel
theorem dX2_firstOfLeast_2 : decode cX2_firstOfLeast 2 = .ok (.istore 4, 2) := by decide +kernel
theorem dX2_firstOfLeast_4 : decode cX2_firstOfLeast 4 = .ok (.iconst 0, 1) := by decide +kernel
theorem dX2_firstOfLeast_5 : decode cX2_firstOfLeast 5 = .ok (.istore 5, 2) := by decide +kernel
theorem dX2_firstOfLeast_7 : decode cX2_firstOfLeast 7 = .ok (.iconst 0, 1) := by decide +kernel
theorem dX2_firstOfLeast_8 : decode cX2_firstOfLeast 8 = .ok (.istore 6, 2) := by decide +kernel
theorem dX2_firstOfLeast_10 : decode cX2_firstOfLeast 10 = .ok (.iload 6, 2) := by decide +kernel
theorem dX2_firstOfLeast_12 : decode cX2_firstOfLeast 12 = .ok (.aload_n 0, 1) := by decide +kernel
theorem dX2_firstOfLeast_13 : decode cX2_firstOfLeast 13 = .ok (.getfield 19, 3) := by decide +kernel
theorem dX2_firstOfLeast_16 : decode cX2_firstOfLeast 16 = .ok (.if_icmp .ge 44, 3) := by decide +kernel
theorem dX2_firstOfLeast_19 : decode cX2_firstOfLeast 19 = .ok (.iload_n 3, 1) := by decide +kernel
theorem dX2_firstOfLeast_20 : decode cX2_firstOfLeast 20 = .ok (.aload_n 1, 1) := by decide +kernel
theorem dX2_firstOfLeast_21 : decode cX2_firstOfLeast 21 = .ok (.aload_n 0, 1) := by decide +kernel
theorem dX2_firstOfLeast_22 : decode cX2_firstOfLeast 22 = .ok (.iload 6, 2) := by decide +kernel
theorem dX2_firstOfLeast_24 : decode cX2_firstOfLeast 24 = .ok (.invokevirtual 67, 3) := by decide +kernel
theorem dX2_firstOfLeast_27 : decode cX2_firstOfLeast 27 = .ok (.aload_n 2, 1) := by decide +kernel
theorem dX2_firstOfLeast_28 : decode cX2_firstOfLeast 28 = .ok (.invokevirtual 70, 3) := by decide +kernel
theorem dX2_firstOfLeast_31 : decode cX2_firstOfLeast 31 = .ok (.imul, 1) := by decide +kernel
theorem dX2_firstOfLeast_32 : decode cX2_firstOfLeast 32 = .ok (.istore 7, 2) := by decide +kernel
theorem dX2_firstOfLeast_34 : decode cX2_firstOfLeast 34 = .ok (.iload 4, 2) := by decide +kernel
theorem dX2_firstOfLeast_36 : decode cX2_firstOfLeast 36 = .ok (.ifCond .lt 10, 3) := by decide +kernel
theorem dX2_firstOfLeast_39 : decode cX2_firstOfLeast 39 = .ok (.iload 7, 2) := by decide +kernel
theorem dX2_firstOfLeast_41 : decode cX2_firstOfLeast 41 = .ok (.iload 5, 2) := by decide +kernel
theorem dX2_firstOfLeast_43 : decode cX2_firstOfLeast 43 = .ok (.if_icmp .ge 11, 3) := by decide +kernel
theorem dX2_firstOfLeast_46 : decode cX2_firstOfLeast 46 = .ok (.iload 6, 2) := by decide +kernel
theorem dX2_firstOfLeast_48 : decode cX2_firstOfLeast 48 = .ok (.istore 4, 2) := by decide +kernel
theorem dX2_firstOfLeast_50 : decode cX2_firstOfLeast 50 = .ok (.iload 7, 2) := by decide +kernel
theorem dX2_firstOfLeast_52 : decode cX2_firstOfLeast 52 = .ok (.istore 5, 2) := by decide +kernel
theorem dX2_firstOfLeast_54 : decode cX2_firstOfLeast 54 = .ok (.iinc 6 1, 3) := by decide +kernel
theorem dX2_firstOfLeast_57 : decode cX2_firstOfLeast 57 = .ok (.goto (-47), 3) := by decide +kernel
theorem dX2_firstOfLeast_60 : decode cX2_firstOfLeast 60 = .ok (.iload 4, 2) := by decide +kernel
theorem dX2_firstOfLeast_62 : decode cX2_firstOfLeast 62 = .ok (.ireturn, 1) := by decide +kernel
theorem dX3_cell_0 : decode cX3_cell 0 = .ok (.iload_n 0, 1) := by decide +kernel
theorem dX3_cell_1 : decode cX3_cell 1 = .ok (.bipush 7, 2) := by decide +kernel
theorem dX3_cell_3 : decode cX3_cell 3 = .ok (.iand, 1) := by decide +kernel
theorem dX3_cell_4 : decode cX3_cell 4 = .ok (.iconst 3, 1) := by decide +kernel
theorem dX3_cell_5 : decode cX3_cell 5 = .ok (.ishl, 1) := by decide +kernel
theorem dX3_cell_6 : decode cX3_cell 6 = .ok (.iload_n 1, 1) := by decide +kernel
theorem dX3_cell_7 : decode cX3_cell 7 = .ok (.bipush 7, 2) := by decide +kernel
theorem dX3_cell_9 : decode cX3_cell 9 = .ok (.iand, 1) := by decide +kernel
theorem dX3_cell_10 : decode cX3_cell 10 = .ok (.ior, 1) := by decide +kernel
theorem dX3_cell_11 : decode cX3_cell 11 = .ok (.ireturn, 1) := by decide +kernel
set_option maxRecDepth 20000 in
theorem ggX3_cellOfTwo_X3_cell : GoodIn wsX3_cellOfTwo wsX3_cell := goodIn_r _ [4] (by decide +kernel) (by decide +kernel)
set_option maxRecDepth 20000 in
theorem gX3_cellOfTwo_X3_cell : GoodIn wsX3_cellOfTwo (va_wsS RX3 7 yX3_cell wsX3_cell) := goodIn_app (goodIn_of _ (by decide +kernel)) ggX3_cellOfTwo_X3_cell
theorem dX3_cellOfTwo_0 : decode cX3_cellOfTwo 0 = .ok (.iload_n 0, 1) := by decide +kernel
theorem dX3_cellOfTwo_1 : decode cX3_cellOfTwo 1 = .ok (.iload_n 1, 1) := by decide +kernel
theorem dX3_cellOfTwo_2 : decode cX3_cellOfTwo 2 = .ok (.if_icmp .ge 11, 3) := by decide +kernel
theorem dX3_cellOfTwo_5 : decode cX3_cellOfTwo 5 = .ok (.iload_n 0, 1) := by decide +kernel
theorem dX3_cellOfTwo_6 : decode cX3_cellOfTwo 6 = .ok (.iload_n 1, 1) := by decide +kernel
theorem dX3_cellOfTwo_7 : decode cX3_cellOfTwo 7 = .ok (.invokestatic 7, 3) := by decide +kernel
theorem dX3_cellOfTwo_10 : decode cX3_cellOfTwo 10 = .ok (.goto 8, 3) := by decide +kernel
theorem dX3_cellOfTwo_13 : decode cX3_cellOfTwo 13 = .ok (.iload_n 1, 1) := by decide +kernel
theorem dX3_cellOfTwo_14 : decode cX3_cellOfTwo 14 = .ok (.iload_n 0, 1) := by decide +kernel
theorem dX3_cellOfTwo_15 : decode cX3_cellOfTwo 15 = .ok (.invokestatic 7, 3) := by decide +kernel
theorem dX3_cellOfTwo_18 : decode cX3_cellOfTwo 18 = .ok (.ireturn, 1) := by decide +kernel
theorem dX3_bothWays_0 : decode cX3_bothWays 0 = .ok (.lconst 1, 1) := by decide +kernel
theorem dX3_bothWays_1 : decode cX3_bothWays 1 = .ok (.bipush 8, 2) := by decide +kernel
theorem dX3_bothWays_3 : decode cX3_bothWays 3 = .ok (.iload_n 0, 1) := by decide +kernel
theorem dX3_bothWays_4 : decode cX3_bothWays 4 = .ok (.imul, 1) := by decide +kernel
theorem dX3_bothWays_5 : decode cX3_bothWays 5 = .ok (.iload_n 1, 1) := by decide +kernel
theorem dX3_bothWays_6 : decode cX3_bothWays 6 = .ok (.iadd, 1) := by decide +kernel
theorem dX3_bothWays_7 : decode cX3_bothWays 7 = .ok (.lshl, 1) := by decide +kernel
theorem dX3_bothWays_8 : decode cX3_bothWays 8 = .ok (.lconst 1, 1) := by decide +kernel
theorem dX3_bothWays_9 : decode cX3_bothWays 9 = .ok (.bipush 8, 2) := by decide +kernel
theorem dX3_bothWays_11 : decode cX3_bothWays 11 = .ok (.iload_n 1, 1) := by decide +kernel
theorem dX3_bothWays_12 : decode cX3_bothWays 12 = .ok (.imul, 1) := by decide +kernel
theorem dX3_bothWays_13 : decode cX3_bothWays 13 = .ok (.iload_n 0, 1) := by decide +kernel
theorem dX3_bothWays_14 : decode cX3_bothWays 14 = .ok (.iadd, 1) := by decide +kernel
theorem dX3_bothWays_15 : decode cX3_bothWays 15 = .ok (.lshl, 1) := by decide +kernel
theorem dX3_bothWays_16 : decode cX3_bothWays 16 = .ok (.lor, 1) := by decide +kernel
theorem dX3_bothWays_17 : decode cX3_bothWays 17 = .ok (.lreturn, 1) := by decide +kernel
theorem dX3_rowOf_0 : decode cX3_rowOf 0 = .ok (.lload_n 0, 1) := by decide +kernel
theorem dX3_rowOf_1 : decode cX3_rowOf 1 = .ok (.bipush 8, 2) := by decide +kernel
theorem dX3_rowOf_3 : decode cX3_rowOf 3 = .ok (.iload_n 2, 1) := by decide +kernel
theorem dX3_rowOf_4 : decode cX3_rowOf 4 = .ok (.imul, 1) := by decide +kernel
theorem dX3_rowOf_5 : decode cX3_rowOf 5 = .ok (.lushr, 1) := by decide +kernel
theorem dX3_rowOf_6 : decode cX3_rowOf 6 = .ok (.l2i, 1) := by decide +kernel
theorem dX3_rowOf_7 : decode cX3_rowOf 7 = .ok (.sipush 255, 3) := by decide +kernel
theorem dX3_rowOf_10 : decode cX3_rowOf 10 = .ok (.iand, 1) := by decide +kernel
theorem dX3_rowOf_11 : decode cX3_rowOf 11 = .ok (.ireturn, 1) := by decide +kernel
theorem dX4_init_0 : decode cX4_init 0 = .ok (.aload_n 0, 1) := by decide +kernel
theorem dX4_init_1 : decode cX4_init 1 = .ok (.invokespecial 3, 3) := by decide +kernel
theorem dX4_init_4 : decode cX4_init 4 = .ok (.aload_n 0, 1) := by decide +kernel
theorem dX4_init_5 : decode cX4_init 5 = .ok (.iconst 0, 1) := by decide +kernel
theorem dX4_init_6 : decode cX4_init 6 = .ok (.putfield 9, 3) := by decide +kernel
theorem dX4_init_9 : decode cX4_init 9 = .ok (.aload_n 0, 1) := by decide +kernel
theorem dX4_init_10 : decode cX4_init 10 = .ok (.iconst 0, 1) := by decide +kernel
theorem dX4_init_11 : decode cX4_init 11 = .ok (.putfield 15, 3) := by decide +kernel
theorem dX4_init_14 : decode cX4_init 14 = .ok (.aload_n 0, 1) := by decide +kernel
theorem dX4_init_15 : decode cX4_init 15 = .ok (.iconst 0, 1) := by decide +kernel
theorem dX4_init_16 : decode cX4_init 16 = .ok (.putfield 18, 3) := by decide +kernel
theorem dX4_init_19 : decode cX4_init 19 = .ok (.aload_n 0, 1) := by decide +kernel
theorem dX4_init_20 : decode cX4_init 20 = .ok (.iconst 0, 1) := by decide +kernel
theorem dX4_init_21 : decode cX4_init 21 = .ok (.putfield 21, 3) := by decide +kernel
theorem dX4_init_24 : decode cX4_init 24 = .ok (.aload_n 0, 1) := by decide +kernel
theorem dX4_init_25 : decode cX4_init 25 = .ok (.iconst 0, 1) := by decide +kernel
theorem dX4_init_26 : decode cX4_init 26 = .ok (.putfield 25, 3) := by decide +kernel
theorem dX4_init_29 : decode cX4_init 29 = .ok (.aload_n 0, 1) := by decide +kernel
theorem dX4_init_30 : decode cX4_init 30 = .ok (.lconst 0, 1) := by decide +kernel
theorem dX4_init_31 : decode cX4_init 31 = .ok (.putfield 28, 3) := by decide +kernel
theorem dX4_init_34 : decode cX4_init 34 = .ok (.aload_n 0, 1) := by decide +kernel
theorem dX4_init_35 : decode cX4_init 35 = .ok (.lconst 0, 1) := by decide +kernel
theorem dX4_init_36 : decode cX4_init 36 = .ok (.putfield 32, 3) := by decide +kernel
theorem dX4_init_39 : decode cX4_init 39 = .ok (.aload_n 0, 1) := by decide +kernel
theorem dX4_init_40 : decode cX4_init 40 = .ok (.lconst 0, 1) := by decide +kernel
theorem dX4_init_41 : decode cX4_init 41 = .ok (.putfield 35, 3) := by decide +kernel
theorem dX4_init_44 : decode cX4_init 44 = .ok (.aload_n 0, 1) := by decide +kernel
theorem dX4_init_45 : decode cX4_init 45 = .ok (.lconst 0, 1) := by decide +kernel
theorem dX4_init_46 : decode cX4_init 46 = .ok (.putfield 38, 3) := by decide +kernel
theorem dX4_init_49 : decode cX4_init 49 = .ok (.aload_n 0, 1) := by decide +kernel
theorem dX4_init_50 : decode cX4_init 50 = .ok (.bipush 64, 2) := by decide +kernel
theorem dX4_init_52 : decode cX4_init 52 = .ok (.newarray .int, 2) := by decide +kernel
theorem dX4_init_54 : decode cX4_init 54 = .ok (.putfield 43, 3) := by decide +kernel
theorem dX4_init_57 : decode cX4_init 57 = .ok (.return_, 1) := by decide +kernel
theorem dX4_clear_0 : decode cX4_clear 0 = .ok (.aload_n 0, 1) := by decide +kernel
theorem dX4_clear_1 : decode cX4_clear 1 = .ok (.iconst 0, 1) := by decide +kernel
theorem dX4_clear_2 : decode cX4_clear 2 = .ok (.putfield 9, 3) := by decide +kernel
theorem dX4_clear_5 : decode cX4_clear 5 = .ok (.aload_n 0, 1) := by decide +kernel
theorem dX4_clear_6 : decode cX4_clear 6 = .ok (.iconst 0, 1) := by decide +kernel
theorem dX4_clear_7 : decode cX4_clear 7 = .ok (.putfield 15, 3) := by decide +kernel
theorem dX4_clear_10 : decode cX4_clear 10 = .ok (.aload_n 0, 1) := by decide +kernel
theorem dX4_clear_11 : decode cX4_clear 11 = .ok (.iconst 0, 1) := by decide +kernel
theorem dX4_clear_12 : decode cX4_clear 12 = .ok (.putfield 18, 3) := by decide +kernel
theorem dX4_clear_15 : decode cX4_clear 15 = .ok (.aload_n 0, 1) := by decide +kernel
theorem dX4_clear_16 : decode cX4_clear 16 = .ok (.iconst 0, 1) := by decide +kernel
theorem dX4_clear_17 : decode cX4_clear 17 = .ok (.putfield 21, 3) := by decide +kernel
theorem dX4_clear_20 : decode cX4_clear 20 = .ok (.aload_n 0, 1) := by decide +kernel
theorem dX4_clear_21 : decode cX4_clear 21 = .ok (.iconst 0, 1) := by decide +kernel
theorem dX4_clear_22 : decode cX4_clear 22 = .ok (.putfield 25, 3) := by decide +kernel
theorem dX4_clear_25 : decode cX4_clear 25 = .ok (.aload_n 0, 1) := by decide +kernel
theorem dX4_clear_26 : decode cX4_clear 26 = .ok (.lconst 0, 1) := by decide +kernel
theorem dX4_clear_27 : decode cX4_clear 27 = .ok (.putfield 28, 3) := by decide +kernel
theorem dX4_clear_30 : decode cX4_clear 30 = .ok (.aload_n 0, 1) := by decide +kernel
theorem dX4_clear_31 : decode cX4_clear 31 = .ok (.lconst 0, 1) := by decide +kernel
theorem dX4_clear_32 : decode cX4_clear 32 = .ok (.putfield 32, 3) := by decide +kernel
theorem dX4_clear_35 : decode cX4_clear 35 = .ok (.aload_n 0, 1) := by decide +kernel
theorem dX4_clear_36 : decode cX4_clear 36 = .ok (.lconst 0, 1) := by decide +kernel
theorem dX4_clear_37 : decode cX4_clear 37 = .ok (.putfield 35, 3) := by decide +kernel
theorem dX4_clear_40 : decode cX4_clear 40 = .ok (.aload_n 0, 1) := by decide +kernel
theorem dX4_clear_41 : decode cX4_clear 41 = .ok (.lconst 0, 1) := by decide +kernel
theorem dX4_clear_42 : decode cX4_clear 42 = .ok (.putfield 38, 3) := by decide +kernel
theorem dX4_clear_45 : decode cX4_clear 45 = .ok (.iconst 0, 1) := by decide +kernel
theorem dX4_clear_46 : decode cX4_clear 46 = .ok (.istore_n 1, 1) := by decide +kernel
theorem dX4_clear_47 : decode cX4_clear 47 = .ok (.iload_n 1, 1) := by decide +kernel
theorem dX4_clear_48 : decode cX4_clear 48 = .ok (.aload_n 0, 1) := by decide +kernel
theorem dX4_clear_49 : decode cX4_clear 49 = .ok (.getfield 43, 3) := by decide +kernel
theorem dX4_clear_52 : decode cX4_clear 52 = .ok (.arraylength, 1) := by decide +kernel
theorem dX4_clear_53 : decode cX4_clear 53 = .ok (.if_icmp .ge 16, 3) := by decide +kernel
theorem dX4_clear_56 : decode cX4_clear 56 = .ok (.aload_n 0, 1) := by decide +kernel
theorem dX4_clear_57 : decode cX4_clear 57 = .ok (.getfield 43, 3) := by decide +kernel
theorem dX4_clear_60 : decode cX4_clear 60 = .ok (.iload_n 1, 1) := by decide +kernel
theorem dX4_clear_61 : decode cX4_clear 61 = .ok (.iconst 0, 1) := by decide +kernel
theorem dX4_clear_62 : decode cX4_clear 62 = .ok (.iastore, 1) := by decide +kernel
theorem dX4_clear_63 : decode cX4_clear 63 = .ok (.iinc 1 1, 3) := by decide +kernel
theorem dX4_clear_66 : decode cX4_clear 66 = .ok (.goto (-19), 3) := by decide +kernel
theorem dX4_clear_69 : decode cX4_clear 69 = .ok (.return_, 1) := by decide +kernel
theorem dX4_hasPerson_0 : decode cX4_hasPerson 0 = .ok (.iload_n 1, 1) := by decide +kernel
theorem dX4_hasPerson_1 : decode cX4_hasPerson 1 = .ok (.ifCond .lt 15, 3) := by decide +kernel
theorem dX4_hasPerson_4 : decode cX4_hasPerson 4 = .ok (.iload_n 1, 1) := by decide +kernel
theorem dX4_hasPerson_5 : decode cX4_hasPerson 5 = .ok (.aload_n 0, 1) := by decide +kernel
theorem dX4_hasPerson_6 : decode cX4_hasPerson 6 = .ok (.getfield 21, 3) := by decide +kernel
theorem dX4_hasPerson_9 : decode cX4_hasPerson 9 = .ok (.if_icmp .ge 7, 3) := by decide +kernel
theorem dX4_hasPerson_12 : decode cX4_hasPerson 12 = .ok (.iconst 1, 1) := by decide +kernel
theorem dX4_hasPerson_13 : decode cX4_hasPerson 13 = .ok (.goto 4, 3) := by decide +kernel
theorem dX4_hasPerson_16 : decode cX4_hasPerson 16 = .ok (.iconst 0, 1) := by decide +kernel
theorem dX4_hasPerson_17 : decode cX4_hasPerson 17 = .ok (.ireturn, 1) := by decide +kernel
set_option maxRecDepth 20000 in
theorem ggX4_hasBoth_X4_hasPerson : GoodIn wsX4_hasBoth wsX4_hasPerson := goodIn_r _ [5, 6, 7, 8, 9, 10, 11, 12, 13, 14, 15, 16] (by decide +kernel) (by decide +kernel)
set_option maxRecDepth 20000 in
theorem gX4_hasBoth_X4_hasPerson : GoodIn wsX4_hasBoth (wsV RX4 47 RX4 yX4_hasPerson wsX4_hasPerson) := goodIn_app (goodIn_of _ (by decide +kernel)) ggX4_hasBoth_X4_hasPerson
theorem dX4_hasBoth_0 : decode cX4_hasBoth 0 = .ok (.aload_n 0, 1) := by decide +kernel
theorem dX4_hasBoth_1 : decode cX4_hasBoth 1 = .ok (.iload_n 1, 1) := by decide +kernel
theorem dX4_hasBoth_2 : decode cX4_hasBoth 2 = .ok (.invokevirtual 47, 3) := by decide +kernel
theorem dX4_hasBoth_5 : decode cX4_hasBoth 5 = .ok (.ifCond .eq 15, 3) := by decide +kernel
theorem dX4_hasBoth_8 : decode cX4_hasBoth 8 = .ok (.aload_n 0, 1) := by decide +kernel
theorem dX4_hasBoth_9 : decode cX4_hasBoth 9 = .ok (.iload_n 2, 1) := by decide +kernel
theorem dX4_hasBoth_10 : decode cX4_hasBoth 10 = .ok (.invokevirtual 47, 3) := by decide +kernel
theorem dX4_hasBoth_13 : decode cX4_hasBoth 13 = .ok (.ifCond .eq 7, 3) := by decide +kernel
theorem dX4_hasBoth_16 : decode cX4_hasBoth 16 = .ok (.iconst 1, 1) := by decide +kernel
theorem dX4_hasBoth_17 : decode cX4_hasBoth 17 = .ok (.goto 4, 3) := by decide +kernel
theorem dX4_hasBoth_20 : decode cX4_hasBoth 20 = .ok (.iconst 0, 1) := by decide +kernel
theorem dX4_hasBoth_21 : decode cX4_hasBoth 21 = .ok (.ireturn, 1) := by decide +kernel
theorem dX4_isWoman_0 : decode cX4_isWoman 0 = .ok (.aload_n 0, 1) := by decide +kernel
theorem dX4_isWoman_1 : decode cX4_isWoman 1 = .ok (.getfield 25, 3) := by decide +kernel
theorem dX4_isWoman_4 : decode cX4_isWoman 4 = .ok (.iload_n 1, 1) := by decide +kernel
theorem dX4_isWoman_5 : decode cX4_isWoman 5 = .ok (.ishr, 1) := by decide +kernel
theorem dX4_isWoman_6 : decode cX4_isWoman 6 = .ok (.iconst 1, 1) := by decide +kernel
theorem dX4_isWoman_7 : decode cX4_isWoman 7 = .ok (.iand, 1) := by decide +kernel
theorem dX4_isWoman_8 : decode cX4_isWoman 8 = .ok (.ifCond .eq 7, 3) := by decide +kernel
theorem dX4_isWoman_11 : decode cX4_isWoman 11 = .ok (.iconst 1, 1) := by decide +kernel
theorem dX4_isWoman_12 : decode cX4_isWoman 12 = .ok (.goto 4, 3) := by decide +kernel
theorem dX4_isWoman_15 : decode cX4_isWoman 15 = .ok (.iconst 0, 1) := by decide +kernel
theorem dX4_isWoman_16 : decode cX4_isWoman 16 = .ok (.ireturn, 1) := by decide +kernel
set_option maxRecDepth 20000 in
theorem ggX4_men_J6_bitCount_0f7a4 : GoodIn wsX4_men wsJ6_bitCount_0f7a4 := goodIn_r _ [6, 7, 8, 9] (by decide +kernel) (by decide +kernel)
set_option maxRecDepth 20000 in
theorem gX4_men_J6_bitCount_0f7a4 : GoodIn wsX4_men (va_wsS RX4 51 yJ6_bitCount_0f7a4 wsJ6_bitCount_0f7a4) := goodIn_app (goodIn_of _ (by decide +kernel)) ggX4_men_J6_bitCount_0f7a4
theorem dX4_men_0 : decode cX4_men 0 = .ok (.aload_n 0, 1) := by decide +kernel
theorem dX4_men_1 : decode cX4_men 1 = .ok (.getfield 21, 3) := by decide +kernel
theorem dX4_men_4 : decode cX4_men 4 = .ok (.aload_n 0, 1) := by decide +kernel
theorem dX4_men_5 : decode cX4_men 5 = .ok (.getfield 25, 3) := by decide +kernel
theorem dX4_men_8 : decode cX4_men 8 = .ok (.invokestatic 51, 3) := by decide +kernel
theorem dX4_men_11 : decode cX4_men 11 = .ok (.isub, 1) := by decide +kernel
theorem dX4_men_12 : decode cX4_men 12 = .ok (.ireturn, 1) := by decide +kernel
theorem dX4_admit_0 : decode cX4_admit 0 = .ok (.iload_n 1, 1) := by decide +kernel
theorem dX4_admit_1 : decode cX4_admit 1 = .ok (.ifCond .eq 18, 3) := by decide +kernel
theorem dX4_admit_4 : decode cX4_admit 4 = .ok (.aload_n 0, 1) := by decide +kernel
theorem dX4_admit_5 : decode cX4_admit 5 = .ok (.dup, 1) := by decide +kernel
theorem dX4_admit_6 : decode cX4_admit 6 = .ok (.getfield 25, 3) := by decide +kernel
theorem dX4_admit_9 : decode cX4_admit 9 = .ok (.iconst 1, 1) := by decide +kernel
theorem dX4_admit_10 : decode cX4_admit 10 = .ok (.aload_n 0, 1) := by decide +kernel
theorem dX4_admit_11 : decode cX4_admit 11 = .ok (.getfield 21, 3) := by decide +kernel
theorem dX4_admit_14 : decode cX4_admit 14 = .ok (.ishl, 1) := by decide +kernel
theorem dX4_admit_15 : decode cX4_admit 15 = .ok (.ior, 1) := by decide +kernel
theorem dX4_admit_16 : decode cX4_admit 16 = .ok (.putfield 25, 3) := by decide +kernel
theorem dX4_admit_19 : decode cX4_admit 19 = .ok (.aload_n 0, 1) := by decide +kernel
theorem dX4_admit_20 : decode cX4_admit 20 = .ok (.dup, 1) := by decide +kernel
theorem dX4_admit_21 : decode cX4_admit 21 = .ok (.getfield 21, 3) := by decide +kernel
theorem dX4_admit_24 : decode cX4_admit 24 = .ok (.iconst 1, 1) := by decide +kernel
theorem dX4_admit_25 : decode cX4_admit 25 = .ok (.iadd, 1) := by decide +kernel
theorem dX4_admit_26 : decode cX4_admit 26 = .ok (.putfield 21, 3) := by decide +kernel
theorem dX4_admit_29 : decode cX4_admit 29 = .ok (.return_, 1) := by decide +kernel
set_option maxRecDepth 20000 in
theorem ggX4_admitCouple_X3_bothWays : GoodIn wsX4_admitCouple wsX3_bothWays := goodIn_r _ [6] (by decide +kernel) (by decide +kernel)
set_option maxRecDepth 20000 in
theorem gX4_admitCouple_X3_bothWays : GoodIn wsX4_admitCouple (va_wsS RX4 57 yX3_bothWays wsX3_bothWays) := goodIn_app (goodIn_of _ (by decide +kernel)) ggX4_admitCouple_X3_bothWays
set_option maxRecDepth 20000 in
theorem ggX4_admitCouple_X4_admit : GoodIn wsX4_admitCouple wsX4_admit := goodIn_r _ [11, 12, 2, 13, 14, 15, 16, 17, 18, 19, 20, 21, 22] (by decide +kernel) (by decide +kernel)
set_option maxRecDepth 20000 in
theorem gX4_admitCouple_X4_admit : GoodIn wsX4_admitCouple (wsV RX4 61 RX4 yX4_admit wsX4_admit) := goodIn_app (goodIn_of _ (by decide +kernel)) ggX4_admitCouple_X4_admit
theorem dX4_admitCouple_0 : decode cX4_admitCouple 0 = .ok (.aload_n 0, 1) := by decide +kernel
theorem dX4_admitCouple_1 : decode cX4_admitCouple 1 = .ok (.dup, 1) := by decide +kernel
theorem dX4_admitCouple_2 : decode cX4_admitCouple 2 = .ok (.getfield 28, 3) := by decide +kernel
theorem dX4_admitCouple_5 : decode cX4_admitCouple 5 = .ok (.aload_n 0, 1) := by decide +kernel
theorem dX4_admitCouple_6 : decode cX4_admitCouple 6 = .ok (.getfield 21, 3) := by decide +kernel
theorem dX4_admitCouple_9 : decode cX4_admitCouple 9 = .ok (.aload_n 0, 1) := by decide +kernel
theorem dX4_admitCouple_10 : decode cX4_admitCouple 10 = .ok (.getfield 21, 3) := by decide +kernel
theorem dX4_admitCouple_13 : decode cX4_admitCouple 13 = .ok (.iconst 1, 1) := by decide +kernel
theorem dX4_admitCouple_14 : decode cX4_admitCouple 14 = .ok (.iadd, 1) := by decide +kernel
theorem dX4_admitCouple_15 : decode cX4_admitCouple 15 = .ok (.invokestatic 57, 3) := by decide +kernel
theorem dX4_admitCouple_18 : decode cX4_admitCouple 18 = .ok (.lor, 1) := by decide +kernel
theorem dX4_admitCouple_19 : decode cX4_admitCouple 19 = .ok (.putfield 28, 3) := by decide +kernel
theorem dX4_admitCouple_22 : decode cX4_admitCouple 22 = .ok (.aload_n 0, 1) := by decide +kernel
theorem dX4_admitCouple_23 : decode cX4_admitCouple 23 = .ok (.iconst 1, 1) := by decide +kernel
theorem dX4_admitCouple_24 : decode cX4_admitCouple 24 = .ok (.invokevirtual 61, 3) := by decide +kernel
theorem dX4_admitCouple_27 : decode cX4_admitCouple 27 = .ok (.aload_n 0, 1) := by decide +kernel
theorem dX4_admitCouple_28 : decode cX4_admitCouple 28 = .ok (.iconst 0, 1) := by decide +kernel
theorem dX4_admitCouple_29 : decode cX4_admitCouple 29 = .ok (.invokevirtual 61, 3) := by decide +kernel
theorem dX4_admitCouple_32 : decode cX4_admitCouple 32 = .ok (.return_, 1) := by decide +kernel
set_option maxRecDepth 20000 in
theorem ggX4_settleWhoIsBarred_X4_alike : GoodIn wsX4_settleWhoIsBarred wsX4_alike := goodIn_r _ [10, 11, 12, 13, 14, 9, 15, 16, 17, 18, 19, 20, 21, 22, 23, 24, 25, 26, 27, 28, 29, 30] (by decide +kernel) (by decide +kernel)
set_option maxRecDepth 20000 in
theorem gX4_settleWhoIsBarred_X4_alike : GoodIn wsX4_settleWhoIsBarred (wsV RX4 65 RX4 yX4_alike wsX4_alike) := goodIn_app (goodIn_of _ (by decide +kernel)) ggX4_settleWhoIsBarred_X4_alike
theorem dX4_settleWhoIsBarred_0 : decode cX4_settleWhoIsBarred 0 = .ok (.aload_n 0, 1) := by decide +kernel
theorem dX4_settleWhoIsBarred_1 : decode cX4_settleWhoIsBarred 1 = .ok (.aload_n 0, 1) := by decide +kernel
theorem dX4_settleWhoIsBarred_2 : decode cX4_settleWhoIsBarred 2 = .ok (.getfield 32, 3) := by decide +kernel
theorem dX4_settleWhoIsBarred_5 : decode cX4_settleWhoIsBarred 5 = .ok (.putfield 38, 3) := by decide +kernel
theorem dX4_settleWhoIsBarred_8 : decode cX4_settleWhoIsBarred 8 = .ok (.aload_n 0, 1) := by decide +kernel
theorem dX4_settleWhoIsBarred_9 : decode cX4_settleWhoIsBarred 9 = .ok (.getfield 18, 3) := by decide +kernel
theorem dX4_settleWhoIsBarred_12 : decode cX4_settleWhoIsBarred 12 = .ok (.ifCond .eq 16, 3) := by decide +kernel
theorem dX4_settleWhoIsBarred_15 : decode cX4_settleWhoIsBarred 15 = .ok (.aload_n 0, 1) := by decide +kernel
theorem dX4_settleWhoIsBarred_16 : decode cX4_settleWhoIsBarred 16 = .ok (.dup, 1) := by decide +kernel
theorem dX4_settleWhoIsBarred_17 : decode cX4_settleWhoIsBarred 17 = .ok (.getfield 38, 3) := by decide +kernel
theorem dX4_settleWhoIsBarred_20 : decode cX4_settleWhoIsBarred 20 = .ok (.aload_n 0, 1) := by decide +kernel
theorem dX4_settleWhoIsBarred_21 : decode cX4_settleWhoIsBarred 21 = .ok (.getfield 28, 3) := by decide +kernel
theorem dX4_settleWhoIsBarred_24 : decode cX4_settleWhoIsBarred 24 = .ok (.lor, 1) := by decide +kernel
theorem dX4_settleWhoIsBarred_25 : decode cX4_settleWhoIsBarred 25 = .ok (.putfield 38, 3) := by decide +kernel
theorem dX4_settleWhoIsBarred_28 : decode cX4_settleWhoIsBarred 28 = .ok (.aload_n 0, 1) := by decide +kernel
theorem dX4_settleWhoIsBarred_29 : decode cX4_settleWhoIsBarred 29 = .ok (.getfield 15, 3) := by decide +kernel
theorem dX4_settleWhoIsBarred_32 : decode cX4_settleWhoIsBarred 32 = .ok (.ifCond .eq 16, 3) := by decide +kernel
theorem dX4_settleWhoIsBarred_35 : decode cX4_settleWhoIsBarred 35 = .ok (.aload_n 0, 1) := by decide +kernel
theorem dX4_settleWhoIsBarred_36 : decode cX4_settleWhoIsBarred 36 = .ok (.dup, 1) := by decide +kernel
theorem dX4_settleWhoIsBarred_37 : decode cX4_settleWhoIsBarred 37 = .ok (.getfield 38, 3) := by decide +kernel
theorem dX4_settleWhoIsBarred_40 : decode cX4_settleWhoIsBarred 40 = .ok (.aload_n 0, 1) := by decide +kernel
theorem dX4_settleWhoIsBarred_41 : decode cX4_settleWhoIsBarred 41 = .ok (.invokevirtual 65, 3) := by decide +kernel
theorem dX4_settleWhoIsBarred_44 : decode cX4_settleWhoIsBarred 44 = .ok (.lor, 1) := by decide +kernel
theorem dX4_settleWhoIsBarred_45 : decode cX4_settleWhoIsBarred 45 = .ok (.putfield 38, 3) := by decide +kernel
theorem dX4_settleWhoIsBarred_48 : decode cX4_settleWhoIsBarred 48 = .ok (.return_, 1) := by decide +kernel
set_option maxRecDepth 20000 in
theorem ggX4_alike_X4_isWoman : GoodIn wsX4_alike wsX4_isWoman := goodIn_r _ [6, 7, 12, 13, 14, 15, 16, 17, 18, 19, 20, 21] (by decide +kernel) (by decide +kernel)
set_option maxRecDepth 20000 in
theorem gX4_alike_X4_isWoman : GoodIn wsX4_alike (wsV RX4 69 RX4 yX4_isWoman wsX4_isWoman) := goodIn_app (goodIn_of _ (by decide +kernel)) ggX4_alike_X4_isWoman
set_option maxRecDepth 20000 in
theorem ggX4_alike_X3_bothWays : GoodIn wsX4_alike wsX3_bothWays := goodIn_r _ [11] (by decide +kernel) (by decide +kernel)
set_option maxRecDepth 20000 in
theorem gX4_alike_X3_bothWays : GoodIn wsX4_alike (va_wsS RX4 57 yX3_bothWays wsX3_bothWays) := goodIn_app (goodIn_of _ (by decide +kernel)) ggX4_alike_X3_bothWays
theorem dX4_alike_0 : decode cX4_alike 0 = .ok (.lconst 0, 1) := by decide +kernel
theorem dX4_alike_1 : decode cX4_alike 1 = .ok (.lstore_n 1, 1) := by decide +kernel
theorem dX4_alike_2 : decode cX4_alike 2 = .ok (.iconst 0, 1) := by decide +kernel
theorem dX4_alike_3 : decode cX4_alike 3 = .ok (.istore_n 3, 1) := by decide +kernel
theorem dX4_alike_4 : decode cX4_alike 4 = .ok (.iload_n 3, 1) := by decide +kernel
theorem dX4_alike_5 : decode cX4_alike 5 = .ok (.aload_n 0, 1) := by decide +kernel
theorem dX4_alike_6 : decode cX4_alike 6 = .ok (.getfield 21, 3) := by decide +kernel
theorem dX4_alike_9 : decode cX4_alike 9 = .ok (.if_icmp .ge 53, 3) := by decide +kernel
theorem dX4_alike_12 : decode cX4_alike 12 = .ok (.iload_n 3, 1) := by decide +kernel
theorem dX4_alike_13 : decode cX4_alike 13 = .ok (.bipush 7, 2) := by decide +kernel
theorem dX4_alike_15 : decode cX4_alike 15 = .ok (.if_icmp .ge 47, 3) := by decide +kernel
theorem dX4_alike_18 : decode cX4_alike 18 = .ok (.iconst 0, 1) := by decide +kernel
theorem dX4_alike_19 : decode cX4_alike 19 = .ok (.istore 4, 2) := by decide +kernel
theorem dX4_alike_21 : decode cX4_alike 21 = .ok (.iload 4, 2) := by decide +kernel
theorem dX4_alike_23 : decode cX4_alike 23 = .ok (.iload_n 3, 1) := by decide +kernel
theorem dX4_alike_24 : decode cX4_alike 24 = .ok (.if_icmp .ge 32, 3) := by decide +kernel
theorem dX4_alike_27 : decode cX4_alike 27 = .ok (.aload_n 0, 1) := by decide +kernel
theorem dX4_alike_28 : decode cX4_alike 28 = .ok (.iload_n 3, 1) := by decide +kernel
theorem dX4_alike_29 : decode cX4_alike 29 = .ok (.invokevirtual 69, 3) := by decide +kernel
theorem dX4_alike_32 : decode cX4_alike 32 = .ok (.aload_n 0, 1) := by decide +kernel
theorem dX4_alike_33 : decode cX4_alike 33 = .ok (.iload 4, 2) := by decide +kernel
theorem dX4_alike_35 : decode cX4_alike 35 = .ok (.invokevirtual 69, 3) := by decide +kernel
theorem dX4_alike_38 : decode cX4_alike 38 = .ok (.if_icmp .ne 12, 3) := by decide +kernel
theorem dX4_alike_41 : decode cX4_alike 41 = .ok (.lload_n 1, 1) := by decide +kernel
theorem dX4_alike_42 : decode cX4_alike 42 = .ok (.iload_n 3, 1) := by decide +kernel
theorem dX4_alike_43 : decode cX4_alike 43 = .ok (.iload 4, 2) := by decide +kernel
theorem dX4_alike_45 : decode cX4_alike 45 = .ok (.invokestatic 57, 3) := by decide +kernel
theorem dX4_alike_48 : decode cX4_alike 48 = .ok (.lor, 1) := by decide +kernel
theorem dX4_alike_49 : decode cX4_alike 49 = .ok (.lstore_n 1, 1) := by decide +kernel
theorem dX4_alike_50 : decode cX4_alike 50 = .ok (.iinc 4 1, 3) := by decide +kernel
theorem dX4_alike_53 : decode cX4_alike 53 = .ok (.goto (-32), 3) := by decide +kernel
theorem dX4_alike_56 : decode cX4_alike 56 = .ok (.iinc 3 1, 3) := by decide +kernel
theorem dX4_alike_59 : decode cX4_alike 59 = .ok (.goto (-55), 3) := by decide +kernel
theorem dX4_alike_62 : decode cX4_alike 62 = .ok (.lload_n 1, 1) := by decide +kernel
theorem dX4_alike_63 : decode cX4_alike 63 = .ok (.lreturn, 1) := by decide +kernel
theorem dX4_neighbourPairs_0 : decode cX4_neighbourPairs 0 = .ok (.aload_n 0, 1) := by decide +kernel
theorem dX4_neighbourPairs_1 : decode cX4_neighbourPairs 1 = .ok (.getfield 9, 3) := by decide +kernel
theorem dX4_neighbourPairs_4 : decode cX4_neighbourPairs 4 = .ok (.ifCond .eq 18, 3) := by decide +kernel
theorem dX4_neighbourPairs_7 : decode cX4_neighbourPairs 7 = .ok (.aload_n 0, 1) := by decide +kernel
theorem dX4_neighbourPairs_8 : decode cX4_neighbourPairs 8 = .ok (.getfield 21, 3) := by decide +kernel
theorem dX4_neighbourPairs_11 : decode cX4_neighbourPairs 11 = .ok (.iconst 3, 1) := by decide +kernel
theorem dX4_neighbourPairs_12 : decode cX4_neighbourPairs 12 = .ok (.if_icmp .lt 10, 3) := by decide +kernel
theorem dX4_neighbourPairs_15 : decode cX4_neighbourPairs 15 = .ok (.aload_n 0, 1) := by decide +kernel
theorem dX4_neighbourPairs_16 : decode cX4_neighbourPairs 16 = .ok (.getfield 21, 3) := by decide +kernel
theorem dX4_neighbourPairs_19 : decode cX4_neighbourPairs 19 = .ok (.goto 9, 3) := by decide +kernel
theorem dX4_neighbourPairs_22 : decode cX4_neighbourPairs 22 = .ok (.aload_n 0, 1) := by decide +kernel
theorem dX4_neighbourPairs_23 : decode cX4_neighbourPairs 23 = .ok (.getfield 21, 3) := by decide +kernel
theorem dX4_neighbourPairs_26 : decode cX4_neighbourPairs 26 = .ok (.iconst 1, 1) := by decide +kernel
theorem dX4_neighbourPairs_27 : decode cX4_neighbourPairs 27 = .ok (.isub, 1) := by decide +kernel
theorem dX4_neighbourPairs_28 : decode cX4_neighbourPairs 28 = .ok (.ireturn, 1) := by decide +kernel
theorem dX4_behind_0 : decode cX4_behind 0 = .ok (.iload_n 1, 1) := by decide +kernel
theorem dX4_behind_1 : decode cX4_behind 1 = .ok (.iconst 1, 1) := by decide +kernel
theorem dX4_behind_2 : decode cX4_behind 2 = .ok (.iadd, 1) := by decide +kernel
theorem dX4_behind_3 : decode cX4_behind 3 = .ok (.aload_n 0, 1) := by decide +kernel
theorem dX4_behind_4 : decode cX4_behind 4 = .ok (.getfield 21, 3) := by decide +kernel
theorem dX4_behind_7 : decode cX4_behind 7 = .ok (.if_icmp .ge 9, 3) := by decide +kernel
theorem dX4_behind_10 : decode cX4_behind 10 = .ok (.iload_n 1, 1) := by decide +kernel
theorem dX4_behind_11 : decode cX4_behind 11 = .ok (.iconst 1, 1) := by decide +kernel
theorem dX4_behind_12 : decode cX4_behind 12 = .ok (.iadd, 1) := by decide +kernel
theorem dX4_behind_13 : decode cX4_behind 13 = .ok (.goto 4, 3) := by decide +kernel
theorem dX4_behind_16 : decode cX4_behind 16 = .ok (.iconst 0, 1) := by decide +kernel
theorem dX4_behind_17 : decode cX4_behind 17 = .ok (.ireturn, 1) := by decide +kernel
set_option maxRecDepth 20000 in
theorem ggX4_cellOfPair_X7_personOn : GoodIn wsX4_cellOfPair wsX7_personOn := goodIn_r _ [4] (by decide +kernel) (by decide +kernel)
set_option maxRecDepth 20000 in
theorem gX4_cellOfPair_X7_personOn : GoodIn wsX4_cellOfPair (va_wsS RX4 72 yX7_personOn wsX7_personOn) := goodIn_app (goodIn_of _ (by decide +kernel)) ggX4_cellOfPair_X7_personOn
set_option maxRecDepth 20000 in
theorem ggX4_cellOfPair_X4_behind : GoodIn wsX4_cellOfPair wsX4_behind := goodIn_r _ [9, 10, 18, 19, 20, 21, 22, 23, 24, 25, 26, 27] (by decide +kernel) (by decide +kernel)
set_option maxRecDepth 20000 in
theorem gX4_cellOfPair_X4_behind : GoodIn wsX4_cellOfPair (wsV RX4 78 RX4 yX4_behind wsX4_behind) := goodIn_app (goodIn_of _ (by decide +kernel)) ggX4_cellOfPair_X4_behind
set_option maxRecDepth 20000 in
theorem ggX4_cellOfPair_X3_cellOfTwo : GoodIn wsX4_cellOfPair wsX3_cellOfTwo := goodIn_r _ [14, 15, 16, 13, 17] (by decide +kernel) (by decide +kernel)
set_option maxRecDepth 20000 in
theorem gX4_cellOfPair_X3_cellOfTwo : GoodIn wsX4_cellOfPair (va_wsS RX4 81 yX3_cellOfTwo wsX3_cellOfTwo) := goodIn_app (goodIn_of _ (by decide +kernel)) ggX4_cellOfPair_X3_cellOfTwo
theorem dX4_cellOfPair_0 : decode cX4_cellOfPair 0 = .ok (.iload_n 1, 1) := by decide +kernel
theorem dX4_cellOfPair_1 : decode cX4_cellOfPair 1 = .ok (.iload_n 2, 1) := by decide +kernel
theorem dX4_cellOfPair_2 : decode cX4_cellOfPair 2 = .ok (.invokestatic 72, 3) := by decide +kernel
theorem dX4_cellOfPair_5 : decode cX4_cellOfPair 5 = .ok (.iload_n 1, 1) := by decide +kernel
theorem dX4_cellOfPair_6 : decode cX4_cellOfPair 6 = .ok (.aload_n 0, 1) := by decide +kernel
theorem dX4_cellOfPair_7 : decode cX4_cellOfPair 7 = .ok (.iload_n 2, 1) := by decide +kernel
theorem dX4_cellOfPair_8 : decode cX4_cellOfPair 8 = .ok (.invokevirtual 78, 3) := by decide +kernel
theorem dX4_cellOfPair_11 : decode cX4_cellOfPair 11 = .ok (.invokestatic 72, 3) := by decide +kernel
theorem dX4_cellOfPair_14 : decode cX4_cellOfPair 14 = .ok (.invokestatic 81, 3) := by decide +kernel
theorem dX4_cellOfPair_17 : decode cX4_cellOfPair 17 = .ok (.ireturn, 1) := by decide +kernel
set_option maxRecDepth 20000 in
theorem ggX4_neighbours_X4_neighbourPairs : GoodIn wsX4_neighbours wsX4_neighbourPairs := goodIn_r _ [5, 6, 7, 20, 21, 22, 23, 24, 25, 26, 27, 28, 29] (by decide +kernel) (by decide +kernel)
set_option maxRecDepth 20000 in
theorem gX4_neighbours_X4_neighbourPairs : GoodIn wsX4_neighbours (wsV RX4 84 RX4 yX4_neighbourPairs wsX4_neighbourPairs) := goodIn_app (goodIn_of _ (by decide +kernel)) ggX4_neighbours_X4_neighbourPairs
set_option maxRecDepth 20000 in
theorem ggX4_neighbours_X7_personOn : GoodIn wsX4_neighbours wsX7_personOn := goodIn_r _ [11] (by decide +kernel) (by decide +kernel)
set_option maxRecDepth 20000 in
theorem gX4_neighbours_X7_personOn : GoodIn wsX4_neighbours (va_wsS RX4 72 yX7_personOn wsX7_personOn) := goodIn_app (goodIn_of _ (by decide +kernel)) ggX4_neighbours_X7_personOn
set_option maxRecDepth 20000 in
theorem ggX4_neighbours_X4_behind : GoodIn wsX4_neighbours wsX4_behind := goodIn_r _ [15, 7, 20, 21, 22, 23, 24, 25, 26, 27, 28, 29] (by decide +kernel) (by decide +kernel)
set_option maxRecDepth 20000 in
theorem gX4_neighbours_X4_behind : GoodIn wsX4_neighbours (wsV RX4 78 RX4 yX4_behind wsX4_behind) := goodIn_app (goodIn_of _ (by decide +kernel)) ggX4_neighbours_X4_behind
set_option maxRecDepth 20000 in
theorem ggX4_neighbours_X3_bothWays : GoodIn wsX4_neighbours wsX3_bothWays := goodIn_r _ [19] (by decide +kernel) (by decide +kernel)
set_option maxRecDepth 20000 in
theorem gX4_neighbours_X3_bothWays : GoodIn wsX4_neighbours (va_wsS RX4 57 yX3_bothWays wsX3_bothWays) := goodIn_app (goodIn_of _ (by decide +kernel)) ggX4_neighbours_X3_bothWays
theorem dX4_neighbours_0 : decode cX4_neighbours 0 = .ok (.lconst 0, 1) := by decide +kernel
theorem dX4_neighbours_1 : decode cX4_neighbours 1 = .ok (.lstore_n 2, 1) := by decide +kernel
theorem dX4_neighbours_2 : decode cX4_neighbours 2 = .ok (.aload_n 0, 1) := by decide +kernel
theorem dX4_neighbours_3 : decode cX4_neighbours 3 = .ok (.invokevirtual 84, 3) := by decide +kernel
theorem dX4_neighbours_6 : decode cX4_neighbours 6 = .ok (.istore 4, 2) := by decide +kernel
theorem dX4_neighbours_8 : decode cX4_neighbours 8 = .ok (.iload_n 1, 1) := by decide +kernel
theorem dX4_neighbours_9 : decode cX4_neighbours 9 = .ok (.iconst 0, 1) := by decide +kernel
theorem dX4_neighbours_10 : decode cX4_neighbours 10 = .ok (.invokestatic 72, 3) := by decide +kernel
theorem dX4_neighbours_13 : decode cX4_neighbours 13 = .ok (.istore 5, 2) := by decide +kernel
theorem dX4_neighbours_15 : decode cX4_neighbours 15 = .ok (.iconst 0, 1) := by decide +kernel
theorem dX4_neighbours_16 : decode cX4_neighbours 16 = .ok (.istore 6, 2) := by decide +kernel
theorem dX4_neighbours_18 : decode cX4_neighbours 18 = .ok (.iload 6, 2) := by decide +kernel
theorem dX4_neighbours_20 : decode cX4_neighbours 20 = .ok (.iload 4, 2) := by decide +kernel
theorem dX4_neighbours_22 : decode cX4_neighbours 22 = .ok (.if_icmp .ge 42, 3) := by decide +kernel
theorem dX4_neighbours_25 : decode cX4_neighbours 25 = .ok (.iload 6, 2) := by decide +kernel
theorem dX4_neighbours_27 : decode cX4_neighbours 27 = .ok (.bipush 7, 2) := by decide +kernel
theorem dX4_neighbours_29 : decode cX4_neighbours 29 = .ok (.if_icmp .ge 35, 3) := by decide +kernel
theorem dX4_neighbours_32 : decode cX4_neighbours 32 = .ok (.iload_n 1, 1) := by decide +kernel
theorem dX4_neighbours_33 : decode cX4_neighbours 33 = .ok (.aload_n 0, 1) := by decide +kernel
theorem dX4_neighbours_34 : decode cX4_neighbours 34 = .ok (.iload 6, 2) := by decide +kernel
theorem dX4_neighbours_36 : decode cX4_neighbours 36 = .ok (.invokevirtual 78, 3) := by decide +kernel
theorem dX4_neighbours_39 : decode cX4_neighbours 39 = .ok (.invokestatic 72, 3) := by decide +kernel
theorem dX4_neighbours_42 : decode cX4_neighbours 42 = .ok (.istore 7, 2) := by decide +kernel
theorem dX4_neighbours_44 : decode cX4_neighbours 44 = .ok (.lload_n 2, 1) := by decide +kernel
theorem dX4_neighbours_45 : decode cX4_neighbours 45 = .ok (.iload 5, 2) := by decide +kernel
theorem dX4_neighbours_47 : decode cX4_neighbours 47 = .ok (.iload 7, 2) := by decide +kernel
theorem dX4_neighbours_49 : decode cX4_neighbours 49 = .ok (.invokestatic 57, 3) := by decide +kernel
theorem dX4_neighbours_52 : decode cX4_neighbours 52 = .ok (.lor, 1) := by decide +kernel
theorem dX4_neighbours_53 : decode cX4_neighbours 53 = .ok (.lstore_n 2, 1) := by decide +kernel
theorem dX4_neighbours_54 : decode cX4_neighbours 54 = .ok (.iload 7, 2) := by decide +kernel
theorem dX4_neighbours_56 : decode cX4_neighbours 56 = .ok (.istore 5, 2) := by decide +kernel
theorem dX4_neighbours_58 : decode cX4_neighbours 58 = .ok (.iinc 6 1, 3) := by decide +kernel
theorem dX4_neighbours_61 : decode cX4_neighbours 61 = .ok (.goto (-43), 3) := by decide +kernel
theorem dX4_neighbours_64 : decode cX4_neighbours 64 = .ok (.lload_n 2, 1) := by decide +kernel
theorem dX4_neighbours_65 : decode cX4_neighbours 65 = .ok (.lreturn, 1) := by decide +kernel
set_option maxRecDepth 20000 in
theorem ggX4_isLawful_X4_neighbours : GoodIn wsX4_isLawful wsX4_neighbours := goodIn_r _ [8, 9, 10, 11, 7, 12, 13, 14, 15, 16, 17, 18, 19, 20, 21, 22, 23, 24, 25, 26, 27, 28, 29, 30, 31, 32, 33, 34, 35, 36] (by decide +kernel) (by decide +kernel)
set_option maxRecDepth 20000 in
theorem gX4_isLawful_X4_neighbours : GoodIn wsX4_isLawful (wsV RX4 88 RX4 yX4_neighbours wsX4_neighbours) := goodIn_app (goodIn_of _ (by decide +kernel)) ggX4_isLawful_X4_neighbours
theorem dX4_isLawful_0 : decode cX4_isLawful 0 = .ok (.aload_n 0, 1) := by decide +kernel
theorem dX4_isLawful_1 : decode cX4_isLawful 1 = .ok (.iload_n 1, 1) := by decide +kernel
theorem dX4_isLawful_2 : decode cX4_isLawful 2 = .ok (.invokevirtual 88, 3) := by decide +kernel
theorem dX4_isLawful_5 : decode cX4_isLawful 5 = .ok (.lstore_n 2, 1) := by decide +kernel
theorem dX4_isLawful_6 : decode cX4_isLawful 6 = .ok (.lload_n 2, 1) := by decide +kernel
theorem dX4_isLawful_7 : decode cX4_isLawful 7 = .ok (.aload_n 0, 1) := by decide +kernel
theorem dX4_isLawful_8 : decode cX4_isLawful 8 = .ok (.getfield 38, 3) := by decide +kernel
theorem dX4_isLawful_11 : decode cX4_isLawful 11 = .ok (.land, 1) := by decide +kernel
theorem dX4_isLawful_12 : decode cX4_isLawful 12 = .ok (.lconst 0, 1) := by decide +kernel
theorem dX4_isLawful_13 : decode cX4_isLawful 13 = .ok (.lcmp, 1) := by decide +kernel
theorem dX4_isLawful_14 : decode cX4_isLawful 14 = .ok (.ifCond .ne 22, 3) := by decide +kernel
theorem dX4_isLawful_17 : decode cX4_isLawful 17 = .ok (.aload_n 0, 1) := by decide +kernel
theorem dX4_isLawful_18 : decode cX4_isLawful 18 = .ok (.getfield 35, 3) := by decide +kernel
theorem dX4_isLawful_21 : decode cX4_isLawful 21 = .ok (.lload_n 2, 1) := by decide +kernel
theorem dX4_isLawful_22 : decode cX4_isLawful 22 = .ok (.ldc2_w 92, 3) := by decide +kernel
theorem dX4_isLawful_25 : decode cX4_isLawful 25 = .ok (.lxor, 1) := by decide +kernel
theorem dX4_isLawful_26 : decode cX4_isLawful 26 = .ok (.land, 1) := by decide +kernel
theorem dX4_isLawful_27 : decode cX4_isLawful 27 = .ok (.lconst 0, 1) := by decide +kernel
theorem dX4_isLawful_28 : decode cX4_isLawful 28 = .ok (.lcmp, 1) := by decide +kernel
theorem dX4_isLawful_29 : decode cX4_isLawful 29 = .ok (.ifCond .ne 7, 3) := by decide +kernel
theorem dX4_isLawful_32 : decode cX4_isLawful 32 = .ok (.iconst 1, 1) := by decide +kernel
theorem dX4_isLawful_33 : decode cX4_isLawful 33 = .ok (.goto 4, 3) := by decide +kernel
theorem dX4_isLawful_36 : decode cX4_isLawful 36 = .ok (.iconst 0, 1) := by decide +kernel
theorem dX4_isLawful_37 : decode cX4_isLawful 37 = .ok (.ireturn, 1) := by decide +kernel
set_option maxRecDepth 20000 in
theorem ggX4_firstWrong_X4_neighbours : GoodIn wsX4_firstWrong wsX4_neighbours := goodIn_r _ [9, 10, 11, 12, 8, 13, 14, 4, 15, 16, 17, 18, 19, 20, 21, 22, 23, 24, 25, 26, 30, 31, 32, 33, 34, 35, 36, 37, 38, 39] (by decide +kernel) (by decide +kernel)
set_option maxRecDepth 20000 in
theorem gX4_firstWrong_X4_neighbours : GoodIn wsX4_firstWrong (wsV RX4 88 RX4 yX4_neighbours wsX4_neighbours) := goodIn_app (goodIn_of _ (by decide +kernel)) ggX4_firstWrong_X4_neighbours
set_option maxRecDepth 20000 in
theorem ggX4_firstWrong_X7_personOn : GoodIn wsX4_firstWrong wsX7_personOn := goodIn_r _ [18] (by decide +kernel) (by decide +kernel)
set_option maxRecDepth 20000 in
theorem gX4_firstWrong_X7_personOn : GoodIn wsX4_firstWrong (va_wsS RX4 72 yX7_personOn wsX7_personOn) := goodIn_app (goodIn_of _ (by decide +kernel)) ggX4_firstWrong_X7_personOn
set_option maxRecDepth 20000 in
theorem ggX4_firstWrong_X3_rowOf : GoodIn wsX4_firstWrong wsX3_rowOf := goodIn_r _ [29] (by decide +kernel) (by decide +kernel)
set_option maxRecDepth 20000 in
theorem gX4_firstWrong_X3_rowOf : GoodIn wsX4_firstWrong (va_wsS RX4 94 yX3_rowOf wsX3_rowOf) := goodIn_app (goodIn_of _ (by decide +kernel)) ggX4_firstWrong_X3_rowOf
theorem dX4_firstWrong_0 : decode cX4_firstWrong 0 = .ok (.aload_n 0, 1) := by decide +kernel
theorem dX4_firstWrong_1 : decode cX4_firstWrong 1 = .ok (.iload_n 1, 1) := by decide +kernel
theorem dX4_firstWrong_2 : decode cX4_firstWrong 2 = .ok (.invokevirtual 88, 3) := by decide +kernel
theorem dX4_firstWrong_5 : decode cX4_firstWrong 5 = .ok (.lstore_n 2, 1) := by decide +kernel
theorem dX4_firstWrong_6 : decode cX4_firstWrong 6 = .ok (.lload_n 2, 1) := by decide +kernel
theorem dX4_firstWrong_7 : decode cX4_firstWrong 7 = .ok (.aload_n 0, 1) := by decide +kernel
theorem dX4_firstWrong_8 : decode cX4_firstWrong 8 = .ok (.getfield 38, 3) := by decide +kernel
theorem dX4_firstWrong_11 : decode cX4_firstWrong 11 = .ok (.land, 1) := by decide +kernel
theorem dX4_firstWrong_12 : decode cX4_firstWrong 12 = .ok (.aload_n 0, 1) := by decide +kernel
theorem dX4_firstWrong_13 : decode cX4_firstWrong 13 = .ok (.getfield 35, 3) := by decide +kernel
theorem dX4_firstWrong_16 : decode cX4_firstWrong 16 = .ok (.lload_n 2, 1) := by decide +kernel
theorem dX4_firstWrong_17 : decode cX4_firstWrong 17 = .ok (.ldc2_w 92, 3) := by decide +kernel
theorem dX4_firstWrong_20 : decode cX4_firstWrong 20 = .ok (.lxor, 1) := by decide +kernel
theorem dX4_firstWrong_21 : decode cX4_firstWrong 21 = .ok (.land, 1) := by decide +kernel
theorem dX4_firstWrong_22 : decode cX4_firstWrong 22 = .ok (.lor, 1) := by decide +kernel
theorem dX4_firstWrong_23 : decode cX4_firstWrong 23 = .ok (.lstore 4, 2) := by decide +kernel
theorem dX4_firstWrong_25 : decode cX4_firstWrong 25 = .ok (.iconst 0, 1) := by decide +kernel
theorem dX4_firstWrong_26 : decode cX4_firstWrong 26 = .ok (.istore 6, 2) := by decide +kernel
theorem dX4_firstWrong_28 : decode cX4_firstWrong 28 = .ok (.iload 6, 2) := by decide +kernel
theorem dX4_firstWrong_30 : decode cX4_firstWrong 30 = .ok (.aload_n 0, 1) := by decide +kernel
theorem dX4_firstWrong_31 : decode cX4_firstWrong 31 = .ok (.getfield 21, 3) := by decide +kernel
theorem dX4_firstWrong_34 : decode cX4_firstWrong 34 = .ok (.if_icmp .ge 33, 3) := by decide +kernel
theorem dX4_firstWrong_37 : decode cX4_firstWrong 37 = .ok (.iload 6, 2) := by decide +kernel
theorem dX4_firstWrong_39 : decode cX4_firstWrong 39 = .ok (.bipush 7, 2) := by decide +kernel
theorem dX4_firstWrong_41 : decode cX4_firstWrong 41 = .ok (.if_icmp .ge 26, 3) := by decide +kernel
theorem dX4_firstWrong_44 : decode cX4_firstWrong 44 = .ok (.lload 4, 2) := by decide +kernel
theorem dX4_firstWrong_46 : decode cX4_firstWrong 46 = .ok (.iload_n 1, 1) := by decide +kernel
theorem dX4_firstWrong_47 : decode cX4_firstWrong 47 = .ok (.iload 6, 2) := by decide +kernel
theorem dX4_firstWrong_49 : decode cX4_firstWrong 49 = .ok (.invokestatic 72, 3) := by decide +kernel
theorem dX4_firstWrong_52 : decode cX4_firstWrong 52 = .ok (.invokestatic 94, 3) := by decide +kernel
theorem dX4_firstWrong_55 : decode cX4_firstWrong 55 = .ok (.ifCond .eq 6, 3) := by decide +kernel
theorem dX4_firstWrong_58 : decode cX4_firstWrong 58 = .ok (.iload 6, 2) := by decide +kernel
theorem dX4_firstWrong_60 : decode cX4_firstWrong 60 = .ok (.ireturn, 1) := by decide +kernel
theorem dX4_firstWrong_61 : decode cX4_firstWrong 61 = .ok (.iinc 6 1, 3) := by decide +kernel
theorem dX4_firstWrong_64 : decode cX4_firstWrong 64 = .ok (.goto (-36), 3) := by decide +kernel
theorem dX4_firstWrong_67 : decode cX4_firstWrong 67 = .ok (.bipush (-9), 2) := by decide +kernel
theorem dX4_firstWrong_69 : decode cX4_firstWrong 69 = .ok (.ireturn, 1) := by decide +kernel
set_option maxRecDepth 20000 in
theorem ggX4_worthTo_X4_neighbours : GoodIn wsX4_worthTo wsX4_neighbours := goodIn_r _ [7, 8, 9, 10, 6, 11, 12, 1, 13, 14, 15, 16, 17, 18, 19, 20, 21, 22, 23, 24, 31, 32, 33, 34, 35, 36, 37, 38, 39, 40] (by decide +kernel) (by decide +kernel)
set_option maxRecDepth 20000 in
theorem gX4_worthTo_X4_neighbours : GoodIn wsX4_worthTo (wsV RX4 88 RX4 yX4_neighbours wsX4_neighbours) := goodIn_app (goodIn_of _ (by decide +kernel)) ggX4_worthTo_X4_neighbours
set_option maxRecDepth 20000 in
theorem ggX4_worthTo_X3_rowOf : GoodIn wsX4_worthTo wsX3_rowOf := goodIn_r _ [27] (by decide +kernel) (by decide +kernel)
set_option maxRecDepth 20000 in
theorem gX4_worthTo_X3_rowOf : GoodIn wsX4_worthTo (va_wsS RX4 94 yX3_rowOf wsX3_rowOf) := goodIn_app (goodIn_of _ (by decide +kernel)) ggX4_worthTo_X3_rowOf
set_option maxRecDepth 20000 in
theorem ggX4_worthTo_X3_cell : GoodIn wsX4_worthTo wsX3_cell := goodIn_r _ [30] (by decide +kernel) (by decide +kernel)
set_option maxRecDepth 20000 in
theorem gX4_worthTo_X3_cell : GoodIn wsX4_worthTo (va_wsS RX4 98 yX3_cell wsX3_cell) := goodIn_app (goodIn_of _ (by decide +kernel)) ggX4_worthTo_X3_cell
theorem dX4_worthTo_0 : decode cX4_worthTo 0 = .ok (.aload_n 0, 1) := by decide +kernel
theorem dX4_worthTo_1 : decode cX4_worthTo 1 = .ok (.iload_n 2, 1) := by decide +kernel
theorem dX4_worthTo_2 : decode cX4_worthTo 2 = .ok (.invokevirtual 88, 3) := by decide +kernel
theorem dX4_worthTo_5 : decode cX4_worthTo 5 = .ok (.iload_n 1, 1) := by decide +kernel
theorem dX4_worthTo_6 : decode cX4_worthTo 6 = .ok (.invokestatic 94, 3) := by decide +kernel
theorem dX4_worthTo_9 : decode cX4_worthTo 9 = .ok (.istore_n 3, 1) := by decide +kernel
theorem dX4_worthTo_10 : decode cX4_worthTo 10 = .ok (.iconst 0, 1) := by decide +kernel
theorem dX4_worthTo_11 : decode cX4_worthTo 11 = .ok (.istore 4, 2) := by decide +kernel
theorem dX4_worthTo_13 : decode cX4_worthTo 13 = .ok (.iconst 0, 1) := by decide +kernel
theorem dX4_worthTo_14 : decode cX4_worthTo 14 = .ok (.istore 5, 2) := by decide +kernel
theorem dX4_worthTo_16 : decode cX4_worthTo 16 = .ok (.iload 5, 2) := by decide +kernel
theorem dX4_worthTo_18 : decode cX4_worthTo 18 = .ok (.aload_n 0, 1) := by decide +kernel
theorem dX4_worthTo_19 : decode cX4_worthTo 19 = .ok (.getfield 21, 3) := by decide +kernel
theorem dX4_worthTo_22 : decode cX4_worthTo 22 = .ok (.if_icmp .ge 41, 3) := by decide +kernel
theorem dX4_worthTo_25 : decode cX4_worthTo 25 = .ok (.iload 5, 2) := by decide +kernel
theorem dX4_worthTo_27 : decode cX4_worthTo 27 = .ok (.bipush 7, 2) := by decide +kernel
theorem dX4_worthTo_29 : decode cX4_worthTo 29 = .ok (.if_icmp .ge 34, 3) := by decide +kernel
theorem dX4_worthTo_32 : decode cX4_worthTo 32 = .ok (.iload_n 3, 1) := by decide +kernel
theorem dX4_worthTo_33 : decode cX4_worthTo 33 = .ok (.iload 5, 2) := by decide +kernel
theorem dX4_worthTo_35 : decode cX4_worthTo 35 = .ok (.ishr, 1) := by decide +kernel
theorem dX4_worthTo_36 : decode cX4_worthTo 36 = .ok (.iconst 1, 1) := by decide +kernel
theorem dX4_worthTo_37 : decode cX4_worthTo 37 = .ok (.iand, 1) := by decide +kernel
theorem dX4_worthTo_38 : decode cX4_worthTo 38 = .ok (.ifCond .eq 19, 3) := by decide +kernel
theorem dX4_worthTo_41 : decode cX4_worthTo 41 = .ok (.iload 4, 2) := by decide +kernel
theorem dX4_worthTo_43 : decode cX4_worthTo 43 = .ok (.aload_n 0, 1) := by decide +kernel
theorem dX4_worthTo_44 : decode cX4_worthTo 44 = .ok (.getfield 43, 3) := by decide +kernel
theorem dX4_worthTo_47 : decode cX4_worthTo 47 = .ok (.iload_n 1, 1) := by decide +kernel
theorem dX4_worthTo_48 : decode cX4_worthTo 48 = .ok (.iload 5, 2) := by decide +kernel
theorem dX4_worthTo_50 : decode cX4_worthTo 50 = .ok (.invokestatic 98, 3) := by decide +kernel
theorem dX4_worthTo_53 : decode cX4_worthTo 53 = .ok (.iaload, 1) := by decide +kernel
theorem dX4_worthTo_54 : decode cX4_worthTo 54 = .ok (.iadd, 1) := by decide +kernel
theorem dX4_worthTo_55 : decode cX4_worthTo 55 = .ok (.istore 4, 2) := by decide +kernel
theorem dX4_worthTo_57 : decode cX4_worthTo 57 = .ok (.iinc 5 1, 3) := by decide +kernel
theorem dX4_worthTo_60 : decode cX4_worthTo 60 = .ok (.goto (-44), 3) := by decide +kernel
theorem dX4_worthTo_63 : decode cX4_worthTo 63 = .ok (.iload 4, 2) := by decide +kernel
theorem dX4_worthTo_65 : decode cX4_worthTo 65 = .ok (.ireturn, 1) := by decide +kernel
set_option maxRecDepth 20000 in
theorem ggX4_weigh_X4_neighbourPairs : GoodIn wsX4_weigh wsX4_neighbourPairs := goodIn_r _ [5, 6, 7, 20, 21, 22, 23, 24, 25, 26, 27, 28, 29] (by decide +kernel) (by decide +kernel)
set_option maxRecDepth 20000 in
theorem gX4_weigh_X4_neighbourPairs : GoodIn wsX4_weigh (wsV RX4 84 RX4 yX4_neighbourPairs wsX4_neighbourPairs) := goodIn_app (goodIn_of _ (by decide +kernel)) ggX4_weigh_X4_neighbourPairs
set_option maxRecDepth 20000 in
theorem ggX4_weigh_X7_personOn : GoodIn wsX4_weigh wsX7_personOn := goodIn_r _ [11] (by decide +kernel) (by decide +kernel)
set_option maxRecDepth 20000 in
theorem gX4_weigh_X7_personOn : GoodIn wsX4_weigh (va_wsS RX4 72 yX7_personOn wsX7_personOn) := goodIn_app (goodIn_of _ (by decide +kernel)) ggX4_weigh_X7_personOn
set_option maxRecDepth 20000 in
theorem ggX4_weigh_X4_behind : GoodIn wsX4_weigh wsX4_behind := goodIn_r _ [15, 7, 20, 21, 22, 23, 24, 25, 26, 27, 28, 29] (by decide +kernel) (by decide +kernel)
set_option maxRecDepth 20000 in
theorem gX4_weigh_X4_behind : GoodIn wsX4_weigh (wsV RX4 78 RX4 yX4_behind wsX4_behind) := goodIn_app (goodIn_of _ (by decide +kernel)) ggX4_weigh_X4_behind
set_option maxRecDepth 20000 in
theorem ggX4_weigh_X3_cell : GoodIn wsX4_weigh wsX3_cell := goodIn_r _ [19] (by decide +kernel) (by decide +kernel)
set_option maxRecDepth 20000 in
theorem gX4_weigh_X3_cell : GoodIn wsX4_weigh (va_wsS RX4 98 yX3_cell wsX3_cell) := goodIn_app (goodIn_of _ (by decide +kernel)) ggX4_weigh_X3_cell
theorem dX4_weigh_0 : decode cX4_weigh 0 = .ok (.aload_n 2, 1) := by decide +kernel
theorem dX4_weigh_1 : decode cX4_weigh 1 = .ok (.arraylength, 1) := by decide +kernel
theorem dX4_weigh_2 : decode cX4_weigh 2 = .ok (.bipush 64, 2) := by decide +kernel
theorem dX4_weigh_4 : decode cX4_weigh 4 = .ok (.if_icmp .ge 5, 3) := by decide +kernel
theorem dX4_weigh_7 : decode cX4_weigh 7 = .ok (.iconst 0, 1) := by decide +kernel
theorem dX4_weigh_8 : decode cX4_weigh 8 = .ok (.ireturn, 1) := by decide +kernel
theorem dX4_weigh_9 : decode cX4_weigh 9 = .ok (.iconst 0, 1) := by decide +kernel
theorem dX4_weigh_10 : decode cX4_weigh 10 = .ok (.istore_n 3, 1) := by decide +kernel
theorem dX4_weigh_11 : decode cX4_weigh 11 = .ok (.aload_n 0, 1) := by decide +kernel
theorem dX4_weigh_12 : decode cX4_weigh 12 = .ok (.invokevirtual 84, 3) := by decide +kernel
theorem dX4_weigh_15 : decode cX4_weigh 15 = .ok (.istore 4, 2) := by decide +kernel
theorem dX4_weigh_17 : decode cX4_weigh 17 = .ok (.iload_n 1, 1) := by decide +kernel
theorem dX4_weigh_18 : decode cX4_weigh 18 = .ok (.iconst 0, 1) := by decide +kernel
theorem dX4_weigh_19 : decode cX4_weigh 19 = .ok (.invokestatic 72, 3) := by decide +kernel
theorem dX4_weigh_22 : decode cX4_weigh 22 = .ok (.istore 5, 2) := by decide +kernel
theorem dX4_weigh_24 : decode cX4_weigh 24 = .ok (.iconst 0, 1) := by decide +kernel
theorem dX4_weigh_25 : decode cX4_weigh 25 = .ok (.istore 6, 2) := by decide +kernel
theorem dX4_weigh_27 : decode cX4_weigh 27 = .ok (.iload 6, 2) := by decide +kernel
theorem dX4_weigh_29 : decode cX4_weigh 29 = .ok (.iload 4, 2) := by decide +kernel
theorem dX4_weigh_31 : decode cX4_weigh 31 = .ok (.if_icmp .ge 54, 3) := by decide +kernel
theorem dX4_weigh_34 : decode cX4_weigh 34 = .ok (.iload 6, 2) := by decide +kernel
theorem dX4_weigh_36 : decode cX4_weigh 36 = .ok (.bipush 7, 2) := by decide +kernel
theorem dX4_weigh_38 : decode cX4_weigh 38 = .ok (.if_icmp .ge 47, 3) := by decide +kernel
theorem dX4_weigh_41 : decode cX4_weigh 41 = .ok (.iload_n 1, 1) := by decide +kernel
theorem dX4_weigh_42 : decode cX4_weigh 42 = .ok (.aload_n 0, 1) := by decide +kernel
theorem dX4_weigh_43 : decode cX4_weigh 43 = .ok (.iload 6, 2) := by decide +kernel
theorem dX4_weigh_45 : decode cX4_weigh 45 = .ok (.invokevirtual 78, 3) := by decide +kernel
theorem dX4_weigh_48 : decode cX4_weigh 48 = .ok (.invokestatic 72, 3) := by decide +kernel
theorem dX4_weigh_51 : decode cX4_weigh 51 = .ok (.istore 7, 2) := by decide +kernel
theorem dX4_weigh_53 : decode cX4_weigh 53 = .ok (.iload_n 3, 1) := by decide +kernel
theorem dX4_weigh_54 : decode cX4_weigh 54 = .ok (.aload_n 2, 1) := by decide +kernel
theorem dX4_weigh_55 : decode cX4_weigh 55 = .ok (.iload 5, 2) := by decide +kernel
theorem dX4_weigh_57 : decode cX4_weigh 57 = .ok (.iload 7, 2) := by decide +kernel
theorem dX4_weigh_59 : decode cX4_weigh 59 = .ok (.invokestatic 98, 3) := by decide +kernel
theorem dX4_weigh_62 : decode cX4_weigh 62 = .ok (.iaload, 1) := by decide +kernel
theorem dX4_weigh_63 : decode cX4_weigh 63 = .ok (.aload_n 2, 1) := by decide +kernel
theorem dX4_weigh_64 : decode cX4_weigh 64 = .ok (.iload 7, 2) := by decide +kernel
theorem dX4_weigh_66 : decode cX4_weigh 66 = .ok (.iload 5, 2) := by decide +kernel
theorem dX4_weigh_68 : decode cX4_weigh 68 = .ok (.invokestatic 98, 3) := by decide +kernel
theorem dX4_weigh_71 : decode cX4_weigh 71 = .ok (.iaload, 1) := by decide +kernel
theorem dX4_weigh_72 : decode cX4_weigh 72 = .ok (.iadd, 1) := by decide +kernel

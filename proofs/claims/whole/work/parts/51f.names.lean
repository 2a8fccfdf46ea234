theorem dX11_readPair_31 : decode cX11_readPair 31 = .ok (.aload_n 0, 1) := by decide +kernel
theorem dX11_readPair_32 : decode cX11_readPair 32 = .ok (.getfield 104, 3) := by decide +kernel
theorem dX11_readPair_35 : decode cX11_readPair 35 = .ok (.bipush (-9), 2) := by decide +kernel
theorem dX11_readPair_37 : decode cX11_readPair 37 = .ok (.if_icmp .ne 83, 3) := by decide +kernel
theorem dX11_readPair_40 : decode cX11_readPair 40 = .ok (.aload_n 0, 1) := by decide +kernel
theorem dX11_readPair_41 : decode cX11_readPair 41 = .ok (.getfield 17, 3) := by decide +kernel
theorem dX11_readPair_44 : decode cX11_readPair 44 = .ok (.iload_n 2, 1) := by decide +kernel
theorem dX11_readPair_45 : decode cX11_readPair 45 = .ok (.dup2, 1) := by decide +kernel
theorem dX11_readPair_46 : decode cX11_readPair 46 = .ok (.iaload, 1) := by decide +kernel
theorem dX11_readPair_47 : decode cX11_readPair 47 = .ok (.iload_n 1, 1) := by decide +kernel
theorem dX11_readPair_48 : decode cX11_readPair 48 = .ok (.ifCond .eq 9, 3) := by decide +kernel
theorem dX11_readPair_51 : decode cX11_readPair 51 = .ok (.iconst 1, 1) := by decide +kernel
theorem dX11_readPair_52 : decode cX11_readPair 52 = .ok (.iload_n 3, 1) := by decide +kernel
theorem dX11_readPair_53 : decode cX11_readPair 53 = .ok (.ishl, 1) := by decide +kernel
theorem dX11_readPair_54 : decode cX11_readPair 54 = .ok (.goto 4, 3) := by decide +kernel
theorem dX11_readPair_57 : decode cX11_readPair 57 = .ok (.iconst 0, 1) := by decide +kernel
theorem dX11_readPair_58 : decode cX11_readPair 58 = .ok (.ior, 1) := by decide +kernel
theorem dX11_readPair_59 : decode cX11_readPair 59 = .ok (.iastore, 1) := by decide +kernel
theorem dX11_readPair_60 : decode cX11_readPair 60 = .ok (.aload_n 0, 1) := by decide +kernel
theorem dX11_readPair_61 : decode cX11_readPair 61 = .ok (.getfield 17, 3) := by decide +kernel
theorem dX11_readPair_64 : decode cX11_readPair 64 = .ok (.iload_n 3, 1) := by decide +kernel
theorem dX11_readPair_65 : decode cX11_readPair 65 = .ok (.dup2, 1) := by decide +kernel
theorem dX11_readPair_66 : decode cX11_readPair 66 = .ok (.iaload, 1) := by decide +kernel
theorem dX11_readPair_67 : decode cX11_readPair 67 = .ok (.iload_n 1, 1) := by decide +kernel
theorem dX11_readPair_68 : decode cX11_readPair 68 = .ok (.ifCond .eq 9, 3) := by decide +kernel
theorem dX11_readPair_71 : decode cX11_readPair 71 = .ok (.iconst 1, 1) := by decide +kernel
theorem dX11_readPair_72 : decode cX11_readPair 72 = .ok (.iload_n 2, 1) := by decide +kernel
theorem dX11_readPair_73 : decode cX11_readPair 73 = .ok (.ishl, 1) := by decide +kernel
theorem dX11_readPair_74 : decode cX11_readPair 74 = .ok (.goto 4, 3) := by decide +kernel
theorem dX11_readPair_77 : decode cX11_readPair 77 = .ok (.iconst 0, 1) := by decide +kernel
theorem dX11_readPair_78 : decode cX11_readPair 78 = .ok (.ior, 1) := by decide +kernel
theorem dX11_readPair_79 : decode cX11_readPair 79 = .ok (.iastore, 1) := by decide +kernel
theorem dX11_readPair_80 : decode cX11_readPair 80 = .ok (.aload_n 0, 1) := by decide +kernel
theorem dX11_readPair_81 : decode cX11_readPair 81 = .ok (.getfield 20, 3) := by decide +kernel
theorem dX11_readPair_84 : decode cX11_readPair 84 = .ok (.iload_n 2, 1) := by decide +kernel
theorem dX11_readPair_85 : decode cX11_readPair 85 = .ok (.dup2, 1) := by decide +kernel
theorem dX11_readPair_86 : decode cX11_readPair 86 = .ok (.iaload, 1) := by decide +kernel
theorem dX11_readPair_87 : decode cX11_readPair 87 = .ok (.iload_n 1, 1) := by decide +kernel
theorem dX11_readPair_88 : decode cX11_readPair 88 = .ok (.ifCond .eq 7, 3) := by decide +kernel
theorem dX11_readPair_91 : decode cX11_readPair 91 = .ok (.iconst 0, 1) := by decide +kernel
theorem dX11_readPair_92 : decode cX11_readPair 92 = .ok (.goto 6, 3) := by decide +kernel
theorem dX11_readPair_95 : decode cX11_readPair 95 = .ok (.iconst 1, 1) := by decide +kernel
theorem dX11_readPair_96 : decode cX11_readPair 96 = .ok (.iload_n 3, 1) := by decide +kernel
theorem dX11_readPair_97 : decode cX11_readPair 97 = .ok (.ishl, 1) := by decide +kernel
theorem dX11_readPair_98 : decode cX11_readPair 98 = .ok (.ior, 1) := by decide +kernel
theorem dX11_readPair_99 : decode cX11_readPair 99 = .ok (.iastore, 1) := by decide +kernel
theorem dX11_readPair_100 : decode cX11_readPair 100 = .ok (.aload_n 0, 1) := by decide +kernel
theorem dX11_readPair_101 : decode cX11_readPair 101 = .ok (.getfield 20, 3) := by decide +kernel
theorem dX11_readPair_104 : decode cX11_readPair 104 = .ok (.iload_n 3, 1) := by decide +kernel
theorem dX11_readPair_105 : decode cX11_readPair 105 = .ok (.dup2, 1) := by decide +kernel
theorem dX11_readPair_106 : decode cX11_readPair 106 = .ok (.iaload, 1) := by decide +kernel
theorem dX11_readPair_107 : decode cX11_readPair 107 = .ok (.iload_n 1, 1) := by decide +kernel
theorem dX11_readPair_108 : decode cX11_readPair 108 = .ok (.ifCond .eq 7, 3) := by decide +kernel
theorem dX11_readPair_111 : decode cX11_readPair 111 = .ok (.iconst 0, 1) := by decide +kernel
theorem dX11_readPair_112 : decode cX11_readPair 112 = .ok (.goto 6, 3) := by decide +kernel
theorem dX11_readPair_115 : decode cX11_readPair 115 = .ok (.iconst 1, 1) := by decide +kernel
theorem dX11_readPair_116 : decode cX11_readPair 116 = .ok (.iload_n 2, 1) := by decide +kernel
theorem dX11_readPair_117 : decode cX11_readPair 117 = .ok (.ishl, 1) := by decide +kernel
theorem dX11_readPair_118 : decode cX11_readPair 118 = .ok (.ior, 1) := by decide +kernel
theorem dX11_readPair_119 : decode cX11_readPair 119 = .ok (.iastore, 1) := by decide +kernel
theorem dX11_readPair_120 : decode cX11_readPair 120 = .ok (.return_, 1) := by decide +kernel
set_option maxRecDepth 20000 in
theorem ggX11_fault_X11_readText : GoodIn wsX11_fault wsX11_readText := goodIn_r _ [5, 6, 7, 8, 9, 10, 11, 12, 13, 14, 15, 16, 4, 17, 18, 19, 20, 21, 22, 23, 24, 25, 26, 27, 28, 29, 30, 31, 32, 33, 34, 35, 36, 37, 38, 39, 40, 41, 42, 43, 44, 45, 46, 47, 48, 49, 50, 51, 52, 53, 54, 55, 56, 57, 58, 59, 60, 61, 62, 63, 64, 65, 66, 67, 68, 69, 70, 71, 72, 73, 74, 75, 76, 77, 78, 79, 80, 81, 82, 83, 84, 85, 86, 87, 88, 89, 90, 91, 92, 93, 94, 95, 96] (by decide +kernel) (by decide +kernel)
set_option maxRecDepth 20000 in
theorem gX11_fault_X11_readText : GoodIn wsX11_fault (wsV RX11 156 RX11 yX11_readText wsX11_readText) := goodIn_app (goodIn_of _ (by decide +kernel)) ggX11_fault_X11_readText
theorem dX11_fault_0 : decode cX11_fault 0 = .ok (.aload_n 0, 1) := by decide +kernel
theorem dX11_fault_1 : decode cX11_fault 1 = .ok (.invokevirtual 156, 3) := by decide +kernel
theorem dX11_fault_4 : decode cX11_fault 4 = .ok (.ireturn, 1) := by decide +kernel
set_option maxRecDepth 20000 in
theorem ggX11_party_X11_readText : GoodIn wsX11_party wsX11_readText := goodIn_r _ [27, 28, 29, 1, 30, 31, 3, 5, 7, 32, 33, 34, 26, 35, 36, 37, 38, 39, 40, 41, 42, 43, 44, 45, 46, 47, 48, 49, 50, 51, 19, 52, 53, 54, 55, 10, 12, 14, 16, 56, 57, 58, 59, 60, 61, 62, 63, 64, 65, 66, 67, 68, 69, 70, 71, 72, 73, 74, 75, 76, 77, 78, 79, 80, 81, 82, 83, 84, 85, 86, 87, 88, 89, 90, 91, 92, 93, 94, 95, 96, 97, 98, 99, 100, 101, 102, 103, 104, 105, 106, 107, 108, 109] (by decide +kernel) (by decide +kernel)
set_option maxRecDepth 20000 in
theorem gX11_party_X11_readText : GoodIn wsX11_party (wsV RX11 156 RX11 yX11_readText wsX11_readText) := goodIn_app (goodIn_of _ (by decide +kernel)) ggX11_party_X11_readText
theorem dX11_party_0 : decode cX11_party 0 = .ok (.aload_n 0, 1) := by decide +kernel
theorem dX11_party_1 : decode cX11_party 1 = .ok (.invokevirtual 156, 3) := by decide +kernel
theorem dX11_party_4 : decode cX11_party 4 = .ok (.bipush (-9), 2) := by decide +kernel
theorem dX11_party_6 : decode cX11_party 6 = .ok (.if_icmp .eq 6, 3) := by decide +kernel
theorem dX11_party_9 : decode cX11_party 9 = .ok (.bipush (-3), 2) := by decide +kernel
theorem dX11_party_11 : decode cX11_party 11 = .ok (.ireturn, 1) := by decide +kernel
theorem dX11_party_12 : decode cX11_party 12 = .ok (.aload_n 0, 1) := by decide +kernel
theorem dX11_party_13 : decode cX11_party 13 = .ok (.aload_n 0, 1) := by decide +kernel
theorem dX11_party_14 : decode cX11_party 14 = .ok (.getfield 115, 3) := by decide +kernel
theorem dX11_party_17 : decode cX11_party 17 = .ok (.putfield 89, 3) := by decide +kernel
theorem dX11_party_20 : decode cX11_party 20 = .ok (.aload_n 0, 1) := by decide +kernel
theorem dX11_party_21 : decode cX11_party 21 = .ok (.aload_n 0, 1) := by decide +kernel
theorem dX11_party_22 : decode cX11_party 22 = .ok (.getfield 126, 3) := by decide +kernel
theorem dX11_party_25 : decode cX11_party 25 = .ok (.putfield 160, 3) := by decide +kernel
theorem dX11_party_28 : decode cX11_party 28 = .ok (.aload_n 0, 1) := by decide +kernel
theorem dX11_party_29 : decode cX11_party 29 = .ok (.aload_n 0, 1) := by decide +kernel
theorem dX11_party_30 : decode cX11_party 30 = .ok (.getfield 134, 3) := by decide +kernel
theorem dX11_party_33 : decode cX11_party 33 = .ok (.putfield 163, 3) := by decide +kernel
theorem dX11_party_36 : decode cX11_party 36 = .ok (.aload_n 0, 1) := by decide +kernel
theorem dX11_party_37 : decode cX11_party 37 = .ok (.aload_n 0, 1) := by decide +kernel
theorem dX11_party_38 : decode cX11_party 38 = .ok (.getfield 137, 3) := by decide +kernel
theorem dX11_party_41 : decode cX11_party 41 = .ok (.putfield 166, 3) := by decide +kernel
theorem dX11_party_44 : decode cX11_party 44 = .ok (.iconst 0, 1) := by decide +kernel
theorem dX11_party_45 : decode cX11_party 45 = .ok (.istore_n 1, 1) := by decide +kernel
theorem dX11_party_46 : decode cX11_party 46 = .ok (.iload_n 1, 1) := by decide +kernel
theorem dX11_party_47 : decode cX11_party 47 = .ok (.bipush 7, 2) := by decide +kernel
theorem dX11_party_49 : decode cX11_party 49 = .ok (.if_icmp .ge 64, 3) := by decide +kernel
theorem dX11_party_52 : decode cX11_party 52 = .ok (.aload_n 0, 1) := by decide +kernel
theorem dX11_party_53 : decode cX11_party 53 = .ok (.getfield 26, 3) := by decide +kernel
theorem dX11_party_56 : decode cX11_party 56 = .ok (.iload_n 1, 1) := by decide +kernel
theorem dX11_party_57 : decode cX11_party 57 = .ok (.aload_n 0, 1) := by decide +kernel
theorem dX11_party_58 : decode cX11_party 58 = .ok (.getfield 7, 3) := by decide +kernel
theorem dX11_party_61 : decode cX11_party 61 = .ok (.iload_n 1, 1) := by decide +kernel
theorem dX11_party_62 : decode cX11_party 62 = .ok (.baload, 1) := by decide +kernel
theorem dX11_party_63 : decode cX11_party 63 = .ok (.bastore, 1) := by decide +kernel
theorem dX11_party_64 : decode cX11_party 64 = .ok (.aload_n 0, 1) := by decide +kernel
theorem dX11_party_65 : decode cX11_party 65 = .ok (.getfield 29, 3) := by decide +kernel
theorem dX11_party_68 : decode cX11_party 68 = .ok (.iload_n 1, 1) := by decide +kernel
theorem dX11_party_69 : decode cX11_party 69 = .ok (.aload_n 0, 1) := by decide +kernel
theorem dX11_party_70 : decode cX11_party 70 = .ok (.getfield 13, 3) := by decide +kernel
theorem dX11_party_73 : decode cX11_party 73 = .ok (.iload_n 1, 1) := by decide +kernel
theorem dX11_party_74 : decode cX11_party 74 = .ok (.iaload, 1) := by decide +kernel
theorem dX11_party_75 : decode cX11_party 75 = .ok (.iastore, 1) := by decide +kernel
theorem dX11_party_76 : decode cX11_party 76 = .ok (.aload_n 0, 1) := by decide +kernel
theorem dX11_party_77 : decode cX11_party 77 = .ok (.getfield 32, 3) := by decide +kernel
theorem dX11_party_80 : decode cX11_party 80 = .ok (.iload_n 1, 1) := by decide +kernel
theorem dX11_party_81 : decode cX11_party 81 = .ok (.aload_n 0, 1) := by decide +kernel
theorem dX11_party_82 : decode cX11_party 82 = .ok (.getfield 17, 3) := by decide +kernel
theorem dX11_party_85 : decode cX11_party 85 = .ok (.iload_n 1, 1) := by decide +kernel
theorem dX11_party_86 : decode cX11_party 86 = .ok (.iaload, 1) := by decide +kernel
theorem dX11_party_87 : decode cX11_party 87 = .ok (.iastore, 1) := by decide +kernel
theorem dX11_party_88 : decode cX11_party 88 = .ok (.aload_n 0, 1) := by decide +kernel
theorem dX11_party_89 : decode cX11_party 89 = .ok (.getfield 35, 3) := by decide +kernel
theorem dX11_party_92 : decode cX11_party 92 = .ok (.iload_n 1, 1) := by decide +kernel
theorem dX11_party_93 : decode cX11_party 93 = .ok (.aload_n 0, 1) := by decide +kernel
theorem dX11_party_94 : decode cX11_party 94 = .ok (.getfield 20, 3) := by decide +kernel
theorem dX11_party_97 : decode cX11_party 97 = .ok (.iload_n 1, 1) := by decide +kernel
theorem dX11_party_98 : decode cX11_party 98 = .ok (.iaload, 1) := by decide +kernel
theorem dX11_party_99 : decode cX11_party 99 = .ok (.iastore, 1) := by decide +kernel
theorem dX11_party_100 : decode cX11_party 100 = .ok (.aload_n 0, 1) := by decide +kernel
theorem dX11_party_101 : decode cX11_party 101 = .ok (.getfield 41, 3) := by decide +kernel
theorem dX11_party_104 : decode cX11_party 104 = .ok (.iload_n 1, 1) := by decide +kernel
theorem dX11_party_105 : decode cX11_party 105 = .ok (.iload_n 1, 1) := by decide +kernel
theorem dX11_party_106 : decode cX11_party 106 = .ok (.iastore, 1) := by decide +kernel
theorem dX11_party_107 : decode cX11_party 107 = .ok (.iinc 1 1, 3) := by decide +kernel
theorem dX11_party_110 : decode cX11_party 110 = .ok (.goto (-64), 3) := by decide +kernel
theorem dX11_party_113 : decode cX11_party 113 = .ok (.iconst 0, 1) := by decide +kernel
theorem dX11_party_114 : decode cX11_party 114 = .ok (.istore_n 1, 1) := by decide +kernel
theorem dX11_party_115 : decode cX11_party 115 = .ok (.iload_n 1, 1) := by decide +kernel
theorem dX11_party_116 : decode cX11_party 116 = .ok (.bipush 49, 2) := by decide +kernel
theorem dX11_party_118 : decode cX11_party 118 = .ok (.if_icmp .ge 28, 3) := by decide +kernel
theorem dX11_party_121 : decode cX11_party 121 = .ok (.aload_n 0, 1) := by decide +kernel
theorem dX11_party_122 : decode cX11_party 122 = .ok (.getfield 38, 3) := by decide +kernel
theorem dX11_party_125 : decode cX11_party 125 = .ok (.iload_n 1, 1) := by decide +kernel
theorem dX11_party_126 : decode cX11_party 126 = .ok (.aload_n 0, 1) := by decide +kernel
theorem dX11_party_127 : decode cX11_party 127 = .ok (.getfield 23, 3) := by decide +kernel
theorem dX11_party_130 : decode cX11_party 130 = .ok (.iload_n 1, 1) := by decide +kernel
theorem dX11_party_131 : decode cX11_party 131 = .ok (.iaload, 1) := by decide +kernel
theorem dX11_party_132 : decode cX11_party 132 = .ok (.iastore, 1) := by decide +kernel
theorem dX11_party_133 : decode cX11_party 133 = .ok (.aload_n 0, 1) := by decide +kernel
theorem dX11_party_134 : decode cX11_party 134 = .ok (.getfield 44, 3) := by decide +kernel
theorem dX11_party_137 : decode cX11_party 137 = .ok (.iload_n 1, 1) := by decide +kernel
theorem dX11_party_138 : decode cX11_party 138 = .ok (.iconst 0, 1) := by decide +kernel
theorem dX11_party_139 : decode cX11_party 139 = .ok (.iastore, 1) := by decide +kernel
theorem dX11_party_140 : decode cX11_party 140 = .ok (.iinc 1 1, 3) := by decide +kernel
theorem dX11_party_143 : decode cX11_party 143 = .ok (.goto (-28), 3) := by decide +kernel
theorem dX11_party_146 : decode cX11_party 146 = .ok (.aload_n 0, 1) := by decide +kernel
theorem dX11_party_147 : decode cX11_party 147 = .ok (.iconst 0, 1) := by decide +kernel
theorem dX11_party_148 : decode cX11_party 148 = .ok (.putfield 169, 3) := by decide +kernel
theorem dX11_party_151 : decode cX11_party 151 = .ok (.aload_n 0, 1) := by decide +kernel
theorem dX11_party_152 : decode cX11_party 152 = .ok (.getfield 83, 3) := by decide +kernel
theorem dX11_party_155 : decode cX11_party 155 = .ok (.iconst 0, 1) := by decide +kernel
theorem dX11_party_156 : decode cX11_party 156 = .ok (.iconst 0, 1) := by decide +kernel
theorem dX11_party_157 : decode cX11_party 157 = .ok (.bastore, 1) := by decide +kernel
theorem dX11_party_158 : decode cX11_party 158 = .ok (.aload_n 0, 1) := by decide +kernel
theorem dX11_party_159 : decode cX11_party 159 = .ok (.getfield 83, 3) := by decide +kernel
theorem dX11_party_162 : decode cX11_party 162 = .ok (.iconst 1, 1) := by decide +kernel
theorem dX11_party_163 : decode cX11_party 163 = .ok (.iconst 0, 1) := by decide +kernel
theorem dX11_party_164 : decode cX11_party 164 = .ok (.bastore, 1) := by decide +kernel
theorem dX11_party_165 : decode cX11_party 165 = .ok (.aload_n 0, 1) := by decide +kernel
theorem dX11_party_166 : decode cX11_party 166 = .ok (.getfield 89, 3) := by decide +kernel
theorem dX11_party_169 : decode cX11_party 169 = .ok (.ireturn, 1) := by decide +kernel
set_option maxRecDepth 20000 in
theorem ggX11_isPerson_X11_in : GoodIn wsX11_isPerson wsX11_in := goodIn_r _ [5] (by decide +kernel) (by decide +kernel)
set_option maxRecDepth 20000 in
theorem gX11_isPerson_X11_in : GoodIn wsX11_isPerson (va_wsS RX11 95 yX11_in wsX11_in) := goodIn_app (goodIn_of _ (by decide +kernel)) ggX11_isPerson_X11_in
theorem dX11_isPerson_0 : decode cX11_isPerson 0 = .ok (.iload_n 1, 1) := by decide +kernel
theorem dX11_isPerson_1 : decode cX11_isPerson 1 = .ok (.i2l, 1) := by decide +kernel
theorem dX11_isPerson_2 : decode cX11_isPerson 2 = .ok (.lconst 0, 1) := by decide +kernel
theorem dX11_isPerson_3 : decode cX11_isPerson 3 = .ok (.aload_n 0, 1) := by decide +kernel
theorem dX11_isPerson_4 : decode cX11_isPerson 4 = .ok (.getfield 89, 3) := by decide +kernel
theorem dX11_isPerson_7 : decode cX11_isPerson 7 = .ok (.iconst 1, 1) := by decide +kernel
theorem dX11_isPerson_8 : decode cX11_isPerson 8 = .ok (.isub, 1) := by decide +kernel
theorem dX11_isPerson_9 : decode cX11_isPerson 9 = .ok (.i2l, 1) := by decide +kernel
theorem dX11_isPerson_10 : decode cX11_isPerson 10 = .ok (.invokestatic 95, 3) := by decide +kernel
theorem dX11_isPerson_13 : decode cX11_isPerson 13 = .ok (.ireturn, 1) := by decide +kernel
theorem dX11_areNext_0 : decode cX11_areNext 0 = .ok (.iload_n 1, 1) := by decide +kernel
theorem dX11_areNext_1 : decode cX11_areNext 1 = .ok (.iload_n 2, 1) := by decide +kernel
theorem dX11_areNext_2 : decode cX11_areNext 2 = .ok (.if_icmp .ge 9, 3) := by decide +kernel
theorem dX11_areNext_5 : decode cX11_areNext 5 = .ok (.iload_n 2, 1) := by decide +kernel
theorem dX11_areNext_6 : decode cX11_areNext 6 = .ok (.iload_n 1, 1) := by decide +kernel
theorem dX11_areNext_7 : decode cX11_areNext 7 = .ok (.isub, 1) := by decide +kernel
theorem dX11_areNext_8 : decode cX11_areNext 8 = .ok (.goto 6, 3) := by decide +kernel
theorem dX11_areNext_11 : decode cX11_areNext 11 = .ok (.iload_n 1, 1) := by decide +kernel
theorem dX11_areNext_12 : decode cX11_areNext 12 = .ok (.iload_n 2, 1) := by decide +kernel
theorem dX11_areNext_13 : decode cX11_areNext 13 = .ok (.isub, 1) := by decide +kernel
theorem dX11_areNext_14 : decode cX11_areNext 14 = .ok (.istore_n 3, 1) := by decide +kernel
theorem dX11_areNext_15 : decode cX11_areNext 15 = .ok (.iload_n 3, 1) := by decide +kernel
theorem dX11_areNext_16 : decode cX11_areNext 16 = .ok (.iconst 1, 1) := by decide +kernel
theorem dX11_areNext_17 : decode cX11_areNext 17 = .ok (.if_icmp .eq 28, 3) := by decide +kernel
theorem dX11_areNext_20 : decode cX11_areNext 20 = .ok (.aload_n 0, 1) := by decide +kernel
theorem dX11_areNext_21 : decode cX11_areNext 21 = .ok (.getfield 160, 3) := by decide +kernel
theorem dX11_areNext_24 : decode cX11_areNext 24 = .ok (.ifCond .eq 25, 3) := by decide +kernel
theorem dX11_areNext_27 : decode cX11_areNext 27 = .ok (.aload_n 0, 1) := by decide +kernel
theorem dX11_areNext_28 : decode cX11_areNext 28 = .ok (.getfield 89, 3) := by decide +kernel
theorem dX11_areNext_31 : decode cX11_areNext 31 = .ok (.iconst 2, 1) := by decide +kernel
theorem dX11_areNext_32 : decode cX11_areNext 32 = .ok (.if_icmp .le 17, 3) := by decide +kernel
theorem dX11_areNext_35 : decode cX11_areNext 35 = .ok (.iload_n 3, 1) := by decide +kernel
theorem dX11_areNext_36 : decode cX11_areNext 36 = .ok (.aload_n 0, 1) := by decide +kernel
theorem dX11_areNext_37 : decode cX11_areNext 37 = .ok (.getfield 89, 3) := by decide +kernel
theorem dX11_areNext_40 : decode cX11_areNext 40 = .ok (.iconst 1, 1) := by decide +kernel
theorem dX11_areNext_41 : decode cX11_areNext 41 = .ok (.isub, 1) := by decide +kernel
theorem dX11_areNext_42 : decode cX11_areNext 42 = .ok (.if_icmp .ne 7, 3) := by decide +kernel
theorem dX11_areNext_45 : decode cX11_areNext 45 = .ok (.iconst 1, 1) := by decide +kernel
theorem dX11_areNext_46 : decode cX11_areNext 46 = .ok (.goto 4, 3) := by decide +kernel
theorem dX11_areNext_49 : decode cX11_areNext 49 = .ok (.iconst 0, 1) := by decide +kernel
theorem dX11_areNext_50 : decode cX11_areNext 50 = .ok (.ireturn, 1) := by decide +kernel
theorem dX11_mayBeside_0 : decode cX11_mayBeside 0 = .ok (.aload_n 0, 1) := by decide +kernel
theorem dX11_mayBeside_1 : decode cX11_mayBeside 1 = .ok (.getfield 32, 3) := by decide +kernel
theorem dX11_mayBeside_4 : decode cX11_mayBeside 4 = .ok (.iload_n 1, 1) := by decide +kernel
theorem dX11_mayBeside_5 : decode cX11_mayBeside 5 = .ok (.iaload, 1) := by decide +kernel
theorem dX11_mayBeside_6 : decode cX11_mayBeside 6 = .ok (.iload_n 2, 1) := by decide +kernel
theorem dX11_mayBeside_7 : decode cX11_mayBeside 7 = .ok (.ishr, 1) := by decide +kernel
theorem dX11_mayBeside_8 : decode cX11_mayBeside 8 = .ok (.iconst 1, 1) := by decide +kernel
theorem dX11_mayBeside_9 : decode cX11_mayBeside 9 = .ok (.iand, 1) := by decide +kernel
theorem dX11_mayBeside_10 : decode cX11_mayBeside 10 = .ok (.ifCond .ne 46, 3) := by decide +kernel
theorem dX11_mayBeside_13 : decode cX11_mayBeside 13 = .ok (.aload_n 0, 1) := by decide +kernel
theorem dX11_mayBeside_14 : decode cX11_mayBeside 14 = .ok (.getfield 166, 3) := by decide +kernel
theorem dX11_mayBeside_17 : decode cX11_mayBeside 17 = .ok (.ifCond .eq 13, 3) := by decide +kernel
theorem dX11_mayBeside_20 : decode cX11_mayBeside 20 = .ok (.aload_n 0, 1) := by decide +kernel
theorem dX11_mayBeside_21 : decode cX11_mayBeside 21 = .ok (.getfield 29, 3) := by decide +kernel
theorem dX11_mayBeside_24 : decode cX11_mayBeside 24 = .ok (.iload_n 1, 1) := by decide +kernel
theorem dX11_mayBeside_25 : decode cX11_mayBeside 25 = .ok (.iaload, 1) := by decide +kernel
theorem dX11_mayBeside_26 : decode cX11_mayBeside 26 = .ok (.iload_n 2, 1) := by decide +kernel
theorem dX11_mayBeside_27 : decode cX11_mayBeside 27 = .ok (.if_icmp .eq 29, 3) := by decide +kernel
theorem dX11_mayBeside_30 : decode cX11_mayBeside 30 = .ok (.aload_n 0, 1) := by decide +kernel
theorem dX11_mayBeside_31 : decode cX11_mayBeside 31 = .ok (.getfield 163, 3) := by decide +kernel
theorem dX11_mayBeside_34 : decode cX11_mayBeside 34 = .ok (.ifCond .eq 18, 3) := by decide +kernel
theorem dX11_mayBeside_37 : decode cX11_mayBeside 37 = .ok (.aload_n 0, 1) := by decide +kernel
theorem dX11_mayBeside_38 : decode cX11_mayBeside 38 = .ok (.getfield 26, 3) := by decide +kernel
theorem dX11_mayBeside_41 : decode cX11_mayBeside 41 = .ok (.iload_n 1, 1) := by decide +kernel
theorem dX11_mayBeside_42 : decode cX11_mayBeside 42 = .ok (.baload, 1) := by decide +kernel
theorem dX11_mayBeside_43 : decode cX11_mayBeside 43 = .ok (.aload_n 0, 1) := by decide +kernel
theorem dX11_mayBeside_44 : decode cX11_mayBeside 44 = .ok (.getfield 26, 3) := by decide +kernel
theorem dX11_mayBeside_47 : decode cX11_mayBeside 47 = .ok (.iload_n 2, 1) := by decide +kernel
theorem dX11_mayBeside_48 : decode cX11_mayBeside 48 = .ok (.baload, 1) := by decide +kernel
theorem dX11_mayBeside_49 : decode cX11_mayBeside 49 = .ok (.if_icmp .eq 7, 3) := by decide +kernel
theorem dX11_mayBeside_52 : decode cX11_mayBeside 52 = .ok (.iconst 1, 1) := by decide +kernel
theorem dX11_mayBeside_53 : decode cX11_mayBeside 53 = .ok (.goto 4, 3) := by decide +kernel
theorem dX11_mayBeside_56 : decode cX11_mayBeside 56 = .ok (.iconst 0, 1) := by decide +kernel
theorem dX11_mayBeside_57 : decode cX11_mayBeside 57 = .ok (.ireturn, 1) := by decide +kernel
set_option maxRecDepth 20000 in
theorem ggX11_isFine_X11_areNext : GoodIn wsX11_isFine wsX11_areNext := goodIn_r _ [7, 8, 1, 18, 19, 20, 21, 22, 23, 24, 25, 26, 27, 28, 29, 30, 31, 32, 33, 34, 35, 36, 37, 38, 39, 40, 41, 42, 43, 44, 45, 46, 47, 48, 49, 50, 51, 52, 53, 54, 55, 56, 57, 58, 59] (by decide +kernel) (by decide +kernel)
set_option maxRecDepth 20000 in
theorem gX11_isFine_X11_areNext : GoodIn wsX11_isFine (wsV RX11 172 RX11 yX11_areNext wsX11_areNext) := goodIn_app (goodIn_of _ (by decide +kernel)) ggX11_isFine_X11_areNext
set_option maxRecDepth 20000 in
theorem ggX11_isFine_X11_mayBeside : GoodIn wsX11_isFine wsX11_mayBeside := goodIn_r _ [12, 13, 14, 15, 16, 17, 18, 19, 20, 21, 22, 23, 24, 25, 26, 27, 28, 29, 30, 31, 32, 33, 34, 35, 36, 37, 38, 39, 40, 41, 42, 43, 44, 45, 46, 47, 48, 49, 50, 51, 52, 53, 54, 55, 56, 57, 58, 59] (by decide +kernel) (by decide +kernel)
set_option maxRecDepth 20000 in
theorem gX11_isFine_X11_mayBeside : GoodIn wsX11_isFine (wsV RX11 175 RX11 yX11_mayBeside wsX11_mayBeside) := goodIn_app (goodIn_of _ (by decide +kernel)) ggX11_isFine_X11_mayBeside
theorem dX11_isFine_0 : decode cX11_isFine 0 = .ok (.iconst 0, 1) := by decide +kernel
theorem dX11_isFine_1 : decode cX11_isFine 1 = .ok (.istore_n 3, 1) := by decide +kernel
theorem dX11_isFine_2 : decode cX11_isFine 2 = .ok (.iconst 1, 1) := by decide +kernel
theorem dX11_isFine_3 : decode cX11_isFine 3 = .ok (.istore 4, 2) := by decide +kernel
theorem dX11_isFine_5 : decode cX11_isFine 5 = .ok (.iconst 0, 1) := by decide +kernel
theorem dX11_isFine_6 : decode cX11_isFine 6 = .ok (.istore 5, 2) := by decide +kernel
theorem dX11_isFine_8 : decode cX11_isFine 8 = .ok (.iload 5, 2) := by decide +kernel
theorem dX11_isFine_10 : decode cX11_isFine 10 = .ok (.aload_n 0, 1) := by decide +kernel
theorem dX11_isFine_11 : decode cX11_isFine 11 = .ok (.getfield 89, 3) := by decide +kernel
theorem dX11_isFine_14 : decode cX11_isFine 14 = .ok (.if_icmp .ge 60, 3) := by decide +kernel
theorem dX11_isFine_17 : decode cX11_isFine 17 = .ok (.iload 5, 2) := by decide +kernel
theorem dX11_isFine_19 : decode cX11_isFine 19 = .ok (.iload_n 2, 1) := by decide +kernel
theorem dX11_isFine_20 : decode cX11_isFine 20 = .ok (.if_icmp .eq 48, 3) := by decide +kernel
theorem dX11_isFine_23 : decode cX11_isFine 23 = .ok (.aload_n 0, 1) := by decide +kernel
theorem dX11_isFine_24 : decode cX11_isFine 24 = .ok (.iload_n 2, 1) := by decide +kernel
theorem dX11_isFine_25 : decode cX11_isFine 25 = .ok (.iload 5, 2) := by decide +kernel
theorem dX11_isFine_27 : decode cX11_isFine 27 = .ok (.invokevirtual 172, 3) := by decide +kernel
theorem dX11_isFine_30 : decode cX11_isFine 30 = .ok (.ifCond .eq 38, 3) := by decide +kernel
theorem dX11_isFine_33 : decode cX11_isFine 33 = .ok (.iload_n 3, 1) := by decide +kernel
theorem dX11_isFine_34 : decode cX11_isFine 34 = .ok (.iconst 1, 1) := by decide +kernel
theorem dX11_isFine_35 : decode cX11_isFine 35 = .ok (.aload_n 1, 1) := by decide +kernel
theorem dX11_isFine_36 : decode cX11_isFine 36 = .ok (.iload 5, 2) := by decide +kernel
theorem dX11_isFine_38 : decode cX11_isFine 38 = .ok (.iaload, 1) := by decide +kernel
theorem dX11_isFine_39 : decode cX11_isFine 39 = .ok (.ishl, 1) := by decide +kernel
theorem dX11_isFine_40 : decode cX11_isFine 40 = .ok (.ior, 1) := by decide +kernel
theorem dX11_isFine_41 : decode cX11_isFine 41 = .ok (.istore_n 3, 1) := by decide +kernel
theorem dX11_isFine_42 : decode cX11_isFine 42 = .ok (.iload 4, 2) := by decide +kernel
theorem dX11_isFine_44 : decode cX11_isFine 44 = .ok (.ifCond .eq 21, 3) := by decide +kernel
theorem dX11_isFine_47 : decode cX11_isFine 47 = .ok (.aload_n 0, 1) := by decide +kernel
theorem dX11_isFine_48 : decode cX11_isFine 48 = .ok (.aload_n 1, 1) := by decide +kernel
theorem dX11_isFine_49 : decode cX11_isFine 49 = .ok (.iload_n 2, 1) := by decide +kernel
theorem dX11_isFine_50 : decode cX11_isFine 50 = .ok (.iaload, 1) := by decide +kernel
theorem dX11_isFine_51 : decode cX11_isFine 51 = .ok (.aload_n 1, 1) := by decide +kernel
theorem dX11_isFine_52 : decode cX11_isFine 52 = .ok (.iload 5, 2) := by decide +kernel
theorem dX11_isFine_54 : decode cX11_isFine 54 = .ok (.iaload, 1) := by decide +kernel
theorem dX11_isFine_55 : decode cX11_isFine 55 = .ok (.invokevirtual 175, 3) := by decide +kernel
theorem dX11_isFine_58 : decode cX11_isFine 58 = .ok (.ifCond .eq 7, 3) := by decide +kernel
theorem dX11_isFine_61 : decode cX11_isFine 61 = .ok (.iconst 1, 1) := by decide +kernel
theorem dX11_isFine_62 : decode cX11_isFine 62 = .ok (.goto 4, 3) := by decide +kernel
theorem dX11_isFine_65 : decode cX11_isFine 65 = .ok (.iconst 0, 1) := by decide +kernel
theorem dX11_isFine_66 : decode cX11_isFine 66 = .ok (.istore 4, 2) := by decide +kernel
theorem dX11_isFine_68 : decode cX11_isFine 68 = .ok (.iinc 5 1, 3) := by decide +kernel
theorem dX11_isFine_71 : decode cX11_isFine 71 = .ok (.goto (-63), 3) := by decide +kernel
theorem dX11_isFine_74 : decode cX11_isFine 74 = .ok (.iload 4, 2) := by decide +kernel
theorem dX11_isFine_76 : decode cX11_isFine 76 = .ok (.ifCond .eq 22, 3) := by decide +kernel
theorem dX11_isFine_79 : decode cX11_isFine 79 = .ok (.aload_n 0, 1) := by decide +kernel
theorem dX11_isFine_80 : decode cX11_isFine 80 = .ok (.getfield 35, 3) := by decide +kernel
theorem dX11_isFine_83 : decode cX11_isFine 83 = .ok (.aload_n 1, 1) := by decide +kernel
theorem dX11_isFine_84 : decode cX11_isFine 84 = .ok (.iload_n 2, 1) := by decide +kernel
theorem dX11_isFine_85 : decode cX11_isFine 85 = .ok (.iaload, 1) := by decide +kernel
theorem dX11_isFine_86 : decode cX11_isFine 86 = .ok (.iaload, 1) := by decide +kernel
theorem dX11_isFine_87 : decode cX11_isFine 87 = .ok (.iload_n 3, 1) := by decide +kernel
theorem dX11_isFine_88 : decode cX11_isFine 88 = .ok (.iconst (-1), 1) := by decide +kernel
theorem dX11_isFine_89 : decode cX11_isFine 89 = .ok (.ixor, 1) := by decide +kernel
theorem dX11_isFine_90 : decode cX11_isFine 90 = .ok (.iand, 1) := by decide +kernel
theorem dX11_isFine_91 : decode cX11_isFine 91 = .ok (.ifCond .ne 7, 3) := by decide +kernel
theorem dX11_isFine_94 : decode cX11_isFine 94 = .ok (.iconst 1, 1) := by decide +kernel
theorem dX11_isFine_95 : decode cX11_isFine 95 = .ok (.goto 4, 3) := by decide +kernel
theorem dX11_isFine_98 : decode cX11_isFine 98 = .ok (.iconst 0, 1) := by decide +kernel
theorem dX11_isFine_99 : decode cX11_isFine 99 = .ok (.ireturn, 1) := by decide +kernel
set_option maxRecDepth 20000 in
theorem ggX11_wrongOf_X11_isFine : GoodIn wsX11_wrongOf wsX11_isFine := goodIn_r _ [6, 1, 7, 8, 9, 10, 5, 11, 12, 13, 14, 15, 16, 17, 18, 19, 20, 21, 22, 23, 24, 25, 26, 27, 28, 29, 30, 31, 32, 33, 34, 35, 36, 37, 38, 39, 40, 41, 42, 43, 44, 45, 46, 47, 48, 49, 50, 51, 52, 53, 54, 55, 56, 57, 58, 59, 60, 61, 62, 63] (by decide +kernel) (by decide +kernel)
set_option maxRecDepth 20000 in
theorem gX11_wrongOf_X11_isFine : GoodIn wsX11_wrongOf (wsV RX11 178 RX11 yX11_isFine wsX11_isFine) := goodIn_app (goodIn_of _ (by decide +kernel)) ggX11_wrongOf_X11_isFine
theorem dX11_wrongOf_0 : decode cX11_wrongOf 0 = .ok (.iconst 0, 1) := by decide +kernel
theorem dX11_wrongOf_1 : decode cX11_wrongOf 1 = .ok (.istore_n 2, 1) := by decide +kernel
theorem dX11_wrongOf_2 : decode cX11_wrongOf 2 = .ok (.iload_n 2, 1) := by decide +kernel
theorem dX11_wrongOf_3 : decode cX11_wrongOf 3 = .ok (.aload_n 0, 1) := by decide +kernel
theorem dX11_wrongOf_4 : decode cX11_wrongOf 4 = .ok (.getfield 89, 3) := by decide +kernel
theorem dX11_wrongOf_7 : decode cX11_wrongOf 7 = .ok (.if_icmp .ge 20, 3) := by decide +kernel
theorem dX11_wrongOf_10 : decode cX11_wrongOf 10 = .ok (.aload_n 0, 1) := by decide +kernel
theorem dX11_wrongOf_11 : decode cX11_wrongOf 11 = .ok (.aload_n 1, 1) := by decide +kernel
theorem dX11_wrongOf_12 : decode cX11_wrongOf 12 = .ok (.iload_n 2, 1) := by decide +kernel
theorem dX11_wrongOf_13 : decode cX11_wrongOf 13 = .ok (.invokevirtual 178, 3) := by decide +kernel
theorem dX11_wrongOf_16 : decode cX11_wrongOf 16 = .ok (.ifCond .ne 5, 3) := by decide +kernel
theorem dX11_wrongOf_19 : decode cX11_wrongOf 19 = .ok (.iload_n 2, 1) := by decide +kernel
theorem dX11_wrongOf_20 : decode cX11_wrongOf 20 = .ok (.ireturn, 1) := by decide +kernel
theorem dX11_wrongOf_21 : decode cX11_wrongOf 21 = .ok (.iinc 2 1, 3) := by decide +kernel
theorem dX11_wrongOf_24 : decode cX11_wrongOf 24 = .ok (.goto (-22), 3) := by decide +kernel
theorem dX11_wrongOf_27 : decode cX11_wrongOf 27 = .ok (.bipush (-9), 2) := by decide +kernel
theorem dX11_wrongOf_29 : decode cX11_wrongOf 29 = .ok (.ireturn, 1) := by decide +kernel
set_option maxRecDepth 20000 in
theorem ggX11_isLawful_X11_wrongOf : GoodIn wsX11_isLawful wsX11_wrongOf := goodIn_r _ [5, 6, 7, 8, 9, 4, 10, 11, 12, 13, 14, 15, 16, 17, 18, 19, 20, 21, 22, 23, 24, 25, 26, 27, 28, 29, 30, 31, 32, 33, 34, 35, 36, 37, 38, 39, 40, 41, 42, 43, 44, 45, 46, 47, 48, 49, 50, 51, 52, 53, 54, 55, 56, 57, 58, 59, 60, 61, 62, 63, 64, 65, 66, 67] (by decide +kernel) (by decide +kernel)
set_option maxRecDepth 20000 in
theorem gX11_isLawful_X11_wrongOf : GoodIn wsX11_isLawful (wsV RX11 182 RX11 yX11_wrongOf wsX11_wrongOf) := goodIn_app (goodIn_of _ (by decide +kernel)) ggX11_isLawful_X11_wrongOf
theorem dX11_isLawful_0 : decode cX11_isLawful 0 = .ok (.aload_n 0, 1) := by decide +kernel
theorem dX11_isLawful_1 : decode cX11_isLawful 1 = .ok (.aload_n 1, 1) := by decide +kernel
theorem dX11_isLawful_2 : decode cX11_isLawful 2 = .ok (.invokevirtual 182, 3) := by decide +kernel
theorem dX11_isLawful_5 : decode cX11_isLawful 5 = .ok (.bipush (-9), 2) := by decide +kernel
theorem dX11_isLawful_7 : decode cX11_isLawful 7 = .ok (.if_icmp .ne 7, 3) := by decide +kernel
theorem dX11_isLawful_10 : decode cX11_isLawful 10 = .ok (.iconst 1, 1) := by decide +kernel
theorem dX11_isLawful_11 : decode cX11_isLawful 11 = .ok (.goto 4, 3) := by decide +kernel
theorem dX11_isLawful_14 : decode cX11_isLawful 14 = .ok (.iconst 0, 1) := by decide +kernel
theorem dX11_isLawful_15 : decode cX11_isLawful 15 = .ok (.ireturn, 1) := by decide +kernel
set_option maxRecDepth 20000 in
theorem ggX11_worthFor_X11_areNext : GoodIn wsX11_worthFor wsX11_areNext := goodIn_r _ [7, 8, 1, 9, 10, 11, 12, 13, 14, 15, 16, 17, 18, 19, 20, 21, 22, 23, 24, 25, 26, 27, 28, 29, 30, 31, 32, 33, 34, 35, 36, 37, 38, 39, 40, 41, 42, 43, 44, 45, 46, 47, 48, 49, 50] (by decide +kernel) (by decide +kernel)
set_option maxRecDepth 20000 in
theorem gX11_worthFor_X11_areNext : GoodIn wsX11_worthFor (wsV RX11 172 RX11 yX11_areNext wsX11_areNext) := goodIn_app (goodIn_of _ (by decide +kernel)) ggX11_worthFor_X11_areNext
theorem dX11_worthFor_0 : decode cX11_worthFor 0 = .ok (.iconst 0, 1) := by decide +kernel
theorem dX11_worthFor_1 : decode cX11_worthFor 1 = .ok (.istore_n 3, 1) := by decide +kernel
theorem dX11_worthFor_2 : decode cX11_worthFor 2 = .ok (.iconst 0, 1) := by decide +kernel
theorem dX11_worthFor_3 : decode cX11_worthFor 3 = .ok (.istore 4, 2) := by decide +kernel
theorem dX11_worthFor_5 : decode cX11_worthFor 5 = .ok (.iload 4, 2) := by decide +kernel
theorem dX11_worthFor_7 : decode cX11_worthFor 7 = .ok (.aload_n 0, 1) := by decide +kernel
theorem dX11_worthFor_8 : decode cX11_worthFor 8 = .ok (.getfield 89, 3) := by decide +kernel
theorem dX11_worthFor_11 : decode cX11_worthFor 11 = .ok (.if_icmp .ge 48, 3) := by decide +kernel
theorem dX11_worthFor_14 : decode cX11_worthFor 14 = .ok (.iload_n 3, 1) := by decide +kernel
theorem dX11_worthFor_15 : decode cX11_worthFor 15 = .ok (.iload 4, 2) := by decide +kernel
theorem dX11_worthFor_17 : decode cX11_worthFor 17 = .ok (.iload_n 2, 1) := by decide +kernel
theorem dX11_worthFor_18 : decode cX11_worthFor 18 = .ok (.if_icmp .eq 32, 3) := by decide +kernel
theorem dX11_worthFor_21 : decode cX11_worthFor 21 = .ok (.aload_n 0, 1) := by decide +kernel
theorem dX11_worthFor_22 : decode cX11_worthFor 22 = .ok (.iload_n 2, 1) := by decide +kernel
theorem dX11_worthFor_23 : decode cX11_worthFor 23 = .ok (.iload 4, 2) := by decide +kernel
theorem dX11_worthFor_25 : decode cX11_worthFor 25 = .ok (.invokevirtual 172, 3) := by decide +kernel
theorem dX11_worthFor_28 : decode cX11_worthFor 28 = .ok (.ifCond .eq 22, 3) := by decide +kernel
theorem dX11_worthFor_31 : decode cX11_worthFor 31 = .ok (.aload_n 0, 1) := by decide +kernel
theorem dX11_worthFor_32 : decode cX11_worthFor 32 = .ok (.getfield 38, 3) := by decide +kernel
theorem dX11_worthFor_35 : decode cX11_worthFor 35 = .ok (.bipush 7, 2) := by decide +kernel
theorem dX11_worthFor_37 : decode cX11_worthFor 37 = .ok (.aload_n 1, 1) := by decide +kernel
theorem dX11_worthFor_38 : decode cX11_worthFor 38 = .ok (.iload_n 2, 1) := by decide +kernel
theorem dX11_worthFor_39 : decode cX11_worthFor 39 = .ok (.iaload, 1) := by decide +kernel
theorem dX11_worthFor_40 : decode cX11_worthFor 40 = .ok (.imul, 1) := by decide +kernel
theorem dX11_worthFor_41 : decode cX11_worthFor 41 = .ok (.aload_n 1, 1) := by decide +kernel
theorem dX11_worthFor_42 : decode cX11_worthFor 42 = .ok (.iload 4, 2) := by decide +kernel
theorem dX11_worthFor_44 : decode cX11_worthFor 44 = .ok (.iaload, 1) := by decide +kernel
theorem dX11_worthFor_45 : decode cX11_worthFor 45 = .ok (.iadd, 1) := by decide +kernel
theorem dX11_worthFor_46 : decode cX11_worthFor 46 = .ok (.iaload, 1) := by decide +kernel
theorem dX11_worthFor_47 : decode cX11_worthFor 47 = .ok (.goto 4, 3) := by decide +kernel
theorem dX11_worthFor_50 : decode cX11_worthFor 50 = .ok (.iconst 0, 1) := by decide +kernel
theorem dX11_worthFor_51 : decode cX11_worthFor 51 = .ok (.iadd, 1) := by decide +kernel
theorem dX11_worthFor_52 : decode cX11_worthFor 52 = .ok (.istore_n 3, 1) := by decide +kernel
theorem dX11_worthFor_53 : decode cX11_worthFor 53 = .ok (.iinc 4 1, 3) := by decide +kernel
theorem dX11_worthFor_56 : decode cX11_worthFor 56 = .ok (.goto (-51), 3) := by decide +kernel
theorem dX11_worthFor_59 : decode cX11_worthFor 59 = .ok (.iload_n 3, 1) := by decide +kernel
theorem dX11_worthFor_60 : decode cX11_worthFor 60 = .ok (.ireturn, 1) := by decide +kernel
set_option maxRecDepth 20000 in
theorem ggX11_worthIn_X11_worthFor : GoodIn wsX11_worthIn wsX11_worthFor := goodIn_r _ [6, 1, 7, 8, 9, 10, 5, 11, 12, 13, 14, 15, 16, 17, 18, 19, 20, 21, 22, 23, 24, 25, 26, 27, 28, 29, 30, 31, 32, 33, 34, 35, 36, 37, 38, 39, 40, 41, 42, 43, 44, 45, 46, 47, 48, 49, 50, 51, 52, 53, 54] (by decide +kernel) (by decide +kernel)
set_option maxRecDepth 20000 in
theorem gX11_worthIn_X11_worthFor : GoodIn wsX11_worthIn (wsV RX11 186 RX11 yX11_worthFor wsX11_worthFor) := goodIn_app (goodIn_of _ (by decide +kernel)) ggX11_worthIn_X11_worthFor
theorem dX11_worthIn_0 : decode cX11_worthIn 0 = .ok (.iconst 0, 1) := by decide +kernel
theorem dX11_worthIn_1 : decode cX11_worthIn 1 = .ok (.istore_n 2, 1) := by decide +kernel
theorem dX11_worthIn_2 : decode cX11_worthIn 2 = .ok (.iconst 0, 1) := by decide +kernel
theorem dX11_worthIn_3 : decode cX11_worthIn 3 = .ok (.istore_n 3, 1) := by decide +kernel
theorem dX11_worthIn_4 : decode cX11_worthIn 4 = .ok (.iload_n 3, 1) := by decide +kernel
theorem dX11_worthIn_5 : decode cX11_worthIn 5 = .ok (.aload_n 0, 1) := by decide +kernel
theorem dX11_worthIn_6 : decode cX11_worthIn 6 = .ok (.getfield 89, 3) := by decide +kernel
theorem dX11_worthIn_9 : decode cX11_worthIn 9 = .ok (.if_icmp .ge 18, 3) := by decide +kernel
theorem dX11_worthIn_12 : decode cX11_worthIn 12 = .ok (.iload_n 2, 1) := by decide +kernel
theorem dX11_worthIn_13 : decode cX11_worthIn 13 = .ok (.aload_n 0, 1) := by decide +kernel
theorem dX11_worthIn_14 : decode cX11_worthIn 14 = .ok (.aload_n 1, 1) := by decide +kernel
theorem dX11_worthIn_15 : decode cX11_worthIn 15 = .ok (.iload_n 3, 1) := by decide +kernel
theorem dX11_worthIn_16 : decode cX11_worthIn 16 = .ok (.invokevirtual 186, 3) := by decide +kernel
theorem dX11_worthIn_19 : decode cX11_worthIn 19 = .ok (.iadd, 1) := by decide +kernel
theorem dX11_worthIn_20 : decode cX11_worthIn 20 = .ok (.istore_n 2, 1) := by decide +kernel
theorem dX11_worthIn_21 : decode cX11_worthIn 21 = .ok (.iinc 3 1, 3) := by decide +kernel
theorem dX11_worthIn_24 : decode cX11_worthIn 24 = .ok (.goto (-20), 3) := by decide +kernel
theorem dX11_worthIn_27 : decode cX11_worthIn 27 = .ok (.iload_n 2, 1) := by decide +kernel
theorem dX11_worthIn_28 : decode cX11_worthIn 28 = .ok (.ireturn, 1) := by decide +kernel
theorem dX11_chairOf_0 : decode cX11_chairOf 0 = .ok (.iconst 0, 1) := by decide +kernel
theorem dX11_chairOf_1 : decode cX11_chairOf 1 = .ok (.istore_n 2, 1) := by decide +kernel
theorem dX11_chairOf_2 : decode cX11_chairOf 2 = .ok (.iconst 0, 1) := by decide +kernel
theorem dX11_chairOf_3 : decode cX11_chairOf 3 = .ok (.istore_n 3, 1) := by decide +kernel
theorem dX11_chairOf_4 : decode cX11_chairOf 4 = .ok (.iload_n 3, 1) := by decide +kernel
theorem dX11_chairOf_5 : decode cX11_chairOf 5 = .ok (.aload_n 0, 1) := by decide +kernel
theorem dX11_chairOf_6 : decode cX11_chairOf 6 = .ok (.getfield 89, 3) := by decide +kernel
theorem dX11_chairOf_9 : decode cX11_chairOf 9 = .ok (.if_icmp .ge 25, 3) := by decide +kernel
theorem dX11_chairOf_12 : decode cX11_chairOf 12 = .ok (.aload_n 0, 1) := by decide +kernel
theorem dX11_chairOf_13 : decode cX11_chairOf 13 = .ok (.getfield 41, 3) := by decide +kernel
theorem dX11_chairOf_16 : decode cX11_chairOf 16 = .ok (.iload_n 3, 1) := by decide +kernel
theorem dX11_chairOf_17 : decode cX11_chairOf 17 = .ok (.iaload, 1) := by decide +kernel
theorem dX11_chairOf_18 : decode cX11_chairOf 18 = .ok (.iload_n 1, 1) := by decide +kernel
theorem dX11_chairOf_19 : decode cX11_chairOf 19 = .ok (.if_icmp .ne 7, 3) := by decide +kernel
theorem dX11_chairOf_22 : decode cX11_chairOf 22 = .ok (.iload_n 3, 1) := by decide +kernel
theorem dX11_chairOf_23 : decode cX11_chairOf 23 = .ok (.goto 4, 3) := by decide +kernel
theorem dX11_chairOf_26 : decode cX11_chairOf 26 = .ok (.iload_n 2, 1) := by decide +kernel
theorem dX11_chairOf_27 : decode cX11_chairOf 27 = .ok (.istore_n 2, 1) := by decide +kernel
theorem dX11_chairOf_28 : decode cX11_chairOf 28 = .ok (.iinc 3 1, 3) := by decide +kernel
theorem dX11_chairOf_31 : decode cX11_chairOf 31 = .ok (.goto (-27), 3) := by decide +kernel
theorem dX11_chairOf_34 : decode cX11_chairOf 34 = .ok (.iload_n 2, 1) := by decide +kernel
theorem dX11_chairOf_35 : decode cX11_chairOf 35 = .ok (.ireturn, 1) := by decide +kernel
set_option maxRecDepth 20000 in
theorem ggX11_person_X11_isPerson : GoodIn wsX11_person wsX11_isPerson := goodIn_r _ [10, 11, 12, 13, 9, 14, 29, 30, 31, 32, 33, 34, 35, 36, 37, 38, 39, 40, 41, 42, 43, 44, 45, 46, 47, 48, 49, 50, 51, 52, 53, 54, 55, 56, 57, 58, 59, 60, 61, 62, 63, 64, 65, 66, 67, 68, 69, 70] (by decide +kernel) (by decide +kernel)
set_option maxRecDepth 20000 in
theorem gX11_person_X11_isPerson : GoodIn wsX11_person (wsV RX11 190 RX11 yX11_isPerson wsX11_isPerson) := goodIn_app (goodIn_of _ (by decide +kernel)) ggX11_person_X11_isPerson
set_option maxRecDepth 20000 in
theorem ggX11_person_X11_chairOf : GoodIn wsX11_person wsX11_chairOf := goodIn_r _ [18, 11, 5, 29, 30, 31, 32, 33, 34, 35, 36, 37, 38, 39, 40, 41, 42, 43, 44, 45, 46, 47, 48, 49, 50, 51, 52, 53, 54, 55, 56, 57, 58, 59, 60, 61, 62, 63, 64, 65, 66, 67, 68, 69, 70] (by decide +kernel) (by decide +kernel)
set_option maxRecDepth 20000 in
theorem gX11_person_X11_chairOf : GoodIn wsX11_person (wsV RX11 194 RX11 yX11_chairOf wsX11_chairOf) := goodIn_app (goodIn_of _ (by decide +kernel)) ggX11_person_X11_chairOf
set_option maxRecDepth 20000 in
theorem ggX11_person_X11_worthFor : GoodIn wsX11_person wsX11_worthFor := goodIn_r _ [22, 11, 23, 24, 25, 26, 9, 27, 28, 29, 30, 31, 32, 33, 34, 35, 36, 37, 38, 39, 40, 41, 42, 43, 44, 45, 46, 47, 48, 49, 50, 51, 52, 53, 54, 55, 56, 57, 58, 59, 60, 61, 62, 63, 64, 65, 66, 67, 68, 69, 70] (by decide +kernel) (by decide +kernel)
set_option maxRecDepth 20000 in
theorem gX11_person_X11_worthFor : GoodIn wsX11_person (wsV RX11 186 RX11 yX11_worthFor wsX11_worthFor) := goodIn_app (goodIn_of _ (by decide +kernel)) ggX11_person_X11_worthFor
theorem dX11_person_0 : decode cX11_person 0 = .ok (.aload_n 0, 1) := by decide +kernel
theorem dX11_person_1 : decode cX11_person 1 = .ok (.iload_n 1, 1) := by decide +kernel
theorem dX11_person_2 : decode cX11_person 2 = .ok (.invokevirtual 190, 3) := by decide +kernel
theorem dX11_person_5 : decode cX11_person 5 = .ok (.ifCond .ne 5, 3) := by decide +kernel
theorem dX11_person_8 : decode cX11_person 8 = .ok (.iconst (-1), 1) := by decide +kernel
theorem dX11_person_9 : decode cX11_person 9 = .ok (.ireturn, 1) := by decide +kernel
theorem dX11_person_10 : decode cX11_person 10 = .ok (.iload_n 2, 1) := by decide +kernel
theorem dX11_person_11 : decode cX11_person 11 = .ok (.tableswitch 93 0 5 #[37, 43, 58, 65, 72, 79], 37) := by decide +kernel
theorem dX11_person_48 : decode cX11_person 48 = .ok (.aload_n 0, 1) := by decide +kernel
theorem dX11_person_49 : decode cX11_person 49 = .ok (.iload_n 1, 1) := by decide +kernel
theorem dX11_person_50 : decode cX11_person 50 = .ok (.invokevirtual 194, 3) := by decide +kernel
theorem dX11_person_53 : decode cX11_person 53 = .ok (.ireturn, 1) := by decide +kernel
theorem dX11_person_54 : decode cX11_person 54 = .ok (.aload_n 0, 1) := by decide +kernel
theorem dX11_person_55 : decode cX11_person 55 = .ok (.getfield 26, 3) := by decide +kernel
theorem dX11_person_58 : decode cX11_person 58 = .ok (.iload_n 1, 1) := by decide +kernel
theorem dX11_person_59 : decode cX11_person 59 = .ok (.baload, 1) := by decide +kernel
theorem dX11_person_60 : decode cX11_person 60 = .ok (.ifCond .eq 7, 3) := by decide +kernel
theorem dX11_person_63 : decode cX11_person 63 = .ok (.iconst 1, 1) := by decide +kernel
theorem dX11_person_64 : decode cX11_person 64 = .ok (.goto 4, 3) := by decide +kernel
theorem dX11_person_67 : decode cX11_person 67 = .ok (.iconst 0, 1) := by decide +kernel
theorem dX11_person_68 : decode cX11_person 68 = .ok (.ireturn, 1) := by decide +kernel
theorem dX11_person_69 : decode cX11_person 69 = .ok (.aload_n 0, 1) := by decide +kernel
theorem dX11_person_70 : decode cX11_person 70 = .ok (.getfield 29, 3) := by decide +kernel
theorem dX11_person_73 : decode cX11_person 73 = .ok (.iload_n 1, 1) := by decide +kernel
theorem dX11_person_74 : decode cX11_person 74 = .ok (.iaload, 1) := by decide +kernel
theorem dX11_person_75 : decode cX11_person 75 = .ok (.ireturn, 1) := by decide +kernel
theorem dX11_person_76 : decode cX11_person 76 = .ok (.aload_n 0, 1) := by decide +kernel
theorem dX11_person_77 : decode cX11_person 77 = .ok (.getfield 32, 3) := by decide +kernel
theorem dX11_person_80 : decode cX11_person 80 = .ok (.iload_n 1, 1) := by decide +kernel
theorem dX11_person_81 : decode cX11_person 81 = .ok (.iaload, 1) := by decide +kernel
theorem dX11_person_82 : decode cX11_person 82 = .ok (.ireturn, 1) := by decide +kernel
theorem dX11_person_83 : decode cX11_person 83 = .ok (.aload_n 0, 1) := by decide +kernel
theorem dX11_person_84 : decode cX11_person 84 = .ok (.getfield 35, 3) := by decide +kernel
theorem dX11_person_87 : decode cX11_person 87 = .ok (.iload_n 1, 1) := by decide +kernel
theorem dX11_person_88 : decode cX11_person 88 = .ok (.iaload, 1) := by decide +kernel
theorem dX11_person_89 : decode cX11_person 89 = .ok (.ireturn, 1) := by decide +kernel
theorem dX11_person_90 : decode cX11_person 90 = .ok (.aload_n 0, 1) := by decide +kernel
theorem dX11_person_91 : decode cX11_person 91 = .ok (.aload_n 0, 1) := by decide +kernel
theorem dX11_person_92 : decode cX11_person 92 = .ok (.getfield 41, 3) := by decide +kernel
theorem dX11_person_95 : decode cX11_person 95 = .ok (.aload_n 0, 1) := by decide +kernel
theorem dX11_person_96 : decode cX11_person 96 = .ok (.iload_n 1, 1) := by decide +kernel
theorem dX11_person_97 : decode cX11_person 97 = .ok (.invokevirtual 194, 3) := by decide +kernel
theorem dX11_person_100 : decode cX11_person 100 = .ok (.invokevirtual 186, 3) := by decide +kernel
theorem dX11_person_103 : decode cX11_person 103 = .ok (.ireturn, 1) := by decide +kernel
theorem dX11_person_104 : decode cX11_person 104 = .ok (.bipush (-2), 2) := by decide +kernel
theorem dX11_person_106 : decode cX11_person 106 = .ok (.ireturn, 1) := by decide +kernel
set_option maxRecDepth 20000 in
theorem ggX11_chair_X11_isPerson : GoodIn wsX11_chair wsX11_isPerson := goodIn_r _ [6, 7, 8, 9, 5, 10, 11, 12, 13, 14, 15, 16, 17, 18, 19, 20, 21, 22, 23, 24, 25, 26, 27, 28, 29, 30, 31, 32, 33, 34, 35, 36, 37, 38, 39, 40, 41, 42, 43, 44, 45, 46, 47, 48, 49, 50, 51, 52] (by decide +kernel) (by decide +kernel)
set_option maxRecDepth 20000 in
theorem gX11_chair_X11_isPerson : GoodIn wsX11_chair (wsV RX11 190 RX11 yX11_isPerson wsX11_isPerson) := goodIn_app (goodIn_of _ (by decide +kernel)) ggX11_chair_X11_isPerson
theorem dX11_chair_0 : decode cX11_chair 0 = .ok (.aload_n 0, 1) := by decide +kernel
theorem dX11_chair_1 : decode cX11_chair 1 = .ok (.iload_n 1, 1) := by decide +kernel
theorem dX11_chair_2 : decode cX11_chair 2 = .ok (.invokevirtual 190, 3) := by decide +kernel
theorem dX11_chair_5 : decode cX11_chair 5 = .ok (.ifCond .eq 12, 3) := by decide +kernel
theorem dX11_chair_8 : decode cX11_chair 8 = .ok (.aload_n 0, 1) := by decide +kernel
theorem dX11_chair_9 : decode cX11_chair 9 = .ok (.getfield 41, 3) := by decide +kernel
theorem dX11_chair_12 : decode cX11_chair 12 = .ok (.iload_n 1, 1) := by decide +kernel
theorem dX11_chair_13 : decode cX11_chair 13 = .ok (.iaload, 1) := by decide +kernel
theorem dX11_chair_14 : decode cX11_chair 14 = .ok (.goto 4, 3) := by decide +kernel
theorem dX11_chair_17 : decode cX11_chair 17 = .ok (.iconst (-1), 1) := by decide +kernel
theorem dX11_chair_18 : decode cX11_chair 18 = .ok (.ireturn, 1) := by decide +kernel
set_option maxRecDepth 20000 in
theorem ggX11_worth_X11_isPerson : GoodIn wsX11_worth wsX11_isPerson := goodIn_r _ [6, 7, 8, 9, 5, 10, 11, 12, 13, 14, 15, 16, 17, 18, 19, 20, 21, 22, 23, 24, 25, 26, 27, 28, 29, 30, 31, 32, 33, 34, 35, 36, 37, 38, 39, 40, 41, 42, 43, 44, 45, 46, 47, 48, 49, 50, 51, 52] (by decide +kernel) (by decide +kernel)
set_option maxRecDepth 20000 in
theorem gX11_worth_X11_isPerson : GoodIn wsX11_worth (wsV RX11 190 RX11 yX11_isPerson wsX11_isPerson) := goodIn_app (goodIn_of _ (by decide +kernel)) ggX11_worth_X11_isPerson
theorem dX11_worth_0 : decode cX11_worth 0 = .ok (.aload_n 0, 1) := by decide +kernel
theorem dX11_worth_1 : decode cX11_worth 1 = .ok (.iload_n 1, 1) := by decide +kernel
theorem dX11_worth_2 : decode cX11_worth 2 = .ok (.invokevirtual 190, 3) := by decide +kernel
theorem dX11_worth_5 : decode cX11_worth 5 = .ok (.ifCond .eq 25, 3) := by decide +kernel
theorem dX11_worth_8 : decode cX11_worth 8 = .ok (.aload_n 0, 1) := by decide +kernel
theorem dX11_worth_9 : decode cX11_worth 9 = .ok (.iload_n 2, 1) := by decide +kernel
theorem dX11_worth_10 : decode cX11_worth 10 = .ok (.invokevirtual 190, 3) := by decide +kernel
theorem dX11_worth_13 : decode cX11_worth 13 = .ok (.ifCond .eq 17, 3) := by decide +kernel
theorem dX11_worth_16 : decode cX11_worth 16 = .ok (.aload_n 0, 1) := by decide +kernel
theorem dX11_worth_17 : decode cX11_worth 17 = .ok (.getfield 38, 3) := by decide +kernel
theorem dX11_worth_20 : decode cX11_worth 20 = .ok (.bipush 7, 2) := by decide +kernel
theorem dX11_worth_22 : decode cX11_worth 22 = .ok (.iload_n 1, 1) := by decide +kernel
theorem dX11_worth_23 : decode cX11_worth 23 = .ok (.imul, 1) := by decide +kernel
theorem dX11_worth_24 : decode cX11_worth 24 = .ok (.iload_n 2, 1) := by decide +kernel
theorem dX11_worth_25 : decode cX11_worth 25 = .ok (.iadd, 1) := by decide +kernel
theorem dX11_worth_26 : decode cX11_worth 26 = .ok (.iaload, 1) := by decide +kernel
theorem dX11_worth_27 : decode cX11_worth 27 = .ok (.goto 4, 3) := by decide +kernel
theorem dX11_worth_30 : decode cX11_worth 30 = .ok (.iconst (-1), 1) := by decide +kernel
theorem dX11_worth_31 : decode cX11_worth 31 = .ok (.ireturn, 1) := by decide +kernel
set_option maxRecDepth 20000 in
theorem ggX11_dined_X11_isPerson : GoodIn wsX11_dined wsX11_isPerson := goodIn_r _ [6, 7, 8, 9, 5, 10, 11, 12, 13, 14, 15, 16, 17, 18, 19, 20, 21, 22, 23, 24, 25, 26, 27, 28, 29, 30, 31, 32, 33, 34, 35, 36, 37, 38, 39, 40, 41, 42, 43, 44, 45, 46, 47, 48, 49, 50, 51, 52] (by decide +kernel) (by decide +kernel)
set_option maxRecDepth 20000 in
theorem gX11_dined_X11_isPerson : GoodIn wsX11_dined (wsV RX11 190 RX11 yX11_isPerson wsX11_isPerson) := goodIn_app (goodIn_of _ (by decide +kernel)) ggX11_dined_X11_isPerson
theorem dX11_dined_0 : decode cX11_dined 0 = .ok (.aload_n 0, 1) := by decide +kernel
theorem dX11_dined_1 : decode cX11_dined 1 = .ok (.iload_n 1, 1) := by decide +kernel
theorem dX11_dined_2 : decode cX11_dined 2 = .ok (.invokevirtual 190, 3) := by decide +kernel
theorem dX11_dined_5 : decode cX11_dined 5 = .ok (.ifCond .eq 25, 3) := by decide +kernel
theorem dX11_dined_8 : decode cX11_dined 8 = .ok (.aload_n 0, 1) := by decide +kernel
theorem dX11_dined_9 : decode cX11_dined 9 = .ok (.iload_n 2, 1) := by decide +kernel
theorem dX11_dined_10 : decode cX11_dined 10 = .ok (.invokevirtual 190, 3) := by decide +kernel
theorem dX11_dined_13 : decode cX11_dined 13 = .ok (.ifCond .eq 17, 3) := by decide +kernel
theorem dX11_dined_16 : decode cX11_dined 16 = .ok (.aload_n 0, 1) := by decide +kernel
theorem dX11_dined_17 : decode cX11_dined 17 = .ok (.getfield 44, 3) := by decide +kernel
theorem dX11_dined_20 : decode cX11_dined 20 = .ok (.bipush 7, 2) := by decide +kernel
theorem dX11_dined_22 : decode cX11_dined 22 = .ok (.iload_n 1, 1) := by decide +kernel
theorem dX11_dined_23 : decode cX11_dined 23 = .ok (.imul, 1) := by decide +kernel
theorem dX11_dined_24 : decode cX11_dined 24 = .ok (.iload_n 2, 1) := by decide +kernel
theorem dX11_dined_25 : decode cX11_dined 25 = .ok (.iadd, 1) := by decide +kernel
theorem dX11_dined_26 : decode cX11_dined 26 = .ok (.iaload, 1) := by decide +kernel
theorem dX11_dined_27 : decode cX11_dined 27 = .ok (.goto 4, 3) := by decide +kernel
theorem dX11_dined_30 : decode cX11_dined 30 = .ok (.iconst (-1), 1) := by decide +kernel
theorem dX11_dined_31 : decode cX11_dined 31 = .ok (.ireturn, 1) := by decide +kernel
theorem dX11_begin_0 : decode cX11_begin 0 = .ok (.iconst 0, 1) := by decide +kernel
theorem dX11_begin_1 : decode cX11_begin 1 = .ok (.istore_n 1, 1) := by decide +kernel
theorem dX11_begin_2 : decode cX11_begin 2 = .ok (.iload_n 1, 1) := by decide +kernel
theorem dX11_begin_3 : decode cX11_begin 3 = .ok (.bipush 7, 2) := by decide +kernel
theorem dX11_begin_5 : decode cX11_begin 5 = .ok (.if_icmp .ge 16, 3) := by decide +kernel
theorem dX11_begin_8 : decode cX11_begin 8 = .ok (.aload_n 0, 1) := by decide +kernel
theorem dX11_begin_9 : decode cX11_begin 9 = .ok (.getfield 50, 3) := by decide +kernel
theorem dX11_begin_12 : decode cX11_begin 12 = .ok (.iload_n 1, 1) := by decide +kernel
theorem dX11_begin_13 : decode cX11_begin 13 = .ok (.iload_n 1, 1) := by decide +kernel
theorem dX11_begin_14 : decode cX11_begin 14 = .ok (.iastore, 1) := by decide +kernel
theorem dX11_begin_15 : decode cX11_begin 15 = .ok (.iinc 1 1, 3) := by decide +kernel
theorem dX11_begin_18 : decode cX11_begin 18 = .ok (.goto (-16), 3) := by decide +kernel
theorem dX11_begin_21 : decode cX11_begin 21 = .ok (.return_, 1) := by decide +kernel
theorem dX11_goOn_0 : decode cX11_goOn 0 = .ok (.aload_n 0, 1) := by decide +kernel
theorem dX11_goOn_1 : decode cX11_goOn 1 = .ok (.getfield 89, 3) := by decide +kernel
theorem dX11_goOn_4 : decode cX11_goOn 4 = .ok (.iconst 2, 1) := by decide +kernel
theorem dX11_goOn_5 : decode cX11_goOn 5 = .ok (.isub, 1) := by decide +kernel
theorem dX11_goOn_6 : decode cX11_goOn 6 = .ok (.istore_n 1, 1) := by decide +kernel
theorem dX11_goOn_7 : decode cX11_goOn 7 = .ok (.iload_n 1, 1) := by decide +kernel
theorem dX11_goOn_8 : decode cX11_goOn 8 = .ok (.ifCond .lt 26, 3) := by decide +kernel
theorem dX11_goOn_11 : decode cX11_goOn 11 = .ok (.aload_n 0, 1) := by decide +kernel
theorem dX11_goOn_12 : decode cX11_goOn 12 = .ok (.getfield 50, 3) := by decide +kernel
theorem dX11_goOn_15 : decode cX11_goOn 15 = .ok (.iload_n 1, 1) := by decide +kernel
theorem dX11_goOn_16 : decode cX11_goOn 16 = .ok (.iaload, 1) := by decide +kernel
theorem dX11_goOn_17 : decode cX11_goOn 17 = .ok (.aload_n 0, 1) := by decide +kernel
theorem dX11_goOn_18 : decode cX11_goOn 18 = .ok (.getfield 50, 3) := by decide +kernel
theorem dX11_goOn_21 : decode cX11_goOn 21 = .ok (.iload_n 1, 1) := by decide +kernel
theorem dX11_goOn_22 : decode cX11_goOn 22 = .ok (.iconst 1, 1) := by decide +kernel
theorem dX11_goOn_23 : decode cX11_goOn 23 = .ok (.iadd, 1) := by decide +kernel
theorem dX11_goOn_24 : decode cX11_goOn 24 = .ok (.iaload, 1) := by decide +kernel
theorem dX11_goOn_25 : decode cX11_goOn 25 = .ok (.if_icmp .le 9, 3) := by decide +kernel
theorem dX11_goOn_28 : decode cX11_goOn 28 = .ok (.iinc 1 (-1), 3) := by decide +kernel
theorem dX11_goOn_31 : decode cX11_goOn 31 = .ok (.goto (-24), 3) := by decide +kernel
theorem dX11_goOn_34 : decode cX11_goOn 34 = .ok (.iload_n 1, 1) := by decide +kernel
theorem dX11_goOn_35 : decode cX11_goOn 35 = .ok (.ifCond .ge 5, 3) := by decide +kernel
theorem dX11_goOn_38 : decode cX11_goOn 38 = .ok (.iconst 0, 1) := by decide +kernel
theorem dX11_goOn_39 : decode cX11_goOn 39 = .ok (.ireturn, 1) := by decide +kernel
theorem dX11_goOn_40 : decode cX11_goOn 40 = .ok (.aload_n 0, 1) := by decide +kernel
theorem dX11_goOn_41 : decode cX11_goOn 41 = .ok (.getfield 89, 3) := by decide +kernel
theorem dX11_goOn_44 : decode cX11_goOn 44 = .ok (.iconst 1, 1) := by decide +kernel
theorem dX11_goOn_45 : decode cX11_goOn 45 = .ok (.isub, 1) := by decide +kernel
theorem dX11_goOn_46 : decode cX11_goOn 46 = .ok (.istore_n 2, 1) := by decide +kernel
theorem dX11_goOn_47 : decode cX11_goOn 47 = .ok (.aload_n 0, 1) := by decide +kernel
theorem dX11_goOn_48 : decode cX11_goOn 48 = .ok (.getfield 50, 3) := by decide +kernel
theorem dX11_goOn_51 : decode cX11_goOn 51 = .ok (.iload_n 2, 1) := by decide +kernel
theorem dX11_goOn_52 : decode cX11_goOn 52 = .ok (.iaload, 1) := by decide +kernel
theorem dX11_goOn_53 : decode cX11_goOn 53 = .ok (.aload_n 0, 1) := by decide +kernel
theorem dX11_goOn_54 : decode cX11_goOn 54 = .ok (.getfield 50, 3) := by decide +kernel
theorem dX11_goOn_57 : decode cX11_goOn 57 = .ok (.iload_n 1, 1) := by decide +kernel
theorem dX11_goOn_58 : decode cX11_goOn 58 = .ok (.iaload, 1) := by decide +kernel
theorem dX11_goOn_59 : decode cX11_goOn 59 = .ok (.if_icmp .ge 9, 3) := by decide +kernel
theorem dX11_goOn_62 : decode cX11_goOn 62 = .ok (.iinc 2 (-1), 3) := by decide +kernel
theorem dX11_goOn_65 : decode cX11_goOn 65 = .ok (.goto (-18), 3) := by decide +kernel
theorem dX11_goOn_68 : decode cX11_goOn 68 = .ok (.aload_n 0, 1) := by decide +kernel
theorem dX11_goOn_69 : decode cX11_goOn 69 = .ok (.getfield 50, 3) := by decide +kernel
theorem dX11_goOn_72 : decode cX11_goOn 72 = .ok (.iload_n 1, 1) := by decide +kernel
theorem dX11_goOn_73 : decode cX11_goOn 73 = .ok (.iaload, 1) := by decide +kernel
theorem dX11_goOn_74 : decode cX11_goOn 74 = .ok (.istore_n 3, 1) := by decide +kernel
theorem dX11_goOn_75 : decode cX11_goOn 75 = .ok (.aload_n 0, 1) := by decide +kernel
theorem dX11_goOn_76 : decode cX11_goOn 76 = .ok (.getfield 50, 3) := by decide +kernel
theorem dX11_goOn_79 : decode cX11_goOn 79 = .ok (.iload_n 1, 1) := by decide +kernel
theorem dX11_goOn_80 : decode cX11_goOn 80 = .ok (.aload_n 0, 1) := by decide +kernel
theorem dX11_goOn_81 : decode cX11_goOn 81 = .ok (.getfield 50, 3) := by decide +kernel
theorem dX11_goOn_84 : decode cX11_goOn 84 = .ok (.iload_n 2, 1) := by decide +kernel
theorem dX11_goOn_85 : decode cX11_goOn 85 = .ok (.iaload, 1) := by decide +kernel
theorem dX11_goOn_86 : decode cX11_goOn 86 = .ok (.iastore, 1) := by decide +kernel
theorem dX11_goOn_87 : decode cX11_goOn 87 = .ok (.aload_n 0, 1) := by decide +kernel
theorem dX11_goOn_88 : decode cX11_goOn 88 = .ok (.getfield 50, 3) := by decide +kernel
theorem dX11_goOn_91 : decode cX11_goOn 91 = .ok (.iload_n 2, 1) := by decide +kernel
theorem dX11_goOn_92 : decode cX11_goOn 92 = .ok (.iload_n 3, 1) := by decide +kernel
theorem dX11_goOn_93 : decode cX11_goOn 93 = .ok (.iastore, 1) := by decide +kernel
theorem dX11_goOn_94 : decode cX11_goOn 94 = .ok (.iconst 0, 1) := by decide +kernel
theorem dX11_goOn_95 : decode cX11_goOn 95 = .ok (.istore 4, 2) := by decide +kernel
theorem dX11_goOn_97 : decode cX11_goOn 97 = .ok (.iload_n 1, 1) := by decide +kernel
theorem dX11_goOn_98 : decode cX11_goOn 98 = .ok (.iconst 1, 1) := by decide +kernel
theorem dX11_goOn_99 : decode cX11_goOn 99 = .ok (.iadd, 1) := by decide +kernel
theorem dX11_goOn_100 : decode cX11_goOn 100 = .ok (.iload 4, 2) := by decide +kernel
theorem dX11_goOn_102 : decode cX11_goOn 102 = .ok (.iadd, 1) := by decide +kernel
theorem dX11_goOn_103 : decode cX11_goOn 103 = .ok (.aload_n 0, 1) := by decide +kernel
theorem dX11_goOn_104 : decode cX11_goOn 104 = .ok (.getfield 89, 3) := by decide +kernel
theorem dX11_goOn_107 : decode cX11_goOn 107 = .ok (.iconst 1, 1) := by decide +kernel
theorem dX11_goOn_108 : decode cX11_goOn 108 = .ok (.isub, 1) := by decide +kernel
theorem dX11_goOn_109 : decode cX11_goOn 109 = .ok (.iload 4, 2) := by decide +kernel
theorem dX11_goOn_111 : decode cX11_goOn 111 = .ok (.isub, 1) := by decide +kernel
theorem dX11_goOn_112 : decode cX11_goOn 112 = .ok (.if_icmp .ge 61, 3) := by decide +kernel
theorem dX11_goOn_115 : decode cX11_goOn 115 = .ok (.aload_n 0, 1) := by decide +kernel
theorem dX11_goOn_116 : decode cX11_goOn 116 = .ok (.getfield 50, 3) := by decide +kernel
theorem dX11_goOn_119 : decode cX11_goOn 119 = .ok (.iload_n 1, 1) := by decide +kernel
theorem dX11_goOn_120 : decode cX11_goOn 120 = .ok (.iconst 1, 1) := by decide +kernel
theorem dX11_goOn_121 : decode cX11_goOn 121 = .ok (.iadd, 1) := by decide +kernel
theorem dX11_goOn_122 : decode cX11_goOn 122 = .ok (.iload 4, 2) := by decide +kernel
theorem dX11_goOn_124 : decode cX11_goOn 124 = .ok (.iadd, 1) := by decide +kernel
theorem dX11_goOn_125 : decode cX11_goOn 125 = .ok (.iaload, 1) := by decide +kernel
theorem dX11_goOn_126 : decode cX11_goOn 126 = .ok (.istore_n 3, 1) := by decide +kernel
theorem dX11_goOn_127 : decode cX11_goOn 127 = .ok (.aload_n 0, 1) := by decide +kernel
theorem dX11_goOn_128 : decode cX11_goOn 128 = .ok (.getfield 50, 3) := by decide +kernel
theorem dX11_goOn_131 : decode cX11_goOn 131 = .ok (.iload_n 1, 1) := by decide +kernel
theorem dX11_goOn_132 : decode cX11_goOn 132 = .ok (.iconst 1, 1) := by decide +kernel
theorem dX11_goOn_133 : decode cX11_goOn 133 = .ok (.iadd, 1) := by decide +kernel
theorem dX11_goOn_134 : decode cX11_goOn 134 = .ok (.iload 4, 2) := by decide +kernel
theorem dX11_goOn_136 : decode cX11_goOn 136 = .ok (.iadd, 1) := by decide +kernel
theorem dX11_goOn_137 : decode cX11_goOn 137 = .ok (.aload_n 0, 1) := by decide +kernel
theorem dX11_goOn_138 : decode cX11_goOn 138 = .ok (.getfield 50, 3) := by decide +kernel
theorem dX11_goOn_141 : decode cX11_goOn 141 = .ok (.aload_n 0, 1) := by decide +kernel
theorem dX11_goOn_142 : decode cX11_goOn 142 = .ok (.getfield 89, 3) := by decide +kernel
theorem dX11_goOn_145 : decode cX11_goOn 145 = .ok (.iconst 1, 1) := by decide +kernel
theorem dX11_goOn_146 : decode cX11_goOn 146 = .ok (.isub, 1) := by decide +kernel
theorem dX11_goOn_147 : decode cX11_goOn 147 = .ok (.iload 4, 2) := by decide +kernel
theorem dX11_goOn_149 : decode cX11_goOn 149 = .ok (.isub, 1) := by decide +kernel
theorem dX11_goOn_150 : decode cX11_goOn 150 = .ok (.iaload, 1) := by decide +kernel
theorem dX11_goOn_151 : decode cX11_goOn 151 = .ok (.iastore, 1) := by decide +kernel
theorem dX11_goOn_152 : decode cX11_goOn 152 = .ok (.aload_n 0, 1) := by decide +kernel
theorem dX11_goOn_153 : decode cX11_goOn 153 = .ok (.getfield 50, 3) := by decide +kernel
theorem dX11_goOn_156 : decode cX11_goOn 156 = .ok (.aload_n 0, 1) := by decide +kernel
theorem dX11_goOn_157 : decode cX11_goOn 157 = .ok (.getfield 89, 3) := by decide +kernel
theorem dX11_goOn_160 : decode cX11_goOn 160 = .ok (.iconst 1, 1) := by decide +kernel
theorem dX11_goOn_161 : decode cX11_goOn 161 = .ok (.isub, 1) := by decide +kernel
theorem dX11_goOn_162 : decode cX11_goOn 162 = .ok (.iload 4, 2) := by decide +kernel
theorem dX11_goOn_164 : decode cX11_goOn 164 = .ok (.isub, 1) := by decide +kernel
theorem dX11_goOn_165 : decode cX11_goOn 165 = .ok (.iload_n 3, 1) := by decide +kernel
theorem dX11_goOn_166 : decode cX11_goOn 166 = .ok (.iastore, 1) := by decide +kernel
theorem dX11_goOn_167 : decode cX11_goOn 167 = .ok (.iinc 4 1, 3) := by decide +kernel
theorem dX11_goOn_170 : decode cX11_goOn 170 = .ok (.goto (-73), 3) := by decide +kernel
theorem dX11_goOn_173 : decode cX11_goOn 173 = .ok (.iconst 1, 1) := by decide +kernel
theorem dX11_goOn_174 : decode cX11_goOn 174 = .ok (.ireturn, 1) := by decide +kernel
set_option maxRecDepth 20000 in
theorem ggX11_lawful_X11_begin : GoodIn wsX11_lawful wsX11_begin := goodIn_r _ [6, 1, 39, 40, 41, 42, 43, 44, 45, 46, 47, 48, 49, 50, 51, 52, 53, 54, 55, 56, 57, 58, 59, 60, 61, 62, 63, 64, 65, 66, 67, 68, 69, 70, 71, 72, 73, 74, 75, 76, 77, 78, 79, 80] (by decide +kernel) (by decide +kernel)
set_option maxRecDepth 20000 in
theorem gX11_lawful_X11_begin : GoodIn wsX11_lawful (wsV RX11 197 RX11 yX11_begin wsX11_begin) := goodIn_app (goodIn_of _ (by decide +kernel)) ggX11_lawful_X11_begin
set_option maxRecDepth 20000 in
theorem ggX11_lawful_X11_isLawful : GoodIn wsX11_lawful wsX11_isLawful := goodIn_r _ [10, 11, 12, 13, 5, 14, 15, 16, 17, 18, 19, 20, 21, 22, 23, 24, 25, 26, 27, 28, 29, 30, 31, 32, 33, 34, 39, 40, 41, 42, 43, 44, 45, 46, 47, 48, 49, 50, 51, 52, 53, 54, 55, 56, 57, 58, 59, 60, 61, 62, 63, 64, 65, 66, 67, 68, 69, 70, 71, 72, 73, 74, 75, 76, 77, 78, 79, 80] (by decide +kernel) (by decide +kernel)
set_option maxRecDepth 20000 in
theorem gX11_lawful_X11_isLawful : GoodIn wsX11_lawful (wsV RX11 200 RX11 yX11_isLawful wsX11_isLawful) := goodIn_app (goodIn_of _ (by decide +kernel)) ggX11_lawful_X11_isLawful
set_option maxRecDepth 20000 in
theorem ggX11_lawful_X11_goOn : GoodIn wsX11_lawful wsX11_goOn := goodIn_r _ [38, 15, 1, 39, 40, 41, 42, 43, 44, 45, 46, 47, 48, 49, 50, 51, 52, 53, 54, 55, 56, 57, 58, 59, 60, 61, 62, 63, 64, 65, 66, 67, 68, 69, 70, 71, 72, 73, 74, 75, 76, 77, 78, 79, 80] (by decide +kernel) (by decide +kernel)
set_option maxRecDepth 20000 in
theorem gX11_lawful_X11_goOn : GoodIn wsX11_lawful (wsV RX11 204 RX11 yX11_goOn wsX11_goOn) := goodIn_app (goodIn_of _ (by decide +kernel)) ggX11_lawful_X11_goOn
theorem dX11_lawful_0 : decode cX11_lawful 0 = .ok (.iconst 0, 1) := by decide +kernel
theorem dX11_lawful_1 : decode cX11_lawful 1 = .ok (.istore_n 1, 1) := by decide +kernel
theorem dX11_lawful_2 : decode cX11_lawful 2 = .ok (.iconst 1, 1) := by decide +kernel
theorem dX11_lawful_3 : decode cX11_lawful 3 = .ok (.istore_n 2, 1) := by decide +kernel
theorem dX11_lawful_4 : decode cX11_lawful 4 = .ok (.aload_n 0, 1) := by decide +kernel
theorem dX11_lawful_5 : decode cX11_lawful 5 = .ok (.invokevirtual 197, 3) := by decide +kernel
theorem dX11_lawful_8 : decode cX11_lawful 8 = .ok (.iload_n 2, 1) := by decide +kernel
theorem dX11_lawful_9 : decode cX11_lawful 9 = .ok (.ifCond .eq 30, 3) := by decide +kernel
theorem dX11_lawful_12 : decode cX11_lawful 12 = .ok (.iload_n 1, 1) := by decide +kernel
theorem dX11_lawful_13 : decode cX11_lawful 13 = .ok (.aload_n 0, 1) := by decide +kernel
theorem dX11_lawful_14 : decode cX11_lawful 14 = .ok (.aload_n 0, 1) := by decide +kernel
theorem dX11_lawful_15 : decode cX11_lawful 15 = .ok (.getfield 50, 3) := by decide +kernel
theorem dX11_lawful_18 : decode cX11_lawful 18 = .ok (.invokevirtual 200, 3) := by decide +kernel
theorem dX11_lawful_21 : decode cX11_lawful 21 = .ok (.ifCond .eq 7, 3) := by decide +kernel
theorem dX11_lawful_24 : decode cX11_lawful 24 = .ok (.iconst 1, 1) := by decide +kernel
theorem dX11_lawful_25 : decode cX11_lawful 25 = .ok (.goto 4, 3) := by decide +kernel
theorem dX11_lawful_28 : decode cX11_lawful 28 = .ok (.iconst 0, 1) := by decide +kernel
theorem dX11_lawful_29 : decode cX11_lawful 29 = .ok (.iadd, 1) := by decide +kernel
theorem dX11_lawful_30 : decode cX11_lawful 30 = .ok (.istore_n 1, 1) := by decide +kernel
theorem dX11_lawful_31 : decode cX11_lawful 31 = .ok (.aload_n 0, 1) := by decide +kernel
theorem dX11_lawful_32 : decode cX11_lawful 32 = .ok (.invokevirtual 204, 3) := by decide +kernel
theorem dX11_lawful_35 : decode cX11_lawful 35 = .ok (.istore_n 2, 1) := by decide +kernel
theorem dX11_lawful_36 : decode cX11_lawful 36 = .ok (.goto (-28), 3) := by decide +kernel
theorem dX11_lawful_39 : decode cX11_lawful 39 = .ok (.iload_n 1, 1) := by decide +kernel
theorem dX11_lawful_40 : decode cX11_lawful 40 = .ok (.ireturn, 1) := by decide +kernel
set_option maxRecDepth 20000 in
theorem ggX11_many_X11_lawful : GoodIn wsX11_many wsX11_lawful := goodIn_r _ [7, 8, 9, 10, 11, 6, 12, 13, 14, 15, 16, 17, 18, 19, 20, 2, 21, 22, 23, 24, 25, 26, 27, 28, 29, 1, 30, 31, 32, 33, 34, 35, 36, 37, 38, 39, 40, 41, 42, 43, 44, 45, 46, 47, 48, 49, 50, 51, 52, 53, 54, 55, 56, 57, 58, 59, 60, 61, 62, 63, 64, 65, 66, 67, 68, 69, 70, 71, 72, 73, 74, 75, 76, 77, 78, 79, 80, 81, 82, 83, 84] (by decide +kernel) (by decide +kernel)
set_option maxRecDepth 20000 in
theorem gX11_many_X11_lawful : GoodIn wsX11_many (wsV RX11 208 RX11 yX11_lawful wsX11_lawful) := goodIn_app (goodIn_of _ (by decide +kernel)) ggX11_many_X11_lawful
theorem dX11_many_0 : decode cX11_many 0 = .ok (.aload_n 0, 1) := by decide +kernel
theorem dX11_many_1 : decode cX11_many 1 = .ok (.invokevirtual 208, 3) := by decide +kernel
theorem dX11_many_4 : decode cX11_many 4 = .ok (.istore_n 2, 1) := by decide +kernel
theorem dX11_many_5 : decode cX11_many 5 = .ok (.iload_n 1, 1) := by decide +kernel
theorem dX11_many_6 : decode cX11_many 6 = .ok (.ifCond .eq 26, 3) := by decide +kernel
theorem dX11_many_9 : decode cX11_many 9 = .ok (.aload_n 0, 1) := by decide +kernel
theorem dX11_many_10 : decode cX11_many 10 = .ok (.getfield 160, 3) := by decide +kernel
theorem dX11_many_13 : decode cX11_many 13 = .ok (.ifCond .eq 19, 3) := by decide +kernel
theorem dX11_many_16 : decode cX11_many 16 = .ok (.aload_n 0, 1) := by decide +kernel
theorem dX11_many_17 : decode cX11_many 17 = .ok (.getfield 89, 3) := by decide +kernel
theorem dX11_many_20 : decode cX11_many 20 = .ok (.ifCond .le 12, 3) := by decide +kernel
theorem dX11_many_23 : decode cX11_many 23 = .ok (.iload_n 2, 1) := by decide +kernel
theorem dX11_many_24 : decode cX11_many 24 = .ok (.aload_n 0, 1) := by decide +kernel
theorem dX11_many_25 : decode cX11_many 25 = .ok (.getfield 89, 3) := by decide +kernel
theorem dX11_many_28 : decode cX11_many 28 = .ok (.idiv, 1) := by decide +kernel
theorem dX11_many_29 : decode cX11_many 29 = .ok (.goto 4, 3) := by decide +kernel
theorem dX11_many_32 : decode cX11_many 32 = .ok (.iload_n 2, 1) := by decide +kernel
theorem dX11_many_33 : decode cX11_many 33 = .ok (.ireturn, 1) := by decide +kernel
theorem dX11_common_0 : decode cX11_common 0 = .ok (.iload_n 0, 1) := by decide +kernel
theorem dX11_common_1 : decode cX11_common 1 = .ok (.istore_n 2, 1) := by decide +kernel
theorem dX11_common_2 : decode cX11_common 2 = .ok (.iload_n 1, 1) := by decide +kernel
theorem dX11_common_3 : decode cX11_common 3 = .ok (.istore_n 3, 1) := by decide +kernel
theorem dX11_common_4 : decode cX11_common 4 = .ok (.iload_n 3, 1) := by decide +kernel
theorem dX11_common_5 : decode cX11_common 5 = .ok (.ifCond .eq 16, 3) := by decide +kernel
theorem dX11_common_8 : decode cX11_common 8 = .ok (.iload_n 2, 1) := by decide +kernel
theorem dX11_common_9 : decode cX11_common 9 = .ok (.iload_n 3, 1) := by decide +kernel
theorem dX11_common_10 : decode cX11_common 10 = .ok (.irem, 1) := by decide +kernel
theorem dX11_common_11 : decode cX11_common 11 = .ok (.istore 4, 2) := by decide +kernel
theorem dX11_common_13 : decode cX11_common 13 = .ok (.iload_n 3, 1) := by decide +kernel
theorem dX11_common_14 : decode cX11_common 14 = .ok (.istore_n 2, 1) := by decide +kernel
theorem dX11_common_15 : decode cX11_common 15 = .ok (.iload 4, 2) := by decide +kernel
theorem dX11_common_17 : decode cX11_common 17 = .ok (.istore_n 3, 1) := by decide +kernel
theorem dX11_common_18 : decode cX11_common 18 = .ok (.goto (-14), 3) := by decide +kernel
theorem dX11_common_21 : decode cX11_common 21 = .ok (.iload_n 2, 1) := by decide +kernel
theorem dX11_common_22 : decode cX11_common 22 = .ok (.ireturn, 1) := by decide +kernel
theorem dX11_factorial_0 : decode cX11_factorial 0 = .ok (.iconst 1, 1) := by decide +kernel
theorem dX11_factorial_1 : decode cX11_factorial 1 = .ok (.istore_n 1, 1) := by decide +kernel
theorem dX11_factorial_2 : decode cX11_factorial 2 = .ok (.iconst 2, 1) := by decide +kernel
theorem dX11_factorial_3 : decode cX11_factorial 3 = .ok (.istore_n 2, 1) := by decide +kernel
theorem dX11_factorial_4 : decode cX11_factorial 4 = .ok (.iload_n 2, 1) := by decide +kernel
theorem dX11_factorial_5 : decode cX11_factorial 5 = .ok (.iload_n 0, 1) := by decide +kernel
theorem dX11_factorial_6 : decode cX11_factorial 6 = .ok (.if_icmp .gt 13, 3) := by decide +kernel
theorem dX11_factorial_9 : decode cX11_factorial 9 = .ok (.iload_n 1, 1) := by decide +kernel
theorem dX11_factorial_10 : decode cX11_factorial 10 = .ok (.iload_n 2, 1) := by decide +kernel
theorem dX11_factorial_11 : decode cX11_factorial 11 = .ok (.imul, 1) := by decide +kernel
theorem dX11_factorial_12 : decode cX11_factorial 12 = .ok (.istore_n 1, 1) := by decide +kernel
theorem dX11_factorial_13 : decode cX11_factorial 13 = .ok (.iinc 2 1, 3) := by decide +kernel
theorem dX11_factorial_16 : decode cX11_factorial 16 = .ok (.goto (-12), 3) := by decide +kernel
theorem dX11_factorial_19 : decode cX11_factorial 19 = .ok (.iload_n 1, 1) := by decide +kernel
theorem dX11_factorial_20 : decode cX11_factorial 20 = .ok (.ireturn, 1) := by decide +kernel
set_option maxRecDepth 20000 in
theorem ggX11_luck_X11_lawful : GoodIn wsX11_luck wsX11_lawful := goodIn_r _ [6, 7, 8, 9, 10, 5, 11, 12, 13, 14, 15, 16, 17, 18, 19, 1, 20, 21, 22, 23, 24, 25, 26, 27, 28, 29, 30, 31, 32, 33, 34, 35, 36, 37, 38, 39, 40, 41, 42, 49, 50, 51, 52, 53, 54, 55, 56, 57, 58, 59, 60, 61, 62, 63, 64, 65, 66, 67, 68, 69, 70, 71, 72, 73, 74, 75, 76, 77, 78, 79, 80, 81, 82, 83, 84, 85, 86, 87, 88, 89, 90] (by decide +kernel) (by decide +kernel)
set_option maxRecDepth 20000 in
theorem gX11_luck_X11_lawful : GoodIn wsX11_luck (wsV RX11 208 RX11 yX11_lawful wsX11_lawful) := goodIn_app (goodIn_of _ (by decide +kernel)) ggX11_luck_X11_lawful
set_option maxRecDepth 20000 in
theorem ggX11_luck_X11_factorial : GoodIn wsX11_luck wsX11_factorial := goodIn_r _ [45] (by decide +kernel) (by decide +kernel)
set_option maxRecDepth 20000 in
theorem gX11_luck_X11_factorial : GoodIn wsX11_luck (va_wsS RX11 211 yX11_factorial wsX11_factorial) := goodIn_app (goodIn_of _ (by decide +kernel)) ggX11_luck_X11_factorial
set_option maxRecDepth 20000 in
theorem ggX11_luck_X11_common : GoodIn wsX11_luck wsX11_common := goodIn_r _ [48] (by decide +kernel) (by decide +kernel)
set_option maxRecDepth 20000 in
theorem gX11_luck_X11_common : GoodIn wsX11_luck (va_wsS RX11 214 yX11_common wsX11_common) := goodIn_app (goodIn_of _ (by decide +kernel)) ggX11_luck_X11_common
theorem dX11_luck_0 : decode cX11_luck 0 = .ok (.aload_n 0, 1) := by decide +kernel
theorem dX11_luck_1 : decode cX11_luck 1 = .ok (.invokevirtual 208, 3) := by decide +kernel
theorem dX11_luck_4 : decode cX11_luck 4 = .ok (.istore_n 2, 1) := by decide +kernel
theorem dX11_luck_5 : decode cX11_luck 5 = .ok (.aload_n 0, 1) := by decide +kernel
theorem dX11_luck_6 : decode cX11_luck 6 = .ok (.getfield 89, 3) := by decide +kernel
theorem dX11_luck_9 : decode cX11_luck 9 = .ok (.invokestatic 211, 3) := by decide +kernel
theorem dX11_luck_12 : decode cX11_luck 12 = .ok (.istore_n 3, 1) := by decide +kernel
theorem dX11_luck_13 : decode cX11_luck 13 = .ok (.iload_n 1, 1) := by decide +kernel
theorem dX11_luck_14 : decode cX11_luck 14 = .ok (.ifCond .eq 13, 3) := by decide +kernel
theorem dX11_luck_17 : decode cX11_luck 17 = .ok (.iload_n 2, 1) := by decide +kernel
theorem dX11_luck_18 : decode cX11_luck 18 = .ok (.iload_n 2, 1) := by decide +kernel
theorem dX11_luck_19 : decode cX11_luck 19 = .ok (.iload_n 3, 1) := by decide +kernel
theorem dX11_luck_20 : decode cX11_luck 20 = .ok (.invokestatic 214, 3) := by decide +kernel
theorem dX11_luck_23 : decode cX11_luck 23 = .ok (.idiv, 1) := by decide +kernel
theorem dX11_luck_24 : decode cX11_luck 24 = .ok (.goto 10, 3) := by decide +kernel
theorem dX11_luck_27 : decode cX11_luck 27 = .ok (.iload_n 3, 1) := by decide +kernel
theorem dX11_luck_28 : decode cX11_luck 28 = .ok (.iload_n 2, 1) := by decide +kernel
theorem dX11_luck_29 : decode cX11_luck 29 = .ok (.iload_n 3, 1) := by decide +kernel
theorem dX11_luck_30 : decode cX11_luck 30 = .ok (.invokestatic 214, 3) := by decide +kernel
theorem dX11_luck_33 : decode cX11_luck 33 = .ok (.idiv, 1) := by decide +kernel
theorem dX11_luck_34 : decode cX11_luck 34 = .ok (.ireturn, 1) := by decide +kernel
theorem dX11_isSeat_0 : decode cX11_isSeat 0 = .ok (.iconst 1, 1) := by decide +kernel
theorem dX11_isSeat_1 : decode cX11_isSeat 1 = .ok (.istore_n 1, 1) := by decide +kernel
theorem dX11_isSeat_2 : decode cX11_isSeat 2 = .ok (.iconst 0, 1) := by decide +kernel
theorem dX11_isSeat_3 : decode cX11_isSeat 3 = .ok (.istore_n 2, 1) := by decide +kernel
theorem dX11_isSeat_4 : decode cX11_isSeat 4 = .ok (.iload_n 2, 1) := by decide +kernel
theorem dX11_isSeat_5 : decode cX11_isSeat 5 = .ok (.aload_n 0, 1) := by decide +kernel
theorem dX11_isSeat_6 : decode cX11_isSeat 6 = .ok (.getfield 89, 3) := by decide +kernel
theorem dX11_isSeat_9 : decode cX11_isSeat 9 = .ok (.if_icmp .ge 34, 3) := by decide +kernel
theorem dX11_isSeat_12 : decode cX11_isSeat 12 = .ok (.iload_n 1, 1) := by decide +kernel
theorem dX11_isSeat_13 : decode cX11_isSeat 13 = .ok (.ifCond .eq 22, 3) := by decide +kernel
theorem dX11_isSeat_16 : decode cX11_isSeat 16 = .ok (.aload_n 0, 1) := by decide +kernel
theorem dX11_isSeat_17 : decode cX11_isSeat 17 = .ok (.getfield 50, 3) := by decide +kernel
theorem dX11_isSeat_20 : decode cX11_isSeat 20 = .ok (.iload_n 2, 1) := by decide +kernel
theorem dX11_isSeat_21 : decode cX11_isSeat 21 = .ok (.iaload, 1) := by decide +kernel
theorem dX11_isSeat_22 : decode cX11_isSeat 22 = .ok (.aload_n 0, 1) := by decide +kernel
theorem dX11_isSeat_23 : decode cX11_isSeat 23 = .ok (.getfield 41, 3) := by decide +kernel
theorem dX11_isSeat_26 : decode cX11_isSeat 26 = .ok (.iload_n 2, 1) := by decide +kernel
theorem dX11_isSeat_27 : decode cX11_isSeat 27 = .ok (.iaload, 1) := by decide +kernel
theorem dX11_isSeat_28 : decode cX11_isSeat 28 = .ok (.if_icmp .ne 7, 3) := by decide +kernel
theorem dX11_isSeat_31 : decode cX11_isSeat 31 = .ok (.iconst 1, 1) := by decide +kernel
theorem dX11_isSeat_32 : decode cX11_isSeat 32 = .ok (.goto 4, 3) := by decide +kernel
theorem dX11_isSeat_35 : decode cX11_isSeat 35 = .ok (.iconst 0, 1) := by decide +kernel
theorem dX11_isSeat_36 : decode cX11_isSeat 36 = .ok (.istore_n 1, 1) := by decide +kernel
theorem dX11_isSeat_37 : decode cX11_isSeat 37 = .ok (.iinc 2 1, 3) := by decide +kernel
theorem dX11_isSeat_40 : decode cX11_isSeat 40 = .ok (.goto (-36), 3) := by decide +kernel
theorem dX11_isSeat_43 : decode cX11_isSeat 43 = .ok (.iload_n 1, 1) := by decide +kernel
theorem dX11_isSeat_44 : decode cX11_isSeat 44 = .ok (.ireturn, 1) := by decide +kernel
set_option maxRecDepth 20000 in
theorem ggX11_rank_X11_isLawful : GoodIn wsX11_rank wsX11_isLawful := goodIn_r _ [7, 8, 9, 10, 6, 11, 12, 13, 14, 15, 16, 17, 18, 19, 20, 21, 22, 23, 24, 25, 26, 27, 28, 29, 30, 31, 44, 45, 46, 47, 48, 49, 50, 51, 52, 53, 54, 55, 56, 57, 58, 59, 60, 61, 62, 63, 64, 65, 66, 67, 68, 69, 70, 71, 72, 73, 74, 75, 76, 77, 78, 79, 80, 81, 82, 83, 84, 85] (by decide +kernel) (by decide +kernel)
set_option maxRecDepth 20000 in
theorem gX11_rank_X11_isLawful : GoodIn wsX11_rank (wsV RX11 200 RX11 yX11_isLawful wsX11_isLawful) := goodIn_app (goodIn_of _ (by decide +kernel)) ggX11_rank_X11_isLawful
set_option maxRecDepth 20000 in
theorem ggX11_rank_X11_begin : GoodIn wsX11_rank wsX11_begin := goodIn_r _ [35, 2, 44, 45, 46, 47, 48, 49, 50, 51, 52, 53, 54, 55, 56, 57, 58, 59, 60, 61, 62, 63, 64, 65, 66, 67, 68, 69, 70, 71, 72, 73, 74, 75, 76, 77, 78, 79, 80, 81, 82, 83, 84, 85] (by decide +kernel) (by decide +kernel)
set_option maxRecDepth 20000 in
theorem gX11_rank_X11_begin : GoodIn wsX11_rank (wsV RX11 197 RX11 yX11_begin wsX11_begin) := goodIn_app (goodIn_of _ (by decide +kernel)) ggX11_rank_X11_begin
set_option maxRecDepth 20000 in
theorem ggX11_rank_X11_isSeat : GoodIn wsX11_rank wsX11_isSeat := goodIn_r _ [39, 12, 2, 1, 44, 45, 46, 47, 48, 49, 50, 51, 52, 53, 54, 55, 56, 57, 58, 59, 60, 61, 62, 63, 64, 65, 66, 67, 68, 69, 70, 71, 72, 73, 74, 75, 76, 77, 78, 79, 80, 81, 82, 83, 84, 85] (by decide +kernel) (by decide +kernel)
set_option maxRecDepth 20000 in
theorem gX11_rank_X11_isSeat : GoodIn wsX11_rank (wsV RX11 218 RX11 yX11_isSeat wsX11_isSeat) := goodIn_app (goodIn_of _ (by decide +kernel)) ggX11_rank_X11_isSeat
set_option maxRecDepth 20000 in
theorem ggX11_rank_X11_goOn : GoodIn wsX11_rank wsX11_goOn := goodIn_r _ [43, 12, 2, 44, 45, 46, 47, 48, 49, 50, 51, 52, 53, 54, 55, 56, 57, 58, 59, 60, 61, 62, 63, 64, 65, 66, 67, 68, 69, 70, 71, 72, 73, 74, 75, 76, 77, 78, 79, 80, 81, 82, 83, 84, 85] (by decide +kernel) (by decide +kernel)
set_option maxRecDepth 20000 in
theorem gX11_rank_X11_goOn : GoodIn wsX11_rank (wsV RX11 204 RX11 yX11_goOn wsX11_goOn) := goodIn_app (goodIn_of _ (by decide +kernel)) ggX11_rank_X11_goOn
theorem dX11_rank_0 : decode cX11_rank 0 = .ok (.aload_n 0, 1) := by decide +kernel
theorem dX11_rank_1 : decode cX11_rank 1 = .ok (.aload_n 0, 1) := by decide +kernel
theorem dX11_rank_2 : decode cX11_rank 2 = .ok (.getfield 41, 3) := by decide +kernel
theorem dX11_rank_5 : decode cX11_rank 5 = .ok (.invokevirtual 200, 3) := by decide +kernel
theorem dX11_rank_8 : decode cX11_rank 8 = .ok (.ifCond .ne 6, 3) := by decide +kernel
theorem dX11_rank_11 : decode cX11_rank 11 = .ok (.bipush (-9), 2) := by decide +kernel
theorem dX11_rank_13 : decode cX11_rank 13 = .ok (.ireturn, 1) := by decide +kernel
theorem dX11_rank_14 : decode cX11_rank 14 = .ok (.iconst 0, 1) := by decide +kernel
theorem dX11_rank_15 : decode cX11_rank 15 = .ok (.istore_n 1, 1) := by decide +kernel
theorem dX11_rank_16 : decode cX11_rank 16 = .ok (.aload_n 0, 1) := by decide +kernel
theorem dX11_rank_17 : decode cX11_rank 17 = .ok (.invokevirtual 197, 3) := by decide +kernel
theorem dX11_rank_20 : decode cX11_rank 20 = .ok (.aload_n 0, 1) := by decide +kernel
theorem dX11_rank_21 : decode cX11_rank 21 = .ok (.invokevirtual 218, 3) := by decide +kernel
theorem dX11_rank_24 : decode cX11_rank 24 = .ok (.ifCond .ne 30, 3) := by decide +kernel
theorem dX11_rank_27 : decode cX11_rank 27 = .ok (.iload_n 1, 1) := by decide +kernel
theorem dX11_rank_28 : decode cX11_rank 28 = .ok (.aload_n 0, 1) := by decide +kernel
theorem dX11_rank_29 : decode cX11_rank 29 = .ok (.aload_n 0, 1) := by decide +kernel
theorem dX11_rank_30 : decode cX11_rank 30 = .ok (.getfield 50, 3) := by decide +kernel
theorem dX11_rank_33 : decode cX11_rank 33 = .ok (.invokevirtual 200, 3) := by decide +kernel
theorem dX11_rank_36 : decode cX11_rank 36 = .ok (.ifCond .eq 7, 3) := by decide +kernel
theorem dX11_rank_39 : decode cX11_rank 39 = .ok (.iconst 1, 1) := by decide +kernel
theorem dX11_rank_40 : decode cX11_rank 40 = .ok (.goto 4, 3) := by decide +kernel
theorem dX11_rank_43 : decode cX11_rank 43 = .ok (.iconst 0, 1) := by decide +kernel
theorem dX11_rank_44 : decode cX11_rank 44 = .ok (.iadd, 1) := by decide +kernel
theorem dX11_rank_45 : decode cX11_rank 45 = .ok (.istore_n 1, 1) := by decide +kernel
theorem dX11_rank_46 : decode cX11_rank 46 = .ok (.aload_n 0, 1) := by decide +kernel
theorem dX11_rank_47 : decode cX11_rank 47 = .ok (.invokevirtual 204, 3) := by decide +kernel
theorem dX11_rank_50 : decode cX11_rank 50 = .ok (.pop, 1) := by decide +kernel
theorem dX11_rank_51 : decode cX11_rank 51 = .ok (.goto (-31), 3) := by decide +kernel
theorem dX11_rank_54 : decode cX11_rank 54 = .ok (.iload_n 1, 1) := by decide +kernel
theorem dX11_rank_55 : decode cX11_rank 55 = .ok (.ireturn, 1) := by decide +kernel
set_option maxRecDepth 20000 in
theorem ggX11_layNth_X11_begin : GoodIn wsX11_layNth wsX11_begin := goodIn_r _ [6, 1, 39, 40, 41, 42, 43, 44, 45, 46, 47, 48, 49, 50, 51, 52, 53, 54, 55, 56, 57, 58, 59, 60, 61, 62, 63, 64, 65, 66, 67, 68, 69, 70, 71, 72, 73, 74, 75, 76, 77, 78, 79, 80] (by decide +kernel) (by decide +kernel)
set_option maxRecDepth 20000 in
theorem gX11_layNth_X11_begin : GoodIn wsX11_layNth (wsV RX11 197 RX11 yX11_begin wsX11_begin) := goodIn_app (goodIn_of _ (by decide +kernel)) ggX11_layNth_X11_begin
set_option maxRecDepth 20000 in
theorem ggX11_layNth_X11_isLawful : GoodIn wsX11_layNth wsX11_isLawful := goodIn_r _ [10, 11, 12, 13, 5, 14, 15, 16, 17, 18, 19, 20, 21, 22, 23, 24, 25, 26, 27, 28, 29, 30, 31, 32, 33, 34, 39, 40, 41, 42, 43, 44, 45, 46, 47, 48, 49, 50, 51, 52, 53, 54, 55, 56, 57, 58, 59, 60, 61, 62, 63, 64, 65, 66, 67, 68, 69, 70, 71, 72, 73, 74, 75, 76, 77, 78, 79, 80] (by decide +kernel) (by decide +kernel)
set_option maxRecDepth 20000 in
theorem gX11_layNth_X11_isLawful : GoodIn wsX11_layNth (wsV RX11 200 RX11 yX11_isLawful wsX11_isLawful) := goodIn_app (goodIn_of _ (by decide +kernel)) ggX11_layNth_X11_isLawful
set_option maxRecDepth 20000 in
theorem ggX11_layNth_X11_goOn : GoodIn wsX11_layNth wsX11_goOn := goodIn_r _ [38, 15, 1, 39, 40, 41, 42, 43, 44, 45, 46, 47, 48, 49, 50, 51, 52, 53, 54, 55, 56, 57, 58, 59, 60, 61, 62, 63, 64, 65, 66, 67, 68, 69, 70, 71, 72, 73, 74, 75, 76, 77, 78, 79, 80] (by decide +kernel) (by decide +kernel)
set_option maxRecDepth 20000 in
theorem gX11_layNth_X11_goOn : GoodIn wsX11_layNth (wsV RX11 204 RX11 yX11_goOn wsX11_goOn) := goodIn_app (goodIn_of _ (by decide +kernel)) ggX11_layNth_X11_goOn
theorem dX11_layNth_0 : decode cX11_layNth 0 = .ok (.iload_n 1, 1) := by decide +kernel
theorem dX11_layNth_1 : decode cX11_layNth 1 = .ok (.istore_n 2, 1) := by decide +kernel
theorem dX11_layNth_2 : decode cX11_layNth 2 = .ok (.iload_n 1, 1) := by decide +kernel
theorem dX11_layNth_3 : decode cX11_layNth 3 = .ok (.ifCond .lt 7, 3) := by decide +kernel
theorem dX11_layNth_6 : decode cX11_layNth 6 = .ok (.iconst 1, 1) := by decide +kernel
theorem dX11_layNth_7 : decode cX11_layNth 7 = .ok (.goto 4, 3) := by decide +kernel
theorem dX11_layNth_10 : decode cX11_layNth 10 = .ok (.iconst 0, 1) := by decide +kernel
theorem dX11_layNth_11 : decode cX11_layNth 11 = .ok (.istore_n 3, 1) := by decide +kernel
theorem dX11_layNth_12 : decode cX11_layNth 12 = .ok (.aload_n 0, 1) := by decide +kernel
theorem dX11_layNth_13 : decode cX11_layNth 13 = .ok (.invokevirtual 197, 3) := by decide +kernel
theorem dX11_layNth_16 : decode cX11_layNth 16 = .ok (.iload_n 3, 1) := by decide +kernel
theorem dX11_layNth_17 : decode cX11_layNth 17 = .ok (.ifCond .eq 31, 3) := by decide +kernel
theorem dX11_layNth_20 : decode cX11_layNth 20 = .ok (.aload_n 0, 1) := by decide +kernel
theorem dX11_layNth_21 : decode cX11_layNth 21 = .ok (.aload_n 0, 1) := by decide +kernel
theorem dX11_layNth_22 : decode cX11_layNth 22 = .ok (.getfield 50, 3) := by decide +kernel
theorem dX11_layNth_25 : decode cX11_layNth 25 = .ok (.invokevirtual 200, 3) := by decide +kernel
theorem dX11_layNth_28 : decode cX11_layNth 28 = .ok (.ifCond .eq 12, 3) := by decide +kernel
theorem dX11_layNth_31 : decode cX11_layNth 31 = .ok (.iload_n 2, 1) := by decide +kernel
theorem dX11_layNth_32 : decode cX11_layNth 32 = .ok (.ifCond .ne 5, 3) := by decide +kernel
theorem dX11_layNth_35 : decode cX11_layNth 35 = .ok (.iconst 1, 1) := by decide +kernel
theorem dX11_layNth_36 : decode cX11_layNth 36 = .ok (.ireturn, 1) := by decide +kernel
theorem dX11_layNth_37 : decode cX11_layNth 37 = .ok (.iinc 2 (-1), 3) := by decide +kernel
theorem dX11_layNth_40 : decode cX11_layNth 40 = .ok (.aload_n 0, 1) := by decide +kernel
theorem dX11_layNth_41 : decode cX11_layNth 41 = .ok (.invokevirtual 204, 3) := by decide +kernel
theorem dX11_layNth_44 : decode cX11_layNth 44 = .ok (.istore_n 3, 1) := by decide +kernel
theorem dX11_layNth_45 : decode cX11_layNth 45 = .ok (.goto (-29), 3) := by decide +kernel
theorem dX11_layNth_48 : decode cX11_layNth 48 = .ok (.iconst 0, 1) := by decide +kernel
theorem dX11_layNth_49 : decode cX11_layNth 49 = .ok (.ireturn, 1) := by decide +kernel
set_option maxRecDepth 20000 in
theorem ggX11_nth_X11_isPerson : GoodIn wsX11_nth wsX11_isPerson := goodIn_r _ [6, 7, 8, 9, 5, 10, 50, 51, 52, 53, 54, 55, 56, 57, 58, 59, 60, 61, 62, 63, 64, 65, 66, 67, 68, 69, 70, 71, 72, 73, 74, 75, 76, 77, 78, 79, 80, 81, 82, 83, 84, 85, 86, 87, 88, 89, 90, 91] (by decide +kernel) (by decide +kernel)
set_option maxRecDepth 20000 in
theorem gX11_nth_X11_isPerson : GoodIn wsX11_nth (wsV RX11 190 RX11 yX11_isPerson wsX11_isPerson) := goodIn_app (goodIn_of _ (by decide +kernel)) ggX11_nth_X11_isPerson
set_option maxRecDepth 20000 in
theorem ggX11_nth_X11_layNth : GoodIn wsX11_nth wsX11_layNth := goodIn_r _ [14, 1, 15, 16, 17, 5, 18, 19, 20, 21, 22, 23, 24, 25, 26, 7, 27, 28, 29, 30, 31, 32, 33, 34, 35, 36, 37, 38, 39, 40, 41, 42, 43, 44, 45, 46, 47, 48, 49, 50, 51, 52, 53, 54, 55, 56, 57, 58, 59, 60, 61, 62, 63, 64, 65, 66, 67, 68, 69, 70, 71, 72, 73, 74, 75, 76, 77, 78, 79, 80, 81, 82, 83, 84, 85, 86, 87, 88, 89, 90, 91] (by decide +kernel) (by decide +kernel)
set_option maxRecDepth 20000 in
theorem gX11_nth_X11_layNth : GoodIn wsX11_nth (wsV RX11 221 RX11 yX11_layNth wsX11_layNth) := goodIn_app (goodIn_of _ (by decide +kernel)) ggX11_nth_X11_layNth
theorem dX11_nth_0 : decode cX11_nth 0 = .ok (.aload_n 0, 1) := by decide +kernel
theorem dX11_nth_1 : decode cX11_nth 1 = .ok (.iload_n 2, 1) := by decide +kernel
theorem dX11_nth_2 : decode cX11_nth 2 = .ok (.invokevirtual 190, 3) := by decide +kernel
theorem dX11_nth_5 : decode cX11_nth 5 = .ok (.ifCond .ne 5, 3) := by decide +kernel
theorem dX11_nth_8 : decode cX11_nth 8 = .ok (.iconst (-1), 1) := by decide +kernel
theorem dX11_nth_9 : decode cX11_nth 9 = .ok (.ireturn, 1) := by decide +kernel
theorem dX11_nth_10 : decode cX11_nth 10 = .ok (.aload_n 0, 1) := by decide +kernel
theorem dX11_nth_11 : decode cX11_nth 11 = .ok (.iload_n 1, 1) := by decide +kernel
theorem dX11_nth_12 : decode cX11_nth 12 = .ok (.invokevirtual 221, 3) := by decide +kernel
theorem dX11_nth_15 : decode cX11_nth 15 = .ok (.ifCond .eq 12, 3) := by decide +kernel
theorem dX11_nth_18 : decode cX11_nth 18 = .ok (.aload_n 0, 1) := by decide +kernel
theorem dX11_nth_19 : decode cX11_nth 19 = .ok (.getfield 50, 3) := by decide +kernel
theorem dX11_nth_22 : decode cX11_nth 22 = .ok (.iload_n 2, 1) := by decide +kernel
theorem dX11_nth_23 : decode cX11_nth 23 = .ok (.iaload, 1) := by decide +kernel
theorem dX11_nth_24 : decode cX11_nth 24 = .ok (.goto 5, 3) := by decide +kernel
theorem dX11_nth_27 : decode cX11_nth 27 = .ok (.bipush (-2), 2) := by decide +kernel
theorem dX11_nth_29 : decode cX11_nth 29 = .ok (.ireturn, 1) := by decide +kernel
set_option maxRecDepth 20000 in
theorem ggX11_wrong_X11_wrongOf : GoodIn wsX11_wrong wsX11_wrongOf := goodIn_r _ [6, 7, 8, 9, 10, 5, 11, 12, 13, 14, 15, 16, 17, 18, 19, 20, 21, 22, 23, 24, 25, 26, 27, 28, 29, 30, 31, 32, 33, 34, 35, 36, 37, 38, 39, 40, 41, 42, 43, 44, 45, 46, 47, 48, 49, 50, 51, 52, 53, 54, 55, 56, 57, 58, 59, 60, 61, 62, 63, 64, 65, 66, 67, 68] (by decide +kernel) (by decide +kernel)
set_option maxRecDepth 20000 in
theorem gX11_wrong_X11_wrongOf : GoodIn wsX11_wrong (wsV RX11 182 RX11 yX11_wrongOf wsX11_wrongOf) := goodIn_app (goodIn_of _ (by decide +kernel)) ggX11_wrong_X11_wrongOf
theorem dX11_wrong_0 : decode cX11_wrong 0 = .ok (.aload_n 0, 1) := by decide +kernel
theorem dX11_wrong_1 : decode cX11_wrong 1 = .ok (.aload_n 0, 1) := by decide +kernel
theorem dX11_wrong_2 : decode cX11_wrong 2 = .ok (.getfield 41, 3) := by decide +kernel
theorem dX11_wrong_5 : decode cX11_wrong 5 = .ok (.invokevirtual 182, 3) := by decide +kernel
theorem dX11_wrong_8 : decode cX11_wrong 8 = .ok (.ireturn, 1) := by decide +kernel
theorem dX11_keepAct_0 : decode cX11_keepAct 0 = .ok (.iconst 0, 1) := by decide +kernel
theorem dX11_keepAct_1 : decode cX11_keepAct 1 = .ok (.istore_n 1, 1) := by decide +kernel
theorem dX11_keepAct_2 : decode cX11_keepAct 2 = .ok (.iload_n 1, 1) := by decide +kernel
theorem dX11_keepAct_3 : decode cX11_keepAct 3 = .ok (.bipush 7, 2) := by decide +kernel
theorem dX11_keepAct_5 : decode cX11_keepAct 5 = .ok (.if_icmp .ge 29, 3) := by decide +kernel
theorem dX11_keepAct_8 : decode cX11_keepAct 8 = .ok (.aload_n 0, 1) := by decide +kernel
theorem dX11_keepAct_9 : decode cX11_keepAct 9 = .ok (.getfield 53, 3) := by decide +kernel
theorem dX11_keepAct_12 : decode cX11_keepAct 12 = .ok (.bipush 56, 2) := by decide +kernel
theorem dX11_keepAct_14 : decode cX11_keepAct 14 = .ok (.aload_n 0, 1) := by decide +kernel
theorem dX11_keepAct_15 : decode cX11_keepAct 15 = .ok (.getfield 224, 3) := by decide +kernel
theorem dX11_keepAct_18 : decode cX11_keepAct 18 = .ok (.imul, 1) := by decide +kernel
theorem dX11_keepAct_19 : decode cX11_keepAct 19 = .ok (.iload_n 1, 1) := by decide +kernel
theorem dX11_keepAct_20 : decode cX11_keepAct 20 = .ok (.iadd, 1) := by decide +kernel
theorem dX11_keepAct_21 : decode cX11_keepAct 21 = .ok (.aload_n 0, 1) := by decide +kernel
theorem dX11_keepAct_22 : decode cX11_keepAct 22 = .ok (.getfield 41, 3) := by decide +kernel
theorem dX11_keepAct_25 : decode cX11_keepAct 25 = .ok (.iload_n 1, 1) := by decide +kernel
theorem dX11_keepAct_26 : decode cX11_keepAct 26 = .ok (.iaload, 1) := by decide +kernel
theorem dX11_keepAct_27 : decode cX11_keepAct 27 = .ok (.iastore, 1) := by decide +kernel
theorem dX11_keepAct_28 : decode cX11_keepAct 28 = .ok (.iinc 1 1, 3) := by decide +kernel
theorem dX11_keepAct_31 : decode cX11_keepAct 31 = .ok (.goto (-29), 3) := by decide +kernel
theorem dX11_keepAct_34 : decode cX11_keepAct 34 = .ok (.iconst 0, 1) := by decide +kernel
theorem dX11_keepAct_35 : decode cX11_keepAct 35 = .ok (.istore_n 1, 1) := by decide +kernel
theorem dX11_keepAct_36 : decode cX11_keepAct 36 = .ok (.iload_n 1, 1) := by decide +kernel
theorem dX11_keepAct_37 : decode cX11_keepAct 37 = .ok (.bipush 49, 2) := by decide +kernel
theorem dX11_keepAct_39 : decode cX11_keepAct 39 = .ok (.if_icmp .ge 32, 3) := by decide +kernel
theorem dX11_keepAct_42 : decode cX11_keepAct 42 = .ok (.aload_n 0, 1) := by decide +kernel
theorem dX11_keepAct_43 : decode cX11_keepAct 43 = .ok (.getfield 53, 3) := by decide +kernel
theorem dX11_keepAct_46 : decode cX11_keepAct 46 = .ok (.bipush 56, 2) := by decide +kernel
theorem dX11_keepAct_48 : decode cX11_keepAct 48 = .ok (.aload_n 0, 1) := by decide +kernel
theorem dX11_keepAct_49 : decode cX11_keepAct 49 = .ok (.getfield 224, 3) := by decide +kernel
theorem dX11_keepAct_52 : decode cX11_keepAct 52 = .ok (.imul, 1) := by decide +kernel
theorem dX11_keepAct_53 : decode cX11_keepAct 53 = .ok (.bipush 7, 2) := by decide +kernel
theorem dX11_keepAct_55 : decode cX11_keepAct 55 = .ok (.iadd, 1) := by decide +kernel
theorem dX11_keepAct_56 : decode cX11_keepAct 56 = .ok (.iload_n 1, 1) := by decide +kernel
theorem dX11_keepAct_57 : decode cX11_keepAct 57 = .ok (.iadd, 1) := by decide +kernel
theorem dX11_keepAct_58 : decode cX11_keepAct 58 = .ok (.aload_n 0, 1) := by decide +kernel
theorem dX11_keepAct_59 : decode cX11_keepAct 59 = .ok (.getfield 44, 3) := by decide +kernel
theorem dX11_keepAct_62 : decode cX11_keepAct 62 = .ok (.iload_n 1, 1) := by decide +kernel
theorem dX11_keepAct_63 : decode cX11_keepAct 63 = .ok (.iaload, 1) := by decide +kernel
theorem dX11_keepAct_64 : decode cX11_keepAct 64 = .ok (.iastore, 1) := by decide +kernel
theorem dX11_keepAct_65 : decode cX11_keepAct 65 = .ok (.iinc 1 1, 3) := by decide +kernel
theorem dX11_keepAct_68 : decode cX11_keepAct 68 = .ok (.goto (-32), 3) := by decide +kernel
theorem dX11_keepAct_71 : decode cX11_keepAct 71 = .ok (.aload_n 0, 1) := by decide +kernel
theorem dX11_keepAct_72 : decode cX11_keepAct 72 = .ok (.aload_n 0, 1) := by decide +kernel
theorem dX11_keepAct_73 : decode cX11_keepAct 73 = .ok (.getfield 224, 3) := by decide +kernel
theorem dX11_keepAct_76 : decode cX11_keepAct 76 = .ok (.iconst 1, 1) := by decide +kernel
theorem dX11_keepAct_77 : decode cX11_keepAct 77 = .ok (.iadd, 1) := by decide +kernel
theorem dX11_keepAct_78 : decode cX11_keepAct 78 = .ok (.bipush 16, 2) := by decide +kernel
theorem dX11_keepAct_80 : decode cX11_keepAct 80 = .ok (.irem, 1) := by decide +kernel
theorem dX11_keepAct_81 : decode cX11_keepAct 81 = .ok (.putfield 224, 3) := by decide +kernel
theorem dX11_keepAct_84 : decode cX11_keepAct 84 = .ok (.aload_n 0, 1) := by decide +kernel
theorem dX11_keepAct_85 : decode cX11_keepAct 85 = .ok (.aload_n 0, 1) := by decide +kernel
theorem dX11_keepAct_86 : decode cX11_keepAct 86 = .ok (.getfield 169, 3) := by decide +kernel
theorem dX11_keepAct_89 : decode cX11_keepAct 89 = .ok (.bipush 16, 2) := by decide +kernel
theorem dX11_keepAct_91 : decode cX11_keepAct 91 = .ok (.if_icmp .ge 12, 3) := by decide +kernel
theorem dX11_keepAct_94 : decode cX11_keepAct 94 = .ok (.aload_n 0, 1) := by decide +kernel
theorem dX11_keepAct_95 : decode cX11_keepAct 95 = .ok (.getfield 169, 3) := by decide +kernel
theorem dX11_keepAct_98 : decode cX11_keepAct 98 = .ok (.iconst 1, 1) := by decide +kernel
theorem dX11_keepAct_99 : decode cX11_keepAct 99 = .ok (.iadd, 1) := by decide +kernel
theorem dX11_keepAct_100 : decode cX11_keepAct 100 = .ok (.goto 5, 3) := by decide +kernel
theorem dX11_keepAct_103 : decode cX11_keepAct 103 = .ok (.bipush 16, 2) := by decide +kernel
theorem dX11_keepAct_105 : decode cX11_keepAct 105 = .ok (.putfield 169, 3) := by decide +kernel
theorem dX11_keepAct_108 : decode cX11_keepAct 108 = .ok (.return_, 1) := by decide +kernel
set_option maxRecDepth 20000 in
theorem ggX11_sit_X11_keepAct : GoodIn wsX11_sit wsX11_keepAct := goodIn_r _ [8, 9, 10, 2, 11, 12, 13, 14, 15, 16, 17, 18, 19, 20, 21, 22, 23, 24, 25, 26, 27, 28, 29, 30, 31, 32, 33, 34, 35, 36, 37, 38, 39, 40, 41, 42, 43, 44, 45, 46, 47, 48, 49, 50, 51, 52, 53, 54] (by decide +kernel) (by decide +kernel)
set_option maxRecDepth 20000 in
theorem gX11_sit_X11_keepAct : GoodIn wsX11_sit (wsV RX11 227 RX11 yX11_keepAct wsX11_keepAct) := goodIn_app (goodIn_of _ (by decide +kernel)) ggX11_sit_X11_keepAct
theorem dX11_sit_0 : decode cX11_sit 0 = .ok (.aload_n 0, 1) := by decide +kernel
theorem dX11_sit_1 : decode cX11_sit 1 = .ok (.invokevirtual 227, 3) := by decide +kernel
theorem dX11_sit_4 : decode cX11_sit 4 = .ok (.iconst 0, 1) := by decide +kernel
theorem dX11_sit_5 : decode cX11_sit 5 = .ok (.istore_n 1, 1) := by decide +kernel
theorem dX11_sit_6 : decode cX11_sit 6 = .ok (.iconst 0, 1) := by decide +kernel
theorem dX11_sit_7 : decode cX11_sit 7 = .ok (.istore_n 2, 1) := by decide +kernel
theorem dX11_sit_8 : decode cX11_sit 8 = .ok (.iload_n 2, 1) := by decide +kernel
theorem dX11_sit_9 : decode cX11_sit 9 = .ok (.aload_n 0, 1) := by decide +kernel
theorem dX11_sit_10 : decode cX11_sit 10 = .ok (.getfield 89, 3) := by decide +kernel
theorem dX11_sit_13 : decode cX11_sit 13 = .ok (.if_icmp .ge 44, 3) := by decide +kernel
theorem dX11_sit_16 : decode cX11_sit 16 = .ok (.iload_n 1, 1) := by decide +kernel
theorem dX11_sit_17 : decode cX11_sit 17 = .ok (.aload_n 0, 1) := by decide +kernel
theorem dX11_sit_18 : decode cX11_sit 18 = .ok (.getfield 41, 3) := by decide +kernel
theorem dX11_sit_21 : decode cX11_sit 21 = .ok (.iload_n 2, 1) := by decide +kernel
theorem dX11_sit_22 : decode cX11_sit 22 = .ok (.iaload, 1) := by decide +kernel
theorem dX11_sit_23 : decode cX11_sit 23 = .ok (.aload_n 0, 1) := by decide +kernel
theorem dX11_sit_24 : decode cX11_sit 24 = .ok (.getfield 50, 3) := by decide +kernel
theorem dX11_sit_27 : decode cX11_sit 27 = .ok (.iload_n 2, 1) := by decide +kernel
theorem dX11_sit_28 : decode cX11_sit 28 = .ok (.iaload, 1) := by decide +kernel
theorem dX11_sit_29 : decode cX11_sit 29 = .ok (.if_icmp .ne 7, 3) := by decide +kernel
theorem dX11_sit_32 : decode cX11_sit 32 = .ok (.iconst 0, 1) := by decide +kernel
theorem dX11_sit_33 : decode cX11_sit 33 = .ok (.goto 4, 3) := by decide +kernel
theorem dX11_sit_36 : decode cX11_sit 36 = .ok (.iconst 1, 1) := by decide +kernel
theorem dX11_sit_37 : decode cX11_sit 37 = .ok (.iadd, 1) := by decide +kernel
theorem dX11_sit_38 : decode cX11_sit 38 = .ok (.istore_n 1, 1) := by decide +kernel
theorem dX11_sit_39 : decode cX11_sit 39 = .ok (.aload_n 0, 1) := by decide +kernel
theorem dX11_sit_40 : decode cX11_sit 40 = .ok (.getfield 41, 3) := by decide +kernel
theorem dX11_sit_43 : decode cX11_sit 43 = .ok (.iload_n 2, 1) := by decide +kernel
theorem dX11_sit_44 : decode cX11_sit 44 = .ok (.aload_n 0, 1) := by decide +kernel
theorem dX11_sit_45 : decode cX11_sit 45 = .ok (.getfield 50, 3) := by decide +kernel
theorem dX11_sit_48 : decode cX11_sit 48 = .ok (.iload_n 2, 1) := by decide +kernel
theorem dX11_sit_49 : decode cX11_sit 49 = .ok (.iaload, 1) := by decide +kernel
theorem dX11_sit_50 : decode cX11_sit 50 = .ok (.iastore, 1) := by decide +kernel
theorem dX11_sit_51 : decode cX11_sit 51 = .ok (.iinc 2 1, 3) := by decide +kernel
theorem dX11_sit_54 : decode cX11_sit 54 = .ok (.goto (-46), 3) := by decide +kernel
theorem dX11_sit_57 : decode cX11_sit 57 = .ok (.iload_n 1, 1) := by decide +kernel
theorem dX11_sit_58 : decode cX11_sit 58 = .ok (.ireturn, 1) := by decide +kernel
theorem dX11_seed_0 : decode cX11_seed 0 = .ok (.aload_n 0, 1) := by decide +kernel
theorem dX11_seed_1 : decode cX11_seed 1 = .ok (.getfield 230, 3) := by decide +kernel
theorem dX11_seed_4 : decode cX11_seed 4 = .ok (.lstore_n 3, 1) := by decide +kernel
theorem dX11_seed_5 : decode cX11_seed 5 = .ok (.aload_n 0, 1) := by decide +kernel
theorem dX11_seed_6 : decode cX11_seed 6 = .ok (.lload_n 1, 1) := by decide +kernel
theorem dX11_seed_7 : decode cX11_seed 7 = .ok (.putfield 230, 3) := by decide +kernel
theorem dX11_seed_10 : decode cX11_seed 10 = .ok (.lload_n 3, 1) := by decide +kernel
theorem dX11_seed_11 : decode cX11_seed 11 = .ok (.lreturn, 1) := by decide +kernel
set_option maxRecDepth 20000 in
theorem ggX11_draw_X11_lawful : GoodIn wsX11_draw wsX11_lawful := goodIn_r _ [8, 9, 10, 11, 12, 7, 13, 14, 15, 16, 17, 18, 19, 20, 21, 22, 23, 24, 25, 26, 27, 28, 29, 30, 31, 32, 33, 34, 35, 36, 37, 38, 39, 40, 41, 42, 43, 44, 45, 63, 64, 65, 66, 67, 68, 69, 70, 71, 72, 73, 74, 75, 76, 77, 78, 79, 80, 81, 82, 83, 84, 85, 86, 87, 88, 89, 90, 91, 92, 93, 94, 95, 96, 97, 98, 99, 100, 101, 102, 103, 104] (by decide +kernel) (by decide +kernel)
set_option maxRecDepth 20000 in
theorem gX11_draw_X11_lawful : GoodIn wsX11_draw (wsV RX11 208 RX11 yX11_lawful wsX11_lawful) := goodIn_app (goodIn_of _ (by decide +kernel)) ggX11_draw_X11_lawful
set_option maxRecDepth 20000 in
theorem ggX11_draw_X11_layNth : GoodIn wsX11_draw wsX11_layNth := goodIn_r _ [49, 9, 10, 11, 12, 7, 13, 14, 15, 16, 17, 18, 19, 20, 21, 22, 23, 24, 25, 26, 27, 28, 29, 30, 31, 32, 33, 34, 35, 36, 37, 38, 39, 40, 41, 42, 43, 44, 45, 63, 64, 65, 66, 67, 68, 69, 70, 71, 72, 73, 74, 75, 76, 77, 78, 79, 80, 81, 82, 83, 84, 85, 86, 87, 88, 89, 90, 91, 92, 93, 94, 95, 96, 97, 98, 99, 100, 101, 102, 103, 104] (by decide +kernel) (by decide +kernel)
set_option maxRecDepth 20000 in
theorem gX11_draw_X11_layNth : GoodIn wsX11_draw (wsV RX11 221 RX11 yX11_layNth wsX11_layNth) := goodIn_app (goodIn_of _ (by decide +kernel)) ggX11_draw_X11_layNth
set_option maxRecDepth 20000 in
theorem ggX11_draw_X11_sit : GoodIn wsX11_draw wsX11_sit := goodIn_r _ [53, 22, 54, 9, 55, 56, 57, 7, 58, 59, 60, 61, 62, 63, 64, 65, 66, 67, 68, 69, 70, 71, 72, 73, 74, 75, 76, 77, 78, 79, 80, 81, 82, 83, 84, 85, 86, 87, 88, 89, 90, 91, 92, 93, 94, 95, 96, 97, 98, 99, 100, 101, 102, 103, 104] (by decide +kernel) (by decide +kernel)
set_option maxRecDepth 20000 in
theorem gX11_draw_X11_sit : GoodIn wsX11_draw (wsV RX11 238 RX11 yX11_sit wsX11_sit) := goodIn_app (goodIn_of _ (by decide +kernel)) ggX11_draw_X11_sit
theorem dX11_draw_0 : decode cX11_draw 0 = .ok (.aload_n 0, 1) := by decide +kernel
theorem dX11_draw_1 : decode cX11_draw 1 = .ok (.invokevirtual 208, 3) := by decide +kernel
theorem dX11_draw_4 : decode cX11_draw 4 = .ok (.istore_n 1, 1) := by decide +kernel
theorem dX11_draw_5 : decode cX11_draw 5 = .ok (.iload_n 1, 1) := by decide +kernel
theorem dX11_draw_6 : decode cX11_draw 6 = .ok (.ifCond .ne 6, 3) := by decide +kernel
theorem dX11_draw_9 : decode cX11_draw 9 = .ok (.bipush (-3), 2) := by decide +kernel
theorem dX11_draw_11 : decode cX11_draw 11 = .ok (.ireturn, 1) := by decide +kernel
theorem dX11_draw_12 : decode cX11_draw 12 = .ok (.aload_n 0, 1) := by decide +kernel
theorem dX11_draw_13 : decode cX11_draw 13 = .ok (.aload_n 0, 1) := by decide +kernel
theorem dX11_draw_14 : decode cX11_draw 14 = .ok (.getfield 230, 3) := by decide +kernel
theorem dX11_draw_17 : decode cX11_draw 17 = .ok (.ldc2_w 234, 3) := by decide +kernel
theorem dX11_draw_20 : decode cX11_draw 20 = .ok (.lmul, 1) := by decide +kernel
theorem dX11_draw_21 : decode cX11_draw 21 = .ok (.ldc2_w 236, 3) := by decide +kernel
theorem dX11_draw_24 : decode cX11_draw 24 = .ok (.ladd, 1) := by decide +kernel
theorem dX11_draw_25 : decode cX11_draw 25 = .ok (.putfield 230, 3) := by decide +kernel
theorem dX11_draw_28 : decode cX11_draw 28 = .ok (.aload_n 0, 1) := by decide +kernel
theorem dX11_draw_29 : decode cX11_draw 29 = .ok (.getfield 230, 3) := by decide +kernel
theorem dX11_draw_32 : decode cX11_draw 32 = .ok (.bipush 33, 2) := by decide +kernel
theorem dX11_draw_34 : decode cX11_draw 34 = .ok (.lushr, 1) := by decide +kernel
theorem dX11_draw_35 : decode cX11_draw 35 = .ok (.iload_n 1, 1) := by decide +kernel

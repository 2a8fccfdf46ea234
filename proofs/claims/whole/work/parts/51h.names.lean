theorem dX11_layFits_0 : decode cX11_layFits 0 = .ok (.iconst 0, 1) := by decide +kernel
theorem dX11_layFits_1 : decode cX11_layFits 1 = .ok (.istore_n 2, 1) := by decide +kernel
theorem dX11_layFits_2 : decode cX11_layFits 2 = .ok (.iload_n 2, 1) := by decide +kernel
theorem dX11_layFits_3 : decode cX11_layFits 3 = .ok (.bipush 7, 2) := by decide +kernel
theorem dX11_layFits_5 : decode cX11_layFits 5 = .ok (.if_icmp .ge 16, 3) := by decide +kernel
theorem dX11_layFits_8 : decode cX11_layFits 8 = .ok (.aload_n 0, 1) := by decide +kernel
theorem dX11_layFits_9 : decode cX11_layFits 9 = .ok (.getfield 80, 3) := by decide +kernel
theorem dX11_layFits_12 : decode cX11_layFits 12 = .ok (.iload_n 2, 1) := by decide +kernel
theorem dX11_layFits_13 : decode cX11_layFits 13 = .ok (.iconst 0, 1) := by decide +kernel
theorem dX11_layFits_14 : decode cX11_layFits 14 = .ok (.iastore, 1) := by decide +kernel
theorem dX11_layFits_15 : decode cX11_layFits 15 = .ok (.iinc 2 1, 3) := by decide +kernel
theorem dX11_layFits_18 : decode cX11_layFits 18 = .ok (.goto (-16), 3) := by decide +kernel
theorem dX11_layFits_21 : decode cX11_layFits 21 = .ok (.iconst 0, 1) := by decide +kernel
theorem dX11_layFits_22 : decode cX11_layFits 22 = .ok (.istore_n 2, 1) := by decide +kernel
theorem dX11_layFits_23 : decode cX11_layFits 23 = .ok (.iconst 1, 1) := by decide +kernel
theorem dX11_layFits_24 : decode cX11_layFits 24 = .ok (.istore_n 3, 1) := by decide +kernel
theorem dX11_layFits_25 : decode cX11_layFits 25 = .ok (.aload_n 0, 1) := by decide +kernel
theorem dX11_layFits_26 : decode cX11_layFits 26 = .ok (.invokevirtual 197, 3) := by decide +kernel
theorem dX11_layFits_29 : decode cX11_layFits 29 = .ok (.iload_n 3, 1) := by decide +kernel
theorem dX11_layFits_30 : decode cX11_layFits 30 = .ok (.ifCond .eq 189, 3) := by decide +kernel
theorem dX11_layFits_33 : decode cX11_layFits 33 = .ok (.aload_n 0, 1) := by decide +kernel
theorem dX11_layFits_34 : decode cX11_layFits 34 = .ok (.aload_n 0, 1) := by decide +kernel
theorem dX11_layFits_35 : decode cX11_layFits 35 = .ok (.getfield 50, 3) := by decide +kernel
theorem dX11_layFits_38 : decode cX11_layFits 38 = .ok (.invokevirtual 200, 3) := by decide +kernel
theorem dX11_layFits_41 : decode cX11_layFits 41 = .ok (.ifCond .eq 7, 3) := by decide +kernel
theorem dX11_layFits_44 : decode cX11_layFits 44 = .ok (.iconst 0, 1) := by decide +kernel
theorem dX11_layFits_45 : decode cX11_layFits 45 = .ok (.goto 5, 3) := by decide +kernel
theorem dX11_layFits_48 : decode cX11_layFits 48 = .ok (.bipush 99, 2) := by decide +kernel
theorem dX11_layFits_50 : decode cX11_layFits 50 = .ok (.istore 4, 2) := by decide +kernel
theorem dX11_layFits_52 : decode cX11_layFits 52 = .ok (.iconst 0, 1) := by decide +kernel
theorem dX11_layFits_53 : decode cX11_layFits 53 = .ok (.istore 5, 2) := by decide +kernel
theorem dX11_layFits_55 : decode cX11_layFits 55 = .ok (.iload 5, 2) := by decide +kernel
theorem dX11_layFits_57 : decode cX11_layFits 57 = .ok (.aload_n 0, 1) := by decide +kernel
theorem dX11_layFits_58 : decode cX11_layFits 58 = .ok (.getfield 270, 3) := by decide +kernel
theorem dX11_layFits_61 : decode cX11_layFits 61 = .ok (.if_icmp .ge 93, 3) := by decide +kernel
theorem dX11_layFits_64 : decode cX11_layFits 64 = .ok (.iload 4, 2) := by decide +kernel
theorem dX11_layFits_66 : decode cX11_layFits 66 = .ok (.iload_n 1, 1) := by decide +kernel
theorem dX11_layFits_67 : decode cX11_layFits 67 = .ok (.if_icmp .gt 87, 3) := by decide +kernel
theorem dX11_layFits_70 : decode cX11_layFits 70 = .ok (.aload_n 0, 1) := by decide +kernel
theorem dX11_layFits_71 : decode cX11_layFits 71 = .ok (.aload_n 0, 1) := by decide +kernel
theorem dX11_layFits_72 : decode cX11_layFits 72 = .ok (.getfield 71, 3) := by decide +kernel
theorem dX11_layFits_75 : decode cX11_layFits 75 = .ok (.iload 5, 2) := by decide +kernel
theorem dX11_layFits_77 : decode cX11_layFits 77 = .ok (.iaload, 1) := by decide +kernel
theorem dX11_layFits_78 : decode cX11_layFits 78 = .ok (.invokevirtual 190, 3) := by decide +kernel
theorem dX11_layFits_81 : decode cX11_layFits 81 = .ok (.ifCond .eq 21, 3) := by decide +kernel
theorem dX11_layFits_84 : decode cX11_layFits 84 = .ok (.aload_n 0, 1) := by decide +kernel
theorem dX11_layFits_85 : decode cX11_layFits 85 = .ok (.aload_n 0, 1) := by decide +kernel
theorem dX11_layFits_86 : decode cX11_layFits 86 = .ok (.getfield 74, 3) := by decide +kernel
theorem dX11_layFits_89 : decode cX11_layFits 89 = .ok (.iload 5, 2) := by decide +kernel
theorem dX11_layFits_91 : decode cX11_layFits 91 = .ok (.iaload, 1) := by decide +kernel
theorem dX11_layFits_92 : decode cX11_layFits 92 = .ok (.invokevirtual 190, 3) := by decide +kernel
theorem dX11_layFits_95 : decode cX11_layFits 95 = .ok (.ifCond .eq 7, 3) := by decide +kernel
theorem dX11_layFits_98 : decode cX11_layFits 98 = .ok (.iconst 1, 1) := by decide +kernel
theorem dX11_layFits_99 : decode cX11_layFits 99 = .ok (.goto 4, 3) := by decide +kernel
theorem dX11_layFits_102 : decode cX11_layFits 102 = .ok (.iconst 0, 1) := by decide +kernel
theorem dX11_layFits_103 : decode cX11_layFits 103 = .ok (.istore 6, 2) := by decide +kernel
theorem dX11_layFits_105 : decode cX11_layFits 105 = .ok (.iload 4, 2) := by decide +kernel
theorem dX11_layFits_107 : decode cX11_layFits 107 = .ok (.iload 6, 2) := by decide +kernel
theorem dX11_layFits_109 : decode cX11_layFits 109 = .ok (.ifCond .eq 35, 3) := by decide +kernel
theorem dX11_layFits_112 : decode cX11_layFits 112 = .ok (.aload_n 0, 1) := by decide +kernel
theorem dX11_layFits_113 : decode cX11_layFits 113 = .ok (.aload_n 0, 1) := by decide +kernel
theorem dX11_layFits_114 : decode cX11_layFits 114 = .ok (.getfield 71, 3) := by decide +kernel
theorem dX11_layFits_117 : decode cX11_layFits 117 = .ok (.iload 5, 2) := by decide +kernel
theorem dX11_layFits_119 : decode cX11_layFits 119 = .ok (.iaload, 1) := by decide +kernel
theorem dX11_layFits_120 : decode cX11_layFits 120 = .ok (.aload_n 0, 1) := by decide +kernel
theorem dX11_layFits_121 : decode cX11_layFits 121 = .ok (.getfield 74, 3) := by decide +kernel
theorem dX11_layFits_124 : decode cX11_layFits 124 = .ok (.iload 5, 2) := by decide +kernel
theorem dX11_layFits_126 : decode cX11_layFits 126 = .ok (.iaload, 1) := by decide +kernel
theorem dX11_layFits_127 : decode cX11_layFits 127 = .ok (.invokevirtual 273, 3) := by decide +kernel
theorem dX11_layFits_130 : decode cX11_layFits 130 = .ok (.aload_n 0, 1) := by decide +kernel
theorem dX11_layFits_131 : decode cX11_layFits 131 = .ok (.getfield 77, 3) := by decide +kernel
theorem dX11_layFits_134 : decode cX11_layFits 134 = .ok (.iload 5, 2) := by decide +kernel
theorem dX11_layFits_136 : decode cX11_layFits 136 = .ok (.baload, 1) := by decide +kernel
theorem dX11_layFits_137 : decode cX11_layFits 137 = .ok (.if_icmp .eq 7, 3) := by decide +kernel
theorem dX11_layFits_140 : decode cX11_layFits 140 = .ok (.iconst 1, 1) := by decide +kernel
theorem dX11_layFits_141 : decode cX11_layFits 141 = .ok (.goto 4, 3) := by decide +kernel
theorem dX11_layFits_144 : decode cX11_layFits 144 = .ok (.iconst 0, 1) := by decide +kernel
theorem dX11_layFits_145 : decode cX11_layFits 145 = .ok (.iadd, 1) := by decide +kernel
theorem dX11_layFits_146 : decode cX11_layFits 146 = .ok (.istore 4, 2) := by decide +kernel
theorem dX11_layFits_148 : decode cX11_layFits 148 = .ok (.iinc 5 1, 3) := by decide +kernel
theorem dX11_layFits_151 : decode cX11_layFits 151 = .ok (.goto (-96), 3) := by decide +kernel
theorem dX11_layFits_154 : decode cX11_layFits 154 = .ok (.iload_n 2, 1) := by decide +kernel
theorem dX11_layFits_155 : decode cX11_layFits 155 = .ok (.iload 4, 2) := by decide +kernel
theorem dX11_layFits_157 : decode cX11_layFits 157 = .ok (.iload_n 1, 1) := by decide +kernel
theorem dX11_layFits_158 : decode cX11_layFits 158 = .ok (.if_icmp .gt 7, 3) := by decide +kernel
theorem dX11_layFits_161 : decode cX11_layFits 161 = .ok (.iconst 1, 1) := by decide +kernel
theorem dX11_layFits_162 : decode cX11_layFits 162 = .ok (.goto 4, 3) := by decide +kernel
theorem dX11_layFits_165 : decode cX11_layFits 165 = .ok (.iconst 0, 1) := by decide +kernel
theorem dX11_layFits_166 : decode cX11_layFits 166 = .ok (.iadd, 1) := by decide +kernel
theorem dX11_layFits_167 : decode cX11_layFits 167 = .ok (.istore_n 2, 1) := by decide +kernel
theorem dX11_layFits_168 : decode cX11_layFits 168 = .ok (.iconst 0, 1) := by decide +kernel
theorem dX11_layFits_169 : decode cX11_layFits 169 = .ok (.istore 5, 2) := by decide +kernel
theorem dX11_layFits_171 : decode cX11_layFits 171 = .ok (.iload 5, 2) := by decide +kernel
theorem dX11_layFits_173 : decode cX11_layFits 173 = .ok (.aload_n 0, 1) := by decide +kernel
theorem dX11_layFits_174 : decode cX11_layFits 174 = .ok (.getfield 89, 3) := by decide +kernel
theorem dX11_layFits_177 : decode cX11_layFits 177 = .ok (.if_icmp .ge 34, 3) := by decide +kernel
theorem dX11_layFits_180 : decode cX11_layFits 180 = .ok (.iload 4, 2) := by decide +kernel
theorem dX11_layFits_182 : decode cX11_layFits 182 = .ok (.iload_n 1, 1) := by decide +kernel
theorem dX11_layFits_183 : decode cX11_layFits 183 = .ok (.if_icmp .gt 28, 3) := by decide +kernel
theorem dX11_layFits_186 : decode cX11_layFits 186 = .ok (.aload_n 0, 1) := by decide +kernel
theorem dX11_layFits_187 : decode cX11_layFits 187 = .ok (.getfield 80, 3) := by decide +kernel
theorem dX11_layFits_190 : decode cX11_layFits 190 = .ok (.aload_n 0, 1) := by decide +kernel
theorem dX11_layFits_191 : decode cX11_layFits 191 = .ok (.getfield 50, 3) := by decide +kernel
theorem dX11_layFits_194 : decode cX11_layFits 194 = .ok (.iload 5, 2) := by decide +kernel
theorem dX11_layFits_196 : decode cX11_layFits 196 = .ok (.iaload, 1) := by decide +kernel
theorem dX11_layFits_197 : decode cX11_layFits 197 = .ok (.dup2, 1) := by decide +kernel
theorem dX11_layFits_198 : decode cX11_layFits 198 = .ok (.iaload, 1) := by decide +kernel
theorem dX11_layFits_199 : decode cX11_layFits 199 = .ok (.iconst 1, 1) := by decide +kernel
theorem dX11_layFits_200 : decode cX11_layFits 200 = .ok (.iload 5, 2) := by decide +kernel
theorem dX11_layFits_202 : decode cX11_layFits 202 = .ok (.ishl, 1) := by decide +kernel
theorem dX11_layFits_203 : decode cX11_layFits 203 = .ok (.ior, 1) := by decide +kernel
theorem dX11_layFits_204 : decode cX11_layFits 204 = .ok (.iastore, 1) := by decide +kernel
theorem dX11_layFits_205 : decode cX11_layFits 205 = .ok (.iinc 5 1, 3) := by decide +kernel
theorem dX11_layFits_208 : decode cX11_layFits 208 = .ok (.goto (-37), 3) := by decide +kernel
theorem dX11_layFits_211 : decode cX11_layFits 211 = .ok (.aload_n 0, 1) := by decide +kernel
theorem dX11_layFits_212 : decode cX11_layFits 212 = .ok (.invokevirtual 204, 3) := by decide +kernel
theorem dX11_layFits_215 : decode cX11_layFits 215 = .ok (.istore_n 3, 1) := by decide +kernel
theorem dX11_layFits_216 : decode cX11_layFits 216 = .ok (.goto (-187), 3) := by decide +kernel
theorem dX11_layFits_219 : decode cX11_layFits 219 = .ok (.iload_n 2, 1) := by decide +kernel
theorem dX11_layFits_220 : decode cX11_layFits 220 = .ok (.ireturn, 1) := by decide +kernel
set_option maxRecDepth 20000 in
theorem ggX11_fits_X11_in : GoodIn wsX11_fits wsX11_in := goodIn_r _ [4] (by decide +kernel) (by decide +kernel)
set_option maxRecDepth 20000 in
theorem gX11_fits_X11_in : GoodIn wsX11_fits (va_wsS RX11 95 yX11_in wsX11_in) := goodIn_app (goodIn_of _ (by decide +kernel)) ggX11_fits_X11_in
set_option maxRecDepth 20000 in
theorem ggX11_fits_X11_layFits : GoodIn wsX11_fits wsX11_layFits := goodIn_r _ [8, 9, 10, 11, 12, 13, 14, 15, 16, 17, 18, 3, 19, 20, 21, 22, 23, 24, 25, 26, 27, 28, 29, 30, 31, 32, 33, 34, 35, 36, 37, 38, 39, 40, 41, 42, 43, 44, 45, 46, 47, 48, 49, 50, 1, 2, 4, 51, 52, 53, 54, 55, 56, 57, 58, 59, 60, 61, 62, 63, 64, 65, 66, 67, 68, 69, 70, 71, 72, 73, 74, 75, 76, 77, 78, 79, 80, 81, 82, 83, 84, 85, 86, 87, 88, 89, 90, 91, 92, 93, 94, 95, 96, 97, 98, 99, 100] (by decide +kernel) (by decide +kernel)
set_option maxRecDepth 20000 in
theorem gX11_fits_X11_layFits : GoodIn wsX11_fits (wsV RX11 276 RX11 yX11_layFits wsX11_layFits) := goodIn_app (goodIn_of _ (by decide +kernel)) ggX11_fits_X11_layFits
theorem dX11_fits_0 : decode cX11_fits 0 = .ok (.iload_n 1, 1) := by decide +kernel
theorem dX11_fits_1 : decode cX11_fits 1 = .ok (.i2l, 1) := by decide +kernel
theorem dX11_fits_2 : decode cX11_fits 2 = .ok (.lconst 0, 1) := by decide +kernel
theorem dX11_fits_3 : decode cX11_fits 3 = .ok (.lconst 1, 1) := by decide +kernel
theorem dX11_fits_4 : decode cX11_fits 4 = .ok (.invokestatic 95, 3) := by decide +kernel
theorem dX11_fits_7 : decode cX11_fits 7 = .ok (.ifCond .eq 11, 3) := by decide +kernel
theorem dX11_fits_10 : decode cX11_fits 10 = .ok (.aload_n 0, 1) := by decide +kernel
theorem dX11_fits_11 : decode cX11_fits 11 = .ok (.iload_n 1, 1) := by decide +kernel
theorem dX11_fits_12 : decode cX11_fits 12 = .ok (.invokevirtual 276, 3) := by decide +kernel
theorem dX11_fits_15 : decode cX11_fits 15 = .ok (.goto 5, 3) := by decide +kernel
theorem dX11_fits_18 : decode cX11_fits 18 = .ok (.bipush (-2), 2) := by decide +kernel
theorem dX11_fits_20 : decode cX11_fits 20 = .ok (.ireturn, 1) := by decide +kernel
set_option maxRecDepth 20000 in
theorem ggX11_sat_X11_isPerson : GoodIn wsX11_sat wsX11_isPerson := goodIn_r _ [6, 7, 8, 9, 5, 10, 59, 60, 61, 62, 63, 64, 65, 66, 67, 68, 69, 70, 71, 72, 73, 74, 75, 76, 77, 78, 79, 80, 81, 82, 83, 84, 85, 86, 87, 88, 89, 90, 91, 92, 93, 94, 95, 96, 97, 98, 99, 100] (by decide +kernel) (by decide +kernel)
set_option maxRecDepth 20000 in
theorem gX11_sat_X11_isPerson : GoodIn wsX11_sat (wsV RX11 190 RX11 yX11_isPerson wsX11_isPerson) := goodIn_app (goodIn_of _ (by decide +kernel)) ggX11_sat_X11_isPerson
set_option maxRecDepth 20000 in
theorem ggX11_sat_X11_in : GoodIn wsX11_sat wsX11_in := goodIn_r _ [10] (by decide +kernel) (by decide +kernel)
set_option maxRecDepth 20000 in
theorem gX11_sat_X11_in : GoodIn wsX11_sat (va_wsS RX11 95 yX11_in wsX11_in) := goodIn_app (goodIn_of _ (by decide +kernel)) ggX11_sat_X11_in
set_option maxRecDepth 20000 in
theorem ggX11_sat_X11_layFits : GoodIn wsX11_sat wsX11_layFits := goodIn_r _ [14, 1, 15, 16, 17, 18, 19, 7, 20, 21, 22, 5, 23, 24, 25, 26, 27, 28, 29, 30, 31, 32, 33, 34, 35, 36, 37, 38, 39, 40, 41, 42, 43, 44, 45, 46, 47, 48, 49, 50, 2, 3, 4, 6, 8, 9, 10, 51, 52, 53, 54, 55, 56, 57, 58, 59, 60, 61, 62, 63, 64, 65, 66, 67, 68, 69, 70, 71, 72, 73, 74, 75, 76, 77, 78, 79, 80, 81, 82, 83, 84, 85, 86, 87, 88, 89, 90, 91, 92, 93, 94, 95, 96, 97, 98, 99, 100] (by decide +kernel) (by decide +kernel)
set_option maxRecDepth 20000 in
theorem gX11_sat_X11_layFits : GoodIn wsX11_sat (wsV RX11 276 RX11 yX11_layFits wsX11_layFits) := goodIn_app (goodIn_of _ (by decide +kernel)) ggX11_sat_X11_layFits
theorem dX11_sat_0 : decode cX11_sat 0 = .ok (.aload_n 0, 1) := by decide +kernel
theorem dX11_sat_1 : decode cX11_sat 1 = .ok (.iload_n 1, 1) := by decide +kernel
theorem dX11_sat_2 : decode cX11_sat 2 = .ok (.invokevirtual 190, 3) := by decide +kernel
theorem dX11_sat_5 : decode cX11_sat 5 = .ok (.ifCond .ne 5, 3) := by decide +kernel
theorem dX11_sat_8 : decode cX11_sat 8 = .ok (.iconst (-1), 1) := by decide +kernel
theorem dX11_sat_9 : decode cX11_sat 9 = .ok (.ireturn, 1) := by decide +kernel
theorem dX11_sat_10 : decode cX11_sat 10 = .ok (.iload_n 2, 1) := by decide +kernel
theorem dX11_sat_11 : decode cX11_sat 11 = .ok (.i2l, 1) := by decide +kernel
theorem dX11_sat_12 : decode cX11_sat 12 = .ok (.lconst 0, 1) := by decide +kernel
theorem dX11_sat_13 : decode cX11_sat 13 = .ok (.lconst 1, 1) := by decide +kernel
theorem dX11_sat_14 : decode cX11_sat 14 = .ok (.invokestatic 95, 3) := by decide +kernel
theorem dX11_sat_17 : decode cX11_sat 17 = .ok (.ifCond .ne 6, 3) := by decide +kernel
theorem dX11_sat_20 : decode cX11_sat 20 = .ok (.bipush (-2), 2) := by decide +kernel
theorem dX11_sat_22 : decode cX11_sat 22 = .ok (.ireturn, 1) := by decide +kernel
theorem dX11_sat_23 : decode cX11_sat 23 = .ok (.aload_n 0, 1) := by decide +kernel
theorem dX11_sat_24 : decode cX11_sat 24 = .ok (.iload_n 2, 1) := by decide +kernel
theorem dX11_sat_25 : decode cX11_sat 25 = .ok (.invokevirtual 276, 3) := by decide +kernel
theorem dX11_sat_28 : decode cX11_sat 28 = .ok (.pop, 1) := by decide +kernel
theorem dX11_sat_29 : decode cX11_sat 29 = .ok (.aload_n 0, 1) := by decide +kernel
theorem dX11_sat_30 : decode cX11_sat 30 = .ok (.getfield 80, 3) := by decide +kernel
theorem dX11_sat_33 : decode cX11_sat 33 = .ok (.iload_n 1, 1) := by decide +kernel
theorem dX11_sat_34 : decode cX11_sat 34 = .ok (.iaload, 1) := by decide +kernel
theorem dX11_sat_35 : decode cX11_sat 35 = .ok (.ireturn, 1) := by decide +kernel
set_option maxRecDepth 20000 in
theorem ggX11_keep_X11_in : GoodIn wsX11_keep wsX11_in := goodIn_r _ [8] (by decide +kernel) (by decide +kernel)
set_option maxRecDepth 20000 in
theorem gX11_keep_X11_in : GoodIn wsX11_keep (va_wsS RX11 95 yX11_in wsX11_in) := goodIn_app (goodIn_of _ (by decide +kernel)) ggX11_keep_X11_in
set_option maxRecDepth 20000 in
theorem ggX11_keep_X11_isLawful : GoodIn wsX11_keep wsX11_isLawful := goodIn_r _ [12, 13, 14, 15, 7, 16, 17, 18, 19, 20, 21, 22, 23, 24, 25, 26, 27, 28, 29, 30, 31, 32, 33, 34, 35, 36, 37, 38, 39, 40, 41, 42, 43, 44, 45, 46, 47, 48, 49, 50, 51, 52, 53, 54, 55, 56, 57, 58, 59, 60, 61, 62, 63, 64, 65, 66, 67, 68, 69, 70, 71, 72, 73, 74, 75, 76, 77, 78] (by decide +kernel) (by decide +kernel)
set_option maxRecDepth 20000 in
theorem gX11_keep_X11_isLawful : GoodIn wsX11_keep (wsV RX11 200 RX11 yX11_isLawful wsX11_isLawful) := goodIn_app (goodIn_of _ (by decide +kernel)) ggX11_keep_X11_isLawful
theorem dX11_keep_0 : decode cX11_keep 0 = .ok (.iload_n 1, 1) := by decide +kernel
theorem dX11_keep_1 : decode cX11_keep 1 = .ok (.i2l, 1) := by decide +kernel
theorem dX11_keep_2 : decode cX11_keep 2 = .ok (.lconst 0, 1) := by decide +kernel
theorem dX11_keep_3 : decode cX11_keep 3 = .ok (.lconst 1, 1) := by decide +kernel
theorem dX11_keep_4 : decode cX11_keep 4 = .ok (.invokestatic 95, 3) := by decide +kernel
theorem dX11_keep_7 : decode cX11_keep 7 = .ok (.ifCond .ne 5, 3) := by decide +kernel
theorem dX11_keep_10 : decode cX11_keep 10 = .ok (.iconst (-1), 1) := by decide +kernel
theorem dX11_keep_11 : decode cX11_keep 11 = .ok (.ireturn, 1) := by decide +kernel
theorem dX11_keep_12 : decode cX11_keep 12 = .ok (.aload_n 0, 1) := by decide +kernel
theorem dX11_keep_13 : decode cX11_keep 13 = .ok (.getfield 83, 3) := by decide +kernel
theorem dX11_keep_16 : decode cX11_keep 16 = .ok (.iload_n 1, 1) := by decide +kernel
theorem dX11_keep_17 : decode cX11_keep 17 = .ok (.iconst 1, 1) := by decide +kernel
theorem dX11_keep_18 : decode cX11_keep 18 = .ok (.bastore, 1) := by decide +kernel
theorem dX11_keep_19 : decode cX11_keep 19 = .ok (.iconst 0, 1) := by decide +kernel
theorem dX11_keep_20 : decode cX11_keep 20 = .ok (.istore_n 2, 1) := by decide +kernel
theorem dX11_keep_21 : decode cX11_keep 21 = .ok (.iload_n 2, 1) := by decide +kernel
theorem dX11_keep_22 : decode cX11_keep 22 = .ok (.bipush 7, 2) := by decide +kernel
theorem dX11_keep_24 : decode cX11_keep 24 = .ok (.if_icmp .ge 26, 3) := by decide +kernel
theorem dX11_keep_27 : decode cX11_keep 27 = .ok (.aload_n 0, 1) := by decide +kernel
theorem dX11_keep_28 : decode cX11_keep 28 = .ok (.getfield 86, 3) := by decide +kernel
theorem dX11_keep_31 : decode cX11_keep 31 = .ok (.bipush 56, 2) := by decide +kernel
theorem dX11_keep_33 : decode cX11_keep 33 = .ok (.iload_n 1, 1) := by decide +kernel
theorem dX11_keep_34 : decode cX11_keep 34 = .ok (.imul, 1) := by decide +kernel
theorem dX11_keep_35 : decode cX11_keep 35 = .ok (.iload_n 2, 1) := by decide +kernel
theorem dX11_keep_36 : decode cX11_keep 36 = .ok (.iadd, 1) := by decide +kernel
theorem dX11_keep_37 : decode cX11_keep 37 = .ok (.aload_n 0, 1) := by decide +kernel
theorem dX11_keep_38 : decode cX11_keep 38 = .ok (.getfield 41, 3) := by decide +kernel
theorem dX11_keep_41 : decode cX11_keep 41 = .ok (.iload_n 2, 1) := by decide +kernel
theorem dX11_keep_42 : decode cX11_keep 42 = .ok (.iaload, 1) := by decide +kernel
theorem dX11_keep_43 : decode cX11_keep 43 = .ok (.iastore, 1) := by decide +kernel
theorem dX11_keep_44 : decode cX11_keep 44 = .ok (.iinc 2 1, 3) := by decide +kernel
theorem dX11_keep_47 : decode cX11_keep 47 = .ok (.goto (-26), 3) := by decide +kernel
theorem dX11_keep_50 : decode cX11_keep 50 = .ok (.iconst 0, 1) := by decide +kernel
theorem dX11_keep_51 : decode cX11_keep 51 = .ok (.istore_n 2, 1) := by decide +kernel
theorem dX11_keep_52 : decode cX11_keep 52 = .ok (.iload_n 2, 1) := by decide +kernel
theorem dX11_keep_53 : decode cX11_keep 53 = .ok (.bipush 49, 2) := by decide +kernel
theorem dX11_keep_55 : decode cX11_keep 55 = .ok (.if_icmp .ge 29, 3) := by decide +kernel
theorem dX11_keep_58 : decode cX11_keep 58 = .ok (.aload_n 0, 1) := by decide +kernel
theorem dX11_keep_59 : decode cX11_keep 59 = .ok (.getfield 86, 3) := by decide +kernel
theorem dX11_keep_62 : decode cX11_keep 62 = .ok (.bipush 56, 2) := by decide +kernel
theorem dX11_keep_64 : decode cX11_keep 64 = .ok (.iload_n 1, 1) := by decide +kernel
theorem dX11_keep_65 : decode cX11_keep 65 = .ok (.imul, 1) := by decide +kernel
theorem dX11_keep_66 : decode cX11_keep 66 = .ok (.bipush 7, 2) := by decide +kernel
theorem dX11_keep_68 : decode cX11_keep 68 = .ok (.iadd, 1) := by decide +kernel
theorem dX11_keep_69 : decode cX11_keep 69 = .ok (.iload_n 2, 1) := by decide +kernel
theorem dX11_keep_70 : decode cX11_keep 70 = .ok (.iadd, 1) := by decide +kernel
theorem dX11_keep_71 : decode cX11_keep 71 = .ok (.aload_n 0, 1) := by decide +kernel
theorem dX11_keep_72 : decode cX11_keep 72 = .ok (.getfield 44, 3) := by decide +kernel
theorem dX11_keep_75 : decode cX11_keep 75 = .ok (.iload_n 2, 1) := by decide +kernel
theorem dX11_keep_76 : decode cX11_keep 76 = .ok (.iaload, 1) := by decide +kernel
theorem dX11_keep_77 : decode cX11_keep 77 = .ok (.iastore, 1) := by decide +kernel
theorem dX11_keep_78 : decode cX11_keep 78 = .ok (.iinc 2 1, 3) := by decide +kernel
theorem dX11_keep_81 : decode cX11_keep 81 = .ok (.goto (-29), 3) := by decide +kernel
theorem dX11_keep_84 : decode cX11_keep 84 = .ok (.aload_n 0, 1) := by decide +kernel
theorem dX11_keep_85 : decode cX11_keep 85 = .ok (.aload_n 0, 1) := by decide +kernel
theorem dX11_keep_86 : decode cX11_keep 86 = .ok (.getfield 41, 3) := by decide +kernel
theorem dX11_keep_89 : decode cX11_keep 89 = .ok (.invokevirtual 200, 3) := by decide +kernel
theorem dX11_keep_92 : decode cX11_keep 92 = .ok (.ifCond .eq 7, 3) := by decide +kernel
theorem dX11_keep_95 : decode cX11_keep 95 = .ok (.iconst 1, 1) := by decide +kernel
theorem dX11_keep_96 : decode cX11_keep 96 = .ok (.goto 4, 3) := by decide +kernel
theorem dX11_keep_99 : decode cX11_keep 99 = .ok (.iconst 0, 1) := by decide +kernel
theorem dX11_keep_100 : decode cX11_keep 100 = .ok (.ireturn, 1) := by decide +kernel
set_option maxRecDepth 20000 in
theorem ggX11_again_X11_in : GoodIn wsX11_again wsX11_in := goodIn_r _ [9] (by decide +kernel) (by decide +kernel)
set_option maxRecDepth 20000 in
theorem gX11_again_X11_in : GoodIn wsX11_again (va_wsS RX11 95 yX11_in wsX11_in) := goodIn_app (goodIn_of _ (by decide +kernel)) ggX11_again_X11_in
set_option maxRecDepth 20000 in
theorem ggX11_again_X11_isLawful : GoodIn wsX11_again wsX11_isLawful := goodIn_r _ [13, 14, 15, 16, 8, 17, 18, 19, 20, 21, 22, 23, 24, 25, 26, 27, 28, 29, 30, 31, 32, 33, 34, 35, 36, 37, 38, 39, 40, 41, 42, 43, 44, 45, 46, 47, 48, 49, 50, 51, 52, 53, 54, 55, 56, 57, 58, 59, 60, 61, 62, 63, 64, 65, 66, 67, 68, 69, 70, 71, 72, 73, 74, 75, 76, 77, 78, 79] (by decide +kernel) (by decide +kernel)
set_option maxRecDepth 20000 in
theorem gX11_again_X11_isLawful : GoodIn wsX11_again (wsV RX11 200 RX11 yX11_isLawful wsX11_isLawful) := goodIn_app (goodIn_of _ (by decide +kernel)) ggX11_again_X11_isLawful
theorem dX11_again_0 : decode cX11_again 0 = .ok (.iload_n 1, 1) := by decide +kernel
theorem dX11_again_1 : decode cX11_again 1 = .ok (.i2l, 1) := by decide +kernel
theorem dX11_again_2 : decode cX11_again 2 = .ok (.lconst 0, 1) := by decide +kernel
theorem dX11_again_3 : decode cX11_again 3 = .ok (.lconst 1, 1) := by decide +kernel
theorem dX11_again_4 : decode cX11_again 4 = .ok (.invokestatic 95, 3) := by decide +kernel
theorem dX11_again_7 : decode cX11_again 7 = .ok (.ifCond .ne 5, 3) := by decide +kernel
theorem dX11_again_10 : decode cX11_again 10 = .ok (.iconst (-1), 1) := by decide +kernel
theorem dX11_again_11 : decode cX11_again 11 = .ok (.ireturn, 1) := by decide +kernel
theorem dX11_again_12 : decode cX11_again 12 = .ok (.aload_n 0, 1) := by decide +kernel
theorem dX11_again_13 : decode cX11_again 13 = .ok (.getfield 83, 3) := by decide +kernel
theorem dX11_again_16 : decode cX11_again 16 = .ok (.iload_n 1, 1) := by decide +kernel
theorem dX11_again_17 : decode cX11_again 17 = .ok (.baload, 1) := by decide +kernel
theorem dX11_again_18 : decode cX11_again 18 = .ok (.ifCond .ne 6, 3) := by decide +kernel
theorem dX11_again_21 : decode cX11_again 21 = .ok (.bipush (-3), 2) := by decide +kernel
theorem dX11_again_23 : decode cX11_again 23 = .ok (.ireturn, 1) := by decide +kernel
theorem dX11_again_24 : decode cX11_again 24 = .ok (.iconst 0, 1) := by decide +kernel
theorem dX11_again_25 : decode cX11_again 25 = .ok (.istore_n 2, 1) := by decide +kernel
theorem dX11_again_26 : decode cX11_again 26 = .ok (.iload_n 2, 1) := by decide +kernel
theorem dX11_again_27 : decode cX11_again 27 = .ok (.bipush 7, 2) := by decide +kernel
theorem dX11_again_29 : decode cX11_again 29 = .ok (.if_icmp .ge 26, 3) := by decide +kernel
theorem dX11_again_32 : decode cX11_again 32 = .ok (.aload_n 0, 1) := by decide +kernel
theorem dX11_again_33 : decode cX11_again 33 = .ok (.getfield 41, 3) := by decide +kernel
theorem dX11_again_36 : decode cX11_again 36 = .ok (.iload_n 2, 1) := by decide +kernel
theorem dX11_again_37 : decode cX11_again 37 = .ok (.aload_n 0, 1) := by decide +kernel
theorem dX11_again_38 : decode cX11_again 38 = .ok (.getfield 86, 3) := by decide +kernel
theorem dX11_again_41 : decode cX11_again 41 = .ok (.bipush 56, 2) := by decide +kernel
theorem dX11_again_43 : decode cX11_again 43 = .ok (.iload_n 1, 1) := by decide +kernel
theorem dX11_again_44 : decode cX11_again 44 = .ok (.imul, 1) := by decide +kernel
theorem dX11_again_45 : decode cX11_again 45 = .ok (.iload_n 2, 1) := by decide +kernel
theorem dX11_again_46 : decode cX11_again 46 = .ok (.iadd, 1) := by decide +kernel
theorem dX11_again_47 : decode cX11_again 47 = .ok (.iaload, 1) := by decide +kernel
theorem dX11_again_48 : decode cX11_again 48 = .ok (.iastore, 1) := by decide +kernel
theorem dX11_again_49 : decode cX11_again 49 = .ok (.iinc 2 1, 3) := by decide +kernel
theorem dX11_again_52 : decode cX11_again 52 = .ok (.goto (-26), 3) := by decide +kernel
theorem dX11_again_55 : decode cX11_again 55 = .ok (.iconst 0, 1) := by decide +kernel
theorem dX11_again_56 : decode cX11_again 56 = .ok (.istore_n 2, 1) := by decide +kernel
theorem dX11_again_57 : decode cX11_again 57 = .ok (.iload_n 2, 1) := by decide +kernel
theorem dX11_again_58 : decode cX11_again 58 = .ok (.bipush 49, 2) := by decide +kernel
theorem dX11_again_60 : decode cX11_again 60 = .ok (.if_icmp .ge 29, 3) := by decide +kernel
theorem dX11_again_63 : decode cX11_again 63 = .ok (.aload_n 0, 1) := by decide +kernel
theorem dX11_again_64 : decode cX11_again 64 = .ok (.getfield 44, 3) := by decide +kernel
theorem dX11_again_67 : decode cX11_again 67 = .ok (.iload_n 2, 1) := by decide +kernel
theorem dX11_again_68 : decode cX11_again 68 = .ok (.aload_n 0, 1) := by decide +kernel
theorem dX11_again_69 : decode cX11_again 69 = .ok (.getfield 86, 3) := by decide +kernel
theorem dX11_again_72 : decode cX11_again 72 = .ok (.bipush 56, 2) := by decide +kernel
theorem dX11_again_74 : decode cX11_again 74 = .ok (.iload_n 1, 1) := by decide +kernel
theorem dX11_again_75 : decode cX11_again 75 = .ok (.imul, 1) := by decide +kernel
theorem dX11_again_76 : decode cX11_again 76 = .ok (.bipush 7, 2) := by decide +kernel
theorem dX11_again_78 : decode cX11_again 78 = .ok (.iadd, 1) := by decide +kernel
theorem dX11_again_79 : decode cX11_again 79 = .ok (.iload_n 2, 1) := by decide +kernel
theorem dX11_again_80 : decode cX11_again 80 = .ok (.iadd, 1) := by decide +kernel
theorem dX11_again_81 : decode cX11_again 81 = .ok (.iaload, 1) := by decide +kernel
theorem dX11_again_82 : decode cX11_again 82 = .ok (.iastore, 1) := by decide +kernel
theorem dX11_again_83 : decode cX11_again 83 = .ok (.iinc 2 1, 3) := by decide +kernel
theorem dX11_again_86 : decode cX11_again 86 = .ok (.goto (-29), 3) := by decide +kernel
theorem dX11_again_89 : decode cX11_again 89 = .ok (.aload_n 0, 1) := by decide +kernel
theorem dX11_again_90 : decode cX11_again 90 = .ok (.iconst 0, 1) := by decide +kernel
theorem dX11_again_91 : decode cX11_again 91 = .ok (.putfield 169, 3) := by decide +kernel
theorem dX11_again_94 : decode cX11_again 94 = .ok (.aload_n 0, 1) := by decide +kernel
theorem dX11_again_95 : decode cX11_again 95 = .ok (.aload_n 0, 1) := by decide +kernel
theorem dX11_again_96 : decode cX11_again 96 = .ok (.getfield 41, 3) := by decide +kernel
theorem dX11_again_99 : decode cX11_again 99 = .ok (.invokevirtual 200, 3) := by decide +kernel
theorem dX11_again_102 : decode cX11_again 102 = .ok (.ifCond .eq 7, 3) := by decide +kernel
theorem dX11_again_105 : decode cX11_again 105 = .ok (.iconst 1, 1) := by decide +kernel
theorem dX11_again_106 : decode cX11_again 106 = .ok (.goto 4, 3) := by decide +kernel
theorem dX11_again_109 : decode cX11_again 109 = .ok (.iconst 0, 1) := by decide +kernel
theorem dX11_again_110 : decode cX11_again 110 = .ok (.ireturn, 1) := by decide +kernel
set_option maxRecDepth 20000 in
theorem ggX11_count_X11_men : GoodIn wsX11_count wsX11_men := goodIn_r _ [13, 2, 14, 38, 39, 40, 41, 42, 43, 44, 45, 46, 47, 48, 49, 50, 51, 52, 53, 54, 55, 56, 57, 58, 59, 60, 61, 62, 63, 64, 65, 66, 67, 68, 69, 70, 71, 72, 73, 74, 75, 76, 77, 78, 79] (by decide +kernel) (by decide +kernel)
set_option maxRecDepth 20000 in
theorem gX11_count_X11_men : GoodIn wsX11_count (wsV RX11 244 RX11 yX11_men wsX11_men) := goodIn_app (goodIn_of _ (by decide +kernel)) ggX11_count_X11_men
set_option maxRecDepth 20000 in
theorem ggX11_count_X11_isLawful : GoodIn wsX11_count wsX11_isLawful := goodIn_r _ [18, 19, 20, 21, 12, 22, 2, 23, 24, 25, 26, 27, 28, 29, 30, 31, 3, 32, 33, 34, 35, 36, 5, 37, 4, 14, 38, 39, 40, 41, 42, 43, 44, 45, 46, 47, 48, 49, 50, 51, 52, 53, 54, 55, 56, 57, 58, 59, 60, 61, 62, 63, 64, 65, 66, 67, 68, 69, 70, 71, 72, 73, 74, 75, 76, 77, 78, 79] (by decide +kernel) (by decide +kernel)
set_option maxRecDepth 20000 in
theorem gX11_count_X11_isLawful : GoodIn wsX11_count (wsV RX11 200 RX11 yX11_isLawful wsX11_isLawful) := goodIn_app (goodIn_of _ (by decide +kernel)) ggX11_count_X11_isLawful
theorem dX11_count_0 : decode cX11_count 0 = .ok (.iload_n 1, 1) := by decide +kernel
theorem dX11_count_1 : decode cX11_count 1 = .ok (.tableswitch 137 0 8 #[51, 56, 61, 71, 84, 97, 110, 115, 120], 51) := by decide +kernel
theorem dX11_count_52 : decode cX11_count 52 = .ok (.aload_n 0, 1) := by decide +kernel
theorem dX11_count_53 : decode cX11_count 53 = .ok (.getfield 99, 3) := by decide +kernel
theorem dX11_count_56 : decode cX11_count 56 = .ok (.ireturn, 1) := by decide +kernel
theorem dX11_count_57 : decode cX11_count 57 = .ok (.aload_n 0, 1) := by decide +kernel
theorem dX11_count_58 : decode cX11_count 58 = .ok (.getfield 89, 3) := by decide +kernel
theorem dX11_count_61 : decode cX11_count 61 = .ok (.ireturn, 1) := by decide +kernel
theorem dX11_count_62 : decode cX11_count 62 = .ok (.aload_n 0, 1) := by decide +kernel
theorem dX11_count_63 : decode cX11_count 63 = .ok (.getfield 89, 3) := by decide +kernel
theorem dX11_count_66 : decode cX11_count 66 = .ok (.aload_n 0, 1) := by decide +kernel
theorem dX11_count_67 : decode cX11_count 67 = .ok (.invokevirtual 244, 3) := by decide +kernel
theorem dX11_count_70 : decode cX11_count 70 = .ok (.isub, 1) := by decide +kernel
theorem dX11_count_71 : decode cX11_count 71 = .ok (.ireturn, 1) := by decide +kernel
theorem dX11_count_72 : decode cX11_count 72 = .ok (.aload_n 0, 1) := by decide +kernel
theorem dX11_count_73 : decode cX11_count 73 = .ok (.getfield 160, 3) := by decide +kernel
theorem dX11_count_76 : decode cX11_count 76 = .ok (.ifCond .eq 7, 3) := by decide +kernel
theorem dX11_count_79 : decode cX11_count 79 = .ok (.iconst 1, 1) := by decide +kernel
theorem dX11_count_80 : decode cX11_count 80 = .ok (.goto 4, 3) := by decide +kernel
theorem dX11_count_83 : decode cX11_count 83 = .ok (.iconst 0, 1) := by decide +kernel
theorem dX11_count_84 : decode cX11_count 84 = .ok (.ireturn, 1) := by decide +kernel
theorem dX11_count_85 : decode cX11_count 85 = .ok (.aload_n 0, 1) := by decide +kernel
theorem dX11_count_86 : decode cX11_count 86 = .ok (.getfield 163, 3) := by decide +kernel
theorem dX11_count_89 : decode cX11_count 89 = .ok (.ifCond .eq 7, 3) := by decide +kernel
theorem dX11_count_92 : decode cX11_count 92 = .ok (.iconst 1, 1) := by decide +kernel
theorem dX11_count_93 : decode cX11_count 93 = .ok (.goto 4, 3) := by decide +kernel
theorem dX11_count_96 : decode cX11_count 96 = .ok (.iconst 0, 1) := by decide +kernel
theorem dX11_count_97 : decode cX11_count 97 = .ok (.ireturn, 1) := by decide +kernel
theorem dX11_count_98 : decode cX11_count 98 = .ok (.aload_n 0, 1) := by decide +kernel
theorem dX11_count_99 : decode cX11_count 99 = .ok (.getfield 166, 3) := by decide +kernel
theorem dX11_count_102 : decode cX11_count 102 = .ok (.ifCond .eq 7, 3) := by decide +kernel
theorem dX11_count_105 : decode cX11_count 105 = .ok (.iconst 1, 1) := by decide +kernel
theorem dX11_count_106 : decode cX11_count 106 = .ok (.goto 4, 3) := by decide +kernel
theorem dX11_count_109 : decode cX11_count 109 = .ok (.iconst 0, 1) := by decide +kernel
theorem dX11_count_110 : decode cX11_count 110 = .ok (.ireturn, 1) := by decide +kernel
theorem dX11_count_111 : decode cX11_count 111 = .ok (.aload_n 0, 1) := by decide +kernel
theorem dX11_count_112 : decode cX11_count 112 = .ok (.getfield 169, 3) := by decide +kernel
theorem dX11_count_115 : decode cX11_count 115 = .ok (.ireturn, 1) := by decide +kernel
theorem dX11_count_116 : decode cX11_count 116 = .ok (.aload_n 0, 1) := by decide +kernel
theorem dX11_count_117 : decode cX11_count 117 = .ok (.getfield 270, 3) := by decide +kernel
theorem dX11_count_120 : decode cX11_count 120 = .ok (.ireturn, 1) := by decide +kernel
theorem dX11_count_121 : decode cX11_count 121 = .ok (.aload_n 0, 1) := by decide +kernel
theorem dX11_count_122 : decode cX11_count 122 = .ok (.aload_n 0, 1) := by decide +kernel
theorem dX11_count_123 : decode cX11_count 123 = .ok (.getfield 41, 3) := by decide +kernel
theorem dX11_count_126 : decode cX11_count 126 = .ok (.invokevirtual 200, 3) := by decide +kernel
theorem dX11_count_129 : decode cX11_count 129 = .ok (.ifCond .eq 7, 3) := by decide +kernel
theorem dX11_count_132 : decode cX11_count 132 = .ok (.iconst 1, 1) := by decide +kernel
theorem dX11_count_133 : decode cX11_count 133 = .ok (.goto 4, 3) := by decide +kernel
theorem dX11_count_136 : decode cX11_count 136 = .ok (.iconst 0, 1) := by decide +kernel
theorem dX11_count_137 : decode cX11_count 137 = .ok (.ireturn, 1) := by decide +kernel
theorem dX11_count_138 : decode cX11_count 138 = .ok (.bipush (-2), 2) := by decide +kernel
theorem dX11_count_140 : decode cX11_count 140 = .ok (.ireturn, 1) := by decide +kernel
theorem dJ6_bitCount_0f7a4_0 : decode cJ6_bitCount_0f7a4 0 = .ok (.iload_n 0, 1) := by decide +kernel
theorem dJ6_bitCount_0f7a4_1 : decode cJ6_bitCount_0f7a4 1 = .ok (.iload_n 0, 1) := by decide +kernel
theorem dJ6_bitCount_0f7a4_2 : decode cJ6_bitCount_0f7a4 2 = .ok (.iconst 1, 1) := by decide +kernel
theorem dJ6_bitCount_0f7a4_3 : decode cJ6_bitCount_0f7a4 3 = .ok (.iushr, 1) := by decide +kernel
theorem dJ6_bitCount_0f7a4_4 : decode cJ6_bitCount_0f7a4 4 = .ok (.ldc_w 265, 3) := by decide +kernel
theorem dJ6_bitCount_0f7a4_7 : decode cJ6_bitCount_0f7a4 7 = .ok (.iand, 1) := by decide +kernel
theorem dJ6_bitCount_0f7a4_8 : decode cJ6_bitCount_0f7a4 8 = .ok (.isub, 1) := by decide +kernel
theorem dJ6_bitCount_0f7a4_9 : decode cJ6_bitCount_0f7a4 9 = .ok (.istore_n 0, 1) := by decide +kernel
theorem dJ6_bitCount_0f7a4_10 : decode cJ6_bitCount_0f7a4 10 = .ok (.iload_n 0, 1) := by decide +kernel
theorem dJ6_bitCount_0f7a4_11 : decode cJ6_bitCount_0f7a4 11 = .ok (.ldc_w 266, 3) := by decide +kernel
theorem dJ6_bitCount_0f7a4_14 : decode cJ6_bitCount_0f7a4 14 = .ok (.iand, 1) := by decide +kernel
theorem dJ6_bitCount_0f7a4_15 : decode cJ6_bitCount_0f7a4 15 = .ok (.iload_n 0, 1) := by decide +kernel
theorem dJ6_bitCount_0f7a4_16 : decode cJ6_bitCount_0f7a4 16 = .ok (.iconst 2, 1) := by decide +kernel
theorem dJ6_bitCount_0f7a4_17 : decode cJ6_bitCount_0f7a4 17 = .ok (.iushr, 1) := by decide +kernel
theorem dJ6_bitCount_0f7a4_18 : decode cJ6_bitCount_0f7a4 18 = .ok (.ldc_w 266, 3) := by decide +kernel
theorem dJ6_bitCount_0f7a4_21 : decode cJ6_bitCount_0f7a4 21 = .ok (.iand, 1) := by decide +kernel
theorem dJ6_bitCount_0f7a4_22 : decode cJ6_bitCount_0f7a4 22 = .ok (.iadd, 1) := by decide +kernel
theorem dJ6_bitCount_0f7a4_23 : decode cJ6_bitCount_0f7a4 23 = .ok (.istore_n 0, 1) := by decide +kernel
theorem dJ6_bitCount_0f7a4_24 : decode cJ6_bitCount_0f7a4 24 = .ok (.iload_n 0, 1) := by decide +kernel
theorem dJ6_bitCount_0f7a4_25 : decode cJ6_bitCount_0f7a4 25 = .ok (.iload_n 0, 1) := by decide +kernel
theorem dJ6_bitCount_0f7a4_26 : decode cJ6_bitCount_0f7a4 26 = .ok (.iconst 4, 1) := by decide +kernel
theorem dJ6_bitCount_0f7a4_27 : decode cJ6_bitCount_0f7a4 27 = .ok (.iushr, 1) := by decide +kernel
theorem dJ6_bitCount_0f7a4_28 : decode cJ6_bitCount_0f7a4 28 = .ok (.iadd, 1) := by decide +kernel
theorem dJ6_bitCount_0f7a4_29 : decode cJ6_bitCount_0f7a4 29 = .ok (.ldc_w 267, 3) := by decide +kernel
theorem dJ6_bitCount_0f7a4_32 : decode cJ6_bitCount_0f7a4 32 = .ok (.iand, 1) := by decide +kernel
theorem dJ6_bitCount_0f7a4_33 : decode cJ6_bitCount_0f7a4 33 = .ok (.istore_n 0, 1) := by decide +kernel
theorem dJ6_bitCount_0f7a4_34 : decode cJ6_bitCount_0f7a4 34 = .ok (.iload_n 0, 1) := by decide +kernel
theorem dJ6_bitCount_0f7a4_35 : decode cJ6_bitCount_0f7a4 35 = .ok (.iload_n 0, 1) := by decide +kernel
theorem dJ6_bitCount_0f7a4_36 : decode cJ6_bitCount_0f7a4 36 = .ok (.bipush 8, 2) := by decide +kernel
theorem dJ6_bitCount_0f7a4_38 : decode cJ6_bitCount_0f7a4 38 = .ok (.iushr, 1) := by decide +kernel
theorem dJ6_bitCount_0f7a4_39 : decode cJ6_bitCount_0f7a4 39 = .ok (.iadd, 1) := by decide +kernel
theorem dJ6_bitCount_0f7a4_40 : decode cJ6_bitCount_0f7a4 40 = .ok (.istore_n 0, 1) := by decide +kernel
theorem dJ6_bitCount_0f7a4_41 : decode cJ6_bitCount_0f7a4 41 = .ok (.iload_n 0, 1) := by decide +kernel
theorem dJ6_bitCount_0f7a4_42 : decode cJ6_bitCount_0f7a4 42 = .ok (.iload_n 0, 1) := by decide +kernel
theorem dJ6_bitCount_0f7a4_43 : decode cJ6_bitCount_0f7a4 43 = .ok (.bipush 16, 2) := by decide +kernel
theorem dJ6_bitCount_0f7a4_45 : decode cJ6_bitCount_0f7a4 45 = .ok (.iushr, 1) := by decide +kernel
theorem dJ6_bitCount_0f7a4_46 : decode cJ6_bitCount_0f7a4 46 = .ok (.iadd, 1) := by decide +kernel
theorem dJ6_bitCount_0f7a4_47 : decode cJ6_bitCount_0f7a4 47 = .ok (.istore_n 0, 1) := by decide +kernel
theorem dJ6_bitCount_0f7a4_48 : decode cJ6_bitCount_0f7a4 48 = .ok (.iload_n 0, 1) := by decide +kernel
theorem dJ6_bitCount_0f7a4_49 : decode cJ6_bitCount_0f7a4 49 = .ok (.bipush 63, 2) := by decide +kernel
theorem dJ6_bitCount_0f7a4_51 : decode cJ6_bitCount_0f7a4 51 = .ok (.iand, 1) := by decide +kernel
theorem dJ6_bitCount_0f7a4_52 : decode cJ6_bitCount_0f7a4 52 = .ok (.ireturn, 1) := by decide +kernel
theorem dJ9_max_7cf53_0 : decode cJ9_max_7cf53 0 = .ok (.iload_n 0, 1) := by decide +kernel
theorem dJ9_max_7cf53_1 : decode cJ9_max_7cf53 1 = .ok (.iload_n 1, 1) := by decide +kernel
theorem dJ9_max_7cf53_2 : decode cJ9_max_7cf53 2 = .ok (.if_icmp .lt 7, 3) := by decide +kernel
theorem dJ9_max_7cf53_5 : decode cJ9_max_7cf53 5 = .ok (.iload_n 0, 1) := by decide +kernel
theorem dJ9_max_7cf53_6 : decode cJ9_max_7cf53 6 = .ok (.goto 4, 3) := by decide +kernel
theorem dJ9_max_7cf53_9 : decode cJ9_max_7cf53 9 = .ok (.iload_n 1, 1) := by decide +kernel
theorem dJ9_max_7cf53_10 : decode cJ9_max_7cf53 10 = .ok (.ireturn, 1) := by decide +kernel
abbrev vwCl : List vw_C := [(RX0, TX0, 3), (RX1, TX1, 4), (RX2, TX2, 3), (RX4, TX4, 10), (RX5, TX5, 4), (RX6, TX6, 3), (RX8, TX8, 3), (RX9, TX9, 2), (RX10, TX10, 12), (RX11, TX11, 42)]

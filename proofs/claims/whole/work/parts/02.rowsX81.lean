theorem dX8_purses_12 : decode cX8_purses 12 = .ok (.invokestatic 64, 3) := by decide +kernel
theorem dX8_purses_15 : decode cX8_purses 15 = .ok (.ifCond .eq 19, 3) := by decide +kernel
theorem dX8_purses_18 : decode cX8_purses 18 = .ok (.iload 4, 2) := by decide +kernel
theorem dX8_purses_20 : decode cX8_purses 20 = .ok (.invokestatic 252, 3) := by decide +kernel
theorem dX8_purses_23 : decode cX8_purses 23 = .ok (.ifCond .eq 11, 3) := by decide +kernel
theorem dX8_purses_26 : decode cX8_purses 26 = .ok (.iload 5, 2) := by decide +kernel
theorem dX8_purses_28 : decode cX8_purses 28 = .ok (.invokestatic 222, 3) := by decide +kernel
theorem dX8_purses_31 : decode cX8_purses 31 = .ok (.ifCond .ne 6, 3) := by decide +kernel
theorem dX8_purses_34 : decode cX8_purses 34 = .ok (.ldc 68, 2) := by decide +kernel
theorem dX8_purses_36 : decode cX8_purses 36 = .ok (.ireturn, 1) := by decide +kernel
theorem dX8_purses_37 : decode cX8_purses 37 = .ok (.aload_n 0, 1) := by decide +kernel
theorem dX8_purses_38 : decode cX8_purses 38 = .ok (.getfield 12, 3) := by decide +kernel
theorem dX8_purses_41 : decode cX8_purses 41 = .ok (.iload_n 2, 1) := by decide +kernel
theorem dX8_purses_42 : decode cX8_purses 42 = .ok (.invokevirtual 80, 3) := by decide +kernel
theorem dX8_purses_45 : decode cX8_purses 45 = .ok (.ifCond .eq 9, 3) := by decide +kernel
theorem dX8_purses_48 : decode cX8_purses 48 = .ok (.aload_n 0, 1) := by decide +kernel
theorem dX8_purses_49 : decode cX8_purses 49 = .ok (.iconst 1, 1) := by decide +kernel
theorem dX8_purses_50 : decode cX8_purses 50 = .ok (.invokevirtual 69, 3) := by decide +kernel
theorem dX8_purses_53 : decode cX8_purses 53 = .ok (.ireturn, 1) := by decide +kernel
theorem dX8_purses_54 : decode cX8_purses 54 = .ok (.aload_n 0, 1) := by decide +kernel
theorem dX8_purses_55 : decode cX8_purses 55 = .ok (.getfield 12, 3) := by decide +kernel
theorem dX8_purses_58 : decode cX8_purses 58 = .ok (.iload_n 2, 1) := by decide +kernel
theorem dX8_purses_59 : decode cX8_purses 59 = .ok (.iload_n 3, 1) := by decide +kernel
theorem dX8_purses_60 : decode cX8_purses 60 = .ok (.iload 4, 2) := by decide +kernel
theorem dX8_purses_62 : decode cX8_purses 62 = .ok (.invokevirtual 83, 3) := by decide +kernel
theorem dX8_purses_65 : decode cX8_purses 65 = .ok (.ifCond .ne 9, 3) := by decide +kernel
theorem dX8_purses_68 : decode cX8_purses 68 = .ok (.aload_n 0, 1) := by decide +kernel
theorem dX8_purses_69 : decode cX8_purses 69 = .ok (.iconst 2, 1) := by decide +kernel
theorem dX8_purses_70 : decode cX8_purses 70 = .ok (.invokevirtual 69, 3) := by decide +kernel
theorem dX8_purses_73 : decode cX8_purses 73 = .ok (.ireturn, 1) := by decide +kernel
theorem dX8_purses_74 : decode cX8_purses 74 = .ok (.aload_n 0, 1) := by decide +kernel
theorem dX8_purses_75 : decode cX8_purses 75 = .ok (.iload_n 2, 1) := by decide +kernel
theorem dX8_purses_76 : decode cX8_purses 76 = .ok (.iload_n 3, 1) := by decide +kernel
theorem dX8_purses_77 : decode cX8_purses 77 = .ok (.iload 4, 2) := by decide +kernel
theorem dX8_purses_79 : decode cX8_purses 79 = .ok (.iconst 1, 1) := by decide +kernel
theorem dX8_purses_80 : decode cX8_purses 80 = .ok (.invokevirtual 264, 3) := by decide +kernel
theorem dX8_purses_83 : decode cX8_purses 83 = .ok (.ifCond .ne 6, 3) := by decide +kernel
theorem dX8_purses_86 : decode cX8_purses 86 = .ok (.ldc 68, 2) := by decide +kernel
theorem dX8_purses_88 : decode cX8_purses 88 = .ok (.ireturn, 1) := by decide +kernel
theorem dX8_purses_89 : decode cX8_purses 89 = .ok (.iconst 0, 1) := by decide +kernel
theorem dX8_purses_90 : decode cX8_purses 90 = .ok (.istore 6, 2) := by decide +kernel
theorem dX8_purses_92 : decode cX8_purses 92 = .ok (.iconst 0, 1) := by decide +kernel
theorem dX8_purses_93 : decode cX8_purses 93 = .ok (.istore 7, 2) := by decide +kernel
theorem dX8_purses_95 : decode cX8_purses 95 = .ok (.iload 7, 2) := by decide +kernel
theorem dX8_purses_97 : decode cX8_purses 97 = .ok (.iload 4, 2) := by decide +kernel
theorem dX8_purses_99 : decode cX8_purses 99 = .ok (.iconst 1, 1) := by decide +kernel
theorem dX8_purses_100 : decode cX8_purses 100 = .ok (.isub, 1) := by decide +kernel
theorem dX8_purses_101 : decode cX8_purses 101 = .ok (.if_icmp .ge 34, 3) := by decide +kernel
theorem dX8_purses_104 : decode cX8_purses 104 = .ok (.iload 6, 2) := by decide +kernel
theorem dX8_purses_106 : decode cX8_purses 106 = .ok (.aload_n 0, 1) := by decide +kernel
theorem dX8_purses_107 : decode cX8_purses 107 = .ok (.getfield 26, 3) := by decide +kernel
theorem dX8_purses_110 : decode cX8_purses 110 = .ok (.iload_n 1, 1) := by decide +kernel
theorem dX8_purses_111 : decode cX8_purses 111 = .ok (.aload_n 0, 1) := by decide +kernel
theorem dX8_purses_112 : decode cX8_purses 112 = .ok (.getfield 12, 3) := by decide +kernel
theorem dX8_purses_115 : decode cX8_purses 115 = .ok (.iload_n 2, 1) := by decide +kernel
theorem dX8_purses_116 : decode cX8_purses 116 = .ok (.iload_n 3, 1) := by decide +kernel
theorem dX8_purses_117 : decode cX8_purses 117 = .ok (.iload 7, 2) := by decide +kernel
theorem dX8_purses_119 : decode cX8_purses 119 = .ok (.iadd, 1) := by decide +kernel
theorem dX8_purses_120 : decode cX8_purses 120 = .ok (.invokevirtual 258, 3) := by decide +kernel
theorem dX8_purses_123 : decode cX8_purses 123 = .ok (.invokevirtual 172, 3) := by decide +kernel
theorem dX8_purses_126 : decode cX8_purses 126 = .ok (.iadd, 1) := by decide +kernel
theorem dX8_purses_127 : decode cX8_purses 127 = .ok (.istore 6, 2) := by decide +kernel
theorem dX8_purses_129 : decode cX8_purses 129 = .ok (.iinc 7 1, 3) := by decide +kernel
theorem dX8_purses_132 : decode cX8_purses 132 = .ok (.goto (-37), 3) := by decide +kernel
theorem dX8_purses_135 : decode cX8_purses 135 = .ok (.bipush 99, 2) := by decide +kernel
theorem dX8_purses_137 : decode cX8_purses 137 = .ok (.iload 6, 2) := by decide +kernel
theorem dX8_purses_139 : decode cX8_purses 139 = .ok (.aload_n 0, 1) := by decide +kernel
theorem dX8_purses_140 : decode cX8_purses 140 = .ok (.getfield 26, 3) := by decide +kernel
theorem dX8_purses_143 : decode cX8_purses 143 = .ok (.iload_n 1, 1) := by decide +kernel
theorem dX8_purses_144 : decode cX8_purses 144 = .ok (.aload_n 0, 1) := by decide +kernel
theorem dX8_purses_145 : decode cX8_purses 145 = .ok (.getfield 12, 3) := by decide +kernel
theorem dX8_purses_148 : decode cX8_purses 148 = .ok (.iload_n 2, 1) := by decide +kernel
theorem dX8_purses_149 : decode cX8_purses 149 = .ok (.iload_n 3, 1) := by decide +kernel
theorem dX8_purses_150 : decode cX8_purses 150 = .ok (.iload 4, 2) := by decide +kernel
theorem dX8_purses_152 : decode cX8_purses 152 = .ok (.iadd, 1) := by decide +kernel
theorem dX8_purses_153 : decode cX8_purses 153 = .ok (.iconst 1, 1) := by decide +kernel
theorem dX8_purses_154 : decode cX8_purses 154 = .ok (.isub, 1) := by decide +kernel
theorem dX8_purses_155 : decode cX8_purses 155 = .ok (.invokevirtual 258, 3) := by decide +kernel
theorem dX8_purses_158 : decode cX8_purses 158 = .ok (.invokevirtual 172, 3) := by decide +kernel
theorem dX8_purses_161 : decode cX8_purses 161 = .ok (.iadd, 1) := by decide +kernel
theorem dX8_purses_162 : decode cX8_purses 162 = .ok (.iconst 1, 1) := by decide +kernel
theorem dX8_purses_163 : decode cX8_purses 163 = .ok (.isub, 1) := by decide +kernel
theorem dX8_purses_164 : decode cX8_purses 164 = .ok (.invokestatic 279, 3) := by decide +kernel
theorem dX8_purses_167 : decode cX8_purses 167 = .ok (.istore 7, 2) := by decide +kernel
theorem dX8_purses_169 : decode cX8_purses 169 = .ok (.iconst 0, 1) := by decide +kernel
theorem dX8_purses_170 : decode cX8_purses 170 = .ok (.iload 7, 2) := by decide +kernel
theorem dX8_purses_172 : decode cX8_purses 172 = .ok (.iload 6, 2) := by decide +kernel
theorem dX8_purses_174 : decode cX8_purses 174 = .ok (.isub, 1) := by decide +kernel
theorem dX8_purses_175 : decode cX8_purses 175 = .ok (.iconst 1, 1) := by decide +kernel
theorem dX8_purses_176 : decode cX8_purses 176 = .ok (.iadd, 1) := by decide +kernel
theorem dX8_purses_177 : decode cX8_purses 177 = .ok (.invokestatic 206, 3) := by decide +kernel
theorem dX8_purses_180 : decode cX8_purses 180 = .ok (.istore 8, 2) := by decide +kernel
theorem dX8_purses_182 : decode cX8_purses 182 = .ok (.iload 5, 2) := by decide +kernel
theorem dX8_purses_184 : decode cX8_purses 184 = .ok (.ifCond .ne 10, 3) := by decide +kernel
theorem dX8_purses_187 : decode cX8_purses 187 = .ok (.aload_n 0, 1) := by decide +kernel
theorem dX8_purses_188 : decode cX8_purses 188 = .ok (.iload 8, 2) := by decide +kernel
theorem dX8_purses_190 : decode cX8_purses 190 = .ok (.invokevirtual 77, 3) := by decide +kernel
theorem dX8_purses_193 : decode cX8_purses 193 = .ok (.ireturn, 1) := by decide +kernel
theorem dX8_purses_194 : decode cX8_purses 194 = .ok (.aload_n 0, 1) := by decide +kernel
theorem dX8_purses_195 : decode cX8_purses 195 = .ok (.iload 8, 2) := by decide +kernel
theorem dX8_purses_197 : decode cX8_purses 197 = .ok (.ifCond .le 8, 3) := by decide +kernel
theorem dX8_purses_200 : decode cX8_purses 200 = .ok (.iload 6, 2) := by decide +kernel
theorem dX8_purses_202 : decode cX8_purses 202 = .ok (.goto 5, 3) := by decide +kernel
theorem dX8_purses_205 : decode cX8_purses 205 = .ok (.ldc 199, 2) := by decide +kernel
theorem dX8_purses_207 : decode cX8_purses 207 = .ok (.invokevirtual 77, 3) := by decide +kernel
theorem dX8_purses_210 : decode cX8_purses 210 = .ok (.ireturn, 1) := by decide +kernel
set_option maxRecDepth 20000 in
theorem ggX8_drawn_X3_isTold : GoodIn wsX8_drawn wsX3_isTold := goodIn_r _ [10, 11, 112, 113, 114, 115, 116, 117, 118, 119, 120, 121, 122] (by decide +kernel) (by decide +kernel)
set_option maxRecDepth 20000 in
theorem gX8_drawn_X3_isTold : GoodIn wsX8_drawn (wsV RX8 140 RX3 yX3_isTold wsX3_isTold) := goodIn_app (goodIn_of _ (by decide +kernel)) ggX8_drawn_X3_isTold
set_option maxRecDepth 20000 in
theorem ggX8_drawn_X8_isChoice : GoodIn wsX8_drawn wsX8_isChoice := goodIn_r _ [15] (by decide +kernel) (by decide +kernel)
set_option maxRecDepth 20000 in
theorem gX8_drawn_X8_isChoice : GoodIn wsX8_drawn (va_wsS RX8 222 yX8_isChoice wsX8_isChoice) := goodIn_app (goodIn_of _ (by decide +kernel)) ggX8_drawn_X8_isChoice
set_option maxRecDepth 20000 in
theorem ggX8_drawn_X3_become : GoodIn wsX8_drawn wsX3_become := goodIn_r _ [19, 11, 20, 21, 22, 23, 24, 25, 26, 27, 28, 29, 30, 31, 32, 33, 112, 113, 114, 115, 116, 117, 118, 119, 120, 121, 122] (by decide +kernel) (by decide +kernel)
set_option maxRecDepth 20000 in
theorem gX8_drawn_X3_become : GoodIn wsX8_drawn (wsV RX8 120 RX3 yX3_become wsX3_become) := goodIn_app (goodIn_of _ (by decide +kernel)) ggX8_drawn_X3_become
set_option maxRecDepth 20000 in
theorem ggX8_drawn_X3_passDrawnHours : GoodIn wsX8_drawn wsX3_passDrawnHours := goodIn_r _ [37, 24, 38, 39, 40, 32, 41, 42, 43, 9, 44, 30, 45, 46, 47, 48, 31, 49, 50, 51, 52, 25, 53, 54, 55, 56, 23, 20, 21, 57, 58, 59, 60, 61, 62, 63, 64, 65, 66, 67, 68, 22, 69, 70, 71, 72, 73, 74, 75, 76, 77, 78, 79, 80, 81, 82, 112, 113, 114, 115, 116, 117, 118, 119, 120, 121, 122] (by decide +kernel) (by decide +kernel)
set_option maxRecDepth 20000 in
theorem gX8_drawn_X3_passDrawnHours : GoodIn wsX8_drawn (wsV RX8 283 RX3 yX3_passDrawnHours wsX3_passDrawnHours) := goodIn_app (goodIn_of _ (by decide +kernel)) ggX8_drawn_X3_passDrawnHours
set_option maxRecDepth 20000 in
theorem ggX8_drawn_X3_heldCells : GoodIn wsX8_drawn wsX3_heldCells := goodIn_r _ [86, 87, 88, 89, 9, 90, 30, 112, 113, 114, 115, 116, 117, 118, 119, 120, 121, 122] (by decide +kernel) (by decide +kernel)
set_option maxRecDepth 20000 in
theorem gX8_drawn_X3_heldCells : GoodIn wsX8_drawn (wsV RX8 153 RX3 yX3_heldCells wsX3_heldCells) := goodIn_app (goodIn_of _ (by decide +kernel)) ggX8_drawn_X3_heldCells
set_option maxRecDepth 20000 in
theorem ggX8_drawn_J6_bitCount_0f7a4 : GoodIn wsX8_drawn wsJ6_bitCount_0f7a4 := goodIn_r _ [94, 95, 96, 97] (by decide +kernel) (by decide +kernel)
set_option maxRecDepth 20000 in
theorem gX8_drawn_J6_bitCount_0f7a4 : GoodIn wsX8_drawn (va_wsS RX8 244 yJ6_bitCount_0f7a4 wsJ6_bitCount_0f7a4) := goodIn_app (goodIn_of _ (by decide +kernel)) ggX8_drawn_J6_bitCount_0f7a4
set_option maxRecDepth 20000 in
theorem ggX8_drawn_X3_allPurses : GoodIn wsX8_drawn wsX3_allPurses := goodIn_r _ [101, 24, 32, 112, 113, 114, 115, 116, 117, 118, 119, 120, 121, 122] (by decide +kernel) (by decide +kernel)
set_option maxRecDepth 20000 in
theorem gX8_drawn_X3_allPurses : GoodIn wsX8_drawn (wsV RX8 286 RX3 yX3_allPurses wsX3_allPurses) := goodIn_app (goodIn_of _ (by decide +kernel)) ggX8_drawn_X3_allPurses
theorem dX8_drawn_0 : decode cX8_drawn 0 = .ok (.aload_n 0, 1) := by decide +kernel
theorem dX8_drawn_1 : decode cX8_drawn 1 = .ok (.getfield 26, 3) := by decide +kernel
theorem dX8_drawn_4 : decode cX8_drawn 4 = .ok (.invokevirtual 140, 3) := by decide +kernel
theorem dX8_drawn_7 : decode cX8_drawn 7 = .ok (.ifCond .ne 6, 3) := by decide +kernel
theorem dX8_drawn_10 : decode cX8_drawn 10 = .ok (.ldc 136, 2) := by decide +kernel
theorem dX8_drawn_12 : decode cX8_drawn 12 = .ok (.ireturn, 1) := by decide +kernel
theorem dX8_drawn_13 : decode cX8_drawn 13 = .ok (.iload_n 1, 1) := by decide +kernel
theorem dX8_drawn_14 : decode cX8_drawn 14 = .ok (.ifCond .lt 28, 3) := by decide +kernel
theorem dX8_drawn_17 : decode cX8_drawn 17 = .ok (.iload_n 1, 1) := by decide +kernel
theorem dX8_drawn_18 : decode cX8_drawn 18 = .ok (.bipush 60, 2) := by decide +kernel
theorem dX8_drawn_20 : decode cX8_drawn 20 = .ok (.if_icmp .gt 22, 3) := by decide +kernel
theorem dX8_drawn_23 : decode cX8_drawn 23 = .ok (.iload_n 2, 1) := by decide +kernel
theorem dX8_drawn_24 : decode cX8_drawn 24 = .ok (.iconst 1, 1) := by decide +kernel
theorem dX8_drawn_25 : decode cX8_drawn 25 = .ok (.if_icmp .lt 17, 3) := by decide +kernel
theorem dX8_drawn_28 : decode cX8_drawn 28 = .ok (.iload_n 2, 1) := by decide +kernel
theorem dX8_drawn_29 : decode cX8_drawn 29 = .ok (.ldc_w 282, 3) := by decide +kernel
theorem dX8_drawn_32 : decode cX8_drawn 32 = .ok (.if_icmp .gt 10, 3) := by decide +kernel
theorem dX8_drawn_35 : decode cX8_drawn 35 = .ok (.iload_n 3, 1) := by decide +kernel
theorem dX8_drawn_36 : decode cX8_drawn 36 = .ok (.invokestatic 222, 3) := by decide +kernel
theorem dX8_drawn_39 : decode cX8_drawn 39 = .ok (.ifCond .ne 6, 3) := by decide +kernel
theorem dX8_drawn_42 : decode cX8_drawn 42 = .ok (.ldc 68, 2) := by decide +kernel
theorem dX8_drawn_44 : decode cX8_drawn 44 = .ok (.ireturn, 1) := by decide +kernel
theorem dX8_drawn_45 : decode cX8_drawn 45 = .ok (.aload_n 0, 1) := by decide +kernel
theorem dX8_drawn_46 : decode cX8_drawn 46 = .ok (.getfield 30, 3) := by decide +kernel
theorem dX8_drawn_49 : decode cX8_drawn 49 = .ok (.aload_n 0, 1) := by decide +kernel
theorem dX8_drawn_50 : decode cX8_drawn 50 = .ok (.getfield 26, 3) := by decide +kernel
theorem dX8_drawn_53 : decode cX8_drawn 53 = .ok (.invokevirtual 120, 3) := by decide +kernel
theorem dX8_drawn_56 : decode cX8_drawn 56 = .ok (.aload_n 0, 1) := by decide +kernel
theorem dX8_drawn_57 : decode cX8_drawn 57 = .ok (.getfield 30, 3) := by decide +kernel
theorem dX8_drawn_60 : decode cX8_drawn 60 = .ok (.iload_n 1, 1) := by decide +kernel
theorem dX8_drawn_61 : decode cX8_drawn 61 = .ok (.iload_n 2, 1) := by decide +kernel
theorem dX8_drawn_62 : decode cX8_drawn 62 = .ok (.invokevirtual 283, 3) := by decide +kernel
theorem dX8_drawn_65 : decode cX8_drawn 65 = .ok (.iload_n 3, 1) := by decide +kernel
theorem dX8_drawn_66 : decode cX8_drawn 66 = .ok (.ifCond .ne 16, 3) := by decide +kernel
theorem dX8_drawn_69 : decode cX8_drawn 69 = .ok (.aload_n 0, 1) := by decide +kernel
theorem dX8_drawn_70 : decode cX8_drawn 70 = .ok (.getfield 30, 3) := by decide +kernel
theorem dX8_drawn_73 : decode cX8_drawn 73 = .ok (.invokevirtual 153, 3) := by decide +kernel
theorem dX8_drawn_76 : decode cX8_drawn 76 = .ok (.invokestatic 244, 3) := by decide +kernel
theorem dX8_drawn_79 : decode cX8_drawn 79 = .ok (.goto 10, 3) := by decide +kernel
theorem dX8_drawn_82 : decode cX8_drawn 82 = .ok (.aload_n 0, 1) := by decide +kernel
theorem dX8_drawn_83 : decode cX8_drawn 83 = .ok (.getfield 30, 3) := by decide +kernel
theorem dX8_drawn_86 : decode cX8_drawn 86 = .ok (.invokevirtual 286, 3) := by decide +kernel
theorem dX8_drawn_89 : decode cX8_drawn 89 = .ok (.ireturn, 1) := by decide +kernel
set_option maxRecDepth 20000 in
theorem ggX8_image_X8_isChoice : GoodIn wsX8_image wsX8_isChoice := goodIn_r _ [9] (by decide +kernel) (by decide +kernel)
set_option maxRecDepth 20000 in
theorem gX8_image_X8_isChoice : GoodIn wsX8_image (va_wsS RX8 222 yX8_isChoice wsX8_isChoice) := goodIn_app (goodIn_of _ (by decide +kernel)) ggX8_image_X8_isChoice
set_option maxRecDepth 20000 in
theorem ggX8_image_X3_isTold : GoodIn wsX8_image wsX3_isTold := goodIn_r _ [14, 15, 44, 45, 46, 47, 48, 49, 50, 51, 52, 53, 54] (by decide +kernel) (by decide +kernel)
set_option maxRecDepth 20000 in
theorem gX8_image_X3_isTold : GoodIn wsX8_image (wsV RX8 140 RX3 yX3_isTold wsX3_isTold) := goodIn_app (goodIn_of _ (by decide +kernel)) ggX8_image_X3_isTold
set_option maxRecDepth 20000 in
theorem ggX8_image_X3_become : GoodIn wsX8_image wsX3_become := goodIn_r _ [19, 15, 20, 21, 22, 23, 24, 25, 26, 27, 28, 29, 30, 31, 32, 33, 44, 45, 46, 47, 48, 49, 50, 51, 52, 53, 54] (by decide +kernel) (by decide +kernel)
set_option maxRecDepth 20000 in
theorem gX8_image_X3_become : GoodIn wsX8_image (wsV RX8 120 RX3 yX3_become wsX3_become) := goodIn_app (goodIn_of _ (by decide +kernel)) ggX8_image_X3_become
theorem dX8_image_0 : decode cX8_image 0 = .ok (.iload_n 1, 1) := by decide +kernel
theorem dX8_image_1 : decode cX8_image 1 = .ok (.invokestatic 222, 3) := by decide +kernel
theorem dX8_image_4 : decode cX8_image 4 = .ok (.ifCond .ne 6, 3) := by decide +kernel
theorem dX8_image_7 : decode cX8_image 7 = .ok (.ldc 68, 2) := by decide +kernel
theorem dX8_image_9 : decode cX8_image 9 = .ok (.ireturn, 1) := by decide +kernel
theorem dX8_image_10 : decode cX8_image 10 = .ok (.aload_n 0, 1) := by decide +kernel
theorem dX8_image_11 : decode cX8_image 11 = .ok (.getfield 26, 3) := by decide +kernel
theorem dX8_image_14 : decode cX8_image 14 = .ok (.invokevirtual 140, 3) := by decide +kernel
theorem dX8_image_17 : decode cX8_image 17 = .ok (.ifCond .ne 6, 3) := by decide +kernel
theorem dX8_image_20 : decode cX8_image 20 = .ok (.ldc 136, 2) := by decide +kernel
theorem dX8_image_22 : decode cX8_image 22 = .ok (.ireturn, 1) := by decide +kernel
theorem dX8_image_23 : decode cX8_image 23 = .ok (.iload_n 1, 1) := by decide +kernel
theorem dX8_image_24 : decode cX8_image 24 = .ok (.ifCond .ne 10, 3) := by decide +kernel
theorem dX8_image_27 : decode cX8_image 27 = .ok (.aload_n 0, 1) := by decide +kernel
theorem dX8_image_28 : decode cX8_image 28 = .ok (.getfield 33, 3) := by decide +kernel
theorem dX8_image_31 : decode cX8_image 31 = .ok (.goto 7, 3) := by decide +kernel
theorem dX8_image_34 : decode cX8_image 34 = .ok (.aload_n 0, 1) := by decide +kernel
theorem dX8_image_35 : decode cX8_image 35 = .ok (.getfield 36, 3) := by decide +kernel
theorem dX8_image_38 : decode cX8_image 38 = .ok (.astore_n 2, 1) := by decide +kernel
theorem dX8_image_39 : decode cX8_image 39 = .ok (.aload_n 2, 1) := by decide +kernel
theorem dX8_image_40 : decode cX8_image 40 = .ok (.aload_n 0, 1) := by decide +kernel
theorem dX8_image_41 : decode cX8_image 41 = .ok (.getfield 26, 3) := by decide +kernel
theorem dX8_image_44 : decode cX8_image 44 = .ok (.invokevirtual 120, 3) := by decide +kernel
theorem dX8_image_47 : decode cX8_image 47 = .ok (.iconst 1, 1) := by decide +kernel
theorem dX8_image_48 : decode cX8_image 48 = .ok (.ireturn, 1) := by decide +kernel
set_option maxRecDepth 20000 in
theorem ggX8_restore_X8_isChoice : GoodIn wsX8_restore wsX8_isChoice := goodIn_r _ [10] (by decide +kernel) (by decide +kernel)
set_option maxRecDepth 20000 in
theorem gX8_restore_X8_isChoice : GoodIn wsX8_restore (va_wsS RX8 222 yX8_isChoice wsX8_isChoice) := goodIn_app (goodIn_of _ (by decide +kernel)) ggX8_restore_X8_isChoice
set_option maxRecDepth 20000 in
theorem ggX8_restore_X3_isTold : GoodIn wsX8_restore wsX3_isTold := goodIn_r _ [15, 16, 51, 52, 53, 54, 55, 56, 57, 58, 59, 60, 61] (by decide +kernel) (by decide +kernel)
set_option maxRecDepth 20000 in
theorem gX8_restore_X3_isTold : GoodIn wsX8_restore (wsV RX8 140 RX3 yX3_isTold wsX3_isTold) := goodIn_app (goodIn_of _ (by decide +kernel)) ggX8_restore_X3_isTold
set_option maxRecDepth 20000 in
theorem ggX8_restore_X3_become : GoodIn wsX8_restore wsX3_become := goodIn_r _ [20, 16, 21, 22, 23, 24, 25, 26, 27, 28, 29, 30, 31, 32, 33, 34, 51, 52, 53, 54, 55, 56, 57, 58, 59, 60, 61] (by decide +kernel) (by decide +kernel)
set_option maxRecDepth 20000 in
theorem gX8_restore_X3_become : GoodIn wsX8_restore (wsV RX8 120 RX3 yX3_become wsX3_become) := goodIn_app (goodIn_of _ (by decide +kernel)) ggX8_restore_X3_become
set_option maxRecDepth 20000 in
theorem ggX8_restore_X0_forget : GoodIn wsX8_restore wsX0_forget := goodIn_r _ [39, 40, 62, 63, 64] (by decide +kernel) (by decide +kernel)
set_option maxRecDepth 20000 in
theorem gX8_restore_X0_forget : GoodIn wsX8_restore (wsV RX8 124 RX0 yX0_forget wsX0_forget) := goodIn_app (goodIn_of _ (by decide +kernel)) ggX8_restore_X0_forget
theorem dX8_restore_0 : decode cX8_restore 0 = .ok (.iload_n 1, 1) := by decide +kernel
theorem dX8_restore_1 : decode cX8_restore 1 = .ok (.invokestatic 222, 3) := by decide +kernel
theorem dX8_restore_4 : decode cX8_restore 4 = .ok (.ifCond .ne 6, 3) := by decide +kernel
theorem dX8_restore_7 : decode cX8_restore 7 = .ok (.ldc 68, 2) := by decide +kernel
theorem dX8_restore_9 : decode cX8_restore 9 = .ok (.ireturn, 1) := by decide +kernel
theorem dX8_restore_10 : decode cX8_restore 10 = .ok (.iload_n 1, 1) := by decide +kernel
theorem dX8_restore_11 : decode cX8_restore 11 = .ok (.ifCond .ne 10, 3) := by decide +kernel
theorem dX8_restore_14 : decode cX8_restore 14 = .ok (.aload_n 0, 1) := by decide +kernel
theorem dX8_restore_15 : decode cX8_restore 15 = .ok (.getfield 33, 3) := by decide +kernel
theorem dX8_restore_18 : decode cX8_restore 18 = .ok (.goto 7, 3) := by decide +kernel
theorem dX8_restore_21 : decode cX8_restore 21 = .ok (.aload_n 0, 1) := by decide +kernel
theorem dX8_restore_22 : decode cX8_restore 22 = .ok (.getfield 36, 3) := by decide +kernel
theorem dX8_restore_25 : decode cX8_restore 25 = .ok (.astore_n 2, 1) := by decide +kernel
theorem dX8_restore_26 : decode cX8_restore 26 = .ok (.aload_n 2, 1) := by decide +kernel
theorem dX8_restore_27 : decode cX8_restore 27 = .ok (.invokevirtual 140, 3) := by decide +kernel
theorem dX8_restore_30 : decode cX8_restore 30 = .ok (.ifCond .ne 6, 3) := by decide +kernel
theorem dX8_restore_33 : decode cX8_restore 33 = .ok (.ldc 136, 2) := by decide +kernel
theorem dX8_restore_35 : decode cX8_restore 35 = .ok (.ireturn, 1) := by decide +kernel
theorem dX8_restore_36 : decode cX8_restore 36 = .ok (.aload_n 0, 1) := by decide +kernel
theorem dX8_restore_37 : decode cX8_restore 37 = .ok (.getfield 26, 3) := by decide +kernel
theorem dX8_restore_40 : decode cX8_restore 40 = .ok (.aload_n 2, 1) := by decide +kernel
theorem dX8_restore_41 : decode cX8_restore 41 = .ok (.invokevirtual 120, 3) := by decide +kernel
theorem dX8_restore_44 : decode cX8_restore 44 = .ok (.aload_n 0, 1) := by decide +kernel
theorem dX8_restore_45 : decode cX8_restore 45 = .ok (.getfield 42, 3) := by decide +kernel
theorem dX8_restore_48 : decode cX8_restore 48 = .ok (.invokevirtual 124, 3) := by decide +kernel
theorem dX8_restore_51 : decode cX8_restore 51 = .ok (.iconst 1, 1) := by decide +kernel
theorem dX8_restore_52 : decode cX8_restore 52 = .ok (.ireturn, 1) := by decide +kernel
set_option maxRecDepth 20000 in
theorem ggX8_kind_X3_hasBidder : GoodIn wsX8_kind wsX3_hasBidder := goodIn_r _ [7, 8, 24, 25, 26, 27, 28, 29, 30, 31, 32, 33, 34] (by decide +kernel) (by decide +kernel)
set_option maxRecDepth 20000 in
theorem gX8_kind_X3_hasBidder : GoodIn wsX8_kind (wsV RX8 156 RX3 yX3_hasBidder wsX3_hasBidder) := goodIn_app (goodIn_of _ (by decide +kernel)) ggX8_kind_X3_hasBidder
set_option maxRecDepth 20000 in
theorem ggX8_kind_X3_kindOf : GoodIn wsX8_kind wsX3_kindOf := goodIn_r _ [12, 13, 24, 25, 26, 27, 28, 29, 30, 31, 32, 33, 34] (by decide +kernel) (by decide +kernel)
set_option maxRecDepth 20000 in
theorem gX8_kind_X3_kindOf : GoodIn wsX8_kind (wsV RX8 289 RX3 yX3_kindOf wsX3_kindOf) := goodIn_app (goodIn_of _ (by decide +kernel)) ggX8_kind_X3_kindOf
theorem dX8_kind_0 : decode cX8_kind 0 = .ok (.aload_n 0, 1) := by decide +kernel
theorem dX8_kind_1 : decode cX8_kind 1 = .ok (.getfield 26, 3) := by decide +kernel
theorem dX8_kind_4 : decode cX8_kind 4 = .ok (.iload_n 1, 1) := by decide +kernel
theorem dX8_kind_5 : decode cX8_kind 5 = .ok (.invokevirtual 156, 3) := by decide +kernel
theorem dX8_kind_8 : decode cX8_kind 8 = .ok (.ifCond .eq 14, 3) := by decide +kernel
theorem dX8_kind_11 : decode cX8_kind 11 = .ok (.aload_n 0, 1) := by decide +kernel
theorem dX8_kind_12 : decode cX8_kind 12 = .ok (.getfield 26, 3) := by decide +kernel
theorem dX8_kind_15 : decode cX8_kind 15 = .ok (.iload_n 1, 1) := by decide +kernel
theorem dX8_kind_16 : decode cX8_kind 16 = .ok (.invokevirtual 289, 3) := by decide +kernel
theorem dX8_kind_19 : decode cX8_kind 19 = .ok (.goto 5, 3) := by decide +kernel
theorem dX8_kind_22 : decode cX8_kind 22 = .ok (.ldc 68, 2) := by decide +kernel
theorem dX8_kind_24 : decode cX8_kind 24 = .ok (.ireturn, 1) := by decide +kernel
set_option maxRecDepth 20000 in
theorem ggX8_as_X3_hasBidder : GoodIn wsX8_as wsX3_hasBidder := goodIn_r _ [7, 8, 42, 43, 44, 45, 46, 47, 48, 49, 50, 51, 52] (by decide +kernel) (by decide +kernel)
set_option maxRecDepth 20000 in
theorem gX8_as_X3_hasBidder : GoodIn wsX8_as (wsV RX8 156 RX3 yX3_hasBidder wsX3_hasBidder) := goodIn_app (goodIn_of _ (by decide +kernel)) ggX8_as_X3_hasBidder
set_option maxRecDepth 20000 in
theorem ggX8_as_X3_kindOf : GoodIn wsX8_as wsX3_kindOf := goodIn_r _ [12, 13, 42, 43, 44, 45, 46, 47, 48, 49, 50, 51, 52] (by decide +kernel) (by decide +kernel)
set_option maxRecDepth 20000 in
theorem gX8_as_X3_kindOf : GoodIn wsX8_as (wsV RX8 289 RX3 yX3_kindOf wsX3_kindOf) := goodIn_app (goodIn_of _ (by decide +kernel)) ggX8_as_X3_kindOf
set_option maxRecDepth 20000 in
theorem ggX8_as_X4_isA : GoodIn wsX8_as wsX4_isA := goodIn_r _ [17, 18, 19, 16, 20] (by decide +kernel) (by decide +kernel)
set_option maxRecDepth 20000 in
theorem gX8_as_X4_isA : GoodIn wsX8_as (va_wsS RX8 292 yX4_isA wsX4_isA) := goodIn_app (goodIn_of _ (by decide +kernel)) ggX8_as_X4_isA
set_option maxRecDepth 20000 in
theorem ggX8_as_X8_unfound : GoodIn wsX8_as wsX8_unfound := goodIn_r _ [25, 26, 32, 33, 34, 35, 36, 37, 38, 39, 40, 41] (by decide +kernel) (by decide +kernel)
set_option maxRecDepth 20000 in
theorem gX8_as_X8_unfound : GoodIn wsX8_as (wsV RX8 77 RX8 yX8_unfound wsX8_unfound) := goodIn_app (goodIn_of _ (by decide +kernel)) ggX8_as_X8_unfound
set_option maxRecDepth 20000 in
theorem ggX8_as_X8_found : GoodIn wsX8_as wsX8_found := goodIn_r _ [30, 26, 31, 32, 33, 34, 35, 36, 37, 38, 39, 40, 41] (by decide +kernel) (by decide +kernel)
set_option maxRecDepth 20000 in
theorem gX8_as_X8_found : GoodIn wsX8_as (wsV RX8 69 RX8 yX8_found wsX8_found) := goodIn_app (goodIn_of _ (by decide +kernel)) ggX8_as_X8_found
theorem dX8_as_0 : decode cX8_as 0 = .ok (.aload_n 0, 1) := by decide +kernel
theorem dX8_as_1 : decode cX8_as 1 = .ok (.getfield 26, 3) := by decide +kernel
theorem dX8_as_4 : decode cX8_as 4 = .ok (.iload_n 1, 1) := by decide +kernel
theorem dX8_as_5 : decode cX8_as 5 = .ok (.invokevirtual 156, 3) := by decide +kernel
theorem dX8_as_8 : decode cX8_as 8 = .ok (.ifCond .eq 12, 3) := by decide +kernel
theorem dX8_as_11 : decode cX8_as 11 = .ok (.iload_n 2, 1) := by decide +kernel
theorem dX8_as_12 : decode cX8_as 12 = .ok (.ifCond .lt 8, 3) := by decide +kernel
theorem dX8_as_15 : decode cX8_as 15 = .ok (.iload_n 2, 1) := by decide +kernel
theorem dX8_as_16 : decode cX8_as 16 = .ok (.iconst 5, 1) := by decide +kernel
theorem dX8_as_17 : decode cX8_as 17 = .ok (.if_icmp .le 6, 3) := by decide +kernel
theorem dX8_as_20 : decode cX8_as 20 = .ok (.ldc 68, 2) := by decide +kernel
theorem dX8_as_22 : decode cX8_as 22 = .ok (.ireturn, 1) := by decide +kernel
theorem dX8_as_23 : decode cX8_as 23 = .ok (.aload_n 0, 1) := by decide +kernel
theorem dX8_as_24 : decode cX8_as 24 = .ok (.getfield 26, 3) := by decide +kernel
theorem dX8_as_27 : decode cX8_as 27 = .ok (.iload_n 1, 1) := by decide +kernel
theorem dX8_as_28 : decode cX8_as 28 = .ok (.invokevirtual 289, 3) := by decide +kernel
theorem dX8_as_31 : decode cX8_as 31 = .ok (.iload_n 2, 1) := by decide +kernel
theorem dX8_as_32 : decode cX8_as 32 = .ok (.invokestatic 292, 3) := by decide +kernel
theorem dX8_as_35 : decode cX8_as 35 = .ok (.ifCond .eq 11, 3) := by decide +kernel
theorem dX8_as_38 : decode cX8_as 38 = .ok (.aload_n 0, 1) := by decide +kernel
theorem dX8_as_39 : decode cX8_as 39 = .ok (.iload_n 1, 1) := by decide +kernel
theorem dX8_as_40 : decode cX8_as 40 = .ok (.invokevirtual 77, 3) := by decide +kernel
theorem dX8_as_43 : decode cX8_as 43 = .ok (.goto 8, 3) := by decide +kernel
theorem dX8_as_46 : decode cX8_as 46 = .ok (.aload_n 0, 1) := by decide +kernel
theorem dX8_as_47 : decode cX8_as 47 = .ok (.iconst 3, 1) := by decide +kernel
theorem dX8_as_48 : decode cX8_as 48 = .ok (.invokevirtual 69, 3) := by decide +kernel
theorem dX8_as_51 : decode cX8_as 51 = .ok (.ireturn, 1) := by decide +kernel
set_option maxRecDepth 20000 in
theorem ggX8_ask_X3_hasBidder : GoodIn wsX8_ask wsX3_hasBidder := goodIn_r _ [8, 9, 101, 102, 103, 104, 105, 106, 107, 108, 109, 110, 111] (by decide +kernel) (by decide +kernel)
set_option maxRecDepth 20000 in
theorem gX8_ask_X3_hasBidder : GoodIn wsX8_ask (wsV RX8 156 RX3 yX3_hasBidder wsX3_hasBidder) := goodIn_app (goodIn_of _ (by decide +kernel)) ggX8_ask_X3_hasBidder
set_option maxRecDepth 20000 in
theorem ggX8_ask_X8_isChoice : GoodIn wsX8_ask wsX8_isChoice := goodIn_r _ [13] (by decide +kernel) (by decide +kernel)
set_option maxRecDepth 20000 in
theorem gX8_ask_X8_isChoice : GoodIn wsX8_ask (va_wsS RX8 222 yX8_isChoice wsX8_isChoice) := goodIn_app (goodIn_of _ (by decide +kernel)) ggX8_ask_X8_isChoice
set_option maxRecDepth 20000 in
theorem ggX8_ask_X1_turnTo : GoodIn wsX8_ask wsX1_turnTo := goodIn_r _ [18, 19, 20, 21, 22, 23, 24, 25, 26, 7, 27, 28, 29, 30, 31, 32, 33, 34, 35, 36, 37, 38, 112, 113, 114, 115, 116, 117, 101, 102, 103, 104, 105, 106, 107, 108, 109, 110, 111] (by decide +kernel) (by decide +kernel)
set_option maxRecDepth 20000 in
theorem gX8_ask_X1_turnTo : GoodIn wsX8_ask (wsV RX8 295 RX1 yX1_turnTo wsX1_turnTo) := goodIn_app (goodIn_of _ (by decide +kernel)) ggX8_ask_X1_turnTo
set_option maxRecDepth 20000 in
theorem ggX8_ask_X1_sizeAsked : GoodIn wsX8_ask wsX1_sizeAsked := goodIn_r _ [42, 21, 43, 44, 45, 17, 46, 19, 47, 48, 49, 50, 51, 52, 53, 54, 55, 22, 56, 57, 58, 59, 60, 61, 62, 63, 23, 64, 65, 66, 67, 20, 68, 69, 70, 71, 72, 73, 74, 75, 112, 113, 114, 115, 116, 117] (by decide +kernel) (by decide +kernel)
set_option maxRecDepth 20000 in
theorem gX8_ask_X1_sizeAsked : GoodIn wsX8_ask (wsV RX8 298 RX1 yX1_sizeAsked wsX1_sizeAsked) := goodIn_app (goodIn_of _ (by decide +kernel)) ggX8_ask_X1_sizeAsked
set_option maxRecDepth 20000 in
theorem ggX8_ask_X1_markAsked : GoodIn wsX8_ask wsX1_markAsked := goodIn_r _ [79, 21, 80, 81, 82, 83, 84, 85, 86, 87, 88, 89, 17, 90, 43, 44, 45, 46, 19, 47, 64, 65, 66, 67, 20, 68, 69, 70, 71, 72, 73, 74, 75, 52, 53, 54, 55, 22, 56, 57, 58, 59, 60, 61, 62, 63, 23, 112, 113, 114, 115, 116, 117] (by decide +kernel) (by decide +kernel)
set_option maxRecDepth 20000 in
theorem gX8_ask_X1_markAsked : GoodIn wsX8_ask (wsV RX8 301 RX1 yX1_markAsked wsX1_markAsked) := goodIn_app (goodIn_of _ (by decide +kernel)) ggX8_ask_X1_markAsked
theorem dX8_ask_0 : decode cX8_ask 0 = .ok (.aload_n 0, 1) := by decide +kernel
theorem dX8_ask_1 : decode cX8_ask 1 = .ok (.getfield 26, 3) := by decide +kernel
theorem dX8_ask_4 : decode cX8_ask 4 = .ok (.iload_n 1, 1) := by decide +kernel
theorem dX8_ask_5 : decode cX8_ask 5 = .ok (.invokevirtual 156, 3) := by decide +kernel
theorem dX8_ask_8 : decode cX8_ask 8 = .ok (.ifCond .eq 10, 3) := by decide +kernel
theorem dX8_ask_11 : decode cX8_ask 11 = .ok (.iload_n 2, 1) := by decide +kernel
theorem dX8_ask_12 : decode cX8_ask 12 = .ok (.invokestatic 222, 3) := by decide +kernel
theorem dX8_ask_15 : decode cX8_ask 15 = .ok (.ifCond .ne 6, 3) := by decide +kernel
theorem dX8_ask_18 : decode cX8_ask 18 = .ok (.ldc 68, 2) := by decide +kernel
theorem dX8_ask_20 : decode cX8_ask 20 = .ok (.ireturn, 1) := by decide +kernel
theorem dX8_ask_21 : decode cX8_ask 21 = .ok (.aload_n 0, 1) := by decide +kernel
theorem dX8_ask_22 : decode cX8_ask 22 = .ok (.getfield 56, 3) := by decide +kernel
theorem dX8_ask_25 : decode cX8_ask 25 = .ok (.aload_n 0, 1) := by decide +kernel
theorem dX8_ask_26 : decode cX8_ask 26 = .ok (.getfield 26, 3) := by decide +kernel
theorem dX8_ask_29 : decode cX8_ask 29 = .ok (.iload_n 1, 1) := by decide +kernel
theorem dX8_ask_30 : decode cX8_ask 30 = .ok (.invokevirtual 295, 3) := by decide +kernel
theorem dX8_ask_33 : decode cX8_ask 33 = .ok (.iload_n 2, 1) := by decide +kernel
theorem dX8_ask_34 : decode cX8_ask 34 = .ok (.ifCond .ne 13, 3) := by decide +kernel
theorem dX8_ask_37 : decode cX8_ask 37 = .ok (.aload_n 0, 1) := by decide +kernel
theorem dX8_ask_38 : decode cX8_ask 38 = .ok (.getfield 56, 3) := by decide +kernel
theorem dX8_ask_41 : decode cX8_ask 41 = .ok (.invokevirtual 298, 3) := by decide +kernel
theorem dX8_ask_44 : decode cX8_ask 44 = .ok (.goto 10, 3) := by decide +kernel
theorem dX8_ask_47 : decode cX8_ask 47 = .ok (.aload_n 0, 1) := by decide +kernel
theorem dX8_ask_48 : decode cX8_ask 48 = .ok (.getfield 56, 3) := by decide +kernel
theorem dX8_ask_51 : decode cX8_ask 51 = .ok (.invokevirtual 301, 3) := by decide +kernel
theorem dX8_ask_54 : decode cX8_ask 54 = .ok (.ireturn, 1) := by decide +kernel
set_option maxRecDepth 20000 in
theorem ggX8_trace_X1_traced : GoodIn wsX8_trace wsX1_traced := goodIn_r _ [7, 8, 24, 25, 26, 27, 28, 29] (by decide +kernel) (by decide +kernel)
set_option maxRecDepth 20000 in
theorem gX8_trace_X1_traced : GoodIn wsX8_trace (wsV RX8 304 RX1 yX1_traced wsX1_traced) := goodIn_app (goodIn_of _ (by decide +kernel)) ggX8_trace_X1_traced
set_option maxRecDepth 20000 in
theorem ggX8_trace_X1_tracedBody : GoodIn wsX8_trace wsX1_tracedBody := goodIn_r _ [12, 13, 24, 25, 26, 27, 28, 29] (by decide +kernel) (by decide +kernel)
set_option maxRecDepth 20000 in
theorem gX8_trace_X1_tracedBody : GoodIn wsX8_trace (wsV RX8 307 RX1 yX1_tracedBody wsX1_tracedBody) := goodIn_app (goodIn_of _ (by decide +kernel)) ggX8_trace_X1_tracedBody
theorem dX8_trace_0 : decode cX8_trace 0 = .ok (.iload_n 1, 1) := by decide +kernel
theorem dX8_trace_1 : decode cX8_trace 1 = .ok (.ifCond .lt 25, 3) := by decide +kernel
theorem dX8_trace_4 : decode cX8_trace 4 = .ok (.iload_n 1, 1) := by decide +kernel
theorem dX8_trace_5 : decode cX8_trace 5 = .ok (.aload_n 0, 1) := by decide +kernel
theorem dX8_trace_6 : decode cX8_trace 6 = .ok (.getfield 56, 3) := by decide +kernel
theorem dX8_trace_9 : decode cX8_trace 9 = .ok (.invokevirtual 304, 3) := by decide +kernel
theorem dX8_trace_12 : decode cX8_trace 12 = .ok (.if_icmp .ge 14, 3) := by decide +kernel
theorem dX8_trace_15 : decode cX8_trace 15 = .ok (.aload_n 0, 1) := by decide +kernel
theorem dX8_trace_16 : decode cX8_trace 16 = .ok (.getfield 56, 3) := by decide +kernel
theorem dX8_trace_19 : decode cX8_trace 19 = .ok (.iload_n 1, 1) := by decide +kernel
theorem dX8_trace_20 : decode cX8_trace 20 = .ok (.invokevirtual 307, 3) := by decide +kernel
theorem dX8_trace_23 : decode cX8_trace 23 = .ok (.goto 5, 3) := by decide +kernel
theorem dX8_trace_26 : decode cX8_trace 26 = .ok (.ldc 199, 2) := by decide +kernel
theorem dX8_trace_28 : decode cX8_trace 28 = .ok (.ireturn, 1) := by decide +kernel
set_option maxRecDepth 20000 in
theorem ggX8_count_X5_there : GoodIn wsX8_count wsX5_there := goodIn_r _ [10, 11, 12, 13, 9, 14, 15, 69, 70, 71] (by decide +kernel) (by decide +kernel)
set_option maxRecDepth 20000 in
theorem gX8_count_X5_there : GoodIn wsX8_count (wsV RX8 310 RX5 yX5_there wsX5_there) := goodIn_app (goodIn_of _ (by decide +kernel)) ggX8_count_X5_there
set_option maxRecDepth 20000 in
theorem ggX8_count_X3_bidders : GoodIn wsX8_count wsX3_bidders := goodIn_r _ [20, 21, 72, 73, 74, 75, 76, 77, 78, 79, 80, 81, 82] (by decide +kernel) (by decide +kernel)
set_option maxRecDepth 20000 in
theorem gX8_count_X3_bidders : GoodIn wsX8_count (wsV RX8 127 RX3 yX3_bidders wsX3_bidders) := goodIn_app (goodIn_of _ (by decide +kernel)) ggX8_count_X3_bidders
set_option maxRecDepth 20000 in
theorem ggX8_count_X3_levelBehind : GoodIn wsX8_count wsX3_levelBehind := goodIn_r _ [25, 26, 27, 28, 72, 73, 74, 75, 76, 77, 78, 79, 80, 81, 82] (by decide +kernel) (by decide +kernel)
set_option maxRecDepth 20000 in
theorem gX8_count_X3_levelBehind : GoodIn wsX8_count (wsV RX8 203 RX3 yX3_levelBehind wsX3_levelBehind) := goodIn_app (goodIn_of _ (by decide +kernel)) ggX8_count_X3_levelBehind
set_option maxRecDepth 20000 in
theorem ggX8_count_X3_priceTold : GoodIn wsX8_count wsX3_priceTold := goodIn_r _ [32, 33, 72, 73, 74, 75, 76, 77, 78, 79, 80, 81, 82] (by decide +kernel) (by decide +kernel)
set_option maxRecDepth 20000 in
theorem gX8_count_X3_priceTold : GoodIn wsX8_count (wsV RX8 313 RX3 yX3_priceTold wsX3_priceTold) := goodIn_app (goodIn_of _ (by decide +kernel)) ggX8_count_X3_priceTold
set_option maxRecDepth 20000 in
theorem ggX8_count_X3_hour : GoodIn wsX8_count wsX3_hour := goodIn_r _ [37, 26, 72, 73, 74, 75, 76, 77, 78, 79, 80, 81, 82] (by decide +kernel) (by decide +kernel)
set_option maxRecDepth 20000 in
theorem gX8_count_X3_hour : GoodIn wsX8_count (wsV RX8 144 RX3 yX3_hour wsX3_hour) := goodIn_app (goodIn_of _ (by decide +kernel)) ggX8_count_X3_hour
set_option maxRecDepth 20000 in
theorem ggX8_count_X3_heldCells : GoodIn wsX8_count wsX3_heldCells := goodIn_r _ [41, 42, 43, 44, 19, 45, 46, 72, 73, 74, 75, 76, 77, 78, 79, 80, 81, 82] (by decide +kernel) (by decide +kernel)
set_option maxRecDepth 20000 in
theorem gX8_count_X3_heldCells : GoodIn wsX8_count (wsV RX8 153 RX3 yX3_heldCells wsX3_heldCells) := goodIn_app (goodIn_of _ (by decide +kernel)) ggX8_count_X3_heldCells
set_option maxRecDepth 20000 in
theorem ggX8_count_X0_kept : GoodIn wsX8_count wsX0_kept := goodIn_r _ [51, 52, 83, 84, 85] (by decide +kernel) (by decide +kernel)
set_option maxRecDepth 20000 in
theorem gX8_count_X0_kept : GoodIn wsX8_count (wsV RX8 133 RX0 yX0_kept wsX0_kept) := goodIn_app (goodIn_of _ (by decide +kernel)) ggX8_count_X0_kept
set_option maxRecDepth 20000 in
theorem ggX8_count_X7_length : GoodIn wsX8_count wsX7_length := goodIn_r _ [57, 58, 86, 87, 88, 89, 90] (by decide +kernel) (by decide +kernel)
set_option maxRecDepth 20000 in
theorem gX8_count_X7_length : GoodIn wsX8_count (wsV RX8 104 RX7 yX7_length wsX7_length) := goodIn_app (goodIn_of _ (by decide +kernel)) ggX8_count_X7_length
theorem dX8_count_0 : decode cX8_count 0 = .ok (.iload_n 1, 1) := by decide +kernel
theorem dX8_count_1 : decode cX8_count 1 = .ok (.tableswitch 112 0 7 #[47, 55, 63, 72, 80, 88, 96, 104], 47) := by decide +kernel
theorem dX8_count_48 : decode cX8_count 48 = .ok (.aload_n 0, 1) := by decide +kernel
theorem dX8_count_49 : decode cX8_count 49 = .ok (.getfield 12, 3) := by decide +kernel
theorem dX8_count_52 : decode cX8_count 52 = .ok (.invokevirtual 310, 3) := by decide +kernel
theorem dX8_count_55 : decode cX8_count 55 = .ok (.ireturn, 1) := by decide +kernel
theorem dX8_count_56 : decode cX8_count 56 = .ok (.aload_n 0, 1) := by decide +kernel
theorem dX8_count_57 : decode cX8_count 57 = .ok (.getfield 26, 3) := by decide +kernel
theorem dX8_count_60 : decode cX8_count 60 = .ok (.invokevirtual 127, 3) := by decide +kernel
theorem dX8_count_63 : decode cX8_count 63 = .ok (.ireturn, 1) := by decide +kernel
theorem dX8_count_64 : decode cX8_count 64 = .ok (.aload_n 0, 1) := by decide +kernel
theorem dX8_count_65 : decode cX8_count 65 = .ok (.getfield 26, 3) := by decide +kernel
theorem dX8_count_68 : decode cX8_count 68 = .ok (.iconst 0, 1) := by decide +kernel
theorem dX8_count_69 : decode cX8_count 69 = .ok (.invokevirtual 203, 3) := by decide +kernel
theorem dX8_count_72 : decode cX8_count 72 = .ok (.ireturn, 1) := by decide +kernel
theorem dX8_count_73 : decode cX8_count 73 = .ok (.aload_n 0, 1) := by decide +kernel
theorem dX8_count_74 : decode cX8_count 74 = .ok (.getfield 26, 3) := by decide +kernel
theorem dX8_count_77 : decode cX8_count 77 = .ok (.invokevirtual 313, 3) := by decide +kernel
theorem dX8_count_80 : decode cX8_count 80 = .ok (.ireturn, 1) := by decide +kernel
theorem dX8_count_81 : decode cX8_count 81 = .ok (.aload_n 0, 1) := by decide +kernel
theorem dX8_count_82 : decode cX8_count 82 = .ok (.getfield 26, 3) := by decide +kernel
theorem dX8_count_85 : decode cX8_count 85 = .ok (.invokevirtual 144, 3) := by decide +kernel
theorem dX8_count_88 : decode cX8_count 88 = .ok (.ireturn, 1) := by decide +kernel
theorem dX8_count_89 : decode cX8_count 89 = .ok (.aload_n 0, 1) := by decide +kernel
theorem dX8_count_90 : decode cX8_count 90 = .ok (.getfield 26, 3) := by decide +kernel
theorem dX8_count_93 : decode cX8_count 93 = .ok (.invokevirtual 153, 3) := by decide +kernel
theorem dX8_count_96 : decode cX8_count 96 = .ok (.ireturn, 1) := by decide +kernel
theorem dX8_count_97 : decode cX8_count 97 = .ok (.aload_n 0, 1) := by decide +kernel
theorem dX8_count_98 : decode cX8_count 98 = .ok (.getfield 42, 3) := by decide +kernel
theorem dX8_count_101 : decode cX8_count 101 = .ok (.invokevirtual 133, 3) := by decide +kernel
theorem dX8_count_104 : decode cX8_count 104 = .ok (.ireturn, 1) := by decide +kernel
theorem dX8_count_105 : decode cX8_count 105 = .ok (.aload_n 0, 1) := by decide +kernel
theorem dX8_count_106 : decode cX8_count 106 = .ok (.getfield 19, 3) := by decide +kernel
theorem dX8_count_109 : decode cX8_count 109 = .ok (.invokevirtual 104, 3) := by decide +kernel
theorem dX8_count_112 : decode cX8_count 112 = .ok (.ireturn, 1) := by decide +kernel
theorem dX8_count_113 : decode cX8_count 113 = .ok (.ldc 68, 2) := by decide +kernel
theorem dX8_count_115 : decode cX8_count 115 = .ok (.ireturn, 1) := by decide +kernel
theorem dX8_status_0 : decode cX8_status 0 = .ok (.aload_n 0, 1) := by decide +kernel
theorem dX8_status_1 : decode cX8_status 1 = .ok (.getfield 60, 3) := by decide +kernel
theorem dX8_status_4 : decode cX8_status 4 = .ok (.ireturn, 1) := by decide +kernel
theorem dX8_found_0 : decode cX8_found 0 = .ok (.aload_n 0, 1) := by decide +kernel
theorem dX8_found_1 : decode cX8_found 1 = .ok (.iload_n 1, 1) := by decide +kernel
theorem dX8_found_2 : decode cX8_found 2 = .ok (.putfield 60, 3) := by decide +kernel
theorem dX8_found_5 : decode cX8_found 5 = .ok (.ldc_w 316, 3) := by decide +kernel
theorem dX8_found_8 : decode cX8_found 8 = .ok (.iload_n 1, 1) := by decide +kernel
theorem dX8_found_9 : decode cX8_found 9 = .ok (.isub, 1) := by decide +kernel
theorem dX8_found_10 : decode cX8_found 10 = .ok (.ireturn, 1) := by decide +kernel
theorem dX8_unfound_0 : decode cX8_unfound 0 = .ok (.aload_n 0, 1) := by decide +kernel
theorem dX8_unfound_1 : decode cX8_unfound 1 = .ok (.iconst 0, 1) := by decide +kernel
theorem dX8_unfound_2 : decode cX8_unfound 2 = .ok (.putfield 60, 3) := by decide +kernel
theorem dX8_unfound_5 : decode cX8_unfound 5 = .ok (.iload_n 1, 1) := by decide +kernel
theorem dX8_unfound_6 : decode cX8_unfound 6 = .ok (.ireturn, 1) := by decide +kernel
theorem dX8_isCell_0 : decode cX8_isCell 0 = .ok (.iload_n 0, 1) := by decide +kernel
theorem dX8_isCell_1 : decode cX8_isCell 1 = .ok (.ifCond .lt 13, 3) := by decide +kernel
theorem dX8_isCell_4 : decode cX8_isCell 4 = .ok (.iload_n 0, 1) := by decide +kernel
theorem dX8_isCell_5 : decode cX8_isCell 5 = .ok (.bipush 15, 2) := by decide +kernel
theorem dX8_isCell_7 : decode cX8_isCell 7 = .ok (.if_icmp .ge 7, 3) := by decide +kernel
theorem dX8_isCell_10 : decode cX8_isCell 10 = .ok (.iconst 1, 1) := by decide +kernel
theorem dX8_isCell_11 : decode cX8_isCell 11 = .ok (.goto 4, 3) := by decide +kernel
theorem dX8_isCell_14 : decode cX8_isCell 14 = .ok (.iconst 0, 1) := by decide +kernel
theorem dX8_isCell_15 : decode cX8_isCell 15 = .ok (.ireturn, 1) := by decide +kernel
theorem dX8_isChoice_0 : decode cX8_isChoice 0 = .ok (.iload_n 0, 1) := by decide +kernel
theorem dX8_isChoice_1 : decode cX8_isChoice 1 = .ok (.ifCond .eq 8, 3) := by decide +kernel
theorem dX8_isChoice_4 : decode cX8_isChoice 4 = .ok (.iload_n 0, 1) := by decide +kernel
theorem dX8_isChoice_5 : decode cX8_isChoice 5 = .ok (.iconst 1, 1) := by decide +kernel
theorem dX8_isChoice_6 : decode cX8_isChoice 6 = .ok (.if_icmp .ne 7, 3) := by decide +kernel
theorem dX8_isChoice_9 : decode cX8_isChoice 9 = .ok (.iconst 1, 1) := by decide +kernel
theorem dX8_isChoice_10 : decode cX8_isChoice 10 = .ok (.goto 4, 3) := by decide +kernel
theorem dX8_isChoice_13 : decode cX8_isChoice 13 = .ok (.iconst 0, 1) := by decide +kernel
theorem dX8_isChoice_14 : decode cX8_isChoice 14 = .ok (.ireturn, 1) := by decide +kernel
theorem dX8_isNumberOfItems_0 : decode cX8_isNumberOfItems 0 = .ok (.iload_n 0, 1) := by decide +kernel
theorem dX8_isNumberOfItems_1 : decode cX8_isNumberOfItems 1 = .ok (.iconst 1, 1) := by decide +kernel
theorem dX8_isNumberOfItems_2 : decode cX8_isNumberOfItems 2 = .ok (.if_icmp .lt 13, 3) := by decide +kernel
theorem dX8_isNumberOfItems_5 : decode cX8_isNumberOfItems 5 = .ok (.iload_n 0, 1) := by decide +kernel
theorem dX8_isNumberOfItems_6 : decode cX8_isNumberOfItems 6 = .ok (.bipush 12, 2) := by decide +kernel
theorem dX8_isNumberOfItems_8 : decode cX8_isNumberOfItems 8 = .ok (.if_icmp .gt 7, 3) := by decide +kernel
theorem dX8_isNumberOfItems_11 : decode cX8_isNumberOfItems 11 = .ok (.iconst 1, 1) := by decide +kernel
theorem dX8_isNumberOfItems_12 : decode cX8_isNumberOfItems 12 = .ok (.goto 4, 3) := by decide +kernel
theorem dX8_isNumberOfItems_15 : decode cX8_isNumberOfItems 15 = .ok (.iconst 0, 1) := by decide +kernel
theorem dX8_isNumberOfItems_16 : decode cX8_isNumberOfItems 16 = .ok (.ireturn, 1) := by decide +kernel
set_option maxRecDepth 20000 in
theorem ggX8_areCells_X5_item : GoodIn wsX8_areCells wsX5_item := goodIn_r _ [6, 7, 22, 23, 24] (by decide +kernel) (by decide +kernel)
set_option maxRecDepth 20000 in
theorem gX8_areCells_X5_item : GoodIn wsX8_areCells (wsV RX8 258 RX5 yX5_item wsX5_item) := goodIn_app (goodIn_of _ (by decide +kernel)) ggX8_areCells_X5_item
set_option maxRecDepth 20000 in
theorem ggX8_areCells_X8_isCell : GoodIn wsX8_areCells wsX8_isCell := goodIn_r _ [11] (by decide +kernel) (by decide +kernel)
set_option maxRecDepth 20000 in
theorem gX8_areCells_X8_isCell : GoodIn wsX8_areCells (va_wsS RX8 159 yX8_isCell wsX8_isCell) := goodIn_app (goodIn_of _ (by decide +kernel)) ggX8_areCells_X8_isCell
theorem dX8_areCells_0 : decode cX8_areCells 0 = .ok (.iconst 0, 1) := by decide +kernel
theorem dX8_areCells_1 : decode cX8_areCells 1 = .ok (.istore 5, 2) := by decide +kernel
theorem dX8_areCells_3 : decode cX8_areCells 3 = .ok (.iload 5, 2) := by decide +kernel
theorem dX8_areCells_5 : decode cX8_areCells 5 = .ok (.iload_n 3, 1) := by decide +kernel
theorem dX8_areCells_6 : decode cX8_areCells 6 = .ok (.if_icmp .ge 32, 3) := by decide +kernel
theorem dX8_areCells_9 : decode cX8_areCells 9 = .ok (.aload_n 0, 1) := by decide +kernel
theorem dX8_areCells_10 : decode cX8_areCells 10 = .ok (.getfield 12, 3) := by decide +kernel
theorem dX8_areCells_13 : decode cX8_areCells 13 = .ok (.iload_n 1, 1) := by decide +kernel
theorem dX8_areCells_14 : decode cX8_areCells 14 = .ok (.iload_n 2, 1) := by decide +kernel
theorem dX8_areCells_15 : decode cX8_areCells 15 = .ok (.iload 4, 2) := by decide +kernel
theorem dX8_areCells_17 : decode cX8_areCells 17 = .ok (.iload 5, 2) := by decide +kernel
theorem dX8_areCells_19 : decode cX8_areCells 19 = .ok (.imul, 1) := by decide +kernel
theorem dX8_areCells_20 : decode cX8_areCells 20 = .ok (.iadd, 1) := by decide +kernel
theorem dX8_areCells_21 : decode cX8_areCells 21 = .ok (.invokevirtual 258, 3) := by decide +kernel
theorem dX8_areCells_24 : decode cX8_areCells 24 = .ok (.invokestatic 159, 3) := by decide +kernel
theorem dX8_areCells_27 : decode cX8_areCells 27 = .ok (.ifCond .ne 5, 3) := by decide +kernel
theorem dX8_areCells_30 : decode cX8_areCells 30 = .ok (.iconst 0, 1) := by decide +kernel
theorem dX8_areCells_31 : decode cX8_areCells 31 = .ok (.ireturn, 1) := by decide +kernel
theorem dX8_areCells_32 : decode cX8_areCells 32 = .ok (.iinc 5 1, 3) := by decide +kernel
theorem dX8_areCells_35 : decode cX8_areCells 35 = .ok (.goto (-32), 3) := by decide +kernel
theorem dX8_areCells_38 : decode cX8_areCells 38 = .ok (.iconst 1, 1) := by decide +kernel
theorem dX8_areCells_39 : decode cX8_areCells 39 = .ok (.ireturn, 1) := by decide +kernel
set_option maxRecDepth 20000 in
theorem ggX8_arePricesTo_X5_item : GoodIn wsX8_arePricesTo wsX5_item := goodIn_r _ [7, 8, 30, 31, 32] (by decide +kernel) (by decide +kernel)
set_option maxRecDepth 20000 in
theorem gX8_arePricesTo_X5_item : GoodIn wsX8_arePricesTo (wsV RX8 258 RX5 yX5_item wsX5_item) := goodIn_app (goodIn_of _ (by decide +kernel)) ggX8_arePricesTo_X5_item
set_option maxRecDepth 20000 in
theorem ggX8_arePricesTo_X3_cost : GoodIn wsX8_arePricesTo wsX3_cost := goodIn_r _ [13, 14, 15, 16, 17, 18, 19, 33, 34, 35, 36, 37, 38, 39, 40, 41, 42, 43] (by decide +kernel) (by decide +kernel)
set_option maxRecDepth 20000 in
theorem gX8_arePricesTo_X3_cost : GoodIn wsX8_arePricesTo (wsV RX8 317 RX3 yX3_cost wsX3_cost) := goodIn_app (goodIn_of _ (by decide +kernel)) ggX8_arePricesTo_X3_cost
theorem dX8_arePricesTo_0 : decode cX8_arePricesTo 0 = .ok (.iconst 0, 1) := by decide +kernel
theorem dX8_arePricesTo_1 : decode cX8_arePricesTo 1 = .ok (.istore 5, 2) := by decide +kernel
theorem dX8_arePricesTo_3 : decode cX8_arePricesTo 3 = .ok (.iload 5, 2) := by decide +kernel
theorem dX8_arePricesTo_5 : decode cX8_arePricesTo 5 = .ok (.iload 4, 2) := by decide +kernel
theorem dX8_arePricesTo_7 : decode cX8_arePricesTo 7 = .ok (.if_icmp .ge 56, 3) := by decide +kernel
theorem dX8_arePricesTo_10 : decode cX8_arePricesTo 10 = .ok (.aload_n 0, 1) := by decide +kernel
theorem dX8_arePricesTo_11 : decode cX8_arePricesTo 11 = .ok (.getfield 12, 3) := by decide +kernel
theorem dX8_arePricesTo_14 : decode cX8_arePricesTo 14 = .ok (.iload_n 2, 1) := by decide +kernel
theorem dX8_arePricesTo_15 : decode cX8_arePricesTo 15 = .ok (.iload_n 3, 1) := by decide +kernel
theorem dX8_arePricesTo_16 : decode cX8_arePricesTo 16 = .ok (.iconst 2, 1) := by decide +kernel
theorem dX8_arePricesTo_17 : decode cX8_arePricesTo 17 = .ok (.iload 5, 2) := by decide +kernel
theorem dX8_arePricesTo_19 : decode cX8_arePricesTo 19 = .ok (.imul, 1) := by decide +kernel
theorem dX8_arePricesTo_20 : decode cX8_arePricesTo 20 = .ok (.iadd, 1) := by decide +kernel
theorem dX8_arePricesTo_21 : decode cX8_arePricesTo 21 = .ok (.invokevirtual 258, 3) := by decide +kernel
theorem dX8_arePricesTo_24 : decode cX8_arePricesTo 24 = .ok (.istore 6, 2) := by decide +kernel
theorem dX8_arePricesTo_26 : decode cX8_arePricesTo 26 = .ok (.aload_n 0, 1) := by decide +kernel
theorem dX8_arePricesTo_27 : decode cX8_arePricesTo 27 = .ok (.getfield 26, 3) := by decide +kernel
theorem dX8_arePricesTo_30 : decode cX8_arePricesTo 30 = .ok (.iload_n 1, 1) := by decide +kernel
theorem dX8_arePricesTo_31 : decode cX8_arePricesTo 31 = .ok (.iload 6, 2) := by decide +kernel
theorem dX8_arePricesTo_33 : decode cX8_arePricesTo 33 = .ok (.invokevirtual 317, 3) := by decide +kernel
theorem dX8_arePricesTo_36 : decode cX8_arePricesTo 36 = .ok (.aload_n 0, 1) := by decide +kernel
theorem dX8_arePricesTo_37 : decode cX8_arePricesTo 37 = .ok (.getfield 12, 3) := by decide +kernel
theorem dX8_arePricesTo_40 : decode cX8_arePricesTo 40 = .ok (.iload_n 2, 1) := by decide +kernel
theorem dX8_arePricesTo_41 : decode cX8_arePricesTo 41 = .ok (.iload_n 3, 1) := by decide +kernel
theorem dX8_arePricesTo_42 : decode cX8_arePricesTo 42 = .ok (.iconst 2, 1) := by decide +kernel
theorem dX8_arePricesTo_43 : decode cX8_arePricesTo 43 = .ok (.iload 5, 2) := by decide +kernel
theorem dX8_arePricesTo_45 : decode cX8_arePricesTo 45 = .ok (.imul, 1) := by decide +kernel
theorem dX8_arePricesTo_46 : decode cX8_arePricesTo 46 = .ok (.iadd, 1) := by decide +kernel
theorem dX8_arePricesTo_47 : decode cX8_arePricesTo 47 = .ok (.iconst 1, 1) := by decide +kernel
theorem dX8_arePricesTo_48 : decode cX8_arePricesTo 48 = .ok (.iadd, 1) := by decide +kernel
theorem dX8_arePricesTo_49 : decode cX8_arePricesTo 49 = .ok (.invokevirtual 258, 3) := by decide +kernel
theorem dX8_arePricesTo_52 : decode cX8_arePricesTo 52 = .ok (.if_icmp .eq 5, 3) := by decide +kernel
theorem dX8_arePricesTo_55 : decode cX8_arePricesTo 55 = .ok (.iconst 0, 1) := by decide +kernel
theorem dX8_arePricesTo_56 : decode cX8_arePricesTo 56 = .ok (.ireturn, 1) := by decide +kernel
theorem dX8_arePricesTo_57 : decode cX8_arePricesTo 57 = .ok (.iinc 5 1, 3) := by decide +kernel
theorem dX8_arePricesTo_60 : decode cX8_arePricesTo 60 = .ok (.goto (-57), 3) := by decide +kernel
theorem dX8_arePricesTo_63 : decode cX8_arePricesTo 63 = .ok (.iconst 1, 1) := by decide +kernel
theorem dX8_arePricesTo_64 : decode cX8_arePricesTo 64 = .ok (.ireturn, 1) := by decide +kernel

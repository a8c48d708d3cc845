theorem dX9_raised_121 : decode cX9_raised 121 = .ok (.iload 7, 2) := by decide +kernel
theorem dX9_raised_123 : decode cX9_raised 123 = .ok (.iload_n 3, 1) := by decide +kernel
theorem dX9_raised_124 : decode cX9_raised 124 = .ok (.if_icmp .ge 67, 3) := by decide +kernel
theorem dX9_raised_127 : decode cX9_raised 127 = .ok (.aload_n 0, 1) := by decide +kernel
theorem dX9_raised_128 : decode cX9_raised 128 = .ok (.iload 7, 2) := by decide +kernel
theorem dX9_raised_130 : decode cX9_raised 130 = .ok (.iconst 1, 1) := by decide +kernel
theorem dX9_raised_131 : decode cX9_raised 131 = .ok (.iadd, 1) := by decide +kernel
theorem dX9_raised_132 : decode cX9_raised 132 = .ok (.invokevirtual 216, 3) := by decide +kernel
theorem dX9_raised_135 : decode cX9_raised 135 = .ok (.aload_n 0, 1) := by decide +kernel
theorem dX9_raised_136 : decode cX9_raised 136 = .ok (.getfield 25, 3) := by decide +kernel
theorem dX9_raised_139 : decode cX9_raised 139 = .ok (.bipush 6, 2) := by decide +kernel
theorem dX9_raised_141 : decode cX9_raised 141 = .ok (.iload 5, 2) := by decide +kernel
theorem dX9_raised_143 : decode cX9_raised 143 = .ok (.iadd, 1) := by decide +kernel
theorem dX9_raised_144 : decode cX9_raised 144 = .ok (.dup2, 1) := by decide +kernel
theorem dX9_raised_145 : decode cX9_raised 145 = .ok (.iaload, 1) := by decide +kernel
theorem dX9_raised_146 : decode cX9_raised 146 = .ok (.iconst 1, 1) := by decide +kernel
theorem dX9_raised_147 : decode cX9_raised 147 = .ok (.iadd, 1) := by decide +kernel
theorem dX9_raised_148 : decode cX9_raised 148 = .ok (.iastore, 1) := by decide +kernel
theorem dX9_raised_149 : decode cX9_raised 149 = .ok (.iload 6, 2) := by decide +kernel
theorem dX9_raised_151 : decode cX9_raised 151 = .ok (.ifCond .eq 31, 3) := by decide +kernel
theorem dX9_raised_154 : decode cX9_raised 154 = .ok (.aload_n 0, 1) := by decide +kernel
theorem dX9_raised_155 : decode cX9_raised 155 = .ok (.getfield 25, 3) := by decide +kernel
theorem dX9_raised_158 : decode cX9_raised 158 = .ok (.invokestatic 219, 3) := by decide +kernel
theorem dX9_raised_161 : decode cX9_raised 161 = .ok (.aload_n 0, 1) := by decide +kernel
theorem dX9_raised_162 : decode cX9_raised 162 = .ok (.getfield 16, 3) := by decide +kernel
theorem dX9_raised_165 : decode cX9_raised 165 = .ok (.bipush 40, 2) := by decide +kernel
theorem dX9_raised_167 : decode cX9_raised 167 = .ok (.iload_n 1, 1) := by decide +kernel
theorem dX9_raised_168 : decode cX9_raised 168 = .ok (.imul, 1) := by decide +kernel
theorem dX9_raised_169 : decode cX9_raised 169 = .ok (.iload_n 2, 1) := by decide +kernel
theorem dX9_raised_170 : decode cX9_raised 170 = .ok (.iadd, 1) := by decide +kernel
theorem dX9_raised_171 : decode cX9_raised 171 = .ok (.iload 7, 2) := by decide +kernel
theorem dX9_raised_173 : decode cX9_raised 173 = .ok (.iadd, 1) := by decide +kernel
theorem dX9_raised_174 : decode cX9_raised 174 = .ok (.iaload, 1) := by decide +kernel
theorem dX9_raised_175 : decode cX9_raised 175 = .ok (.if_icmp .ne 7, 3) := by decide +kernel
theorem dX9_raised_178 : decode cX9_raised 178 = .ok (.iconst 1, 1) := by decide +kernel
theorem dX9_raised_179 : decode cX9_raised 179 = .ok (.goto 4, 3) := by decide +kernel
theorem dX9_raised_182 : decode cX9_raised 182 = .ok (.iconst 0, 1) := by decide +kernel
theorem dX9_raised_183 : decode cX9_raised 183 = .ok (.istore 6, 2) := by decide +kernel
theorem dX9_raised_185 : decode cX9_raised 185 = .ok (.iinc 7 1, 3) := by decide +kernel
theorem dX9_raised_188 : decode cX9_raised 188 = .ok (.goto (-67), 3) := by decide +kernel
theorem dX9_raised_191 : decode cX9_raised 191 = .ok (.iload 4, 2) := by decide +kernel
theorem dX9_raised_193 : decode cX9_raised 193 = .ok (.iload 6, 2) := by decide +kernel
theorem dX9_raised_195 : decode cX9_raised 195 = .ok (.ifCond .eq 10, 3) := by decide +kernel
theorem dX9_raised_198 : decode cX9_raised 198 = .ok (.iconst 1, 1) := by decide +kernel
theorem dX9_raised_199 : decode cX9_raised 199 = .ok (.iload 5, 2) := by decide +kernel
theorem dX9_raised_201 : decode cX9_raised 201 = .ok (.ishl, 1) := by decide +kernel
theorem dX9_raised_202 : decode cX9_raised 202 = .ok (.goto 4, 3) := by decide +kernel
theorem dX9_raised_205 : decode cX9_raised 205 = .ok (.iconst 0, 1) := by decide +kernel
theorem dX9_raised_206 : decode cX9_raised 206 = .ok (.ior, 1) := by decide +kernel
theorem dX9_raised_207 : decode cX9_raised 207 = .ok (.istore 4, 2) := by decide +kernel
theorem dX9_raised_209 : decode cX9_raised 209 = .ok (.iinc 5 1, 3) := by decide +kernel
theorem dX9_raised_212 : decode cX9_raised 212 = .ok (.goto (-123), 3) := by decide +kernel
theorem dX9_raised_215 : decode cX9_raised 215 = .ok (.iload 4, 2) := by decide +kernel
theorem dX9_raised_217 : decode cX9_raised 217 = .ok (.ireturn, 1) := by decide +kernel
set_option maxRecDepth 20000 in
theorem ggX9_who_X9_isThere : GoodIn wsX9_who wsX9_isThere := goodIn_r _ [14, 9, 34, 35, 36, 37, 38, 39, 40, 41, 42, 43, 44, 45, 46, 47, 48, 49, 50, 51, 52, 53, 54, 55, 56] (by decide +kernel) (by decide +kernel)
set_option maxRecDepth 20000 in
theorem gX9_who_X9_isThere : GoodIn wsX9_who (wsV RX9 178 RX9 yX9_isThere wsX9_isThere) := goodIn_app (goodIn_of _ (by decide +kernel)) ggX9_who_X9_isThere
set_option maxRecDepth 20000 in
theorem ggX9_who_X9_isRow : GoodIn wsX9_who wsX9_isRow := goodIn_r _ [17, 18, 19, 20, 13, 21] (by decide +kernel) (by decide +kernel)
set_option maxRecDepth 20000 in
theorem gX9_who_X9_isRow : GoodIn wsX9_who (va_wsS RX9 58 yX9_isRow wsX9_isRow) := goodIn_app (goodIn_of _ (by decide +kernel)) ggX9_who_X9_isRow
set_option maxRecDepth 20000 in
theorem ggX9_who_X9_in : GoodIn wsX9_who wsX9_in := goodIn_r _ [21] (by decide +kernel) (by decide +kernel)
set_option maxRecDepth 20000 in
theorem gX9_who_X9_in : GoodIn wsX9_who (va_wsS RX9 54 yX9_in wsX9_in) := goodIn_app (goodIn_of _ (by decide +kernel)) ggX9_who_X9_in
set_option maxRecDepth 20000 in
theorem ggX9_who_X9_finding : GoodIn wsX9_who wsX9_finding := goodIn_r _ [25, 8, 26, 34, 35, 36, 37, 38, 39, 40, 41, 42, 43, 44, 45, 46, 47, 48, 49, 50, 51, 52, 53, 54, 55, 56] (by decide +kernel) (by decide +kernel)
set_option maxRecDepth 20000 in
theorem gX9_who_X9_finding : GoodIn wsX9_who (wsV RX9 65 RX9 yX9_finding wsX9_finding) := goodIn_app (goodIn_of _ (by decide +kernel)) ggX9_who_X9_finding
set_option maxRecDepth 20000 in
theorem ggX9_who_X9_isCell : GoodIn wsX9_who wsX9_isCell := goodIn_r _ [29, 30, 19, 20, 13, 21] (by decide +kernel) (by decide +kernel)
set_option maxRecDepth 20000 in
theorem gX9_who_X9_isCell : GoodIn wsX9_who (va_wsS RX9 198 yX9_isCell wsX9_isCell) := goodIn_app (goodIn_of _ (by decide +kernel)) ggX9_who_X9_isCell
set_option maxRecDepth 20000 in
theorem ggX9_who_X9_priceBy : GoodIn wsX9_who wsX9_priceBy := goodIn_r _ [33] (by decide +kernel) (by decide +kernel)
set_option maxRecDepth 20000 in
theorem gX9_who_X9_priceBy : GoodIn wsX9_who (va_wsS RX9 172 yX9_priceBy wsX9_priceBy) := goodIn_app (goodIn_of _ (by decide +kernel)) ggX9_who_X9_priceBy
theorem dX9_who_0 : decode cX9_who 0 = .ok (.aload_n 0, 1) := by decide +kernel
theorem dX9_who_1 : decode cX9_who 1 = .ok (.iconst 0, 1) := by decide +kernel
theorem dX9_who_2 : decode cX9_who 2 = .ok (.putfield 44, 3) := by decide +kernel
theorem dX9_who_5 : decode cX9_who 5 = .ok (.aload_n 0, 1) := by decide +kernel
theorem dX9_who_6 : decode cX9_who 6 = .ok (.invokevirtual 178, 3) := by decide +kernel
theorem dX9_who_9 : decode cX9_who 9 = .ok (.ifCond .ne 6, 3) := by decide +kernel
theorem dX9_who_12 : decode cX9_who 12 = .ok (.ldc 181, 2) := by decide +kernel
theorem dX9_who_14 : decode cX9_who 14 = .ok (.ireturn, 1) := by decide +kernel
theorem dX9_who_15 : decode cX9_who 15 = .ok (.iload_n 1, 1) := by decide +kernel
theorem dX9_who_16 : decode cX9_who 16 = .ok (.invokestatic 58, 3) := by decide +kernel
theorem dX9_who_19 : decode cX9_who 19 = .ok (.ifCond .eq 15, 3) := by decide +kernel
theorem dX9_who_22 : decode cX9_who 22 = .ok (.iload_n 3, 1) := by decide +kernel
theorem dX9_who_23 : decode cX9_who 23 = .ok (.i2l, 1) := by decide +kernel
theorem dX9_who_24 : decode cX9_who 24 = .ok (.lconst 1, 1) := by decide +kernel
theorem dX9_who_25 : decode cX9_who 25 = .ok (.ldc2_w 231, 3) := by decide +kernel
theorem dX9_who_28 : decode cX9_who 28 = .ok (.invokestatic 54, 3) := by decide +kernel
theorem dX9_who_31 : decode cX9_who 31 = .ok (.ifCond .ne 6, 3) := by decide +kernel
theorem dX9_who_34 : decode cX9_who 34 = .ok (.ldc 64, 2) := by decide +kernel
theorem dX9_who_36 : decode cX9_who 36 = .ok (.ireturn, 1) := by decide +kernel
theorem dX9_who_37 : decode cX9_who 37 = .ok (.aload_n 0, 1) := by decide +kernel
theorem dX9_who_38 : decode cX9_who 38 = .ok (.getfield 7, 3) := by decide +kernel
theorem dX9_who_41 : decode cX9_who 41 = .ok (.iload_n 1, 1) := by decide +kernel
theorem dX9_who_42 : decode cX9_who 42 = .ok (.iaload, 1) := by decide +kernel
theorem dX9_who_43 : decode cX9_who 43 = .ok (.ifCond .ge 9, 3) := by decide +kernel
theorem dX9_who_46 : decode cX9_who 46 = .ok (.aload_n 0, 1) := by decide +kernel
theorem dX9_who_47 : decode cX9_who 47 = .ok (.iconst 1, 1) := by decide +kernel
theorem dX9_who_48 : decode cX9_who 48 = .ok (.invokevirtual 65, 3) := by decide +kernel
theorem dX9_who_51 : decode cX9_who 51 = .ok (.ireturn, 1) := by decide +kernel
theorem dX9_who_52 : decode cX9_who 52 = .ok (.iload_n 2, 1) := by decide +kernel
theorem dX9_who_53 : decode cX9_who 53 = .ok (.ifCond .lt 21, 3) := by decide +kernel
theorem dX9_who_56 : decode cX9_who 56 = .ok (.iload_n 2, 1) := by decide +kernel
theorem dX9_who_57 : decode cX9_who 57 = .ok (.i2l, 1) := by decide +kernel
theorem dX9_who_58 : decode cX9_who 58 = .ok (.iconst 2, 1) := by decide +kernel
theorem dX9_who_59 : decode cX9_who 59 = .ok (.iload_n 3, 1) := by decide +kernel
theorem dX9_who_60 : decode cX9_who 60 = .ok (.imul, 1) := by decide +kernel
theorem dX9_who_61 : decode cX9_who 61 = .ok (.i2l, 1) := by decide +kernel
theorem dX9_who_62 : decode cX9_who 62 = .ok (.ladd, 1) := by decide +kernel
theorem dX9_who_63 : decode cX9_who 63 = .ok (.aload_n 0, 1) := by decide +kernel
theorem dX9_who_64 : decode cX9_who 64 = .ok (.getfield 13, 3) := by decide +kernel
theorem dX9_who_67 : decode cX9_who 67 = .ok (.iload_n 1, 1) := by decide +kernel
theorem dX9_who_68 : decode cX9_who 68 = .ok (.iaload, 1) := by decide +kernel
theorem dX9_who_69 : decode cX9_who 69 = .ok (.i2l, 1) := by decide +kernel
theorem dX9_who_70 : decode cX9_who 70 = .ok (.lcmp, 1) := by decide +kernel
theorem dX9_who_71 : decode cX9_who 71 = .ok (.ifCond .le 9, 3) := by decide +kernel
theorem dX9_who_74 : decode cX9_who 74 = .ok (.aload_n 0, 1) := by decide +kernel
theorem dX9_who_75 : decode cX9_who 75 = .ok (.iconst 2, 1) := by decide +kernel
theorem dX9_who_76 : decode cX9_who 76 = .ok (.invokevirtual 65, 3) := by decide +kernel
theorem dX9_who_79 : decode cX9_who 79 = .ok (.ireturn, 1) := by decide +kernel
theorem dX9_who_80 : decode cX9_who 80 = .ok (.iconst 0, 1) := by decide +kernel
theorem dX9_who_81 : decode cX9_who 81 = .ok (.istore 4, 2) := by decide +kernel
theorem dX9_who_83 : decode cX9_who 83 = .ok (.iload 4, 2) := by decide +kernel
theorem dX9_who_85 : decode cX9_who 85 = .ok (.iload_n 3, 1) := by decide +kernel
theorem dX9_who_86 : decode cX9_who 86 = .ok (.if_icmp .ge 34, 3) := by decide +kernel
theorem dX9_who_89 : decode cX9_who 89 = .ok (.aload_n 0, 1) := by decide +kernel
theorem dX9_who_90 : decode cX9_who 90 = .ok (.getfield 16, 3) := by decide +kernel
theorem dX9_who_93 : decode cX9_who 93 = .ok (.bipush 40, 2) := by decide +kernel
theorem dX9_who_95 : decode cX9_who 95 = .ok (.iload_n 1, 1) := by decide +kernel
theorem dX9_who_96 : decode cX9_who 96 = .ok (.imul, 1) := by decide +kernel
theorem dX9_who_97 : decode cX9_who 97 = .ok (.iload_n 2, 1) := by decide +kernel
theorem dX9_who_98 : decode cX9_who 98 = .ok (.iadd, 1) := by decide +kernel
theorem dX9_who_99 : decode cX9_who 99 = .ok (.iconst 2, 1) := by decide +kernel
theorem dX9_who_100 : decode cX9_who 100 = .ok (.iload 4, 2) := by decide +kernel
theorem dX9_who_102 : decode cX9_who 102 = .ok (.imul, 1) := by decide +kernel
theorem dX9_who_103 : decode cX9_who 103 = .ok (.iadd, 1) := by decide +kernel
theorem dX9_who_104 : decode cX9_who 104 = .ok (.iaload, 1) := by decide +kernel
theorem dX9_who_105 : decode cX9_who 105 = .ok (.invokestatic 198, 3) := by decide +kernel
theorem dX9_who_108 : decode cX9_who 108 = .ok (.ifCond .ne 6, 3) := by decide +kernel
theorem dX9_who_111 : decode cX9_who 111 = .ok (.ldc 64, 2) := by decide +kernel
theorem dX9_who_113 : decode cX9_who 113 = .ok (.ireturn, 1) := by decide +kernel
theorem dX9_who_114 : decode cX9_who 114 = .ok (.iinc 4 1, 3) := by decide +kernel
theorem dX9_who_117 : decode cX9_who 117 = .ok (.goto (-34), 3) := by decide +kernel
theorem dX9_who_120 : decode cX9_who 120 = .ok (.aload_n 0, 1) := by decide +kernel
theorem dX9_who_121 : decode cX9_who 121 = .ok (.iconst 0, 1) := by decide +kernel
theorem dX9_who_122 : decode cX9_who 122 = .ok (.putfield 48, 3) := by decide +kernel
theorem dX9_who_125 : decode cX9_who 125 = .ok (.iconst 0, 1) := by decide +kernel
theorem dX9_who_126 : decode cX9_who 126 = .ok (.istore 4, 2) := by decide +kernel
theorem dX9_who_128 : decode cX9_who 128 = .ok (.iconst 1, 1) := by decide +kernel
theorem dX9_who_129 : decode cX9_who 129 = .ok (.istore 5, 2) := by decide +kernel
theorem dX9_who_131 : decode cX9_who 131 = .ok (.iload 5, 2) := by decide +kernel
theorem dX9_who_133 : decode cX9_who 133 = .ok (.iconst 5, 1) := by decide +kernel
theorem dX9_who_134 : decode cX9_who 134 = .ok (.if_icmp .gt 98, 3) := by decide +kernel
theorem dX9_who_137 : decode cX9_who 137 = .ok (.iconst 1, 1) := by decide +kernel
theorem dX9_who_138 : decode cX9_who 138 = .ok (.istore 6, 2) := by decide +kernel
theorem dX9_who_140 : decode cX9_who 140 = .ok (.iconst 0, 1) := by decide +kernel
theorem dX9_who_141 : decode cX9_who 141 = .ok (.istore 7, 2) := by decide +kernel
theorem dX9_who_143 : decode cX9_who 143 = .ok (.iload 7, 2) := by decide +kernel
theorem dX9_who_145 : decode cX9_who 145 = .ok (.iload_n 3, 1) := by decide +kernel
theorem dX9_who_146 : decode cX9_who 146 = .ok (.if_icmp .ge 62, 3) := by decide +kernel
theorem dX9_who_149 : decode cX9_who 149 = .ok (.bipush 40, 2) := by decide +kernel
theorem dX9_who_151 : decode cX9_who 151 = .ok (.iload_n 1, 1) := by decide +kernel
theorem dX9_who_152 : decode cX9_who 152 = .ok (.imul, 1) := by decide +kernel
theorem dX9_who_153 : decode cX9_who 153 = .ok (.iload_n 2, 1) := by decide +kernel
theorem dX9_who_154 : decode cX9_who 154 = .ok (.iadd, 1) := by decide +kernel
theorem dX9_who_155 : decode cX9_who 155 = .ok (.iconst 2, 1) := by decide +kernel
theorem dX9_who_156 : decode cX9_who 156 = .ok (.iload 7, 2) := by decide +kernel
theorem dX9_who_158 : decode cX9_who 158 = .ok (.imul, 1) := by decide +kernel
theorem dX9_who_159 : decode cX9_who 159 = .ok (.iadd, 1) := by decide +kernel
theorem dX9_who_160 : decode cX9_who 160 = .ok (.istore 8, 2) := by decide +kernel
theorem dX9_who_162 : decode cX9_who 162 = .ok (.iload 6, 2) := by decide +kernel
theorem dX9_who_164 : decode cX9_who 164 = .ok (.ifCond .eq 35, 3) := by decide +kernel
theorem dX9_who_167 : decode cX9_who 167 = .ok (.aload_n 0, 1) := by decide +kernel
theorem dX9_who_168 : decode cX9_who 168 = .ok (.getfield 19, 3) := by decide +kernel
theorem dX9_who_171 : decode cX9_who 171 = .ok (.iload 5, 2) := by decide +kernel
theorem dX9_who_173 : decode cX9_who 173 = .ok (.aload_n 0, 1) := by decide +kernel
theorem dX9_who_174 : decode cX9_who 174 = .ok (.getfield 16, 3) := by decide +kernel
theorem dX9_who_177 : decode cX9_who 177 = .ok (.iload 8, 2) := by decide +kernel
theorem dX9_who_179 : decode cX9_who 179 = .ok (.iaload, 1) := by decide +kernel
theorem dX9_who_180 : decode cX9_who 180 = .ok (.invokestatic 172, 3) := by decide +kernel
theorem dX9_who_183 : decode cX9_who 183 = .ok (.aload_n 0, 1) := by decide +kernel
theorem dX9_who_184 : decode cX9_who 184 = .ok (.getfield 16, 3) := by decide +kernel
theorem dX9_who_187 : decode cX9_who 187 = .ok (.iload 8, 2) := by decide +kernel
theorem dX9_who_189 : decode cX9_who 189 = .ok (.iconst 1, 1) := by decide +kernel
theorem dX9_who_190 : decode cX9_who 190 = .ok (.iadd, 1) := by decide +kernel
theorem dX9_who_191 : decode cX9_who 191 = .ok (.iaload, 1) := by decide +kernel
theorem dX9_who_192 : decode cX9_who 192 = .ok (.if_icmp .ne 7, 3) := by decide +kernel
theorem dX9_who_195 : decode cX9_who 195 = .ok (.iconst 1, 1) := by decide +kernel
theorem dX9_who_196 : decode cX9_who 196 = .ok (.goto 4, 3) := by decide +kernel
theorem dX9_who_199 : decode cX9_who 199 = .ok (.iconst 0, 1) := by decide +kernel
theorem dX9_who_200 : decode cX9_who 200 = .ok (.istore 6, 2) := by decide +kernel
theorem dX9_who_202 : decode cX9_who 202 = .ok (.iinc 7 1, 3) := by decide +kernel
theorem dX9_who_205 : decode cX9_who 205 = .ok (.goto (-62), 3) := by decide +kernel
theorem dX9_who_208 : decode cX9_who 208 = .ok (.iload 4, 2) := by decide +kernel
theorem dX9_who_210 : decode cX9_who 210 = .ok (.iload 6, 2) := by decide +kernel
theorem dX9_who_212 : decode cX9_who 212 = .ok (.ifCond .eq 10, 3) := by decide +kernel
theorem dX9_who_215 : decode cX9_who 215 = .ok (.iconst 1, 1) := by decide +kernel
theorem dX9_who_216 : decode cX9_who 216 = .ok (.iload 5, 2) := by decide +kernel
theorem dX9_who_218 : decode cX9_who 218 = .ok (.ishl, 1) := by decide +kernel
theorem dX9_who_219 : decode cX9_who 219 = .ok (.goto 4, 3) := by decide +kernel
theorem dX9_who_222 : decode cX9_who 222 = .ok (.iconst 0, 1) := by decide +kernel
theorem dX9_who_223 : decode cX9_who 223 = .ok (.ior, 1) := by decide +kernel
theorem dX9_who_224 : decode cX9_who 224 = .ok (.istore 4, 2) := by decide +kernel
theorem dX9_who_226 : decode cX9_who 226 = .ok (.iinc 5 1, 3) := by decide +kernel
theorem dX9_who_229 : decode cX9_who 229 = .ok (.goto (-98), 3) := by decide +kernel
theorem dX9_who_232 : decode cX9_who 232 = .ok (.iload 4, 2) := by decide +kernel
theorem dX9_who_234 : decode cX9_who 234 = .ok (.ireturn, 1) := by decide +kernel
set_option maxRecDepth 20000 in
theorem ggX9_ring_X9_isThere : GoodIn wsX9_ring wsX9_isThere := goodIn_r _ [9, 4, 26, 27, 28, 29, 30, 31, 32, 33, 34, 35, 36, 37, 38, 39, 40, 41, 42, 43, 44, 45, 46, 47, 48] (by decide +kernel) (by decide +kernel)
set_option maxRecDepth 20000 in
theorem gX9_ring_X9_isThere : GoodIn wsX9_ring (wsV RX9 178 RX9 yX9_isThere wsX9_isThere) := goodIn_app (goodIn_of _ (by decide +kernel)) ggX9_ring_X9_isThere
set_option maxRecDepth 20000 in
theorem ggX9_ring_X9_isCell : GoodIn wsX9_ring wsX9_isCell := goodIn_r _ [12, 13, 14, 15, 8, 16] (by decide +kernel) (by decide +kernel)
set_option maxRecDepth 20000 in
theorem gX9_ring_X9_isCell : GoodIn wsX9_ring (va_wsS RX9 198 yX9_isCell wsX9_isCell) := goodIn_app (goodIn_of _ (by decide +kernel)) ggX9_ring_X9_isCell
set_option maxRecDepth 20000 in
theorem ggX9_ring_X9_in : GoodIn wsX9_ring wsX9_in := goodIn_r _ [16] (by decide +kernel) (by decide +kernel)
set_option maxRecDepth 20000 in
theorem gX9_ring_X9_in : GoodIn wsX9_ring (va_wsS RX9 54 yX9_in wsX9_in) := goodIn_app (goodIn_of _ (by decide +kernel)) ggX9_ring_X9_in
set_option maxRecDepth 20000 in
theorem ggX9_ring_X9_beside : GoodIn wsX9_ring wsX9_beside := goodIn_r _ [19] (by decide +kernel) (by decide +kernel)
set_option maxRecDepth 20000 in
theorem gX9_ring_X9_beside : GoodIn wsX9_ring (va_wsS RX9 175 yX9_beside wsX9_beside) := goodIn_app (goodIn_of _ (by decide +kernel)) ggX9_ring_X9_beside
set_option maxRecDepth 20000 in
theorem ggX9_ring_X9_bits : GoodIn wsX9_ring wsX9_bits := goodIn_r _ [22] (by decide +kernel) (by decide +kernel)
set_option maxRecDepth 20000 in
theorem gX9_ring_X9_bits : GoodIn wsX9_ring (va_wsS RX9 233 yX9_bits wsX9_bits) := goodIn_app (goodIn_of _ (by decide +kernel)) ggX9_ring_X9_bits
set_option maxRecDepth 20000 in
theorem ggX9_ring_X9_priceBy : GoodIn wsX9_ring wsX9_priceBy := goodIn_r _ [25] (by decide +kernel) (by decide +kernel)
set_option maxRecDepth 20000 in
theorem gX9_ring_X9_priceBy : GoodIn wsX9_ring (va_wsS RX9 172 yX9_priceBy wsX9_priceBy) := goodIn_app (goodIn_of _ (by decide +kernel)) ggX9_ring_X9_priceBy
theorem dX9_ring_0 : decode cX9_ring 0 = .ok (.aload_n 0, 1) := by decide +kernel
theorem dX9_ring_1 : decode cX9_ring 1 = .ok (.iconst 0, 1) := by decide +kernel
theorem dX9_ring_2 : decode cX9_ring 2 = .ok (.putfield 44, 3) := by decide +kernel
theorem dX9_ring_5 : decode cX9_ring 5 = .ok (.aload_n 0, 1) := by decide +kernel
theorem dX9_ring_6 : decode cX9_ring 6 = .ok (.invokevirtual 178, 3) := by decide +kernel
theorem dX9_ring_9 : decode cX9_ring 9 = .ok (.ifCond .ne 6, 3) := by decide +kernel
theorem dX9_ring_12 : decode cX9_ring 12 = .ok (.ldc 181, 2) := by decide +kernel
theorem dX9_ring_14 : decode cX9_ring 14 = .ok (.ireturn, 1) := by decide +kernel
theorem dX9_ring_15 : decode cX9_ring 15 = .ok (.iload_n 1, 1) := by decide +kernel
theorem dX9_ring_16 : decode cX9_ring 16 = .ok (.invokestatic 198, 3) := by decide +kernel
theorem dX9_ring_19 : decode cX9_ring 19 = .ok (.ifCond .eq 13, 3) := by decide +kernel
theorem dX9_ring_22 : decode cX9_ring 22 = .ok (.iload_n 2, 1) := by decide +kernel
theorem dX9_ring_23 : decode cX9_ring 23 = .ok (.i2l, 1) := by decide +kernel
theorem dX9_ring_24 : decode cX9_ring 24 = .ok (.lconst 0, 1) := by decide +kernel
theorem dX9_ring_25 : decode cX9_ring 25 = .ok (.lconst 1, 1) := by decide +kernel
theorem dX9_ring_26 : decode cX9_ring 26 = .ok (.invokestatic 54, 3) := by decide +kernel
theorem dX9_ring_29 : decode cX9_ring 29 = .ok (.ifCond .ne 6, 3) := by decide +kernel
theorem dX9_ring_32 : decode cX9_ring 32 = .ok (.ldc 64, 2) := by decide +kernel
theorem dX9_ring_34 : decode cX9_ring 34 = .ok (.ireturn, 1) := by decide +kernel
theorem dX9_ring_35 : decode cX9_ring 35 = .ok (.iconst 1, 1) := by decide +kernel
theorem dX9_ring_36 : decode cX9_ring 36 = .ok (.iload_n 1, 1) := by decide +kernel
theorem dX9_ring_37 : decode cX9_ring 37 = .ok (.ishl, 1) := by decide +kernel
theorem dX9_ring_38 : decode cX9_ring 38 = .ok (.invokestatic 175, 3) := by decide +kernel
theorem dX9_ring_41 : decode cX9_ring 41 = .ok (.istore_n 3, 1) := by decide +kernel
theorem dX9_ring_42 : decode cX9_ring 42 = .ok (.iload_n 3, 1) := by decide +kernel
theorem dX9_ring_43 : decode cX9_ring 43 = .ok (.istore 4, 2) := by decide +kernel
theorem dX9_ring_45 : decode cX9_ring 45 = .ok (.iconst 0, 1) := by decide +kernel
theorem dX9_ring_46 : decode cX9_ring 46 = .ok (.istore 5, 2) := by decide +kernel
theorem dX9_ring_48 : decode cX9_ring 48 = .ok (.iload 5, 2) := by decide +kernel
theorem dX9_ring_50 : decode cX9_ring 50 = .ok (.bipush 15, 2) := by decide +kernel
theorem dX9_ring_52 : decode cX9_ring 52 = .ok (.if_icmp .ge 44, 3) := by decide +kernel
theorem dX9_ring_55 : decode cX9_ring 55 = .ok (.iload 4, 2) := by decide +kernel
theorem dX9_ring_57 : decode cX9_ring 57 = .ok (.iload 5, 2) := by decide +kernel
theorem dX9_ring_59 : decode cX9_ring 59 = .ok (.iload_n 1, 1) := by decide +kernel
theorem dX9_ring_60 : decode cX9_ring 60 = .ok (.if_icmp .eq 26, 3) := by decide +kernel
theorem dX9_ring_63 : decode cX9_ring 63 = .ok (.iconst 1, 1) := by decide +kernel
theorem dX9_ring_64 : decode cX9_ring 64 = .ok (.iload 5, 2) := by decide +kernel
theorem dX9_ring_66 : decode cX9_ring 66 = .ok (.ishl, 1) := by decide +kernel
theorem dX9_ring_67 : decode cX9_ring 67 = .ok (.invokestatic 175, 3) := by decide +kernel
theorem dX9_ring_70 : decode cX9_ring 70 = .ok (.iload_n 3, 1) := by decide +kernel
theorem dX9_ring_71 : decode cX9_ring 71 = .ok (.iand, 1) := by decide +kernel
theorem dX9_ring_72 : decode cX9_ring 72 = .ok (.invokestatic 233, 3) := by decide +kernel
theorem dX9_ring_75 : decode cX9_ring 75 = .ok (.iconst 1, 1) := by decide +kernel
theorem dX9_ring_76 : decode cX9_ring 76 = .ok (.if_icmp .le 10, 3) := by decide +kernel
theorem dX9_ring_79 : decode cX9_ring 79 = .ok (.iconst 1, 1) := by decide +kernel
theorem dX9_ring_80 : decode cX9_ring 80 = .ok (.iload 5, 2) := by decide +kernel
theorem dX9_ring_82 : decode cX9_ring 82 = .ok (.ishl, 1) := by decide +kernel
theorem dX9_ring_83 : decode cX9_ring 83 = .ok (.goto 4, 3) := by decide +kernel
theorem dX9_ring_86 : decode cX9_ring 86 = .ok (.iconst 0, 1) := by decide +kernel
theorem dX9_ring_87 : decode cX9_ring 87 = .ok (.ior, 1) := by decide +kernel
theorem dX9_ring_88 : decode cX9_ring 88 = .ok (.istore 4, 2) := by decide +kernel
theorem dX9_ring_90 : decode cX9_ring 90 = .ok (.iinc 5 1, 3) := by decide +kernel
theorem dX9_ring_93 : decode cX9_ring 93 = .ok (.goto (-45), 3) := by decide +kernel
theorem dX9_ring_96 : decode cX9_ring 96 = .ok (.iconst 0, 1) := by decide +kernel
theorem dX9_ring_97 : decode cX9_ring 97 = .ok (.istore 5, 2) := by decide +kernel
theorem dX9_ring_99 : decode cX9_ring 99 = .ok (.iconst 0, 1) := by decide +kernel
theorem dX9_ring_100 : decode cX9_ring 100 = .ok (.istore 6, 2) := by decide +kernel
theorem dX9_ring_102 : decode cX9_ring 102 = .ok (.iload 6, 2) := by decide +kernel
theorem dX9_ring_104 : decode cX9_ring 104 = .ok (.bipush 15, 2) := by decide +kernel
theorem dX9_ring_106 : decode cX9_ring 106 = .ok (.if_icmp .ge 52, 3) := by decide +kernel
theorem dX9_ring_109 : decode cX9_ring 109 = .ok (.iload 5, 2) := by decide +kernel
theorem dX9_ring_111 : decode cX9_ring 111 = .ok (.iload 4, 2) := by decide +kernel
theorem dX9_ring_113 : decode cX9_ring 113 = .ok (.iload 6, 2) := by decide +kernel
theorem dX9_ring_115 : decode cX9_ring 115 = .ok (.ishr, 1) := by decide +kernel
theorem dX9_ring_116 : decode cX9_ring 116 = .ok (.iconst 1, 1) := by decide +kernel
theorem dX9_ring_117 : decode cX9_ring 117 = .ok (.iand, 1) := by decide +kernel
theorem dX9_ring_118 : decode cX9_ring 118 = .ok (.iconst 1, 1) := by decide +kernel
theorem dX9_ring_119 : decode cX9_ring 119 = .ok (.if_icmp .ne 29, 3) := by decide +kernel
theorem dX9_ring_122 : decode cX9_ring 122 = .ok (.aload_n 0, 1) := by decide +kernel
theorem dX9_ring_123 : decode cX9_ring 123 = .ok (.getfield 19, 3) := by decide +kernel
theorem dX9_ring_126 : decode cX9_ring 126 = .ok (.bipush 21, 2) := by decide +kernel
theorem dX9_ring_128 : decode cX9_ring 128 = .ok (.iload 6, 2) := by decide +kernel
theorem dX9_ring_130 : decode cX9_ring 130 = .ok (.iadd, 1) := by decide +kernel
theorem dX9_ring_131 : decode cX9_ring 131 = .ok (.iaload, 1) := by decide +kernel
theorem dX9_ring_132 : decode cX9_ring 132 = .ok (.ifCond .ne 16, 3) := by decide +kernel
theorem dX9_ring_135 : decode cX9_ring 135 = .ok (.aload_n 0, 1) := by decide +kernel
theorem dX9_ring_136 : decode cX9_ring 136 = .ok (.getfield 19, 3) := by decide +kernel
theorem dX9_ring_139 : decode cX9_ring 139 = .ok (.iconst 1, 1) := by decide +kernel
theorem dX9_ring_140 : decode cX9_ring 140 = .ok (.iload 6, 2) := by decide +kernel
theorem dX9_ring_142 : decode cX9_ring 142 = .ok (.invokestatic 172, 3) := by decide +kernel
theorem dX9_ring_145 : decode cX9_ring 145 = .ok (.goto 4, 3) := by decide +kernel
theorem dX9_ring_148 : decode cX9_ring 148 = .ok (.iconst 0, 1) := by decide +kernel
theorem dX9_ring_149 : decode cX9_ring 149 = .ok (.iadd, 1) := by decide +kernel
theorem dX9_ring_150 : decode cX9_ring 150 = .ok (.istore 5, 2) := by decide +kernel
theorem dX9_ring_152 : decode cX9_ring 152 = .ok (.iinc 6 1, 3) := by decide +kernel
theorem dX9_ring_155 : decode cX9_ring 155 = .ok (.goto (-53), 3) := by decide +kernel
theorem dX9_ring_158 : decode cX9_ring 158 = .ok (.iload_n 2, 1) := by decide +kernel
theorem dX9_ring_159 : decode cX9_ring 159 = .ok (.ifCond .ne 8, 3) := by decide +kernel
theorem dX9_ring_162 : decode cX9_ring 162 = .ok (.iload 5, 2) := by decide +kernel
theorem dX9_ring_164 : decode cX9_ring 164 = .ok (.goto 8, 3) := by decide +kernel
theorem dX9_ring_167 : decode cX9_ring 167 = .ok (.iload 4, 2) := by decide +kernel
theorem dX9_ring_169 : decode cX9_ring 169 = .ok (.invokestatic 233, 3) := by decide +kernel
theorem dX9_ring_172 : decode cX9_ring 172 = .ok (.ireturn, 1) := by decide +kernel
set_option maxRecDepth 20000 in
theorem ggX9_purses_X9_isBidder : GoodIn wsX9_purses wsX9_isBidder := goodIn_r _ [14, 7, 15, 16, 13, 17, 37, 38, 39, 40, 41, 42, 43, 44, 45, 46, 47, 48, 49, 50, 51, 52, 53, 54, 55, 56, 57, 58, 59] (by decide +kernel) (by decide +kernel)
set_option maxRecDepth 20000 in
theorem gX9_purses_X9_isBidder : GoodIn wsX9_purses (wsV RX9 195 RX9 yX9_isBidder wsX9_isBidder) := goodIn_app (goodIn_of _ (by decide +kernel)) ggX9_purses_X9_isBidder
set_option maxRecDepth 20000 in
theorem ggX9_purses_X9_isRow : GoodIn wsX9_purses wsX9_isRow := goodIn_r _ [20, 21, 15, 16, 13, 17] (by decide +kernel) (by decide +kernel)
set_option maxRecDepth 20000 in
theorem gX9_purses_X9_isRow : GoodIn wsX9_purses (va_wsS RX9 58 yX9_isRow wsX9_isRow) := goodIn_app (goodIn_of _ (by decide +kernel)) ggX9_purses_X9_isRow
set_option maxRecDepth 20000 in
theorem ggX9_purses_X9_in : GoodIn wsX9_purses wsX9_in := goodIn_r _ [17] (by decide +kernel) (by decide +kernel)
set_option maxRecDepth 20000 in
theorem gX9_purses_X9_in : GoodIn wsX9_purses (va_wsS RX9 54 yX9_in wsX9_in) := goodIn_app (goodIn_of _ (by decide +kernel)) ggX9_purses_X9_in
set_option maxRecDepth 20000 in
theorem ggX9_purses_X9_finding : GoodIn wsX9_purses wsX9_finding := goodIn_r _ [25, 8, 26, 37, 38, 39, 40, 41, 42, 43, 44, 45, 46, 47, 48, 49, 50, 51, 52, 53, 54, 55, 56, 57, 58, 59] (by decide +kernel) (by decide +kernel)
set_option maxRecDepth 20000 in
theorem gX9_purses_X9_finding : GoodIn wsX9_purses (wsV RX9 65 RX9 yX9_finding wsX9_finding) := goodIn_app (goodIn_of _ (by decide +kernel)) ggX9_purses_X9_finding
set_option maxRecDepth 20000 in
theorem ggX9_purses_X9_isCell : GoodIn wsX9_purses wsX9_isCell := goodIn_r _ [29, 30, 15, 16, 13, 17] (by decide +kernel) (by decide +kernel)
set_option maxRecDepth 20000 in
theorem gX9_purses_X9_isCell : GoodIn wsX9_purses (va_wsS RX9 198 yX9_isCell wsX9_isCell) := goodIn_app (goodIn_of _ (by decide +kernel)) ggX9_purses_X9_isCell
set_option maxRecDepth 20000 in
theorem ggX9_purses_X9_of : GoodIn wsX9_purses wsX9_of := goodIn_r _ [33] (by decide +kernel) (by decide +kernel)
set_option maxRecDepth 20000 in
theorem gX9_purses_X9_of : GoodIn wsX9_purses (va_wsS RX9 158 yX9_of wsX9_of) := goodIn_app (goodIn_of _ (by decide +kernel)) ggX9_purses_X9_of
set_option maxRecDepth 20000 in
theorem ggX9_purses_X9_priceBy : GoodIn wsX9_purses wsX9_priceBy := goodIn_r _ [36] (by decide +kernel) (by decide +kernel)
set_option maxRecDepth 20000 in
theorem gX9_purses_X9_priceBy : GoodIn wsX9_purses (va_wsS RX9 172 yX9_priceBy wsX9_priceBy) := goodIn_app (goodIn_of _ (by decide +kernel)) ggX9_purses_X9_priceBy
theorem dX9_purses_0 : decode cX9_purses 0 = .ok (.aload_n 0, 1) := by decide +kernel
theorem dX9_purses_1 : decode cX9_purses 1 = .ok (.iconst 0, 1) := by decide +kernel
theorem dX9_purses_2 : decode cX9_purses 2 = .ok (.putfield 44, 3) := by decide +kernel
theorem dX9_purses_5 : decode cX9_purses 5 = .ok (.aload_n 0, 1) := by decide +kernel
theorem dX9_purses_6 : decode cX9_purses 6 = .ok (.iload_n 1, 1) := by decide +kernel
theorem dX9_purses_7 : decode cX9_purses 7 = .ok (.invokevirtual 195, 3) := by decide +kernel
theorem dX9_purses_10 : decode cX9_purses 10 = .ok (.ifCond .eq 34, 3) := by decide +kernel
theorem dX9_purses_13 : decode cX9_purses 13 = .ok (.iload_n 2, 1) := by decide +kernel
theorem dX9_purses_14 : decode cX9_purses 14 = .ok (.invokestatic 58, 3) := by decide +kernel
theorem dX9_purses_17 : decode cX9_purses 17 = .ok (.ifCond .eq 27, 3) := by decide +kernel
theorem dX9_purses_20 : decode cX9_purses 20 = .ok (.iload 4, 2) := by decide +kernel
theorem dX9_purses_22 : decode cX9_purses 22 = .ok (.i2l, 1) := by decide +kernel
theorem dX9_purses_23 : decode cX9_purses 23 = .ok (.lconst 1, 1) := by decide +kernel
theorem dX9_purses_24 : decode cX9_purses 24 = .ok (.ldc2_w 231, 3) := by decide +kernel
theorem dX9_purses_27 : decode cX9_purses 27 = .ok (.invokestatic 54, 3) := by decide +kernel
theorem dX9_purses_30 : decode cX9_purses 30 = .ok (.ifCond .eq 14, 3) := by decide +kernel
theorem dX9_purses_33 : decode cX9_purses 33 = .ok (.iload 5, 2) := by decide +kernel
theorem dX9_purses_35 : decode cX9_purses 35 = .ok (.i2l, 1) := by decide +kernel
theorem dX9_purses_36 : decode cX9_purses 36 = .ok (.lconst 0, 1) := by decide +kernel
theorem dX9_purses_37 : decode cX9_purses 37 = .ok (.lconst 1, 1) := by decide +kernel
theorem dX9_purses_38 : decode cX9_purses 38 = .ok (.invokestatic 54, 3) := by decide +kernel
theorem dX9_purses_41 : decode cX9_purses 41 = .ok (.ifCond .ne 6, 3) := by decide +kernel
theorem dX9_purses_44 : decode cX9_purses 44 = .ok (.ldc 64, 2) := by decide +kernel
theorem dX9_purses_46 : decode cX9_purses 46 = .ok (.ireturn, 1) := by decide +kernel
theorem dX9_purses_47 : decode cX9_purses 47 = .ok (.aload_n 0, 1) := by decide +kernel
theorem dX9_purses_48 : decode cX9_purses 48 = .ok (.getfield 7, 3) := by decide +kernel
theorem dX9_purses_51 : decode cX9_purses 51 = .ok (.iload_n 2, 1) := by decide +kernel
theorem dX9_purses_52 : decode cX9_purses 52 = .ok (.iaload, 1) := by decide +kernel
theorem dX9_purses_53 : decode cX9_purses 53 = .ok (.ifCond .ge 9, 3) := by decide +kernel
theorem dX9_purses_56 : decode cX9_purses 56 = .ok (.aload_n 0, 1) := by decide +kernel
theorem dX9_purses_57 : decode cX9_purses 57 = .ok (.iconst 1, 1) := by decide +kernel
theorem dX9_purses_58 : decode cX9_purses 58 = .ok (.invokevirtual 65, 3) := by decide +kernel
theorem dX9_purses_61 : decode cX9_purses 61 = .ok (.ireturn, 1) := by decide +kernel
theorem dX9_purses_62 : decode cX9_purses 62 = .ok (.iload_n 3, 1) := by decide +kernel
theorem dX9_purses_63 : decode cX9_purses 63 = .ok (.ifCond .lt 20, 3) := by decide +kernel
theorem dX9_purses_66 : decode cX9_purses 66 = .ok (.iload_n 3, 1) := by decide +kernel
theorem dX9_purses_67 : decode cX9_purses 67 = .ok (.i2l, 1) := by decide +kernel
theorem dX9_purses_68 : decode cX9_purses 68 = .ok (.iload 4, 2) := by decide +kernel
theorem dX9_purses_70 : decode cX9_purses 70 = .ok (.i2l, 1) := by decide +kernel
theorem dX9_purses_71 : decode cX9_purses 71 = .ok (.ladd, 1) := by decide +kernel
theorem dX9_purses_72 : decode cX9_purses 72 = .ok (.aload_n 0, 1) := by decide +kernel
theorem dX9_purses_73 : decode cX9_purses 73 = .ok (.getfield 13, 3) := by decide +kernel
theorem dX9_purses_76 : decode cX9_purses 76 = .ok (.iload_n 2, 1) := by decide +kernel
theorem dX9_purses_77 : decode cX9_purses 77 = .ok (.iaload, 1) := by decide +kernel
theorem dX9_purses_78 : decode cX9_purses 78 = .ok (.i2l, 1) := by decide +kernel
theorem dX9_purses_79 : decode cX9_purses 79 = .ok (.lcmp, 1) := by decide +kernel
theorem dX9_purses_80 : decode cX9_purses 80 = .ok (.ifCond .le 9, 3) := by decide +kernel
theorem dX9_purses_83 : decode cX9_purses 83 = .ok (.aload_n 0, 1) := by decide +kernel
theorem dX9_purses_84 : decode cX9_purses 84 = .ok (.iconst 2, 1) := by decide +kernel
theorem dX9_purses_85 : decode cX9_purses 85 = .ok (.invokevirtual 65, 3) := by decide +kernel
theorem dX9_purses_88 : decode cX9_purses 88 = .ok (.ireturn, 1) := by decide +kernel
theorem dX9_purses_89 : decode cX9_purses 89 = .ok (.iconst 0, 1) := by decide +kernel
theorem dX9_purses_90 : decode cX9_purses 90 = .ok (.istore 6, 2) := by decide +kernel
theorem dX9_purses_92 : decode cX9_purses 92 = .ok (.iconst 0, 1) := by decide +kernel
theorem dX9_purses_93 : decode cX9_purses 93 = .ok (.istore 7, 2) := by decide +kernel
theorem dX9_purses_95 : decode cX9_purses 95 = .ok (.iconst 0, 1) := by decide +kernel
theorem dX9_purses_96 : decode cX9_purses 96 = .ok (.istore 8, 2) := by decide +kernel
theorem dX9_purses_98 : decode cX9_purses 98 = .ok (.iload 8, 2) := by decide +kernel
theorem dX9_purses_100 : decode cX9_purses 100 = .ok (.iload 4, 2) := by decide +kernel
theorem dX9_purses_102 : decode cX9_purses 102 = .ok (.if_icmp .ge 63, 3) := by decide +kernel
theorem dX9_purses_105 : decode cX9_purses 105 = .ok (.aload_n 0, 1) := by decide +kernel
theorem dX9_purses_106 : decode cX9_purses 106 = .ok (.getfield 16, 3) := by decide +kernel
theorem dX9_purses_109 : decode cX9_purses 109 = .ok (.bipush 40, 2) := by decide +kernel
theorem dX9_purses_111 : decode cX9_purses 111 = .ok (.iload_n 2, 1) := by decide +kernel
theorem dX9_purses_112 : decode cX9_purses 112 = .ok (.imul, 1) := by decide +kernel
theorem dX9_purses_113 : decode cX9_purses 113 = .ok (.iload_n 3, 1) := by decide +kernel
theorem dX9_purses_114 : decode cX9_purses 114 = .ok (.iadd, 1) := by decide +kernel
theorem dX9_purses_115 : decode cX9_purses 115 = .ok (.iload 8, 2) := by decide +kernel
theorem dX9_purses_117 : decode cX9_purses 117 = .ok (.iadd, 1) := by decide +kernel
theorem dX9_purses_118 : decode cX9_purses 118 = .ok (.iaload, 1) := by decide +kernel
theorem dX9_purses_119 : decode cX9_purses 119 = .ok (.istore 9, 2) := by decide +kernel
theorem dX9_purses_121 : decode cX9_purses 121 = .ok (.iload 9, 2) := by decide +kernel
theorem dX9_purses_123 : decode cX9_purses 123 = .ok (.invokestatic 198, 3) := by decide +kernel
theorem dX9_purses_126 : decode cX9_purses 126 = .ok (.ifCond .ne 6, 3) := by decide +kernel
theorem dX9_purses_129 : decode cX9_purses 129 = .ok (.ldc 64, 2) := by decide +kernel
theorem dX9_purses_131 : decode cX9_purses 131 = .ok (.ireturn, 1) := by decide +kernel
theorem dX9_purses_132 : decode cX9_purses 132 = .ok (.iload 7, 2) := by decide +kernel
theorem dX9_purses_134 : decode cX9_purses 134 = .ok (.istore 6, 2) := by decide +kernel
theorem dX9_purses_136 : decode cX9_purses 136 = .ok (.iload 7, 2) := by decide +kernel
theorem dX9_purses_138 : decode cX9_purses 138 = .ok (.aload_n 0, 1) := by decide +kernel
theorem dX9_purses_139 : decode cX9_purses 139 = .ok (.getfield 19, 3) := by decide +kernel
theorem dX9_purses_142 : decode cX9_purses 142 = .ok (.aload_n 0, 1) := by decide +kernel
theorem dX9_purses_143 : decode cX9_purses 143 = .ok (.getfield 19, 3) := by decide +kernel
theorem dX9_purses_146 : decode cX9_purses 146 = .ok (.iload_n 1, 1) := by decide +kernel
theorem dX9_purses_147 : decode cX9_purses 147 = .ok (.iconst 0, 1) := by decide +kernel
theorem dX9_purses_148 : decode cX9_purses 148 = .ok (.invokestatic 158, 3) := by decide +kernel
theorem dX9_purses_151 : decode cX9_purses 151 = .ok (.iload 9, 2) := by decide +kernel
theorem dX9_purses_153 : decode cX9_purses 153 = .ok (.invokestatic 172, 3) := by decide +kernel
theorem dX9_purses_156 : decode cX9_purses 156 = .ok (.iadd, 1) := by decide +kernel
theorem dX9_purses_157 : decode cX9_purses 157 = .ok (.istore 7, 2) := by decide +kernel
theorem dX9_purses_159 : decode cX9_purses 159 = .ok (.iinc 8 1, 3) := by decide +kernel
theorem dX9_purses_162 : decode cX9_purses 162 = .ok (.goto (-64), 3) := by decide +kernel
theorem dX9_purses_165 : decode cX9_purses 165 = .ok (.aload_n 0, 1) := by decide +kernel
theorem dX9_purses_166 : decode cX9_purses 166 = .ok (.iconst 0, 1) := by decide +kernel
theorem dX9_purses_167 : decode cX9_purses 167 = .ok (.putfield 48, 3) := by decide +kernel
theorem dX9_purses_170 : decode cX9_purses 170 = .ok (.iconst 0, 1) := by decide +kernel
theorem dX9_purses_171 : decode cX9_purses 171 = .ok (.istore 8, 2) := by decide +kernel
theorem dX9_purses_173 : decode cX9_purses 173 = .ok (.ldc 87, 2) := by decide +kernel
theorem dX9_purses_175 : decode cX9_purses 175 = .ok (.istore 9, 2) := by decide +kernel
theorem dX9_purses_177 : decode cX9_purses 177 = .ok (.bipush 99, 2) := by decide +kernel
theorem dX9_purses_179 : decode cX9_purses 179 = .ok (.istore 10, 2) := by decide +kernel
theorem dX9_purses_181 : decode cX9_purses 181 = .ok (.iload 10, 2) := by decide +kernel
theorem dX9_purses_183 : decode cX9_purses 183 = .ok (.ifCond .lt 59, 3) := by decide +kernel
theorem dX9_purses_186 : decode cX9_purses 186 = .ok (.iload 6, 2) := by decide +kernel
theorem dX9_purses_188 : decode cX9_purses 188 = .ok (.iload 10, 2) := by decide +kernel
theorem dX9_purses_190 : decode cX9_purses 190 = .ok (.if_icmp .gt 14, 3) := by decide +kernel
theorem dX9_purses_193 : decode cX9_purses 193 = .ok (.iload 10, 2) := by decide +kernel
theorem dX9_purses_195 : decode cX9_purses 195 = .ok (.iload 7, 2) := by decide +kernel
theorem dX9_purses_197 : decode cX9_purses 197 = .ok (.if_icmp .ge 7, 3) := by decide +kernel
theorem dX9_purses_200 : decode cX9_purses 200 = .ok (.iconst 1, 1) := by decide +kernel
theorem dX9_purses_201 : decode cX9_purses 201 = .ok (.goto 4, 3) := by decide +kernel
theorem dX9_purses_204 : decode cX9_purses 204 = .ok (.iconst 0, 1) := by decide +kernel
theorem dX9_purses_205 : decode cX9_purses 205 = .ok (.istore 11, 2) := by decide +kernel
theorem dX9_purses_207 : decode cX9_purses 207 = .ok (.iload 8, 2) := by decide +kernel
theorem dX9_purses_209 : decode cX9_purses 209 = .ok (.iload 11, 2) := by decide +kernel
theorem dX9_purses_211 : decode cX9_purses 211 = .ok (.ifCond .eq 7, 3) := by decide +kernel
theorem dX9_purses_214 : decode cX9_purses 214 = .ok (.iconst 1, 1) := by decide +kernel
theorem dX9_purses_215 : decode cX9_purses 215 = .ok (.goto 4, 3) := by decide +kernel
theorem dX9_purses_218 : decode cX9_purses 218 = .ok (.iconst 0, 1) := by decide +kernel
theorem dX9_purses_219 : decode cX9_purses 219 = .ok (.iadd, 1) := by decide +kernel
theorem dX9_purses_220 : decode cX9_purses 220 = .ok (.istore 8, 2) := by decide +kernel
theorem dX9_purses_222 : decode cX9_purses 222 = .ok (.iload 11, 2) := by decide +kernel
theorem dX9_purses_224 : decode cX9_purses 224 = .ok (.ifCond .eq 8, 3) := by decide +kernel
theorem dX9_purses_227 : decode cX9_purses 227 = .ok (.iload 10, 2) := by decide +kernel
theorem dX9_purses_229 : decode cX9_purses 229 = .ok (.goto 5, 3) := by decide +kernel
theorem dX9_purses_232 : decode cX9_purses 232 = .ok (.iload 9, 2) := by decide +kernel
theorem dX9_purses_234 : decode cX9_purses 234 = .ok (.istore 9, 2) := by decide +kernel
theorem dX9_purses_236 : decode cX9_purses 236 = .ok (.iinc 10 (-1), 3) := by decide +kernel
theorem dX9_purses_239 : decode cX9_purses 239 = .ok (.goto (-58), 3) := by decide +kernel
theorem dX9_purses_242 : decode cX9_purses 242 = .ok (.iload 5, 2) := by decide +kernel
theorem dX9_purses_244 : decode cX9_purses 244 = .ok (.ifCond .ne 8, 3) := by decide +kernel
theorem dX9_purses_247 : decode cX9_purses 247 = .ok (.iload 8, 2) := by decide +kernel
theorem dX9_purses_249 : decode cX9_purses 249 = .ok (.goto 5, 3) := by decide +kernel
theorem dX9_purses_252 : decode cX9_purses 252 = .ok (.iload 9, 2) := by decide +kernel
theorem dX9_purses_254 : decode cX9_purses 254 = .ok (.ireturn, 1) := by decide +kernel
set_option maxRecDepth 20000 in
theorem ggX9_drawn_X9_isThere : GoodIn wsX9_drawn wsX9_isThere := goodIn_r _ [14, 15, 59, 60, 61, 62, 63, 64, 65, 66, 67, 68, 69, 70, 71, 72, 73, 74, 75, 76, 77, 78, 79, 80, 81] (by decide +kernel) (by decide +kernel)
set_option maxRecDepth 20000 in
theorem gX9_drawn_X9_isThere : GoodIn wsX9_drawn (wsV RX9 178 RX9 yX9_isThere wsX9_isThere) := goodIn_app (goodIn_of _ (by decide +kernel)) ggX9_drawn_X9_isThere
set_option maxRecDepth 20000 in
theorem ggX9_drawn_X9_in : GoodIn wsX9_drawn wsX9_in := goodIn_r _ [18] (by decide +kernel) (by decide +kernel)
set_option maxRecDepth 20000 in
theorem gX9_drawn_X9_in : GoodIn wsX9_drawn (va_wsS RX9 54 yX9_in wsX9_in) := goodIn_app (goodIn_of _ (by decide +kernel)) ggX9_drawn_X9_in
set_option maxRecDepth 20000 in
theorem ggX9_drawn_X9_layThen : GoodIn wsX9_drawn wsX9_layThen := goodIn_r _ [22, 8, 15, 59, 60, 61, 62, 63, 64, 65, 66, 67, 68, 69, 70, 71, 72, 73, 74, 75, 76, 77, 78, 79, 80, 81] (by decide +kernel) (by decide +kernel)
set_option maxRecDepth 20000 in
theorem gX9_drawn_X9_layThen : GoodIn wsX9_drawn (wsV RX9 211 RX9 yX9_layThen wsX9_layThen) := goodIn_app (goodIn_of _ (by decide +kernel)) ggX9_drawn_X9_layThen
set_option maxRecDepth 20000 in
theorem ggX9_drawn_X9_mayBid : GoodIn wsX9_drawn wsX9_mayBid := goodIn_r _ [25, 26, 27, 13, 28, 29, 30, 31, 32, 33, 34, 35, 36, 37] (by decide +kernel) (by decide +kernel)
set_option maxRecDepth 20000 in
theorem gX9_drawn_X9_mayBid : GoodIn wsX9_drawn (va_wsS RX9 201 yX9_mayBid wsX9_mayBid) := goodIn_app (goodIn_of _ (by decide +kernel)) ggX9_drawn_X9_mayBid
set_option maxRecDepth 20000 in
theorem ggX9_drawn_X9_of : GoodIn wsX9_drawn wsX9_of := goodIn_r _ [37] (by decide +kernel) (by decide +kernel)
set_option maxRecDepth 20000 in
theorem gX9_drawn_X9_of : GoodIn wsX9_drawn (va_wsS RX9 158 yX9_of wsX9_of) := goodIn_app (goodIn_of _ (by decide +kernel)) ggX9_drawn_X9_of
set_option maxRecDepth 20000 in
theorem ggX9_drawn_X9_priceBy : GoodIn wsX9_drawn wsX9_priceBy := goodIn_r _ [40] (by decide +kernel) (by decide +kernel)
set_option maxRecDepth 20000 in
theorem gX9_drawn_X9_priceBy : GoodIn wsX9_drawn (va_wsS RX9 172 yX9_priceBy wsX9_priceBy) := goodIn_app (goodIn_of _ (by decide +kernel)) ggX9_drawn_X9_priceBy
set_option maxRecDepth 20000 in
theorem ggX9_drawn_X9_buys : GoodIn wsX9_drawn wsX9_buys := goodIn_r _ [43, 35, 36, 13, 37, 38, 39, 40] (by decide +kernel) (by decide +kernel)
set_option maxRecDepth 20000 in
theorem gX9_drawn_X9_buys : GoodIn wsX9_drawn (va_wsS RX9 204 yX9_buys wsX9_buys) := goodIn_app (goodIn_of _ (by decide +kernel)) ggX9_drawn_X9_buys
set_option maxRecDepth 20000 in
theorem ggX9_drawn_X9_hour : GoodIn wsX9_drawn wsX9_hour := goodIn_r _ [46, 35, 36, 13, 37, 47, 48, 49, 29, 30, 31, 32, 33, 34, 50, 51, 52] (by decide +kernel) (by decide +kernel)
set_option maxRecDepth 20000 in
theorem gX9_drawn_X9_hour : GoodIn wsX9_drawn (va_wsS RX9 187 yX9_hour wsX9_hour) := goodIn_app (goodIn_of _ (by decide +kernel)) ggX9_drawn_X9_hour
set_option maxRecDepth 20000 in
theorem ggX9_drawn_X9_heldOf : GoodIn wsX9_drawn wsX9_heldOf := goodIn_r _ [55] (by decide +kernel) (by decide +kernel)
set_option maxRecDepth 20000 in
theorem gX9_drawn_X9_heldOf : GoodIn wsX9_drawn (va_wsS RX9 191 yX9_heldOf wsX9_heldOf) := goodIn_app (goodIn_of _ (by decide +kernel)) ggX9_drawn_X9_heldOf
set_option maxRecDepth 20000 in
theorem ggX9_drawn_X9_bits : GoodIn wsX9_drawn wsX9_bits := goodIn_r _ [58] (by decide +kernel) (by decide +kernel)
set_option maxRecDepth 20000 in
theorem gX9_drawn_X9_bits : GoodIn wsX9_drawn (va_wsS RX9 233 yX9_bits wsX9_bits) := goodIn_app (goodIn_of _ (by decide +kernel)) ggX9_drawn_X9_bits
theorem dX9_drawn_0 : decode cX9_drawn 0 = .ok (.aload_n 0, 1) := by decide +kernel
theorem dX9_drawn_1 : decode cX9_drawn 1 = .ok (.iconst 0, 1) := by decide +kernel
theorem dX9_drawn_2 : decode cX9_drawn 2 = .ok (.putfield 44, 3) := by decide +kernel
theorem dX9_drawn_5 : decode cX9_drawn 5 = .ok (.aload_n 0, 1) := by decide +kernel
theorem dX9_drawn_6 : decode cX9_drawn 6 = .ok (.invokevirtual 178, 3) := by decide +kernel
theorem dX9_drawn_9 : decode cX9_drawn 9 = .ok (.ifCond .ne 6, 3) := by decide +kernel
theorem dX9_drawn_12 : decode cX9_drawn 12 = .ok (.ldc 181, 2) := by decide +kernel
theorem dX9_drawn_14 : decode cX9_drawn 14 = .ok (.ireturn, 1) := by decide +kernel
theorem dX9_drawn_15 : decode cX9_drawn 15 = .ok (.iload_n 1, 1) := by decide +kernel
theorem dX9_drawn_16 : decode cX9_drawn 16 = .ok (.i2l, 1) := by decide +kernel
theorem dX9_drawn_17 : decode cX9_drawn 17 = .ok (.lconst 0, 1) := by decide +kernel
theorem dX9_drawn_18 : decode cX9_drawn 18 = .ok (.ldc2_w 214, 3) := by decide +kernel
theorem dX9_drawn_21 : decode cX9_drawn 21 = .ok (.invokestatic 54, 3) := by decide +kernel
theorem dX9_drawn_24 : decode cX9_drawn 24 = .ok (.ifCond .eq 25, 3) := by decide +kernel
theorem dX9_drawn_27 : decode cX9_drawn 27 = .ok (.iload_n 2, 1) := by decide +kernel
theorem dX9_drawn_28 : decode cX9_drawn 28 = .ok (.i2l, 1) := by decide +kernel
theorem dX9_drawn_29 : decode cX9_drawn 29 = .ok (.lconst 1, 1) := by decide +kernel
theorem dX9_drawn_30 : decode cX9_drawn 30 = .ok (.ldc2_w 236, 3) := by decide +kernel
theorem dX9_drawn_33 : decode cX9_drawn 33 = .ok (.invokestatic 54, 3) := by decide +kernel
theorem dX9_drawn_36 : decode cX9_drawn 36 = .ok (.ifCond .eq 13, 3) := by decide +kernel
theorem dX9_drawn_39 : decode cX9_drawn 39 = .ok (.iload_n 3, 1) := by decide +kernel
theorem dX9_drawn_40 : decode cX9_drawn 40 = .ok (.i2l, 1) := by decide +kernel
theorem dX9_drawn_41 : decode cX9_drawn 41 = .ok (.lconst 0, 1) := by decide +kernel
theorem dX9_drawn_42 : decode cX9_drawn 42 = .ok (.lconst 1, 1) := by decide +kernel
theorem dX9_drawn_43 : decode cX9_drawn 43 = .ok (.invokestatic 54, 3) := by decide +kernel
theorem dX9_drawn_46 : decode cX9_drawn 46 = .ok (.ifCond .ne 6, 3) := by decide +kernel
theorem dX9_drawn_49 : decode cX9_drawn 49 = .ok (.ldc 64, 2) := by decide +kernel
theorem dX9_drawn_51 : decode cX9_drawn 51 = .ok (.ireturn, 1) := by decide +kernel
theorem dX9_drawn_52 : decode cX9_drawn 52 = .ok (.aload_n 0, 1) := by decide +kernel
theorem dX9_drawn_53 : decode cX9_drawn 53 = .ok (.invokevirtual 211, 3) := by decide +kernel
theorem dX9_drawn_56 : decode cX9_drawn 56 = .ok (.iload_n 2, 1) := by decide +kernel
theorem dX9_drawn_57 : decode cX9_drawn 57 = .ok (.i2l, 1) := by decide +kernel
theorem dX9_drawn_58 : decode cX9_drawn 58 = .ok (.lstore 4, 2) := by decide +kernel
theorem dX9_drawn_60 : decode cX9_drawn 60 = .ok (.iconst 0, 1) := by decide +kernel
theorem dX9_drawn_61 : decode cX9_drawn 61 = .ok (.istore 6, 2) := by decide +kernel
theorem dX9_drawn_63 : decode cX9_drawn 63 = .ok (.iload 6, 2) := by decide +kernel
theorem dX9_drawn_65 : decode cX9_drawn 65 = .ok (.iload_n 1, 1) := by decide +kernel
theorem dX9_drawn_66 : decode cX9_drawn 66 = .ok (.if_icmp .ge 107, 3) := by decide +kernel
theorem dX9_drawn_69 : decode cX9_drawn 69 = .ok (.lload 4, 2) := by decide +kernel
theorem dX9_drawn_71 : decode cX9_drawn 71 = .ok (.ldc2_w 238, 3) := by decide +kernel
theorem dX9_drawn_74 : decode cX9_drawn 74 = .ok (.lmul, 1) := by decide +kernel
theorem dX9_drawn_75 : decode cX9_drawn 75 = .ok (.ldc2_w 240, 3) := by decide +kernel
theorem dX9_drawn_78 : decode cX9_drawn 78 = .ok (.lrem, 1) := by decide +kernel
theorem dX9_drawn_79 : decode cX9_drawn 79 = .ok (.lstore 4, 2) := by decide +kernel
theorem dX9_drawn_81 : decode cX9_drawn 81 = .ok (.lload 4, 2) := by decide +kernel
theorem dX9_drawn_83 : decode cX9_drawn 83 = .ok (.aload_n 0, 1) := by decide +kernel
theorem dX9_drawn_84 : decode cX9_drawn 84 = .ok (.getfield 25, 3) := by decide +kernel
theorem dX9_drawn_87 : decode cX9_drawn 87 = .ok (.iconst 4, 1) := by decide +kernel
theorem dX9_drawn_88 : decode cX9_drawn 88 = .ok (.iaload, 1) := by decide +kernel
theorem dX9_drawn_89 : decode cX9_drawn 89 = .ok (.i2l, 1) := by decide +kernel
theorem dX9_drawn_90 : decode cX9_drawn 90 = .ok (.lrem, 1) := by decide +kernel
theorem dX9_drawn_91 : decode cX9_drawn 91 = .ok (.l2i, 1) := by decide +kernel
theorem dX9_drawn_92 : decode cX9_drawn 92 = .ok (.istore 7, 2) := by decide +kernel
theorem dX9_drawn_94 : decode cX9_drawn 94 = .ok (.lload 4, 2) := by decide +kernel
theorem dX9_drawn_96 : decode cX9_drawn 96 = .ok (.ldc2_w 229, 3) := by decide +kernel
theorem dX9_drawn_99 : decode cX9_drawn 99 = .ok (.lrem, 1) := by decide +kernel
theorem dX9_drawn_100 : decode cX9_drawn 100 = .ok (.l2i, 1) := by decide +kernel
theorem dX9_drawn_101 : decode cX9_drawn 101 = .ok (.istore 8, 2) := by decide +kernel
theorem dX9_drawn_103 : decode cX9_drawn 103 = .ok (.aload_n 0, 1) := by decide +kernel
theorem dX9_drawn_104 : decode cX9_drawn 104 = .ok (.getfield 25, 3) := by decide +kernel
theorem dX9_drawn_107 : decode cX9_drawn 107 = .ok (.iload 7, 2) := by decide +kernel
theorem dX9_drawn_109 : decode cX9_drawn 109 = .ok (.iload 8, 2) := by decide +kernel
theorem dX9_drawn_111 : decode cX9_drawn 111 = .ok (.invokestatic 201, 3) := by decide +kernel
theorem dX9_drawn_114 : decode cX9_drawn 114 = .ok (.ifCond .eq 46, 3) := by decide +kernel
theorem dX9_drawn_117 : decode cX9_drawn 117 = .ok (.aload_n 0, 1) := by decide +kernel
theorem dX9_drawn_118 : decode cX9_drawn 118 = .ok (.getfield 25, 3) := by decide +kernel
theorem dX9_drawn_121 : decode cX9_drawn 121 = .ok (.iload 7, 2) := by decide +kernel
theorem dX9_drawn_123 : decode cX9_drawn 123 = .ok (.iconst 1, 1) := by decide +kernel
theorem dX9_drawn_124 : decode cX9_drawn 124 = .ok (.invokestatic 158, 3) := by decide +kernel
theorem dX9_drawn_127 : decode cX9_drawn 127 = .ok (.aload_n 0, 1) := by decide +kernel
theorem dX9_drawn_128 : decode cX9_drawn 128 = .ok (.getfield 25, 3) := by decide +kernel
theorem dX9_drawn_131 : decode cX9_drawn 131 = .ok (.aload_n 0, 1) := by decide +kernel
theorem dX9_drawn_132 : decode cX9_drawn 132 = .ok (.getfield 25, 3) := by decide +kernel
theorem dX9_drawn_135 : decode cX9_drawn 135 = .ok (.iload 7, 2) := by decide +kernel
theorem dX9_drawn_137 : decode cX9_drawn 137 = .ok (.iconst 0, 1) := by decide +kernel
theorem dX9_drawn_138 : decode cX9_drawn 138 = .ok (.invokestatic 158, 3) := by decide +kernel
theorem dX9_drawn_141 : decode cX9_drawn 141 = .ok (.iload 8, 2) := by decide +kernel
theorem dX9_drawn_143 : decode cX9_drawn 143 = .ok (.invokestatic 172, 3) := by decide +kernel
theorem dX9_drawn_146 : decode cX9_drawn 146 = .ok (.if_icmp .lt 14, 3) := by decide +kernel
theorem dX9_drawn_149 : decode cX9_drawn 149 = .ok (.aload_n 0, 1) := by decide +kernel
theorem dX9_drawn_150 : decode cX9_drawn 150 = .ok (.getfield 25, 3) := by decide +kernel
theorem dX9_drawn_153 : decode cX9_drawn 153 = .ok (.iload 7, 2) := by decide +kernel
theorem dX9_drawn_155 : decode cX9_drawn 155 = .ok (.iload 8, 2) := by decide +kernel
theorem dX9_drawn_157 : decode cX9_drawn 157 = .ok (.invokestatic 204, 3) := by decide +kernel
theorem dX9_drawn_160 : decode cX9_drawn 160 = .ok (.aload_n 0, 1) := by decide +kernel
theorem dX9_drawn_161 : decode cX9_drawn 161 = .ok (.getfield 25, 3) := by decide +kernel
theorem dX9_drawn_164 : decode cX9_drawn 164 = .ok (.invokestatic 187, 3) := by decide +kernel
theorem dX9_drawn_167 : decode cX9_drawn 167 = .ok (.iinc 6 1, 3) := by decide +kernel
theorem dX9_drawn_170 : decode cX9_drawn 170 = .ok (.goto (-107), 3) := by decide +kernel
theorem dX9_drawn_173 : decode cX9_drawn 173 = .ok (.iconst 0, 1) := by decide +kernel
theorem dX9_drawn_174 : decode cX9_drawn 174 = .ok (.istore 6, 2) := by decide +kernel
theorem dX9_drawn_176 : decode cX9_drawn 176 = .ok (.iconst 0, 1) := by decide +kernel
theorem dX9_drawn_177 : decode cX9_drawn 177 = .ok (.istore 7, 2) := by decide +kernel
theorem dX9_drawn_179 : decode cX9_drawn 179 = .ok (.iload 7, 2) := by decide +kernel
theorem dX9_drawn_181 : decode cX9_drawn 181 = .ok (.aload_n 0, 1) := by decide +kernel
theorem dX9_drawn_182 : decode cX9_drawn 182 = .ok (.getfield 25, 3) := by decide +kernel
theorem dX9_drawn_185 : decode cX9_drawn 185 = .ok (.iconst 4, 1) := by decide +kernel
theorem dX9_drawn_186 : decode cX9_drawn 186 = .ok (.iaload, 1) := by decide +kernel
theorem dX9_drawn_187 : decode cX9_drawn 187 = .ok (.if_icmp .ge 24, 3) := by decide +kernel
theorem dX9_drawn_190 : decode cX9_drawn 190 = .ok (.iload 6, 2) := by decide +kernel
theorem dX9_drawn_192 : decode cX9_drawn 192 = .ok (.aload_n 0, 1) := by decide +kernel
theorem dX9_drawn_193 : decode cX9_drawn 193 = .ok (.getfield 25, 3) := by decide +kernel
theorem dX9_drawn_196 : decode cX9_drawn 196 = .ok (.iload 7, 2) := by decide +kernel
theorem dX9_drawn_198 : decode cX9_drawn 198 = .ok (.iconst 1, 1) := by decide +kernel
theorem dX9_drawn_199 : decode cX9_drawn 199 = .ok (.invokestatic 158, 3) := by decide +kernel
theorem dX9_drawn_202 : decode cX9_drawn 202 = .ok (.iadd, 1) := by decide +kernel
theorem dX9_drawn_203 : decode cX9_drawn 203 = .ok (.istore 6, 2) := by decide +kernel
theorem dX9_drawn_205 : decode cX9_drawn 205 = .ok (.iinc 7 1, 3) := by decide +kernel
theorem dX9_drawn_208 : decode cX9_drawn 208 = .ok (.goto (-29), 3) := by decide +kernel
theorem dX9_drawn_211 : decode cX9_drawn 211 = .ok (.iload_n 3, 1) := by decide +kernel
theorem dX9_drawn_212 : decode cX9_drawn 212 = .ok (.ifCond .ne 16, 3) := by decide +kernel
theorem dX9_drawn_215 : decode cX9_drawn 215 = .ok (.aload_n 0, 1) := by decide +kernel
theorem dX9_drawn_216 : decode cX9_drawn 216 = .ok (.getfield 25, 3) := by decide +kernel
theorem dX9_drawn_219 : decode cX9_drawn 219 = .ok (.invokestatic 191, 3) := by decide +kernel
theorem dX9_drawn_222 : decode cX9_drawn 222 = .ok (.invokestatic 233, 3) := by decide +kernel
theorem dX9_drawn_225 : decode cX9_drawn 225 = .ok (.goto 5, 3) := by decide +kernel
theorem dX9_drawn_228 : decode cX9_drawn 228 = .ok (.iload 6, 2) := by decide +kernel
theorem dX9_drawn_230 : decode cX9_drawn 230 = .ok (.ireturn, 1) := by decide +kernel
set_option maxRecDepth 20000 in
theorem ggX9_image_X9_in : GoodIn wsX9_image wsX9_in := goodIn_r _ [10] (by decide +kernel) (by decide +kernel)
set_option maxRecDepth 20000 in
theorem gX9_image_X9_in : GoodIn wsX9_image (va_wsS RX9 54 yX9_in wsX9_in) := goodIn_app (goodIn_of _ (by decide +kernel)) ggX9_image_X9_in
set_option maxRecDepth 20000 in
theorem ggX9_image_X9_isThere : GoodIn wsX9_image wsX9_isThere := goodIn_r _ [14, 5, 15, 16, 17, 18, 19, 20, 21, 22, 23, 24, 25, 26, 27, 28, 29, 30, 31, 32, 33, 34, 35, 36, 37] (by decide +kernel) (by decide +kernel)
set_option maxRecDepth 20000 in
theorem gX9_image_X9_isThere : GoodIn wsX9_image (wsV RX9 178 RX9 yX9_isThere wsX9_isThere) := goodIn_app (goodIn_of _ (by decide +kernel)) ggX9_image_X9_isThere
theorem dX9_image_0 : decode cX9_image 0 = .ok (.aload_n 0, 1) := by decide +kernel
theorem dX9_image_1 : decode cX9_image 1 = .ok (.iconst 0, 1) := by decide +kernel
theorem dX9_image_2 : decode cX9_image 2 = .ok (.putfield 44, 3) := by decide +kernel
theorem dX9_image_5 : decode cX9_image 5 = .ok (.iload_n 1, 1) := by decide +kernel
theorem dX9_image_6 : decode cX9_image 6 = .ok (.i2l, 1) := by decide +kernel
theorem dX9_image_7 : decode cX9_image 7 = .ok (.lconst 0, 1) := by decide +kernel
theorem dX9_image_8 : decode cX9_image 8 = .ok (.lconst 1, 1) := by decide +kernel
theorem dX9_image_9 : decode cX9_image 9 = .ok (.invokestatic 54, 3) := by decide +kernel
theorem dX9_image_12 : decode cX9_image 12 = .ok (.ifCond .ne 6, 3) := by decide +kernel
theorem dX9_image_15 : decode cX9_image 15 = .ok (.ldc 64, 2) := by decide +kernel
theorem dX9_image_17 : decode cX9_image 17 = .ok (.ireturn, 1) := by decide +kernel
theorem dX9_image_18 : decode cX9_image 18 = .ok (.aload_n 0, 1) := by decide +kernel
theorem dX9_image_19 : decode cX9_image 19 = .ok (.invokevirtual 178, 3) := by decide +kernel
theorem dX9_image_22 : decode cX9_image 22 = .ok (.ifCond .ne 6, 3) := by decide +kernel
theorem dX9_image_25 : decode cX9_image 25 = .ok (.ldc 181, 2) := by decide +kernel
theorem dX9_image_27 : decode cX9_image 27 = .ok (.ireturn, 1) := by decide +kernel
theorem dX9_image_28 : decode cX9_image 28 = .ok (.iconst 0, 1) := by decide +kernel
theorem dX9_image_29 : decode cX9_image 29 = .ok (.istore_n 2, 1) := by decide +kernel
theorem dX9_image_30 : decode cX9_image 30 = .ok (.iload_n 2, 1) := by decide +kernel
theorem dX9_image_31 : decode cX9_image 31 = .ok (.bipush 51, 2) := by decide +kernel
theorem dX9_image_33 : decode cX9_image 33 = .ok (.if_icmp .ge 26, 3) := by decide +kernel
theorem dX9_image_36 : decode cX9_image 36 = .ok (.aload_n 0, 1) := by decide +kernel
theorem dX9_image_37 : decode cX9_image 37 = .ok (.getfield 38, 3) := by decide +kernel
theorem dX9_image_40 : decode cX9_image 40 = .ok (.bipush 51, 2) := by decide +kernel
theorem dX9_image_42 : decode cX9_image 42 = .ok (.iload_n 1, 1) := by decide +kernel
theorem dX9_image_43 : decode cX9_image 43 = .ok (.imul, 1) := by decide +kernel
theorem dX9_image_44 : decode cX9_image 44 = .ok (.iload_n 2, 1) := by decide +kernel
theorem dX9_image_45 : decode cX9_image 45 = .ok (.iadd, 1) := by decide +kernel
theorem dX9_image_46 : decode cX9_image 46 = .ok (.aload_n 0, 1) := by decide +kernel
theorem dX9_image_47 : decode cX9_image 47 = .ok (.getfield 19, 3) := by decide +kernel
theorem dX9_image_50 : decode cX9_image 50 = .ok (.iload_n 2, 1) := by decide +kernel
theorem dX9_image_51 : decode cX9_image 51 = .ok (.iaload, 1) := by decide +kernel
theorem dX9_image_52 : decode cX9_image 52 = .ok (.iastore, 1) := by decide +kernel
theorem dX9_image_53 : decode cX9_image 53 = .ok (.iinc 2 1, 3) := by decide +kernel
theorem dX9_image_56 : decode cX9_image 56 = .ok (.goto (-26), 3) := by decide +kernel
theorem dX9_image_59 : decode cX9_image 59 = .ok (.aload_n 0, 1) := by decide +kernel
theorem dX9_image_60 : decode cX9_image 60 = .ok (.getfield 34, 3) := by decide +kernel
theorem dX9_image_63 : decode cX9_image 63 = .ok (.iload_n 1, 1) := by decide +kernel
theorem dX9_image_64 : decode cX9_image 64 = .ok (.iconst 1, 1) := by decide +kernel
theorem dX9_image_65 : decode cX9_image 65 = .ok (.bastore, 1) := by decide +kernel
theorem dX9_image_66 : decode cX9_image 66 = .ok (.iconst 1, 1) := by decide +kernel
theorem dX9_image_67 : decode cX9_image 67 = .ok (.ireturn, 1) := by decide +kernel
set_option maxRecDepth 20000 in
theorem ggX9_restore_X9_in : GoodIn wsX9_restore wsX9_in := goodIn_r _ [11] (by decide +kernel) (by decide +kernel)
set_option maxRecDepth 20000 in
theorem gX9_restore_X9_in : GoodIn wsX9_restore (va_wsS RX9 54 yX9_in wsX9_in) := goodIn_app (goodIn_of _ (by decide +kernel)) ggX9_restore_X9_in
theorem dX9_restore_0 : decode cX9_restore 0 = .ok (.aload_n 0, 1) := by decide +kernel
theorem dX9_restore_1 : decode cX9_restore 1 = .ok (.iconst 0, 1) := by decide +kernel
theorem dX9_restore_2 : decode cX9_restore 2 = .ok (.putfield 44, 3) := by decide +kernel
theorem dX9_restore_5 : decode cX9_restore 5 = .ok (.iload_n 1, 1) := by decide +kernel
theorem dX9_restore_6 : decode cX9_restore 6 = .ok (.i2l, 1) := by decide +kernel
theorem dX9_restore_7 : decode cX9_restore 7 = .ok (.lconst 0, 1) := by decide +kernel
theorem dX9_restore_8 : decode cX9_restore 8 = .ok (.lconst 1, 1) := by decide +kernel
theorem dX9_restore_9 : decode cX9_restore 9 = .ok (.invokestatic 54, 3) := by decide +kernel
theorem dX9_restore_12 : decode cX9_restore 12 = .ok (.ifCond .ne 6, 3) := by decide +kernel
theorem dX9_restore_15 : decode cX9_restore 15 = .ok (.ldc 64, 2) := by decide +kernel
theorem dX9_restore_17 : decode cX9_restore 17 = .ok (.ireturn, 1) := by decide +kernel
theorem dX9_restore_18 : decode cX9_restore 18 = .ok (.aload_n 0, 1) := by decide +kernel
theorem dX9_restore_19 : decode cX9_restore 19 = .ok (.getfield 34, 3) := by decide +kernel
theorem dX9_restore_22 : decode cX9_restore 22 = .ok (.iload_n 1, 1) := by decide +kernel
theorem dX9_restore_23 : decode cX9_restore 23 = .ok (.baload, 1) := by decide +kernel
theorem dX9_restore_24 : decode cX9_restore 24 = .ok (.ifCond .ne 6, 3) := by decide +kernel
theorem dX9_restore_27 : decode cX9_restore 27 = .ok (.ldc 181, 2) := by decide +kernel
theorem dX9_restore_29 : decode cX9_restore 29 = .ok (.ireturn, 1) := by decide +kernel
theorem dX9_restore_30 : decode cX9_restore 30 = .ok (.iconst 0, 1) := by decide +kernel
theorem dX9_restore_31 : decode cX9_restore 31 = .ok (.istore_n 2, 1) := by decide +kernel
theorem dX9_restore_32 : decode cX9_restore 32 = .ok (.iload_n 2, 1) := by decide +kernel
theorem dX9_restore_33 : decode cX9_restore 33 = .ok (.bipush 51, 2) := by decide +kernel
theorem dX9_restore_35 : decode cX9_restore 35 = .ok (.if_icmp .ge 26, 3) := by decide +kernel
theorem dX9_restore_38 : decode cX9_restore 38 = .ok (.aload_n 0, 1) := by decide +kernel
theorem dX9_restore_39 : decode cX9_restore 39 = .ok (.getfield 19, 3) := by decide +kernel
theorem dX9_restore_42 : decode cX9_restore 42 = .ok (.iload_n 2, 1) := by decide +kernel
theorem dX9_restore_43 : decode cX9_restore 43 = .ok (.aload_n 0, 1) := by decide +kernel
theorem dX9_restore_44 : decode cX9_restore 44 = .ok (.getfield 38, 3) := by decide +kernel
theorem dX9_restore_47 : decode cX9_restore 47 = .ok (.bipush 51, 2) := by decide +kernel
theorem dX9_restore_49 : decode cX9_restore 49 = .ok (.iload_n 1, 1) := by decide +kernel
theorem dX9_restore_50 : decode cX9_restore 50 = .ok (.imul, 1) := by decide +kernel
theorem dX9_restore_51 : decode cX9_restore 51 = .ok (.iload_n 2, 1) := by decide +kernel
theorem dX9_restore_52 : decode cX9_restore 52 = .ok (.iadd, 1) := by decide +kernel
theorem dX9_restore_53 : decode cX9_restore 53 = .ok (.iaload, 1) := by decide +kernel
theorem dX9_restore_54 : decode cX9_restore 54 = .ok (.iastore, 1) := by decide +kernel
theorem dX9_restore_55 : decode cX9_restore 55 = .ok (.iinc 2 1, 3) := by decide +kernel
theorem dX9_restore_58 : decode cX9_restore 58 = .ok (.goto (-26), 3) := by decide +kernel
theorem dX9_restore_61 : decode cX9_restore 61 = .ok (.aload_n 0, 1) := by decide +kernel
theorem dX9_restore_62 : decode cX9_restore 62 = .ok (.iconst 0, 1) := by decide +kernel
theorem dX9_restore_63 : decode cX9_restore 63 = .ok (.putfield 145, 3) := by decide +kernel
theorem dX9_restore_66 : decode cX9_restore 66 = .ok (.iconst 1, 1) := by decide +kernel
theorem dX9_restore_67 : decode cX9_restore 67 = .ok (.ireturn, 1) := by decide +kernel
theorem dX9_isOf_0 : decode cX9_isOf 0 = .ok (.iload_n 1, 1) := by decide +kernel
theorem dX9_isOf_1 : decode cX9_isOf 1 = .ok (.ifCond .eq 28, 3) := by decide +kernel
theorem dX9_isOf_4 : decode cX9_isOf 4 = .ok (.iload_n 0, 1) := by decide +kernel
theorem dX9_isOf_5 : decode cX9_isOf 5 = .ok (.iload_n 1, 1) := by decide +kernel
theorem dX9_isOf_6 : decode cX9_isOf 6 = .ok (.if_icmp .eq 23, 3) := by decide +kernel
theorem dX9_isOf_9 : decode cX9_isOf 9 = .ok (.iload_n 1, 1) := by decide +kernel
theorem dX9_isOf_10 : decode cX9_isOf 10 = .ok (.iconst 1, 1) := by decide +kernel
theorem dX9_isOf_11 : decode cX9_isOf 11 = .ok (.if_icmp .ne 8, 3) := by decide +kernel
theorem dX9_isOf_14 : decode cX9_isOf 14 = .ok (.iload_n 0, 1) := by decide +kernel
theorem dX9_isOf_15 : decode cX9_isOf 15 = .ok (.iconst 4, 1) := by decide +kernel
theorem dX9_isOf_16 : decode cX9_isOf 16 = .ok (.if_icmp .lt 13, 3) := by decide +kernel
theorem dX9_isOf_19 : decode cX9_isOf 19 = .ok (.iload_n 1, 1) := by decide +kernel
theorem dX9_isOf_20 : decode cX9_isOf 20 = .ok (.iconst 4, 1) := by decide +kernel
theorem dX9_isOf_21 : decode cX9_isOf 21 = .ok (.if_icmp .ne 12, 3) := by decide +kernel
theorem dX9_isOf_24 : decode cX9_isOf 24 = .ok (.iload_n 0, 1) := by decide +kernel
theorem dX9_isOf_25 : decode cX9_isOf 25 = .ok (.iconst 5, 1) := by decide +kernel
theorem dX9_isOf_26 : decode cX9_isOf 26 = .ok (.if_icmp .ne 7, 3) := by decide +kernel
theorem dX9_isOf_29 : decode cX9_isOf 29 = .ok (.iconst 1, 1) := by decide +kernel
theorem dX9_isOf_30 : decode cX9_isOf 30 = .ok (.goto 4, 3) := by decide +kernel
theorem dX9_isOf_33 : decode cX9_isOf 33 = .ok (.iconst 0, 1) := by decide +kernel
theorem dX9_isOf_34 : decode cX9_isOf 34 = .ok (.ireturn, 1) := by decide +kernel
set_option maxRecDepth 20000 in
theorem ggX9_kind_X9_isBidder : GoodIn wsX9_kind wsX9_isBidder := goodIn_r _ [8, 2, 9, 10, 7, 11, 15, 16, 17, 18, 19, 20, 21, 22, 23, 24, 25, 26, 27, 28, 29, 30, 31, 32, 33, 34, 35, 36, 37] (by decide +kernel) (by decide +kernel)
set_option maxRecDepth 20000 in
theorem gX9_kind_X9_isBidder : GoodIn wsX9_kind (wsV RX9 195 RX9 yX9_isBidder wsX9_isBidder) := goodIn_app (goodIn_of _ (by decide +kernel)) ggX9_kind_X9_isBidder
set_option maxRecDepth 20000 in
theorem ggX9_kind_X9_of : GoodIn wsX9_kind wsX9_of := goodIn_r _ [14] (by decide +kernel) (by decide +kernel)
set_option maxRecDepth 20000 in
theorem gX9_kind_X9_of : GoodIn wsX9_kind (va_wsS RX9 158 yX9_of wsX9_of) := goodIn_app (goodIn_of _ (by decide +kernel)) ggX9_kind_X9_of
theorem dX9_kind_0 : decode cX9_kind 0 = .ok (.aload_n 0, 1) := by decide +kernel
theorem dX9_kind_1 : decode cX9_kind 1 = .ok (.iconst 0, 1) := by decide +kernel
theorem dX9_kind_2 : decode cX9_kind 2 = .ok (.putfield 44, 3) := by decide +kernel
theorem dX9_kind_5 : decode cX9_kind 5 = .ok (.aload_n 0, 1) := by decide +kernel
theorem dX9_kind_6 : decode cX9_kind 6 = .ok (.iload_n 1, 1) := by decide +kernel
theorem dX9_kind_7 : decode cX9_kind 7 = .ok (.invokevirtual 195, 3) := by decide +kernel
theorem dX9_kind_10 : decode cX9_kind 10 = .ok (.ifCond .eq 15, 3) := by decide +kernel
theorem dX9_kind_13 : decode cX9_kind 13 = .ok (.aload_n 0, 1) := by decide +kernel
theorem dX9_kind_14 : decode cX9_kind 14 = .ok (.getfield 19, 3) := by decide +kernel
theorem dX9_kind_17 : decode cX9_kind 17 = .ok (.iload_n 1, 1) := by decide +kernel
theorem dX9_kind_18 : decode cX9_kind 18 = .ok (.iconst 0, 1) := by decide +kernel
theorem dX9_kind_19 : decode cX9_kind 19 = .ok (.invokestatic 158, 3) := by decide +kernel
theorem dX9_kind_22 : decode cX9_kind 22 = .ok (.goto 5, 3) := by decide +kernel
theorem dX9_kind_25 : decode cX9_kind 25 = .ok (.ldc 64, 2) := by decide +kernel
theorem dX9_kind_27 : decode cX9_kind 27 = .ok (.ireturn, 1) := by decide +kernel
set_option maxRecDepth 20000 in
theorem ggX9_as_X9_isBidder : GoodIn wsX9_as wsX9_isBidder := goodIn_r _ [10, 5, 11, 12, 9, 13, 25, 26, 27, 28, 29, 30, 31, 32, 33, 34, 35, 36, 37, 38, 39, 40, 41, 42, 43, 44, 45, 46, 47] (by decide +kernel) (by decide +kernel)
set_option maxRecDepth 20000 in
theorem gX9_as_X9_isBidder : GoodIn wsX9_as (wsV RX9 195 RX9 yX9_isBidder wsX9_isBidder) := goodIn_app (goodIn_of _ (by decide +kernel)) ggX9_as_X9_isBidder
set_option maxRecDepth 20000 in
theorem ggX9_as_X9_in : GoodIn wsX9_as wsX9_in := goodIn_r _ [13] (by decide +kernel) (by decide +kernel)
set_option maxRecDepth 20000 in
theorem gX9_as_X9_in : GoodIn wsX9_as (va_wsS RX9 54 yX9_in wsX9_in) := goodIn_app (goodIn_of _ (by decide +kernel)) ggX9_as_X9_in
set_option maxRecDepth 20000 in
theorem ggX9_as_X9_of : GoodIn wsX9_as wsX9_of := goodIn_r _ [16] (by decide +kernel) (by decide +kernel)
set_option maxRecDepth 20000 in
theorem gX9_as_X9_of : GoodIn wsX9_as (va_wsS RX9 158 yX9_of wsX9_of) := goodIn_app (goodIn_of _ (by decide +kernel)) ggX9_as_X9_of
set_option maxRecDepth 20000 in
theorem ggX9_as_X9_isOf : GoodIn wsX9_as wsX9_isOf := goodIn_r _ [19] (by decide +kernel) (by decide +kernel)
set_option maxRecDepth 20000 in
theorem gX9_as_X9_isOf : GoodIn wsX9_as (va_wsS RX9 244 yX9_isOf wsX9_isOf) := goodIn_app (goodIn_of _ (by decide +kernel)) ggX9_as_X9_isOf
set_option maxRecDepth 20000 in
theorem ggX9_as_X9_finding : GoodIn wsX9_as wsX9_finding := goodIn_r _ [23, 4, 24, 25, 26, 27, 28, 29, 30, 31, 32, 33, 34, 35, 36, 37, 38, 39, 40, 41, 42, 43, 44, 45, 46, 47] (by decide +kernel) (by decide +kernel)
set_option maxRecDepth 20000 in
theorem gX9_as_X9_finding : GoodIn wsX9_as (wsV RX9 65 RX9 yX9_finding wsX9_finding) := goodIn_app (goodIn_of _ (by decide +kernel)) ggX9_as_X9_finding
theorem dX9_as_0 : decode cX9_as 0 = .ok (.aload_n 0, 1) := by decide +kernel
theorem dX9_as_1 : decode cX9_as 1 = .ok (.iconst 0, 1) := by decide +kernel
theorem dX9_as_2 : decode cX9_as 2 = .ok (.putfield 44, 3) := by decide +kernel
theorem dX9_as_5 : decode cX9_as 5 = .ok (.aload_n 0, 1) := by decide +kernel
theorem dX9_as_6 : decode cX9_as 6 = .ok (.iload_n 1, 1) := by decide +kernel
theorem dX9_as_7 : decode cX9_as 7 = .ok (.invokevirtual 195, 3) := by decide +kernel
theorem dX9_as_10 : decode cX9_as 10 = .ok (.ifCond .eq 15, 3) := by decide +kernel
theorem dX9_as_13 : decode cX9_as 13 = .ok (.iload_n 2, 1) := by decide +kernel
theorem dX9_as_14 : decode cX9_as 14 = .ok (.i2l, 1) := by decide +kernel
theorem dX9_as_15 : decode cX9_as 15 = .ok (.lconst 0, 1) := by decide +kernel
theorem dX9_as_16 : decode cX9_as 16 = .ok (.ldc2_w 242, 3) := by decide +kernel
theorem dX9_as_19 : decode cX9_as 19 = .ok (.invokestatic 54, 3) := by decide +kernel
theorem dX9_as_22 : decode cX9_as 22 = .ok (.ifCond .ne 6, 3) := by decide +kernel
theorem dX9_as_25 : decode cX9_as 25 = .ok (.ldc 64, 2) := by decide +kernel
theorem dX9_as_27 : decode cX9_as 27 = .ok (.ireturn, 1) := by decide +kernel
theorem dX9_as_28 : decode cX9_as 28 = .ok (.aload_n 0, 1) := by decide +kernel
theorem dX9_as_29 : decode cX9_as 29 = .ok (.iconst 0, 1) := by decide +kernel
theorem dX9_as_30 : decode cX9_as 30 = .ok (.putfield 48, 3) := by decide +kernel
theorem dX9_as_33 : decode cX9_as 33 = .ok (.aload_n 0, 1) := by decide +kernel
theorem dX9_as_34 : decode cX9_as 34 = .ok (.getfield 19, 3) := by decide +kernel
theorem dX9_as_37 : decode cX9_as 37 = .ok (.iload_n 1, 1) := by decide +kernel
theorem dX9_as_38 : decode cX9_as 38 = .ok (.iconst 0, 1) := by decide +kernel
theorem dX9_as_39 : decode cX9_as 39 = .ok (.invokestatic 158, 3) := by decide +kernel
theorem dX9_as_42 : decode cX9_as 42 = .ok (.iload_n 2, 1) := by decide +kernel
theorem dX9_as_43 : decode cX9_as 43 = .ok (.invokestatic 244, 3) := by decide +kernel
theorem dX9_as_46 : decode cX9_as 46 = .ok (.ifCond .eq 7, 3) := by decide +kernel
theorem dX9_as_49 : decode cX9_as 49 = .ok (.iload_n 1, 1) := by decide +kernel
theorem dX9_as_50 : decode cX9_as 50 = .ok (.goto 8, 3) := by decide +kernel
theorem dX9_as_53 : decode cX9_as 53 = .ok (.aload_n 0, 1) := by decide +kernel
theorem dX9_as_54 : decode cX9_as 54 = .ok (.iconst 3, 1) := by decide +kernel
theorem dX9_as_55 : decode cX9_as 55 = .ok (.invokevirtual 65, 3) := by decide +kernel
theorem dX9_as_58 : decode cX9_as 58 = .ok (.ireturn, 1) := by decide +kernel
theorem dX9_began_0 : decode cX9_began 0 = .ok (.aload_n 0, 1) := by decide +kernel
theorem dX9_began_1 : decode cX9_began 1 = .ok (.getfield 248, 3) := by decide +kernel
theorem dX9_began_4 : decode cX9_began 4 = .ok (.bipush 16, 2) := by decide +kernel
theorem dX9_began_6 : decode cX9_began 6 = .ok (.if_icmp .ge 23, 3) := by decide +kernel
theorem dX9_began_9 : decode cX9_began 9 = .ok (.aload_n 0, 1) := by decide +kernel
theorem dX9_began_10 : decode cX9_began 10 = .ok (.getfield 41, 3) := by decide +kernel
theorem dX9_began_13 : decode cX9_began 13 = .ok (.aload_n 0, 1) := by decide +kernel
theorem dX9_began_14 : decode cX9_began 14 = .ok (.getfield 248, 3) := by decide +kernel
theorem dX9_began_17 : decode cX9_began 17 = .ok (.iload_n 1, 1) := by decide +kernel
theorem dX9_began_18 : decode cX9_began 18 = .ok (.iastore, 1) := by decide +kernel
theorem dX9_began_19 : decode cX9_began 19 = .ok (.aload_n 0, 1) := by decide +kernel
theorem dX9_began_20 : decode cX9_began 20 = .ok (.dup, 1) := by decide +kernel
theorem dX9_began_21 : decode cX9_began 21 = .ok (.getfield 248, 3) := by decide +kernel
theorem dX9_began_24 : decode cX9_began 24 = .ok (.iconst 1, 1) := by decide +kernel
theorem dX9_began_25 : decode cX9_began 25 = .ok (.iadd, 1) := by decide +kernel
theorem dX9_began_26 : decode cX9_began 26 = .ok (.putfield 248, 3) := by decide +kernel
theorem dX9_began_29 : decode cX9_began 29 = .ok (.return_, 1) := by decide +kernel
set_option maxRecDepth 20000 in
theorem ggX9_plainSize_X9_began : GoodIn wsX9_plainSize wsX9_began := goodIn_r _ [6, 7, 8, 12, 13, 14, 15, 16, 17, 18, 19, 20, 21, 22, 23, 24, 25, 26, 27, 28, 29, 30, 31, 32, 33, 34] (by decide +kernel) (by decide +kernel)
set_option maxRecDepth 20000 in
theorem gX9_plainSize_X9_began : GoodIn wsX9_plainSize (wsV RX9 251 RX9 yX9_began wsX9_began) := goodIn_app (goodIn_of _ (by decide +kernel)) ggX9_plainSize_X9_began
set_option maxRecDepth 20000 in
theorem ggX9_plainSize_X9_of : GoodIn wsX9_plainSize wsX9_of := goodIn_r _ [11] (by decide +kernel) (by decide +kernel)
set_option maxRecDepth 20000 in
theorem gX9_plainSize_X9_of : GoodIn wsX9_plainSize (va_wsS RX9 158 yX9_of wsX9_of) := goodIn_app (goodIn_of _ (by decide +kernel)) ggX9_plainSize_X9_of
theorem dX9_plainSize_0 : decode cX9_plainSize 0 = .ok (.aload_n 0, 1) := by decide +kernel
theorem dX9_plainSize_1 : decode cX9_plainSize 1 = .ok (.bipush 10, 2) := by decide +kernel
theorem dX9_plainSize_3 : decode cX9_plainSize 3 = .ok (.invokevirtual 251, 3) := by decide +kernel
theorem dX9_plainSize_6 : decode cX9_plainSize 6 = .ok (.aload_n 0, 1) := by decide +kernel
theorem dX9_plainSize_7 : decode cX9_plainSize 7 = .ok (.getfield 19, 3) := by decide +kernel
theorem dX9_plainSize_10 : decode cX9_plainSize 10 = .ok (.iload_n 1, 1) := by decide +kernel
theorem dX9_plainSize_11 : decode cX9_plainSize 11 = .ok (.iconst 1, 1) := by decide +kernel
theorem dX9_plainSize_12 : decode cX9_plainSize 12 = .ok (.invokestatic 158, 3) := by decide +kernel
theorem dX9_plainSize_15 : decode cX9_plainSize 15 = .ok (.ireturn, 1) := by decide +kernel
set_option maxRecDepth 20000 in
theorem ggX9_goatSize_X9_of : GoodIn wsX9_goatSize wsX9_of := goodIn_r _ [5] (by decide +kernel) (by decide +kernel)
set_option maxRecDepth 20000 in
theorem gX9_goatSize_X9_of : GoodIn wsX9_goatSize (va_wsS RX9 158 yX9_of wsX9_of) := goodIn_app (goodIn_of _ (by decide +kernel)) ggX9_goatSize_X9_of
set_option maxRecDepth 20000 in
theorem ggX9_goatSize_X9_began : GoodIn wsX9_goatSize wsX9_began := goodIn_r _ [9, 10, 11, 16, 17, 18, 19, 20, 21, 22, 23, 24, 25, 26, 27, 28, 29, 30, 31, 32, 33, 34, 35, 36, 37, 38] (by decide +kernel) (by decide +kernel)
set_option maxRecDepth 20000 in
theorem gX9_goatSize_X9_began : GoodIn wsX9_goatSize (wsV RX9 251 RX9 yX9_began wsX9_began) := goodIn_app (goodIn_of _ (by decide +kernel)) ggX9_goatSize_X9_began
set_option maxRecDepth 20000 in
theorem ggX9_goatSize_X9_plainSize : GoodIn wsX9_goatSize wsX9_plainSize := goodIn_r _ [15, 1, 6, 7, 8, 4, 9, 10, 11, 2, 3, 5, 16, 17, 18, 19, 20, 21, 22, 23, 24, 25, 26, 27, 28, 29, 30, 31, 32, 33, 34, 35, 36, 37, 38] (by decide +kernel) (by decide +kernel)
set_option maxRecDepth 20000 in
theorem gX9_goatSize_X9_plainSize : GoodIn wsX9_goatSize (wsV RX9 254 RX9 yX9_plainSize wsX9_plainSize) := goodIn_app (goodIn_of _ (by decide +kernel)) ggX9_goatSize_X9_plainSize
theorem dX9_goatSize_0 : decode cX9_goatSize 0 = .ok (.aload_n 0, 1) := by decide +kernel
theorem dX9_goatSize_1 : decode cX9_goatSize 1 = .ok (.getfield 19, 3) := by decide +kernel
theorem dX9_goatSize_4 : decode cX9_goatSize 4 = .ok (.iload_n 1, 1) := by decide +kernel
theorem dX9_goatSize_5 : decode cX9_goatSize 5 = .ok (.iconst 0, 1) := by decide +kernel
theorem dX9_goatSize_6 : decode cX9_goatSize 6 = .ok (.invokestatic 158, 3) := by decide +kernel
theorem dX9_goatSize_9 : decode cX9_goatSize 9 = .ok (.iconst 5, 1) := by decide +kernel
theorem dX9_goatSize_10 : decode cX9_goatSize 10 = .ok (.if_icmp .ne 7, 3) := by decide +kernel
theorem dX9_goatSize_13 : decode cX9_goatSize 13 = .ok (.iconst 1, 1) := by decide +kernel
theorem dX9_goatSize_14 : decode cX9_goatSize 14 = .ok (.goto 4, 3) := by decide +kernel
theorem dX9_goatSize_17 : decode cX9_goatSize 17 = .ok (.iconst 0, 1) := by decide +kernel
theorem dX9_goatSize_18 : decode cX9_goatSize 18 = .ok (.istore_n 2, 1) := by decide +kernel
theorem dX9_goatSize_19 : decode cX9_goatSize 19 = .ok (.iload_n 2, 1) := by decide +kernel
theorem dX9_goatSize_20 : decode cX9_goatSize 20 = .ok (.ifCond .eq 9, 3) := by decide +kernel
theorem dX9_goatSize_23 : decode cX9_goatSize 23 = .ok (.aload_n 0, 1) := by decide +kernel
theorem dX9_goatSize_24 : decode cX9_goatSize 24 = .ok (.bipush 14, 2) := by decide +kernel
theorem dX9_goatSize_26 : decode cX9_goatSize 26 = .ok (.invokevirtual 251, 3) := by decide +kernel
theorem dX9_goatSize_29 : decode cX9_goatSize 29 = .ok (.aload_n 0, 1) := by decide +kernel
theorem dX9_goatSize_30 : decode cX9_goatSize 30 = .ok (.bipush 13, 2) := by decide +kernel
theorem dX9_goatSize_32 : decode cX9_goatSize 32 = .ok (.invokevirtual 251, 3) := by decide +kernel
theorem dX9_goatSize_35 : decode cX9_goatSize 35 = .ok (.aload_n 0, 1) := by decide +kernel
theorem dX9_goatSize_36 : decode cX9_goatSize 36 = .ok (.iload_n 1, 1) := by decide +kernel
theorem dX9_goatSize_37 : decode cX9_goatSize 37 = .ok (.invokevirtual 254, 3) := by decide +kernel
theorem dX9_goatSize_40 : decode cX9_goatSize 40 = .ok (.bipush 100, 2) := by decide +kernel
theorem dX9_goatSize_42 : decode cX9_goatSize 42 = .ok (.isub, 1) := by decide +kernel
theorem dX9_goatSize_43 : decode cX9_goatSize 43 = .ok (.istore_n 3, 1) := by decide +kernel
theorem dX9_goatSize_44 : decode cX9_goatSize 44 = .ok (.iload_n 2, 1) := by decide +kernel
theorem dX9_goatSize_45 : decode cX9_goatSize 45 = .ok (.ifCond .eq 9, 3) := by decide +kernel
theorem dX9_goatSize_48 : decode cX9_goatSize 48 = .ok (.iconst 2, 1) := by decide +kernel
theorem dX9_goatSize_49 : decode cX9_goatSize 49 = .ok (.iload_n 3, 1) := by decide +kernel
theorem dX9_goatSize_50 : decode cX9_goatSize 50 = .ok (.imul, 1) := by decide +kernel
theorem dX9_goatSize_51 : decode cX9_goatSize 51 = .ok (.goto 4, 3) := by decide +kernel
theorem dX9_goatSize_54 : decode cX9_goatSize 54 = .ok (.iload_n 3, 1) := by decide +kernel
theorem dX9_goatSize_55 : decode cX9_goatSize 55 = .ok (.ireturn, 1) := by decide +kernel
set_option maxRecDepth 20000 in
theorem ggX9_markOf_X9_of : GoodIn wsX9_markOf wsX9_of := goodIn_r _ [5] (by decide +kernel) (by decide +kernel)
set_option maxRecDepth 20000 in
theorem gX9_markOf_X9_of : GoodIn wsX9_markOf (va_wsS RX9 158 yX9_of wsX9_of) := goodIn_app (goodIn_of _ (by decide +kernel)) ggX9_markOf_X9_of
set_option maxRecDepth 20000 in
theorem ggX9_markOf_X9_began : GoodIn wsX9_markOf wsX9_began := goodIn_r _ [9, 10, 11, 20, 21, 22, 23, 24, 25, 26, 27, 28, 29, 30, 31, 32, 33, 34, 35, 36, 37, 38, 39, 40, 41, 42] (by decide +kernel) (by decide +kernel)
set_option maxRecDepth 20000 in
theorem gX9_markOf_X9_began : GoodIn wsX9_markOf (wsV RX9 251 RX9 yX9_began wsX9_began) := goodIn_app (goodIn_of _ (by decide +kernel)) ggX9_markOf_X9_began
set_option maxRecDepth 20000 in
theorem ggX9_markOf_X9_goatSize : GoodIn wsX9_markOf wsX9_goatSize := goodIn_r _ [15, 1, 2, 3, 4, 5, 6, 7, 8, 9, 10, 11, 16, 17, 18, 19, 20, 21, 22, 23, 24, 25, 26, 27, 28, 29, 30, 31, 32, 33, 34, 35, 36, 37, 38, 39, 40, 41, 42] (by decide +kernel) (by decide +kernel)
set_option maxRecDepth 20000 in
theorem gX9_markOf_X9_goatSize : GoodIn wsX9_markOf (wsV RX9 257 RX9 yX9_goatSize wsX9_goatSize) := goodIn_app (goodIn_of _ (by decide +kernel)) ggX9_markOf_X9_goatSize
theorem dX9_markOf_0 : decode cX9_markOf 0 = .ok (.aload_n 0, 1) := by decide +kernel
theorem dX9_markOf_1 : decode cX9_markOf 1 = .ok (.getfield 19, 3) := by decide +kernel
theorem dX9_markOf_4 : decode cX9_markOf 4 = .ok (.iload_n 1, 1) := by decide +kernel
theorem dX9_markOf_5 : decode cX9_markOf 5 = .ok (.iconst 0, 1) := by decide +kernel
theorem dX9_markOf_6 : decode cX9_markOf 6 = .ok (.invokestatic 158, 3) := by decide +kernel
theorem dX9_markOf_9 : decode cX9_markOf 9 = .ok (.istore_n 2, 1) := by decide +kernel
theorem dX9_markOf_10 : decode cX9_markOf 10 = .ok (.iload_n 2, 1) := by decide +kernel
theorem dX9_markOf_11 : decode cX9_markOf 11 = .ok (.iconst 4, 1) := by decide +kernel
theorem dX9_markOf_12 : decode cX9_markOf 12 = .ok (.if_icmp .lt 23, 3) := by decide +kernel
theorem dX9_markOf_15 : decode cX9_markOf 15 = .ok (.aload_n 0, 1) := by decide +kernel
theorem dX9_markOf_16 : decode cX9_markOf 16 = .ok (.bipush 23, 2) := by decide +kernel
theorem dX9_markOf_18 : decode cX9_markOf 18 = .ok (.invokevirtual 251, 3) := by decide +kernel
theorem dX9_markOf_21 : decode cX9_markOf 21 = .ok (.aload_n 0, 1) := by decide +kernel
theorem dX9_markOf_22 : decode cX9_markOf 22 = .ok (.bipush 20, 2) := by decide +kernel
theorem dX9_markOf_24 : decode cX9_markOf 24 = .ok (.invokevirtual 251, 3) := by decide +kernel
theorem dX9_markOf_27 : decode cX9_markOf 27 = .ok (.iload_n 1, 1) := by decide +kernel
theorem dX9_markOf_28 : decode cX9_markOf 28 = .ok (.aload_n 0, 1) := by decide +kernel
theorem dX9_markOf_29 : decode cX9_markOf 29 = .ok (.iload_n 1, 1) := by decide +kernel
theorem dX9_markOf_30 : decode cX9_markOf 30 = .ok (.invokevirtual 257, 3) := by decide +kernel
theorem dX9_markOf_33 : decode cX9_markOf 33 = .ok (.isub, 1) := by decide +kernel
theorem dX9_markOf_34 : decode cX9_markOf 34 = .ok (.ireturn, 1) := by decide +kernel
theorem dX9_markOf_35 : decode cX9_markOf 35 = .ok (.iload_n 2, 1) := by decide +kernel
theorem dX9_markOf_36 : decode cX9_markOf 36 = .ok (.iconst 1, 1) := by decide +kernel
theorem dX9_markOf_37 : decode cX9_markOf 37 = .ok (.if_icmp .eq 19, 3) := by decide +kernel
theorem dX9_markOf_40 : decode cX9_markOf 40 = .ok (.aload_n 0, 1) := by decide +kernel
theorem dX9_markOf_41 : decode cX9_markOf 41 = .ok (.iload_n 2, 1) := by decide +kernel
theorem dX9_markOf_42 : decode cX9_markOf 42 = .ok (.iconst 3, 1) := by decide +kernel
theorem dX9_markOf_43 : decode cX9_markOf 43 = .ok (.if_icmp .ne 8, 3) := by decide +kernel
theorem dX9_markOf_46 : decode cX9_markOf 46 = .ok (.bipush 22, 2) := by decide +kernel
theorem dX9_markOf_48 : decode cX9_markOf 48 = .ok (.goto 5, 3) := by decide +kernel
theorem dX9_markOf_51 : decode cX9_markOf 51 = .ok (.bipush 24, 2) := by decide +kernel
theorem dX9_markOf_53 : decode cX9_markOf 53 = .ok (.invokevirtual 251, 3) := by decide +kernel
theorem dX9_markOf_56 : decode cX9_markOf 56 = .ok (.aload_n 0, 1) := by decide +kernel
theorem dX9_markOf_57 : decode cX9_markOf 57 = .ok (.bipush 21, 2) := by decide +kernel
theorem dX9_markOf_59 : decode cX9_markOf 59 = .ok (.invokevirtual 251, 3) := by decide +kernel
theorem dX9_markOf_62 : decode cX9_markOf 62 = .ok (.aload_n 0, 1) := by decide +kernel
theorem dX9_markOf_63 : decode cX9_markOf 63 = .ok (.bipush 20, 2) := by decide +kernel
theorem dX9_markOf_65 : decode cX9_markOf 65 = .ok (.invokevirtual 251, 3) := by decide +kernel
theorem dX9_markOf_68 : decode cX9_markOf 68 = .ok (.iload_n 1, 1) := by decide +kernel
theorem dX9_markOf_69 : decode cX9_markOf 69 = .ok (.aload_n 0, 1) := by decide +kernel
theorem dX9_markOf_70 : decode cX9_markOf 70 = .ok (.getfield 19, 3) := by decide +kernel
theorem dX9_markOf_73 : decode cX9_markOf 73 = .ok (.iload_n 1, 1) := by decide +kernel
theorem dX9_markOf_74 : decode cX9_markOf 74 = .ok (.iconst 2, 1) := by decide +kernel
theorem dX9_markOf_75 : decode cX9_markOf 75 = .ok (.invokestatic 158, 3) := by decide +kernel
theorem dX9_markOf_78 : decode cX9_markOf 78 = .ok (.iadd, 1) := by decide +kernel
theorem dX9_markOf_79 : decode cX9_markOf 79 = .ok (.istore_n 3, 1) := by decide +kernel
theorem dX9_markOf_80 : decode cX9_markOf 80 = .ok (.iload_n 2, 1) := by decide +kernel
theorem dX9_markOf_81 : decode cX9_markOf 81 = .ok (.iconst 1, 1) := by decide +kernel
theorem dX9_markOf_82 : decode cX9_markOf 82 = .ok (.if_icmp .ne 7, 3) := by decide +kernel
theorem dX9_markOf_85 : decode cX9_markOf 85 = .ok (.iload_n 3, 1) := by decide +kernel
theorem dX9_markOf_86 : decode cX9_markOf 86 = .ok (.goto 19, 3) := by decide +kernel
theorem dX9_markOf_89 : decode cX9_markOf 89 = .ok (.iload_n 2, 1) := by decide +kernel
theorem dX9_markOf_90 : decode cX9_markOf 90 = .ok (.iconst 3, 1) := by decide +kernel
theorem dX9_markOf_91 : decode cX9_markOf 91 = .ok (.if_icmp .ne 11, 3) := by decide +kernel
theorem dX9_markOf_94 : decode cX9_markOf 94 = .ok (.iload_n 3, 1) := by decide +kernel
theorem dX9_markOf_95 : decode cX9_markOf 95 = .ok (.sipush 1000, 3) := by decide +kernel
theorem dX9_markOf_98 : decode cX9_markOf 98 = .ok (.isub, 1) := by decide +kernel
theorem dX9_markOf_99 : decode cX9_markOf 99 = .ok (.goto 6, 3) := by decide +kernel
theorem dX9_markOf_102 : decode cX9_markOf 102 = .ok (.iconst 2, 1) := by decide +kernel
theorem dX9_markOf_103 : decode cX9_markOf 103 = .ok (.iload_n 3, 1) := by decide +kernel
theorem dX9_markOf_104 : decode cX9_markOf 104 = .ok (.imul, 1) := by decide +kernel
theorem dX9_markOf_105 : decode cX9_markOf 105 = .ok (.ireturn, 1) := by decide +kernel
set_option maxRecDepth 20000 in
theorem ggX9_sizeOf_X9_of : GoodIn wsX9_sizeOf wsX9_of := goodIn_r _ [5] (by decide +kernel) (by decide +kernel)
set_option maxRecDepth 20000 in
theorem gX9_sizeOf_X9_of : GoodIn wsX9_sizeOf (va_wsS RX9 158 yX9_of wsX9_of) := goodIn_app (goodIn_of _ (by decide +kernel)) ggX9_sizeOf_X9_of
set_option maxRecDepth 20000 in
theorem ggX9_sizeOf_X9_goatSize : GoodIn wsX9_sizeOf wsX9_goatSize := goodIn_r _ [9, 1, 2, 3, 4, 5, 10, 11, 12, 13, 14, 15, 16, 17, 18, 19, 24, 25, 26, 27, 28, 29, 30, 31, 32, 33, 34, 35, 36, 37, 38, 39, 40, 41, 42, 43, 44, 45, 46] (by decide +kernel) (by decide +kernel)
set_option maxRecDepth 20000 in
theorem gX9_sizeOf_X9_goatSize : GoodIn wsX9_sizeOf (wsV RX9 257 RX9 yX9_goatSize wsX9_goatSize) := goodIn_app (goodIn_of _ (by decide +kernel)) ggX9_sizeOf_X9_goatSize
set_option maxRecDepth 20000 in
theorem ggX9_sizeOf_X9_began : GoodIn wsX9_sizeOf wsX9_began := goodIn_r _ [13, 14, 15, 24, 25, 26, 27, 28, 29, 30, 31, 32, 33, 34, 35, 36, 37, 38, 39, 40, 41, 42, 43, 44, 45, 46] (by decide +kernel) (by decide +kernel)
set_option maxRecDepth 20000 in
theorem gX9_sizeOf_X9_began : GoodIn wsX9_sizeOf (wsV RX9 251 RX9 yX9_began wsX9_began) := goodIn_app (goodIn_of _ (by decide +kernel)) ggX9_sizeOf_X9_began
set_option maxRecDepth 20000 in
theorem ggX9_sizeOf_X9_plainSize : GoodIn wsX9_sizeOf wsX9_plainSize := goodIn_r _ [19, 1, 10, 11, 12, 4, 13, 14, 15, 2, 3, 5, 24, 25, 26, 27, 28, 29, 30, 31, 32, 33, 34, 35, 36, 37, 38, 39, 40, 41, 42, 43, 44, 45, 46] (by decide +kernel) (by decide +kernel)
set_option maxRecDepth 20000 in
theorem gX9_sizeOf_X9_plainSize : GoodIn wsX9_sizeOf (wsV RX9 254 RX9 yX9_plainSize wsX9_plainSize) := goodIn_app (goodIn_of _ (by decide +kernel)) ggX9_sizeOf_X9_plainSize
set_option maxRecDepth 20000 in
theorem ggX9_sizeOf_X9_markOf : GoodIn wsX9_sizeOf wsX9_markOf := goodIn_r _ [23, 1, 2, 3, 4, 5, 10, 11, 12, 13, 14, 15, 6, 7, 8, 9, 16, 17, 18, 19, 24, 25, 26, 27, 28, 29, 30, 31, 32, 33, 34, 35, 36, 37, 38, 39, 40, 41, 42, 43, 44, 45, 46] (by decide +kernel) (by decide +kernel)
set_option maxRecDepth 20000 in
theorem gX9_sizeOf_X9_markOf : GoodIn wsX9_sizeOf (wsV RX9 260 RX9 yX9_markOf wsX9_markOf) := goodIn_app (goodIn_of _ (by decide +kernel)) ggX9_sizeOf_X9_markOf
theorem dX9_sizeOf_0 : decode cX9_sizeOf 0 = .ok (.aload_n 0, 1) := by decide +kernel
theorem dX9_sizeOf_1 : decode cX9_sizeOf 1 = .ok (.getfield 19, 3) := by decide +kernel
theorem dX9_sizeOf_4 : decode cX9_sizeOf 4 = .ok (.iload_n 1, 1) := by decide +kernel
theorem dX9_sizeOf_5 : decode cX9_sizeOf 5 = .ok (.iconst 0, 1) := by decide +kernel
theorem dX9_sizeOf_6 : decode cX9_sizeOf 6 = .ok (.invokestatic 158, 3) := by decide +kernel
theorem dX9_sizeOf_9 : decode cX9_sizeOf 9 = .ok (.istore_n 2, 1) := by decide +kernel
theorem dX9_sizeOf_10 : decode cX9_sizeOf 10 = .ok (.iload_n 2, 1) := by decide +kernel
theorem dX9_sizeOf_11 : decode cX9_sizeOf 11 = .ok (.iconst 4, 1) := by decide +kernel
theorem dX9_sizeOf_12 : decode cX9_sizeOf 12 = .ok (.if_icmp .lt 9, 3) := by decide +kernel
theorem dX9_sizeOf_15 : decode cX9_sizeOf 15 = .ok (.aload_n 0, 1) := by decide +kernel
theorem dX9_sizeOf_16 : decode cX9_sizeOf 16 = .ok (.iload_n 1, 1) := by decide +kernel
theorem dX9_sizeOf_17 : decode cX9_sizeOf 17 = .ok (.invokevirtual 257, 3) := by decide +kernel
theorem dX9_sizeOf_20 : decode cX9_sizeOf 20 = .ok (.ireturn, 1) := by decide +kernel
theorem dX9_sizeOf_21 : decode cX9_sizeOf 21 = .ok (.iload_n 2, 1) := by decide +kernel
theorem dX9_sizeOf_22 : decode cX9_sizeOf 22 = .ok (.iconst 2, 1) := by decide +kernel
theorem dX9_sizeOf_23 : decode cX9_sizeOf 23 = .ok (.if_icmp .ne 9, 3) := by decide +kernel
theorem dX9_sizeOf_26 : decode cX9_sizeOf 26 = .ok (.aload_n 0, 1) := by decide +kernel
theorem dX9_sizeOf_27 : decode cX9_sizeOf 27 = .ok (.bipush 12, 2) := by decide +kernel
theorem dX9_sizeOf_29 : decode cX9_sizeOf 29 = .ok (.invokevirtual 251, 3) := by decide +kernel
theorem dX9_sizeOf_32 : decode cX9_sizeOf 32 = .ok (.aload_n 0, 1) := by decide +kernel
theorem dX9_sizeOf_33 : decode cX9_sizeOf 33 = .ok (.bipush 11, 2) := by decide +kernel
theorem dX9_sizeOf_35 : decode cX9_sizeOf 35 = .ok (.invokevirtual 251, 3) := by decide +kernel
theorem dX9_sizeOf_38 : decode cX9_sizeOf 38 = .ok (.aload_n 0, 1) := by decide +kernel
theorem dX9_sizeOf_39 : decode cX9_sizeOf 39 = .ok (.iload_n 1, 1) := by decide +kernel
theorem dX9_sizeOf_40 : decode cX9_sizeOf 40 = .ok (.invokevirtual 254, 3) := by decide +kernel
theorem dX9_sizeOf_43 : decode cX9_sizeOf 43 = .ok (.istore_n 3, 1) := by decide +kernel
theorem dX9_sizeOf_44 : decode cX9_sizeOf 44 = .ok (.iload_n 3, 1) := by decide +kernel
theorem dX9_sizeOf_45 : decode cX9_sizeOf 45 = .ok (.aload_n 0, 1) := by decide +kernel
theorem dX9_sizeOf_46 : decode cX9_sizeOf 46 = .ok (.iload_n 1, 1) := by decide +kernel
theorem dX9_sizeOf_47 : decode cX9_sizeOf 47 = .ok (.invokevirtual 260, 3) := by decide +kernel
theorem dX9_sizeOf_50 : decode cX9_sizeOf 50 = .ok (.iadd, 1) := by decide +kernel
theorem dX9_sizeOf_51 : decode cX9_sizeOf 51 = .ok (.istore_n 3, 1) := by decide +kernel
theorem dX9_sizeOf_52 : decode cX9_sizeOf 52 = .ok (.iload_n 2, 1) := by decide +kernel
theorem dX9_sizeOf_53 : decode cX9_sizeOf 53 = .ok (.iconst 2, 1) := by decide +kernel
theorem dX9_sizeOf_54 : decode cX9_sizeOf 54 = .ok (.if_icmp .ne 8, 3) := by decide +kernel
theorem dX9_sizeOf_57 : decode cX9_sizeOf 57 = .ok (.iload_n 3, 1) := by decide +kernel
theorem dX9_sizeOf_58 : decode cX9_sizeOf 58 = .ok (.ineg, 1) := by decide +kernel
theorem dX9_sizeOf_59 : decode cX9_sizeOf 59 = .ok (.goto 4, 3) := by decide +kernel
theorem dX9_sizeOf_62 : decode cX9_sizeOf 62 = .ok (.iload_n 3, 1) := by decide +kernel
theorem dX9_sizeOf_63 : decode cX9_sizeOf 63 = .ok (.ireturn, 1) := by decide +kernel
set_option maxRecDepth 20000 in
theorem ggX9_ask_X9_isBidder : GoodIn wsX9_ask wsX9_isBidder := goodIn_r _ [8, 9, 10, 11, 7, 12, 37, 38, 39, 40, 41, 42, 43, 44, 45, 46, 47, 48, 49, 50, 51, 52, 53, 54, 55, 56, 57, 58, 59] (by decide +kernel) (by decide +kernel)
set_option maxRecDepth 20000 in
theorem gX9_ask_X9_isBidder : GoodIn wsX9_ask (wsV RX9 195 RX9 yX9_isBidder wsX9_isBidder) := goodIn_app (goodIn_of _ (by decide +kernel)) ggX9_ask_X9_isBidder
set_option maxRecDepth 20000 in
theorem ggX9_ask_X9_in : GoodIn wsX9_ask wsX9_in := goodIn_r _ [12] (by decide +kernel) (by decide +kernel)
set_option maxRecDepth 20000 in
theorem gX9_ask_X9_in : GoodIn wsX9_ask (va_wsS RX9 54 yX9_in wsX9_in) := goodIn_app (goodIn_of _ (by decide +kernel)) ggX9_ask_X9_in
set_option maxRecDepth 20000 in
theorem ggX9_ask_X9_sizeOf : GoodIn wsX9_ask wsX9_sizeOf := goodIn_r _ [16, 9, 17, 18, 7, 19, 20, 21, 22, 23, 24, 25, 26, 27, 3, 28, 29, 30, 31, 32, 33, 34, 35, 36, 37, 38, 39, 40, 41, 42, 43, 44, 45, 46, 47, 48, 49, 50, 51, 52, 53, 54, 55, 56, 57, 58, 59] (by decide +kernel) (by decide +kernel)
set_option maxRecDepth 20000 in
theorem gX9_ask_X9_sizeOf : GoodIn wsX9_ask (wsV RX9 263 RX9 yX9_sizeOf wsX9_sizeOf) := goodIn_app (goodIn_of _ (by decide +kernel)) ggX9_ask_X9_sizeOf
set_option maxRecDepth 20000 in
theorem ggX9_ask_X9_markOf : GoodIn wsX9_ask wsX9_markOf := goodIn_r _ [36, 9, 17, 18, 7, 19, 24, 25, 26, 27, 3, 28, 20, 21, 22, 23, 29, 30, 31, 32, 37, 38, 39, 40, 41, 42, 43, 44, 45, 46, 47, 48, 49, 50, 51, 52, 53, 54, 55, 56, 57, 58, 59] (by decide +kernel) (by decide +kernel)
set_option maxRecDepth 20000 in
theorem gX9_ask_X9_markOf : GoodIn wsX9_ask (wsV RX9 260 RX9 yX9_markOf wsX9_markOf) := goodIn_app (goodIn_of _ (by decide +kernel)) ggX9_ask_X9_markOf
theorem dX9_ask_0 : decode cX9_ask 0 = .ok (.aload_n 0, 1) := by decide +kernel
theorem dX9_ask_1 : decode cX9_ask 1 = .ok (.iconst 0, 1) := by decide +kernel
theorem dX9_ask_2 : decode cX9_ask 2 = .ok (.putfield 44, 3) := by decide +kernel
theorem dX9_ask_5 : decode cX9_ask 5 = .ok (.aload_n 0, 1) := by decide +kernel
theorem dX9_ask_6 : decode cX9_ask 6 = .ok (.iload_n 1, 1) := by decide +kernel
theorem dX9_ask_7 : decode cX9_ask 7 = .ok (.invokevirtual 195, 3) := by decide +kernel
theorem dX9_ask_10 : decode cX9_ask 10 = .ok (.ifCond .eq 13, 3) := by decide +kernel
theorem dX9_ask_13 : decode cX9_ask 13 = .ok (.iload_n 2, 1) := by decide +kernel
theorem dX9_ask_14 : decode cX9_ask 14 = .ok (.i2l, 1) := by decide +kernel
theorem dX9_ask_15 : decode cX9_ask 15 = .ok (.lconst 0, 1) := by decide +kernel
theorem dX9_ask_16 : decode cX9_ask 16 = .ok (.lconst 1, 1) := by decide +kernel
theorem dX9_ask_17 : decode cX9_ask 17 = .ok (.invokestatic 54, 3) := by decide +kernel
theorem dX9_ask_20 : decode cX9_ask 20 = .ok (.ifCond .ne 6, 3) := by decide +kernel
theorem dX9_ask_23 : decode cX9_ask 23 = .ok (.ldc 64, 2) := by decide +kernel
theorem dX9_ask_25 : decode cX9_ask 25 = .ok (.ireturn, 1) := by decide +kernel
theorem dX9_ask_26 : decode cX9_ask 26 = .ok (.aload_n 0, 1) := by decide +kernel
theorem dX9_ask_27 : decode cX9_ask 27 = .ok (.iconst 0, 1) := by decide +kernel
theorem dX9_ask_28 : decode cX9_ask 28 = .ok (.putfield 248, 3) := by decide +kernel
theorem dX9_ask_31 : decode cX9_ask 31 = .ok (.iload_n 2, 1) := by decide +kernel
theorem dX9_ask_32 : decode cX9_ask 32 = .ok (.ifCond .ne 11, 3) := by decide +kernel
theorem dX9_ask_35 : decode cX9_ask 35 = .ok (.aload_n 0, 1) := by decide +kernel
theorem dX9_ask_36 : decode cX9_ask 36 = .ok (.iload_n 1, 1) := by decide +kernel
theorem dX9_ask_37 : decode cX9_ask 37 = .ok (.invokevirtual 263, 3) := by decide +kernel
theorem dX9_ask_40 : decode cX9_ask 40 = .ok (.goto 8, 3) := by decide +kernel
theorem dX9_ask_43 : decode cX9_ask 43 = .ok (.aload_n 0, 1) := by decide +kernel
theorem dX9_ask_44 : decode cX9_ask 44 = .ok (.iload_n 1, 1) := by decide +kernel
theorem dX9_ask_45 : decode cX9_ask 45 = .ok (.invokevirtual 260, 3) := by decide +kernel
theorem dX9_ask_48 : decode cX9_ask 48 = .ok (.ireturn, 1) := by decide +kernel
set_option maxRecDepth 20000 in
theorem ggX9_trace_X9_in : GoodIn wsX9_trace wsX9_in := goodIn_r _ [8] (by decide +kernel) (by decide +kernel)
set_option maxRecDepth 20000 in
theorem gX9_trace_X9_in : GoodIn wsX9_trace (va_wsS RX9 54 yX9_in wsX9_in) := goodIn_app (goodIn_of _ (by decide +kernel)) ggX9_trace_X9_in
theorem dX9_trace_0 : decode cX9_trace 0 = .ok (.aload_n 0, 1) := by decide +kernel
theorem dX9_trace_1 : decode cX9_trace 1 = .ok (.iconst 0, 1) := by decide +kernel
theorem dX9_trace_2 : decode cX9_trace 2 = .ok (.putfield 44, 3) := by decide +kernel
theorem dX9_trace_5 : decode cX9_trace 5 = .ok (.iload_n 1, 1) := by decide +kernel
theorem dX9_trace_6 : decode cX9_trace 6 = .ok (.i2l, 1) := by decide +kernel
theorem dX9_trace_7 : decode cX9_trace 7 = .ok (.lconst 0, 1) := by decide +kernel
theorem dX9_trace_8 : decode cX9_trace 8 = .ok (.aload_n 0, 1) := by decide +kernel
theorem dX9_trace_9 : decode cX9_trace 9 = .ok (.getfield 248, 3) := by decide +kernel
theorem dX9_trace_12 : decode cX9_trace 12 = .ok (.iconst 1, 1) := by decide +kernel
theorem dX9_trace_13 : decode cX9_trace 13 = .ok (.isub, 1) := by decide +kernel
theorem dX9_trace_14 : decode cX9_trace 14 = .ok (.i2l, 1) := by decide +kernel
theorem dX9_trace_15 : decode cX9_trace 15 = .ok (.invokestatic 54, 3) := by decide +kernel
theorem dX9_trace_18 : decode cX9_trace 18 = .ok (.ifCond .eq 12, 3) := by decide +kernel
theorem dX9_trace_21 : decode cX9_trace 21 = .ok (.aload_n 0, 1) := by decide +kernel
theorem dX9_trace_22 : decode cX9_trace 22 = .ok (.getfield 41, 3) := by decide +kernel
theorem dX9_trace_25 : decode cX9_trace 25 = .ok (.iload_n 1, 1) := by decide +kernel
theorem dX9_trace_26 : decode cX9_trace 26 = .ok (.iaload, 1) := by decide +kernel
theorem dX9_trace_27 : decode cX9_trace 27 = .ok (.goto 5, 3) := by decide +kernel
theorem dX9_trace_30 : decode cX9_trace 30 = .ok (.ldc 87, 2) := by decide +kernel
theorem dX9_trace_32 : decode cX9_trace 32 = .ok (.ireturn, 1) := by decide +kernel
set_option maxRecDepth 20000 in
theorem ggX9_count_X9_levelBy : GoodIn wsX9_count wsX9_levelBy := goodIn_r _ [10] (by decide +kernel) (by decide +kernel)
set_option maxRecDepth 20000 in
theorem gX9_count_X9_levelBy : GoodIn wsX9_count (va_wsS RX9 150 yX9_levelBy wsX9_levelBy) := goodIn_app (goodIn_of _ (by decide +kernel)) ggX9_count_X9_levelBy
set_option maxRecDepth 20000 in
theorem ggX9_count_X9_heldOf : GoodIn wsX9_count wsX9_heldOf := goodIn_r _ [13] (by decide +kernel) (by decide +kernel)
set_option maxRecDepth 20000 in
theorem gX9_count_X9_heldOf : GoodIn wsX9_count (va_wsS RX9 191 yX9_heldOf wsX9_heldOf) := goodIn_app (goodIn_of _ (by decide +kernel)) ggX9_count_X9_heldOf
theorem dX9_count_0 : decode cX9_count 0 = .ok (.aload_n 0, 1) := by decide +kernel
theorem dX9_count_1 : decode cX9_count 1 = .ok (.iconst 0, 1) := by decide +kernel
theorem dX9_count_2 : decode cX9_count 2 = .ok (.putfield 44, 3) := by decide +kernel
theorem dX9_count_5 : decode cX9_count 5 = .ok (.iconst 0, 1) := by decide +kernel
theorem dX9_count_6 : decode cX9_count 6 = .ok (.istore_n 2, 1) := by decide +kernel
theorem dX9_count_7 : decode cX9_count 7 = .ok (.iload_n 1, 1) := by decide +kernel
theorem dX9_count_8 : decode cX9_count 8 = .ok (.tableswitch 134 0 7 #[48, 81, 88, 102, 109, 116, 124, 129], 48) := by decide +kernel
theorem dX9_count_56 : decode cX9_count 56 = .ok (.iconst 0, 1) := by decide +kernel
theorem dX9_count_57 : decode cX9_count 57 = .ok (.istore_n 3, 1) := by decide +kernel
theorem dX9_count_58 : decode cX9_count 58 = .ok (.iload_n 3, 1) := by decide +kernel
theorem dX9_count_59 : decode cX9_count 59 = .ok (.bipush 8, 2) := by decide +kernel
theorem dX9_count_61 : decode cX9_count 61 = .ok (.if_icmp .ge 26, 3) := by decide +kernel
theorem dX9_count_64 : decode cX9_count 64 = .ok (.iload_n 2, 1) := by decide +kernel
theorem dX9_count_65 : decode cX9_count 65 = .ok (.aload_n 0, 1) := by decide +kernel
theorem dX9_count_66 : decode cX9_count 66 = .ok (.getfield 7, 3) := by decide +kernel
theorem dX9_count_69 : decode cX9_count 69 = .ok (.iload_n 3, 1) := by decide +kernel
theorem dX9_count_70 : decode cX9_count 70 = .ok (.iaload, 1) := by decide +kernel
theorem dX9_count_71 : decode cX9_count 71 = .ok (.ifCond .lt 7, 3) := by decide +kernel
theorem dX9_count_74 : decode cX9_count 74 = .ok (.iconst 1, 1) := by decide +kernel
theorem dX9_count_75 : decode cX9_count 75 = .ok (.goto 4, 3) := by decide +kernel
theorem dX9_count_78 : decode cX9_count 78 = .ok (.iconst 0, 1) := by decide +kernel
theorem dX9_count_79 : decode cX9_count 79 = .ok (.iadd, 1) := by decide +kernel
theorem dX9_count_80 : decode cX9_count 80 = .ok (.istore_n 2, 1) := by decide +kernel
theorem dX9_count_81 : decode cX9_count 81 = .ok (.iinc 3 1, 3) := by decide +kernel
theorem dX9_count_84 : decode cX9_count 84 = .ok (.goto (-26), 3) := by decide +kernel
theorem dX9_count_87 : decode cX9_count 87 = .ok (.iload_n 2, 1) := by decide +kernel
theorem dX9_count_88 : decode cX9_count 88 = .ok (.ireturn, 1) := by decide +kernel
theorem dX9_count_89 : decode cX9_count 89 = .ok (.aload_n 0, 1) := by decide +kernel
theorem dX9_count_90 : decode cX9_count 90 = .ok (.getfield 19, 3) := by decide +kernel
theorem dX9_count_93 : decode cX9_count 93 = .ok (.iconst 4, 1) := by decide +kernel
theorem dX9_count_94 : decode cX9_count 94 = .ok (.iaload, 1) := by decide +kernel
theorem dX9_count_95 : decode cX9_count 95 = .ok (.ireturn, 1) := by decide +kernel
theorem dX9_count_96 : decode cX9_count 96 = .ok (.aload_n 0, 1) := by decide +kernel
theorem dX9_count_97 : decode cX9_count 97 = .ok (.getfield 19, 3) := by decide +kernel
theorem dX9_count_100 : decode cX9_count 100 = .ok (.aload_n 0, 1) := by decide +kernel
theorem dX9_count_101 : decode cX9_count 101 = .ok (.getfield 19, 3) := by decide +kernel
theorem dX9_count_104 : decode cX9_count 104 = .ok (.iconst 5, 1) := by decide +kernel
theorem dX9_count_105 : decode cX9_count 105 = .ok (.iaload, 1) := by decide +kernel
theorem dX9_count_106 : decode cX9_count 106 = .ok (.invokestatic 150, 3) := by decide +kernel
theorem dX9_count_109 : decode cX9_count 109 = .ok (.ireturn, 1) := by decide +kernel
theorem dX9_count_110 : decode cX9_count 110 = .ok (.aload_n 0, 1) := by decide +kernel
theorem dX9_count_111 : decode cX9_count 111 = .ok (.getfield 19, 3) := by decide +kernel
theorem dX9_count_114 : decode cX9_count 114 = .ok (.iconst 3, 1) := by decide +kernel
theorem dX9_count_115 : decode cX9_count 115 = .ok (.iaload, 1) := by decide +kernel
theorem dX9_count_116 : decode cX9_count 116 = .ok (.ireturn, 1) := by decide +kernel
theorem dX9_count_117 : decode cX9_count 117 = .ok (.aload_n 0, 1) := by decide +kernel
theorem dX9_count_118 : decode cX9_count 118 = .ok (.getfield 19, 3) := by decide +kernel
theorem dX9_count_121 : decode cX9_count 121 = .ok (.iconst 5, 1) := by decide +kernel
theorem dX9_count_122 : decode cX9_count 122 = .ok (.iaload, 1) := by decide +kernel
theorem dX9_count_123 : decode cX9_count 123 = .ok (.ireturn, 1) := by decide +kernel
theorem dX9_count_124 : decode cX9_count 124 = .ok (.aload_n 0, 1) := by decide +kernel
theorem dX9_count_125 : decode cX9_count 125 = .ok (.getfield 19, 3) := by decide +kernel
theorem dX9_count_128 : decode cX9_count 128 = .ok (.invokestatic 191, 3) := by decide +kernel
theorem dX9_count_131 : decode cX9_count 131 = .ok (.ireturn, 1) := by decide +kernel
theorem dX9_count_132 : decode cX9_count 132 = .ok (.aload_n 0, 1) := by decide +kernel
theorem dX9_count_133 : decode cX9_count 133 = .ok (.getfield 145, 3) := by decide +kernel
theorem dX9_count_136 : decode cX9_count 136 = .ok (.ireturn, 1) := by decide +kernel
theorem dX9_count_137 : decode cX9_count 137 = .ok (.aload_n 0, 1) := by decide +kernel
theorem dX9_count_138 : decode cX9_count 138 = .ok (.getfield 71, 3) := by decide +kernel
theorem dX9_count_141 : decode cX9_count 141 = .ok (.ireturn, 1) := by decide +kernel
theorem dX9_count_142 : decode cX9_count 142 = .ok (.ldc 64, 2) := by decide +kernel
theorem dX9_count_144 : decode cX9_count 144 = .ok (.ireturn, 1) := by decide +kernel
theorem dX9_status_0 : decode cX9_status 0 = .ok (.aload_n 0, 1) := by decide +kernel
theorem dX9_status_1 : decode cX9_status 1 = .ok (.iconst 0, 1) := by decide +kernel
theorem dX9_status_2 : decode cX9_status 2 = .ok (.putfield 44, 3) := by decide +kernel
theorem dX9_status_5 : decode cX9_status 5 = .ok (.aload_n 0, 1) := by decide +kernel
theorem dX9_status_6 : decode cX9_status 6 = .ok (.getfield 48, 3) := by decide +kernel
theorem dX9_status_9 : decode cX9_status 9 = .ok (.ireturn, 1) := by decide +kernel

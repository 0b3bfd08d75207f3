theorem dX4_late_18 : decode cX4_late 18 = .ok (.ishr, 1) := by decide +kernel
theorem dX4_late_19 : decode cX4_late 19 = .ok (.iconst 1, 1) := by decide +kernel
theorem dX4_late_20 : decode cX4_late 20 = .ok (.iand, 1) := by decide +kernel
theorem dX4_late_21 : decode cX4_late 21 = .ok (.iconst 1, 1) := by decide +kernel
theorem dX4_late_22 : decode cX4_late 22 = .ok (.if_icmp .eq 10, 3) := by decide +kernel
theorem dX4_late_25 : decode cX4_late 25 = .ok (.aload_n 0, 1) := by decide +kernel
theorem dX4_late_26 : decode cX4_late 26 = .ok (.getfield 114, 3) := by decide +kernel
theorem dX4_late_29 : decode cX4_late 29 = .ok (.ifCond .ne 5, 3) := by decide +kernel
theorem dX4_late_32 : decode cX4_late 32 = .ok (.iconst (-1), 1) := by decide +kernel
theorem dX4_late_33 : decode cX4_late 33 = .ok (.ireturn, 1) := by decide +kernel
theorem dX4_late_34 : decode cX4_late 34 = .ok (.aload_n 0, 1) := by decide +kernel
theorem dX4_late_35 : decode cX4_late 35 = .ok (.aload_n 0, 1) := by decide +kernel
theorem dX4_late_36 : decode cX4_late 36 = .ok (.iconst 1, 1) := by decide +kernel
theorem dX4_late_37 : decode cX4_late 37 = .ok (.aload_n 0, 1) := by decide +kernel
theorem dX4_late_38 : decode cX4_late 38 = .ok (.getfield 114, 3) := by decide +kernel
theorem dX4_late_41 : decode cX4_late 41 = .ok (.ishl, 1) := by decide +kernel
theorem dX4_late_42 : decode cX4_late 42 = .ok (.iconst 1, 1) := by decide +kernel
theorem dX4_late_43 : decode cX4_late 43 = .ok (.isub, 1) := by decide +kernel
theorem dX4_late_44 : decode cX4_late 44 = .ok (.invokevirtual 171, 3) := by decide +kernel
theorem dX4_late_47 : decode cX4_late 47 = .ok (.iconst 1, 1) := by decide +kernel
theorem dX4_late_48 : decode cX4_late 48 = .ok (.iload_n 1, 1) := by decide +kernel
theorem dX4_late_49 : decode cX4_late 49 = .ok (.ishl, 1) := by decide +kernel
theorem dX4_late_50 : decode cX4_late 50 = .ok (.ior, 1) := by decide +kernel
theorem dX4_late_51 : decode cX4_late 51 = .ok (.invokevirtual 161, 3) := by decide +kernel
theorem dX4_late_54 : decode cX4_late 54 = .ok (.iconst 0, 1) := by decide +kernel
theorem dX4_late_55 : decode cX4_late 55 = .ok (.istore_n 2, 1) := by decide +kernel
theorem dX4_late_56 : decode cX4_late 56 = .ok (.iconst 1, 1) := by decide +kernel
theorem dX4_late_57 : decode cX4_late 57 = .ok (.istore_n 3, 1) := by decide +kernel
theorem dX4_late_58 : decode cX4_late 58 = .ok (.iload_n 3, 1) := by decide +kernel
theorem dX4_late_59 : decode cX4_late 59 = .ok (.iconst 1, 1) := by decide +kernel
theorem dX4_late_60 : decode cX4_late 60 = .ok (.aload_n 0, 1) := by decide +kernel
theorem dX4_late_61 : decode cX4_late 61 = .ok (.getfield 114, 3) := by decide +kernel
theorem dX4_late_64 : decode cX4_late 64 = .ok (.ishl, 1) := by decide +kernel
theorem dX4_late_65 : decode cX4_late 65 = .ok (.if_icmp .ge 50, 3) := by decide +kernel
theorem dX4_late_68 : decode cX4_late 68 = .ok (.aload_n 0, 1) := by decide +kernel
theorem dX4_late_69 : decode cX4_late 69 = .ok (.getfield 65, 3) := by decide +kernel
theorem dX4_late_72 : decode cX4_late 72 = .ok (.aload_n 0, 1) := by decide +kernel
theorem dX4_late_73 : decode cX4_late 73 = .ok (.iload_n 3, 1) := by decide +kernel
theorem dX4_late_74 : decode cX4_late 74 = .ok (.invokevirtual 171, 3) := by decide +kernel
theorem dX4_late_77 : decode cX4_late 77 = .ok (.iconst 1, 1) := by decide +kernel
theorem dX4_late_78 : decode cX4_late 78 = .ok (.iload_n 1, 1) := by decide +kernel
theorem dX4_late_79 : decode cX4_late 79 = .ok (.ishl, 1) := by decide +kernel
theorem dX4_late_80 : decode cX4_late 80 = .ok (.ior, 1) := by decide +kernel
theorem dX4_late_81 : decode cX4_late 81 = .ok (.iaload, 1) := by decide +kernel
theorem dX4_late_82 : decode cX4_late 82 = .ok (.iload_n 3, 1) := by decide +kernel
theorem dX4_late_83 : decode cX4_late 83 = .ok (.invokestatic 147, 3) := by decide +kernel
theorem dX4_late_86 : decode cX4_late 86 = .ok (.if_icmp .le 6, 3) := by decide +kernel
theorem dX4_late_89 : decode cX4_late 89 = .ok (.goto 20, 3) := by decide +kernel
theorem dX4_late_92 : decode cX4_late 92 = .ok (.iload_n 2, 1) := by decide +kernel
theorem dX4_late_93 : decode cX4_late 93 = .ok (.ifCond .eq 14, 3) := by decide +kernel
theorem dX4_late_96 : decode cX4_late 96 = .ok (.iload_n 3, 1) := by decide +kernel
theorem dX4_late_97 : decode cX4_late 97 = .ok (.invokestatic 147, 3) := by decide +kernel
theorem dX4_late_100 : decode cX4_late 100 = .ok (.iload_n 2, 1) := by decide +kernel
theorem dX4_late_101 : decode cX4_late 101 = .ok (.invokestatic 147, 3) := by decide +kernel
theorem dX4_late_104 : decode cX4_late 104 = .ok (.if_icmp .ge 5, 3) := by decide +kernel
theorem dX4_late_107 : decode cX4_late 107 = .ok (.iload_n 3, 1) := by decide +kernel
theorem dX4_late_108 : decode cX4_late 108 = .ok (.istore_n 2, 1) := by decide +kernel
theorem dX4_late_109 : decode cX4_late 109 = .ok (.iinc 3 1, 3) := by decide +kernel
theorem dX4_late_112 : decode cX4_late 112 = .ok (.goto (-54), 3) := by decide +kernel
theorem dX4_late_115 : decode cX4_late 115 = .ok (.iload_n 2, 1) := by decide +kernel
theorem dX4_late_116 : decode cX4_late 116 = .ok (.ifCond .ne 52, 3) := by decide +kernel
theorem dX4_late_119 : decode cX4_late 119 = .ok (.aload_n 0, 1) := by decide +kernel
theorem dX4_late_120 : decode cX4_late 120 = .ok (.getfield 114, 3) := by decide +kernel
theorem dX4_late_123 : decode cX4_late 123 = .ok (.aload_n 0, 1) := by decide +kernel
theorem dX4_late_124 : decode cX4_late 124 = .ok (.getfield 47, 3) := by decide +kernel
theorem dX4_late_127 : decode cX4_late 127 = .ok (.if_icmp .lt 5, 3) := by decide +kernel
theorem dX4_late_130 : decode cX4_late 130 = .ok (.iconst (-1), 1) := by decide +kernel
theorem dX4_late_131 : decode cX4_late 131 = .ok (.ireturn, 1) := by decide +kernel
theorem dX4_late_132 : decode cX4_late 132 = .ok (.aload_n 0, 1) := by decide +kernel
theorem dX4_late_133 : decode cX4_late 133 = .ok (.getfield 50, 3) := by decide +kernel
theorem dX4_late_136 : decode cX4_late 136 = .ok (.aload_n 0, 1) := by decide +kernel
theorem dX4_late_137 : decode cX4_late 137 = .ok (.getfield 114, 3) := by decide +kernel
theorem dX4_late_140 : decode cX4_late 140 = .ok (.iconst 1, 1) := by decide +kernel
theorem dX4_late_141 : decode cX4_late 141 = .ok (.iload_n 1, 1) := by decide +kernel
theorem dX4_late_142 : decode cX4_late 142 = .ok (.ishl, 1) := by decide +kernel
theorem dX4_late_143 : decode cX4_late 143 = .ok (.iastore, 1) := by decide +kernel
theorem dX4_late_144 : decode cX4_late 144 = .ok (.aload_n 0, 1) := by decide +kernel
theorem dX4_late_145 : decode cX4_late 145 = .ok (.dup, 1) := by decide +kernel
theorem dX4_late_146 : decode cX4_late 146 = .ok (.getfield 114, 3) := by decide +kernel
theorem dX4_late_149 : decode cX4_late 149 = .ok (.iconst 1, 1) := by decide +kernel
theorem dX4_late_150 : decode cX4_late 150 = .ok (.iadd, 1) := by decide +kernel
theorem dX4_late_151 : decode cX4_late 151 = .ok (.putfield 114, 3) := by decide +kernel
theorem dX4_late_154 : decode cX4_late 154 = .ok (.aload_n 0, 1) := by decide +kernel
theorem dX4_late_155 : decode cX4_late 155 = .ok (.dup, 1) := by decide +kernel
theorem dX4_late_156 : decode cX4_late 156 = .ok (.getfield 108, 3) := by decide +kernel
theorem dX4_late_159 : decode cX4_late 159 = .ok (.iconst 1, 1) := by decide +kernel
theorem dX4_late_160 : decode cX4_late 160 = .ok (.iload_n 1, 1) := by decide +kernel
theorem dX4_late_161 : decode cX4_late 161 = .ok (.ishl, 1) := by decide +kernel
theorem dX4_late_162 : decode cX4_late 162 = .ok (.ior, 1) := by decide +kernel
theorem dX4_late_163 : decode cX4_late 163 = .ok (.putfield 108, 3) := by decide +kernel
theorem dX4_late_166 : decode cX4_late 166 = .ok (.iconst 1, 1) := by decide +kernel
theorem dX4_late_167 : decode cX4_late 167 = .ok (.ireturn, 1) := by decide +kernel
theorem dX4_late_168 : decode cX4_late 168 = .ok (.aload_n 0, 1) := by decide +kernel
theorem dX4_late_169 : decode cX4_late 169 = .ok (.aload_n 0, 1) := by decide +kernel
theorem dX4_late_170 : decode cX4_late 170 = .ok (.iload_n 2, 1) := by decide +kernel
theorem dX4_late_171 : decode cX4_late 171 = .ok (.invokevirtual 171, 3) := by decide +kernel
theorem dX4_late_174 : decode cX4_late 174 = .ok (.iconst 1, 1) := by decide +kernel
theorem dX4_late_175 : decode cX4_late 175 = .ok (.iload_n 1, 1) := by decide +kernel
theorem dX4_late_176 : decode cX4_late 176 = .ok (.ishl, 1) := by decide +kernel
theorem dX4_late_177 : decode cX4_late 177 = .ok (.ior, 1) := by decide +kernel
theorem dX4_late_178 : decode cX4_late 178 = .ok (.invokevirtual 165, 3) := by decide +kernel
theorem dX4_late_181 : decode cX4_late 181 = .ok (.istore_n 3, 1) := by decide +kernel
theorem dX4_late_182 : decode cX4_late 182 = .ok (.iconst 0, 1) := by decide +kernel
theorem dX4_late_183 : decode cX4_late 183 = .ok (.istore 4, 2) := by decide +kernel
theorem dX4_late_185 : decode cX4_late 185 = .ok (.iconst 0, 1) := by decide +kernel
theorem dX4_late_186 : decode cX4_late 186 = .ok (.istore 5, 2) := by decide +kernel
theorem dX4_late_188 : decode cX4_late 188 = .ok (.iload 5, 2) := by decide +kernel
theorem dX4_late_190 : decode cX4_late 190 = .ok (.aload_n 0, 1) := by decide +kernel
theorem dX4_late_191 : decode cX4_late 191 = .ok (.getfield 114, 3) := by decide +kernel
theorem dX4_late_194 : decode cX4_late 194 = .ok (.if_icmp .ge 48, 3) := by decide +kernel
theorem dX4_late_197 : decode cX4_late 197 = .ok (.iload_n 2, 1) := by decide +kernel
theorem dX4_late_198 : decode cX4_late 198 = .ok (.iload 5, 2) := by decide +kernel
theorem dX4_late_200 : decode cX4_late 200 = .ok (.ishr, 1) := by decide +kernel
theorem dX4_late_201 : decode cX4_late 201 = .ok (.iconst 1, 1) := by decide +kernel
theorem dX4_late_202 : decode cX4_late 202 = .ok (.iand, 1) := by decide +kernel
theorem dX4_late_203 : decode cX4_late 203 = .ok (.ifCond .ne 6, 3) := by decide +kernel
theorem dX4_late_206 : decode cX4_late 206 = .ok (.goto 30, 3) := by decide +kernel
theorem dX4_late_209 : decode cX4_late 209 = .ok (.aload_n 0, 1) := by decide +kernel
theorem dX4_late_210 : decode cX4_late 210 = .ok (.getfield 50, 3) := by decide +kernel
theorem dX4_late_213 : decode cX4_late 213 = .ok (.iload 5, 2) := by decide +kernel
theorem dX4_late_215 : decode cX4_late 215 = .ok (.iload 4, 2) := by decide +kernel
theorem dX4_late_217 : decode cX4_late 217 = .ok (.iload_n 3, 1) := by decide +kernel
theorem dX4_late_218 : decode cX4_late 218 = .ok (.if_icmp .ge 13, 3) := by decide +kernel
theorem dX4_late_221 : decode cX4_late 221 = .ok (.aload_n 0, 1) := by decide +kernel
theorem dX4_late_222 : decode cX4_late 222 = .ok (.getfield 68, 3) := by decide +kernel
theorem dX4_late_225 : decode cX4_late 225 = .ok (.iload 4, 2) := by decide +kernel
theorem dX4_late_227 : decode cX4_late 227 = .ok (.iaload, 1) := by decide +kernel
theorem dX4_late_228 : decode cX4_late 228 = .ok (.goto 4, 3) := by decide +kernel
theorem dX4_late_231 : decode cX4_late 231 = .ok (.iconst 0, 1) := by decide +kernel
theorem dX4_late_232 : decode cX4_late 232 = .ok (.iastore, 1) := by decide +kernel
theorem dX4_late_233 : decode cX4_late 233 = .ok (.iinc 4 1, 3) := by decide +kernel
theorem dX4_late_236 : decode cX4_late 236 = .ok (.iinc 5 1, 3) := by decide +kernel
theorem dX4_late_239 : decode cX4_late 239 = .ok (.goto (-51), 3) := by decide +kernel
theorem dX4_late_242 : decode cX4_late 242 = .ok (.aload_n 0, 1) := by decide +kernel
theorem dX4_late_243 : decode cX4_late 243 = .ok (.dup, 1) := by decide +kernel
theorem dX4_late_244 : decode cX4_late 244 = .ok (.getfield 108, 3) := by decide +kernel
theorem dX4_late_247 : decode cX4_late 247 = .ok (.iconst 1, 1) := by decide +kernel
theorem dX4_late_248 : decode cX4_late 248 = .ok (.iload_n 1, 1) := by decide +kernel
theorem dX4_late_249 : decode cX4_late 249 = .ok (.ishl, 1) := by decide +kernel
theorem dX4_late_250 : decode cX4_late 250 = .ok (.ior, 1) := by decide +kernel
theorem dX4_late_251 : decode cX4_late 251 = .ok (.putfield 108, 3) := by decide +kernel
theorem dX4_late_254 : decode cX4_late 254 = .ok (.iload_n 2, 1) := by decide +kernel
theorem dX4_late_255 : decode cX4_late 255 = .ok (.invokestatic 147, 3) := by decide +kernel
theorem dX4_late_258 : decode cX4_late 258 = .ok (.ireturn, 1) := by decide +kernel
set_option maxRecDepth 20000 in
theorem ggX4_drop_X4_isPicture : GoodIn wsX4_drop wsX4_isPicture := goodIn_r _ [8, 9, 10, 11, 7, 12, 18, 19, 20, 21, 22, 23, 24, 25, 26, 27, 28, 29, 30, 31, 32, 33, 34, 35, 36, 37, 38, 39, 40, 41, 42, 43, 44] (by decide +kernel) (by decide +kernel)
set_option maxRecDepth 20000 in
theorem gX4_drop_X4_isPicture : GoodIn wsX4_drop (wsV RX4 88 RX4 yX4_isPicture wsX4_isPicture) := goodIn_app (goodIn_of _ (by decide +kernel)) ggX4_drop_X4_isPicture
set_option maxRecDepth 20000 in
theorem ggX4_drop_X4_pageOf : GoodIn wsX4_drop wsX4_pageOf := goodIn_r _ [16, 17, 2, 18, 19, 20, 21, 22, 23, 24, 25, 26, 27, 28, 29, 30, 31, 32, 33, 34, 35, 36, 37, 38, 39, 40, 41, 42, 43, 44] (by decide +kernel) (by decide +kernel)
set_option maxRecDepth 20000 in
theorem gX4_drop_X4_pageOf : GoodIn wsX4_drop (wsV RX4 124 RX4 yX4_pageOf wsX4_pageOf) := goodIn_app (goodIn_of _ (by decide +kernel)) ggX4_drop_X4_pageOf
theorem dX4_drop_0 : decode cX4_drop 0 = .ok (.aload_n 0, 1) := by decide +kernel
theorem dX4_drop_1 : decode cX4_drop 1 = .ok (.iconst 0, 1) := by decide +kernel
theorem dX4_drop_2 : decode cX4_drop 2 = .ok (.putfield 71, 3) := by decide +kernel
theorem dX4_drop_5 : decode cX4_drop 5 = .ok (.aload_n 0, 1) := by decide +kernel
theorem dX4_drop_6 : decode cX4_drop 6 = .ok (.iload_n 1, 1) := by decide +kernel
theorem dX4_drop_7 : decode cX4_drop 7 = .ok (.invokevirtual 88, 3) := by decide +kernel
theorem dX4_drop_10 : decode cX4_drop 10 = .ok (.ifCond .eq 12, 3) := by decide +kernel
theorem dX4_drop_13 : decode cX4_drop 13 = .ok (.aload_n 0, 1) := by decide +kernel
theorem dX4_drop_14 : decode cX4_drop 14 = .ok (.iload_n 1, 1) := by decide +kernel
theorem dX4_drop_15 : decode cX4_drop 15 = .ok (.invokevirtual 124, 3) := by decide +kernel
theorem dX4_drop_18 : decode cX4_drop 18 = .ok (.iconst (-1), 1) := by decide +kernel
theorem dX4_drop_19 : decode cX4_drop 19 = .ok (.if_icmp .ne 5, 3) := by decide +kernel
theorem dX4_drop_22 : decode cX4_drop 22 = .ok (.iconst 0, 1) := by decide +kernel
theorem dX4_drop_23 : decode cX4_drop 23 = .ok (.ireturn, 1) := by decide +kernel
theorem dX4_drop_24 : decode cX4_drop 24 = .ok (.aload_n 0, 1) := by decide +kernel
theorem dX4_drop_25 : decode cX4_drop 25 = .ok (.getfield 50, 3) := by decide +kernel
theorem dX4_drop_28 : decode cX4_drop 28 = .ok (.aload_n 0, 1) := by decide +kernel
theorem dX4_drop_29 : decode cX4_drop 29 = .ok (.iload_n 1, 1) := by decide +kernel
theorem dX4_drop_30 : decode cX4_drop 30 = .ok (.invokevirtual 124, 3) := by decide +kernel
theorem dX4_drop_33 : decode cX4_drop 33 = .ok (.dup2, 1) := by decide +kernel
theorem dX4_drop_34 : decode cX4_drop 34 = .ok (.iaload, 1) := by decide +kernel
theorem dX4_drop_35 : decode cX4_drop 35 = .ok (.iconst 1, 1) := by decide +kernel
theorem dX4_drop_36 : decode cX4_drop 36 = .ok (.iload_n 1, 1) := by decide +kernel
theorem dX4_drop_37 : decode cX4_drop 37 = .ok (.ishl, 1) := by decide +kernel
theorem dX4_drop_38 : decode cX4_drop 38 = .ok (.ixor, 1) := by decide +kernel
theorem dX4_drop_39 : decode cX4_drop 39 = .ok (.iastore, 1) := by decide +kernel
theorem dX4_drop_40 : decode cX4_drop 40 = .ok (.aload_n 0, 1) := by decide +kernel
theorem dX4_drop_41 : decode cX4_drop 41 = .ok (.dup, 1) := by decide +kernel
theorem dX4_drop_42 : decode cX4_drop 42 = .ok (.getfield 108, 3) := by decide +kernel
theorem dX4_drop_45 : decode cX4_drop 45 = .ok (.iconst 1, 1) := by decide +kernel
theorem dX4_drop_46 : decode cX4_drop 46 = .ok (.iload_n 1, 1) := by decide +kernel
theorem dX4_drop_47 : decode cX4_drop 47 = .ok (.ishl, 1) := by decide +kernel
theorem dX4_drop_48 : decode cX4_drop 48 = .ok (.iconst (-1), 1) := by decide +kernel
theorem dX4_drop_49 : decode cX4_drop 49 = .ok (.ixor, 1) := by decide +kernel
theorem dX4_drop_50 : decode cX4_drop 50 = .ok (.iand, 1) := by decide +kernel
theorem dX4_drop_51 : decode cX4_drop 51 = .ok (.putfield 108, 3) := by decide +kernel
theorem dX4_drop_54 : decode cX4_drop 54 = .ok (.iconst 1, 1) := by decide +kernel
theorem dX4_drop_55 : decode cX4_drop 55 = .ok (.ireturn, 1) := by decide +kernel
theorem dJ6_bitCount_0f7a4_0 : decode cJ6_bitCount_0f7a4 0 = .ok (.iload_n 0, 1) := by decide +kernel
theorem dJ6_bitCount_0f7a4_1 : decode cJ6_bitCount_0f7a4 1 = .ok (.iload_n 0, 1) := by decide +kernel
theorem dJ6_bitCount_0f7a4_2 : decode cJ6_bitCount_0f7a4 2 = .ok (.iconst 1, 1) := by decide +kernel
theorem dJ6_bitCount_0f7a4_3 : decode cJ6_bitCount_0f7a4 3 = .ok (.iushr, 1) := by decide +kernel
theorem dJ6_bitCount_0f7a4_4 : decode cJ6_bitCount_0f7a4 4 = .ok (.ldc_w 265, 3) := by decide +kernel
theorem dJ6_bitCount_0f7a4_7 : decode cJ6_bitCount_0f7a4 7 = .ok (.iand, 1) := by decide +kernel
theorem dJ6_bitCount_0f7a4_8 : decode cJ6_bitCount_0f7a4 8 = .ok (.isub, 1) := by decide +kernel
theorem dJ6_bitCount_0f7a4_9 : decode cJ6_bitCount_0f7a4 9 = .ok (.istore_n 0, 1) := by decide +kernel
theorem dJ6_bitCount_0f7a4_10 : decode cJ6_bitCount_0f7a4 10 = .ok (.iload_n 0, 1) := by decide +kernel
theorem dJ6_bitCount_0f7a4_11 : decode cJ6_bitCount_0f7a4 11 = .ok (.ldc_w 266, 3) := by decide +kernel
theorem dJ6_bitCount_0f7a4_14 : decode cJ6_bitCount_0f7a4 14 = .ok (.iand, 1) := by decide +kernel
theorem dJ6_bitCount_0f7a4_15 : decode cJ6_bitCount_0f7a4 15 = .ok (.iload_n 0, 1) := by decide +kernel
theorem dJ6_bitCount_0f7a4_16 : decode cJ6_bitCount_0f7a4 16 = .ok (.iconst 2, 1) := by decide +kernel
theorem dJ6_bitCount_0f7a4_17 : decode cJ6_bitCount_0f7a4 17 = .ok (.iushr, 1) := by decide +kernel
theorem dJ6_bitCount_0f7a4_18 : decode cJ6_bitCount_0f7a4 18 = .ok (.ldc_w 266, 3) := by decide +kernel
theorem dJ6_bitCount_0f7a4_21 : decode cJ6_bitCount_0f7a4 21 = .ok (.iand, 1) := by decide +kernel
theorem dJ6_bitCount_0f7a4_22 : decode cJ6_bitCount_0f7a4 22 = .ok (.iadd, 1) := by decide +kernel
theorem dJ6_bitCount_0f7a4_23 : decode cJ6_bitCount_0f7a4 23 = .ok (.istore_n 0, 1) := by decide +kernel
theorem dJ6_bitCount_0f7a4_24 : decode cJ6_bitCount_0f7a4 24 = .ok (.iload_n 0, 1) := by decide +kernel
theorem dJ6_bitCount_0f7a4_25 : decode cJ6_bitCount_0f7a4 25 = .ok (.iload_n 0, 1) := by decide +kernel
theorem dJ6_bitCount_0f7a4_26 : decode cJ6_bitCount_0f7a4 26 = .ok (.iconst 4, 1) := by decide +kernel
theorem dJ6_bitCount_0f7a4_27 : decode cJ6_bitCount_0f7a4 27 = .ok (.iushr, 1) := by decide +kernel
theorem dJ6_bitCount_0f7a4_28 : decode cJ6_bitCount_0f7a4 28 = .ok (.iadd, 1) := by decide +kernel
theorem dJ6_bitCount_0f7a4_29 : decode cJ6_bitCount_0f7a4 29 = .ok (.ldc_w 267, 3) := by decide +kernel
theorem dJ6_bitCount_0f7a4_32 : decode cJ6_bitCount_0f7a4 32 = .ok (.iand, 1) := by decide +kernel
theorem dJ6_bitCount_0f7a4_33 : decode cJ6_bitCount_0f7a4 33 = .ok (.istore_n 0, 1) := by decide +kernel
theorem dJ6_bitCount_0f7a4_34 : decode cJ6_bitCount_0f7a4 34 = .ok (.iload_n 0, 1) := by decide +kernel
theorem dJ6_bitCount_0f7a4_35 : decode cJ6_bitCount_0f7a4 35 = .ok (.iload_n 0, 1) := by decide +kernel
theorem dJ6_bitCount_0f7a4_36 : decode cJ6_bitCount_0f7a4 36 = .ok (.bipush 8, 2) := by decide +kernel
theorem dJ6_bitCount_0f7a4_38 : decode cJ6_bitCount_0f7a4 38 = .ok (.iushr, 1) := by decide +kernel
theorem dJ6_bitCount_0f7a4_39 : decode cJ6_bitCount_0f7a4 39 = .ok (.iadd, 1) := by decide +kernel
theorem dJ6_bitCount_0f7a4_40 : decode cJ6_bitCount_0f7a4 40 = .ok (.istore_n 0, 1) := by decide +kernel
theorem dJ6_bitCount_0f7a4_41 : decode cJ6_bitCount_0f7a4 41 = .ok (.iload_n 0, 1) := by decide +kernel
theorem dJ6_bitCount_0f7a4_42 : decode cJ6_bitCount_0f7a4 42 = .ok (.iload_n 0, 1) := by decide +kernel
theorem dJ6_bitCount_0f7a4_43 : decode cJ6_bitCount_0f7a4 43 = .ok (.bipush 16, 2) := by decide +kernel
theorem dJ6_bitCount_0f7a4_45 : decode cJ6_bitCount_0f7a4 45 = .ok (.iushr, 1) := by decide +kernel
theorem dJ6_bitCount_0f7a4_46 : decode cJ6_bitCount_0f7a4 46 = .ok (.iadd, 1) := by decide +kernel
theorem dJ6_bitCount_0f7a4_47 : decode cJ6_bitCount_0f7a4 47 = .ok (.istore_n 0, 1) := by decide +kernel
theorem dJ6_bitCount_0f7a4_48 : decode cJ6_bitCount_0f7a4 48 = .ok (.iload_n 0, 1) := by decide +kernel
theorem dJ6_bitCount_0f7a4_49 : decode cJ6_bitCount_0f7a4 49 = .ok (.bipush 63, 2) := by decide +kernel
theorem dJ6_bitCount_0f7a4_51 : decode cJ6_bitCount_0f7a4 51 = .ok (.iand, 1) := by decide +kernel
theorem dJ6_bitCount_0f7a4_52 : decode cJ6_bitCount_0f7a4 52 = .ok (.ireturn, 1) := by decide +kernel
theorem dJ9_max_7cf53_0 : decode cJ9_max_7cf53 0 = .ok (.iload_n 0, 1) := by decide +kernel
theorem dJ9_max_7cf53_1 : decode cJ9_max_7cf53 1 = .ok (.iload_n 1, 1) := by decide +kernel
theorem dJ9_max_7cf53_2 : decode cJ9_max_7cf53 2 = .ok (.if_icmp .lt 7, 3) := by decide +kernel
theorem dJ9_max_7cf53_5 : decode cJ9_max_7cf53 5 = .ok (.iload_n 0, 1) := by decide +kernel
theorem dJ9_max_7cf53_6 : decode cJ9_max_7cf53 6 = .ok (.goto 4, 3) := by decide +kernel
theorem dJ9_max_7cf53_9 : decode cJ9_max_7cf53 9 = .ok (.iload_n 1, 1) := by decide +kernel
theorem dJ9_max_7cf53_10 : decode cJ9_max_7cf53 10 = .ok (.ireturn, 1) := by decide +kernel
theorem dJ9_min_7cf53_0 : decode cJ9_min_7cf53 0 = .ok (.iload_n 0, 1) := by decide +kernel
theorem dJ9_min_7cf53_1 : decode cJ9_min_7cf53 1 = .ok (.iload_n 1, 1) := by decide +kernel
theorem dJ9_min_7cf53_2 : decode cJ9_min_7cf53 2 = .ok (.if_icmp .gt 7, 3) := by decide +kernel
theorem dJ9_min_7cf53_5 : decode cJ9_min_7cf53 5 = .ok (.iload_n 0, 1) := by decide +kernel
theorem dJ9_min_7cf53_6 : decode cJ9_min_7cf53 6 = .ok (.goto 4, 3) := by decide +kernel
theorem dJ9_min_7cf53_9 : decode cJ9_min_7cf53 9 = .ok (.iload_n 1, 1) := by decide +kernel
theorem dJ9_min_7cf53_10 : decode cJ9_min_7cf53 10 = .ok (.ireturn, 1) := by decide +kernel
theorem dJ7_copyOf_59c91_0 : decode cJ7_copyOf_59c91 0 = .ok (.iload_n 1, 1) := by decide +kernel
theorem dJ7_copyOf_59c91_1 : decode cJ7_copyOf_59c91 1 = .ok (.aload_n 0, 1) := by decide +kernel
theorem dJ7_copyOf_59c91_2 : decode cJ7_copyOf_59c91 2 = .ok (.arraylength, 1) := by decide +kernel
theorem dJ7_copyOf_59c91_3 : decode cJ7_copyOf_59c91 3 = .ok (.if_icmp .ne 11, 3) := by decide +kernel
theorem dJ7_copyOf_59c91_6 : decode cJ7_copyOf_59c91 6 = .ok (.aload_n 0, 1) := by decide +kernel
theorem dJ7_copyOf_59c91_7 : decode cJ7_copyOf_59c91 7 = .ok (.invokevirtual 316, 3) := by decide +kernel
theorem dJ7_copyOf_59c91_10 : decode cJ7_copyOf_59c91 10 = .ok (.checkcast 317, 3) := by decide +kernel
theorem dJ7_copyOf_59c91_13 : decode cJ7_copyOf_59c91 13 = .ok (.areturn, 1) := by decide +kernel
theorem dJ7_copyOf_59c91_14 : decode cJ7_copyOf_59c91 14 = .ok (.iload_n 1, 1) := by decide +kernel
theorem dJ7_copyOf_59c91_15 : decode cJ7_copyOf_59c91 15 = .ok (.newarray .int, 2) := by decide +kernel
theorem dJ7_copyOf_59c91_17 : decode cJ7_copyOf_59c91 17 = .ok (.astore_n 2, 1) := by decide +kernel
theorem dJ7_copyOf_59c91_18 : decode cJ7_copyOf_59c91 18 = .ok (.aload_n 0, 1) := by decide +kernel
theorem dJ7_copyOf_59c91_19 : decode cJ7_copyOf_59c91 19 = .ok (.iconst 0, 1) := by decide +kernel
theorem dJ7_copyOf_59c91_20 : decode cJ7_copyOf_59c91 20 = .ok (.aload_n 2, 1) := by decide +kernel
theorem dJ7_copyOf_59c91_21 : decode cJ7_copyOf_59c91 21 = .ok (.iconst 0, 1) := by decide +kernel
theorem dJ7_copyOf_59c91_22 : decode cJ7_copyOf_59c91 22 = .ok (.aload_n 0, 1) := by decide +kernel
theorem dJ7_copyOf_59c91_23 : decode cJ7_copyOf_59c91 23 = .ok (.arraylength, 1) := by decide +kernel
theorem dJ7_copyOf_59c91_24 : decode cJ7_copyOf_59c91 24 = .ok (.iload_n 1, 1) := by decide +kernel
theorem dJ7_copyOf_59c91_25 : decode cJ7_copyOf_59c91 25 = .ok (.invokestatic 304, 3) := by decide +kernel
theorem dJ7_copyOf_59c91_28 : decode cJ7_copyOf_59c91 28 = .ok (.invokestatic 150, 3) := by decide +kernel
theorem dJ7_copyOf_59c91_31 : decode cJ7_copyOf_59c91 31 = .ok (.aload_n 2, 1) := by decide +kernel
theorem dJ7_copyOf_59c91_32 : decode cJ7_copyOf_59c91 32 = .ok (.areturn, 1) := by decide +kernel

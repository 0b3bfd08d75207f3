theorem dX4_told_100 : decode cX4_told 100 = .ok (.iaload, 1) := by decide +kernel
theorem dX4_told_101 : decode cX4_told 101 = .ok (.ireturn, 1) := by decide +kernel
theorem dX4_told_102 : decode cX4_told 102 = .ok (.aload_n 0, 1) := by decide +kernel
theorem dX4_told_103 : decode cX4_told 103 = .ok (.getfield 22, 3) := by decide +kernel
theorem dX4_told_106 : decode cX4_told 106 = .ok (.iload_n 1, 1) := by decide +kernel
theorem dX4_told_107 : decode cX4_told 107 = .ok (.iaload, 1) := by decide +kernel
theorem dX4_told_108 : decode cX4_told 108 = .ok (.ireturn, 1) := by decide +kernel
theorem dX4_told_109 : decode cX4_told 109 = .ok (.aload_n 0, 1) := by decide +kernel
theorem dX4_told_110 : decode cX4_told 110 = .ok (.getfield 25, 3) := by decide +kernel
theorem dX4_told_113 : decode cX4_told 113 = .ok (.iload_n 1, 1) := by decide +kernel
theorem dX4_told_114 : decode cX4_told 114 = .ok (.iaload, 1) := by decide +kernel
theorem dX4_told_115 : decode cX4_told 115 = .ok (.ireturn, 1) := by decide +kernel
theorem dX4_told_116 : decode cX4_told 116 = .ok (.aload_n 0, 1) := by decide +kernel
theorem dX4_told_117 : decode cX4_told 117 = .ok (.iload_n 1, 1) := by decide +kernel
theorem dX4_told_118 : decode cX4_told 118 = .ok (.invokevirtual 101, 3) := by decide +kernel
theorem dX4_told_121 : decode cX4_told 121 = .ok (.ifCond .eq 7, 3) := by decide +kernel
theorem dX4_told_124 : decode cX4_told 124 = .ok (.iconst 1, 1) := by decide +kernel
theorem dX4_told_125 : decode cX4_told 125 = .ok (.goto 4, 3) := by decide +kernel
theorem dX4_told_128 : decode cX4_told 128 = .ok (.iconst 0, 1) := by decide +kernel
theorem dX4_told_129 : decode cX4_told 129 = .ok (.ireturn, 1) := by decide +kernel
theorem dX4_told_130 : decode cX4_told 130 = .ok (.aload_n 0, 1) := by decide +kernel
theorem dX4_told_131 : decode cX4_told 131 = .ok (.iload_n 1, 1) := by decide +kernel
theorem dX4_told_132 : decode cX4_told 132 = .ok (.invokevirtual 104, 3) := by decide +kernel
theorem dX4_told_135 : decode cX4_told 135 = .ok (.ireturn, 1) := by decide +kernel
theorem dX4_told_136 : decode cX4_told 136 = .ok (.aload_n 0, 1) := by decide +kernel
theorem dX4_told_137 : decode cX4_told 137 = .ok (.iload_n 1, 1) := by decide +kernel
theorem dX4_told_138 : decode cX4_told 138 = .ok (.invokevirtual 124, 3) := by decide +kernel
theorem dX4_told_141 : decode cX4_told 141 = .ok (.ireturn, 1) := by decide +kernel
theorem dX4_told_142 : decode cX4_told 142 = .ok (.aload_n 0, 1) := by decide +kernel
theorem dX4_told_143 : decode cX4_told 143 = .ok (.iload_n 1, 1) := by decide +kernel
theorem dX4_told_144 : decode cX4_told 144 = .ok (.invokevirtual 98, 3) := by decide +kernel
theorem dX4_told_147 : decode cX4_told 147 = .ok (.ifCond .eq 15, 3) := by decide +kernel
theorem dX4_told_150 : decode cX4_told 150 = .ok (.aload_n 0, 1) := by decide +kernel
theorem dX4_told_151 : decode cX4_told 151 = .ok (.getfield 53, 3) := by decide +kernel
theorem dX4_told_154 : decode cX4_told 154 = .ok (.iload_n 2, 1) := by decide +kernel
theorem dX4_told_155 : decode cX4_told 155 = .ok (.bipush 6, 2) := by decide +kernel
theorem dX4_told_157 : decode cX4_told 157 = .ok (.isub, 1) := by decide +kernel
theorem dX4_told_158 : decode cX4_told 158 = .ok (.iaload, 1) := by decide +kernel
theorem dX4_told_159 : decode cX4_told 159 = .ok (.goto 4, 3) := by decide +kernel
theorem dX4_told_162 : decode cX4_told 162 = .ok (.iconst (-1), 1) := by decide +kernel
theorem dX4_told_163 : decode cX4_told 163 = .ok (.ireturn, 1) := by decide +kernel
set_option maxRecDepth 20000 in
theorem ggX4_nameAll_X4_may : GoodIn wsX4_nameAll wsX4_may := goodIn_r _ [11, 12, 5, 13, 14, 15, 16, 17, 18, 19, 20, 21, 22, 23, 24, 25, 26, 27, 28, 29, 30, 31, 32, 33, 34, 35, 36, 37, 38, 39, 40] (by decide +kernel) (by decide +kernel)
set_option maxRecDepth 20000 in
theorem gX4_nameAll_X4_may : GoodIn wsX4_nameAll (wsV RX4 94 RX4 yX4_may wsX4_may) := goodIn_app (goodIn_of _ (by decide +kernel)) ggX4_nameAll_X4_may
theorem dX4_nameAll_0 : decode cX4_nameAll 0 = .ok (.iconst 0, 1) := by decide +kernel
theorem dX4_nameAll_1 : decode cX4_nameAll 1 = .ok (.istore_n 2, 1) := by decide +kernel
theorem dX4_nameAll_2 : decode cX4_nameAll 2 = .ok (.iconst 0, 1) := by decide +kernel
theorem dX4_nameAll_3 : decode cX4_nameAll 3 = .ok (.istore_n 3, 1) := by decide +kernel
theorem dX4_nameAll_4 : decode cX4_nameAll 4 = .ok (.iload_n 3, 1) := by decide +kernel
theorem dX4_nameAll_5 : decode cX4_nameAll 5 = .ok (.aload_n 0, 1) := by decide +kernel
theorem dX4_nameAll_6 : decode cX4_nameAll 6 = .ok (.getfield 25, 3) := by decide +kernel
theorem dX4_nameAll_9 : decode cX4_nameAll 9 = .ok (.iload_n 1, 1) := by decide +kernel
theorem dX4_nameAll_10 : decode cX4_nameAll 10 = .ok (.iaload, 1) := by decide +kernel
theorem dX4_nameAll_11 : decode cX4_nameAll 11 = .ok (.if_icmp .ge 24, 3) := by decide +kernel
theorem dX4_nameAll_14 : decode cX4_nameAll 14 = .ok (.aload_n 0, 1) := by decide +kernel
theorem dX4_nameAll_15 : decode cX4_nameAll 15 = .ok (.iload_n 1, 1) := by decide +kernel
theorem dX4_nameAll_16 : decode cX4_nameAll 16 = .ok (.iload_n 3, 1) := by decide +kernel
theorem dX4_nameAll_17 : decode cX4_nameAll 17 = .ok (.invokevirtual 94, 3) := by decide +kernel
theorem dX4_nameAll_20 : decode cX4_nameAll 20 = .ok (.ifCond .eq 9, 3) := by decide +kernel
theorem dX4_nameAll_23 : decode cX4_nameAll 23 = .ok (.iload_n 2, 1) := by decide +kernel
theorem dX4_nameAll_24 : decode cX4_nameAll 24 = .ok (.iconst 1, 1) := by decide +kernel
theorem dX4_nameAll_25 : decode cX4_nameAll 25 = .ok (.iload_n 3, 1) := by decide +kernel
theorem dX4_nameAll_26 : decode cX4_nameAll 26 = .ok (.ishl, 1) := by decide +kernel
theorem dX4_nameAll_27 : decode cX4_nameAll 27 = .ok (.ior, 1) := by decide +kernel
theorem dX4_nameAll_28 : decode cX4_nameAll 28 = .ok (.istore_n 2, 1) := by decide +kernel
theorem dX4_nameAll_29 : decode cX4_nameAll 29 = .ok (.iinc 3 1, 3) := by decide +kernel
theorem dX4_nameAll_32 : decode cX4_nameAll 32 = .ok (.goto (-28), 3) := by decide +kernel
theorem dX4_nameAll_35 : decode cX4_nameAll 35 = .ok (.iconst 0, 1) := by decide +kernel
theorem dX4_nameAll_36 : decode cX4_nameAll 36 = .ok (.istore_n 3, 1) := by decide +kernel
theorem dX4_nameAll_37 : decode cX4_nameAll 37 = .ok (.iload_n 2, 1) := by decide +kernel
theorem dX4_nameAll_38 : decode cX4_nameAll 38 = .ok (.ifCond .eq 293, 3) := by decide +kernel
theorem dX4_nameAll_41 : decode cX4_nameAll 41 = .ok (.bipush 100, 2) := by decide +kernel
theorem dX4_nameAll_43 : decode cX4_nameAll 43 = .ok (.istore 4, 2) := by decide +kernel
theorem dX4_nameAll_45 : decode cX4_nameAll 45 = .ok (.iconst 0, 1) := by decide +kernel
theorem dX4_nameAll_46 : decode cX4_nameAll 46 = .ok (.istore 5, 2) := by decide +kernel
theorem dX4_nameAll_48 : decode cX4_nameAll 48 = .ok (.iload 5, 2) := by decide +kernel
theorem dX4_nameAll_50 : decode cX4_nameAll 50 = .ok (.aload_n 0, 1) := by decide +kernel
theorem dX4_nameAll_51 : decode cX4_nameAll 51 = .ok (.getfield 25, 3) := by decide +kernel
theorem dX4_nameAll_54 : decode cX4_nameAll 54 = .ok (.iload_n 1, 1) := by decide +kernel
theorem dX4_nameAll_55 : decode cX4_nameAll 55 = .ok (.iaload, 1) := by decide +kernel
theorem dX4_nameAll_56 : decode cX4_nameAll 56 = .ok (.if_icmp .ge 50, 3) := by decide +kernel
theorem dX4_nameAll_59 : decode cX4_nameAll 59 = .ok (.iload_n 2, 1) := by decide +kernel
theorem dX4_nameAll_60 : decode cX4_nameAll 60 = .ok (.iload 5, 2) := by decide +kernel
theorem dX4_nameAll_62 : decode cX4_nameAll 62 = .ok (.ishr, 1) := by decide +kernel
theorem dX4_nameAll_63 : decode cX4_nameAll 63 = .ok (.iconst 1, 1) := by decide +kernel
theorem dX4_nameAll_64 : decode cX4_nameAll 64 = .ok (.iand, 1) := by decide +kernel
theorem dX4_nameAll_65 : decode cX4_nameAll 65 = .ok (.iconst 1, 1) := by decide +kernel
theorem dX4_nameAll_66 : decode cX4_nameAll 66 = .ok (.if_icmp .ne 34, 3) := by decide +kernel
theorem dX4_nameAll_69 : decode cX4_nameAll 69 = .ok (.aload_n 0, 1) := by decide +kernel
theorem dX4_nameAll_70 : decode cX4_nameAll 70 = .ok (.getfield 34, 3) := by decide +kernel
theorem dX4_nameAll_73 : decode cX4_nameAll 73 = .ok (.bipush 8, 2) := by decide +kernel
theorem dX4_nameAll_75 : decode cX4_nameAll 75 = .ok (.iload_n 1, 1) := by decide +kernel
theorem dX4_nameAll_76 : decode cX4_nameAll 76 = .ok (.imul, 1) := by decide +kernel
theorem dX4_nameAll_77 : decode cX4_nameAll 77 = .ok (.iload 5, 2) := by decide +kernel
theorem dX4_nameAll_79 : decode cX4_nameAll 79 = .ok (.iadd, 1) := by decide +kernel
theorem dX4_nameAll_80 : decode cX4_nameAll 80 = .ok (.iaload, 1) := by decide +kernel
theorem dX4_nameAll_81 : decode cX4_nameAll 81 = .ok (.iload 4, 2) := by decide +kernel
theorem dX4_nameAll_83 : decode cX4_nameAll 83 = .ok (.if_icmp .ge 17, 3) := by decide +kernel
theorem dX4_nameAll_86 : decode cX4_nameAll 86 = .ok (.aload_n 0, 1) := by decide +kernel
theorem dX4_nameAll_87 : decode cX4_nameAll 87 = .ok (.getfield 34, 3) := by decide +kernel
theorem dX4_nameAll_90 : decode cX4_nameAll 90 = .ok (.bipush 8, 2) := by decide +kernel
theorem dX4_nameAll_92 : decode cX4_nameAll 92 = .ok (.iload_n 1, 1) := by decide +kernel
theorem dX4_nameAll_93 : decode cX4_nameAll 93 = .ok (.imul, 1) := by decide +kernel
theorem dX4_nameAll_94 : decode cX4_nameAll 94 = .ok (.iload 5, 2) := by decide +kernel
theorem dX4_nameAll_96 : decode cX4_nameAll 96 = .ok (.iadd, 1) := by decide +kernel
theorem dX4_nameAll_97 : decode cX4_nameAll 97 = .ok (.iaload, 1) := by decide +kernel
theorem dX4_nameAll_98 : decode cX4_nameAll 98 = .ok (.istore 4, 2) := by decide +kernel
theorem dX4_nameAll_100 : decode cX4_nameAll 100 = .ok (.iinc 5 1, 3) := by decide +kernel
theorem dX4_nameAll_103 : decode cX4_nameAll 103 = .ok (.goto (-55), 3) := by decide +kernel
theorem dX4_nameAll_106 : decode cX4_nameAll 106 = .ok (.iconst 0, 1) := by decide +kernel
theorem dX4_nameAll_107 : decode cX4_nameAll 107 = .ok (.istore 5, 2) := by decide +kernel
theorem dX4_nameAll_109 : decode cX4_nameAll 109 = .ok (.iconst 0, 1) := by decide +kernel
theorem dX4_nameAll_110 : decode cX4_nameAll 110 = .ok (.istore 6, 2) := by decide +kernel
theorem dX4_nameAll_112 : decode cX4_nameAll 112 = .ok (.iload 6, 2) := by decide +kernel
theorem dX4_nameAll_114 : decode cX4_nameAll 114 = .ok (.aload_n 0, 1) := by decide +kernel
theorem dX4_nameAll_115 : decode cX4_nameAll 115 = .ok (.getfield 25, 3) := by decide +kernel
theorem dX4_nameAll_118 : decode cX4_nameAll 118 = .ok (.iload_n 1, 1) := by decide +kernel
theorem dX4_nameAll_119 : decode cX4_nameAll 119 = .ok (.iaload, 1) := by decide +kernel
theorem dX4_nameAll_120 : decode cX4_nameAll 120 = .ok (.if_icmp .ge 50, 3) := by decide +kernel
theorem dX4_nameAll_123 : decode cX4_nameAll 123 = .ok (.iload_n 2, 1) := by decide +kernel
theorem dX4_nameAll_124 : decode cX4_nameAll 124 = .ok (.iload 6, 2) := by decide +kernel
theorem dX4_nameAll_126 : decode cX4_nameAll 126 = .ok (.ishr, 1) := by decide +kernel
theorem dX4_nameAll_127 : decode cX4_nameAll 127 = .ok (.iconst 1, 1) := by decide +kernel
theorem dX4_nameAll_128 : decode cX4_nameAll 128 = .ok (.iand, 1) := by decide +kernel
theorem dX4_nameAll_129 : decode cX4_nameAll 129 = .ok (.iconst 1, 1) := by decide +kernel
theorem dX4_nameAll_130 : decode cX4_nameAll 130 = .ok (.if_icmp .ne 34, 3) := by decide +kernel
theorem dX4_nameAll_133 : decode cX4_nameAll 133 = .ok (.aload_n 0, 1) := by decide +kernel
theorem dX4_nameAll_134 : decode cX4_nameAll 134 = .ok (.getfield 34, 3) := by decide +kernel
theorem dX4_nameAll_137 : decode cX4_nameAll 137 = .ok (.bipush 8, 2) := by decide +kernel
theorem dX4_nameAll_139 : decode cX4_nameAll 139 = .ok (.iload_n 1, 1) := by decide +kernel
theorem dX4_nameAll_140 : decode cX4_nameAll 140 = .ok (.imul, 1) := by decide +kernel
theorem dX4_nameAll_141 : decode cX4_nameAll 141 = .ok (.iload 6, 2) := by decide +kernel
theorem dX4_nameAll_143 : decode cX4_nameAll 143 = .ok (.iadd, 1) := by decide +kernel
theorem dX4_nameAll_144 : decode cX4_nameAll 144 = .ok (.iaload, 1) := by decide +kernel
theorem dX4_nameAll_145 : decode cX4_nameAll 145 = .ok (.iload 4, 2) := by decide +kernel
theorem dX4_nameAll_147 : decode cX4_nameAll 147 = .ok (.aload_n 0, 1) := by decide +kernel
theorem dX4_nameAll_148 : decode cX4_nameAll 148 = .ok (.getfield 40, 3) := by decide +kernel
theorem dX4_nameAll_151 : decode cX4_nameAll 151 = .ok (.iadd, 1) := by decide +kernel
theorem dX4_nameAll_152 : decode cX4_nameAll 152 = .ok (.if_icmp .gt 12, 3) := by decide +kernel
theorem dX4_nameAll_155 : decode cX4_nameAll 155 = .ok (.iload 5, 2) := by decide +kernel
theorem dX4_nameAll_157 : decode cX4_nameAll 157 = .ok (.iconst 1, 1) := by decide +kernel
theorem dX4_nameAll_158 : decode cX4_nameAll 158 = .ok (.iload 6, 2) := by decide +kernel
theorem dX4_nameAll_160 : decode cX4_nameAll 160 = .ok (.ishl, 1) := by decide +kernel
theorem dX4_nameAll_161 : decode cX4_nameAll 161 = .ok (.ior, 1) := by decide +kernel
theorem dX4_nameAll_162 : decode cX4_nameAll 162 = .ok (.istore 5, 2) := by decide +kernel
theorem dX4_nameAll_164 : decode cX4_nameAll 164 = .ok (.iinc 6 1, 3) := by decide +kernel
theorem dX4_nameAll_167 : decode cX4_nameAll 167 = .ok (.goto (-55), 3) := by decide +kernel
theorem dX4_nameAll_170 : decode cX4_nameAll 170 = .ok (.iload_n 2, 1) := by decide +kernel
theorem dX4_nameAll_171 : decode cX4_nameAll 171 = .ok (.iload 5, 2) := by decide +kernel
theorem dX4_nameAll_173 : decode cX4_nameAll 173 = .ok (.ixor, 1) := by decide +kernel
theorem dX4_nameAll_174 : decode cX4_nameAll 174 = .ok (.istore_n 2, 1) := by decide +kernel
theorem dX4_nameAll_175 : decode cX4_nameAll 175 = .ok (.iload 5, 2) := by decide +kernel
theorem dX4_nameAll_177 : decode cX4_nameAll 177 = .ok (.ifCond .eq 151, 3) := by decide +kernel
theorem dX4_nameAll_180 : decode cX4_nameAll 180 = .ok (.iconst (-1), 1) := by decide +kernel
theorem dX4_nameAll_181 : decode cX4_nameAll 181 = .ok (.istore 6, 2) := by decide +kernel
theorem dX4_nameAll_183 : decode cX4_nameAll 183 = .ok (.iconst 0, 1) := by decide +kernel
theorem dX4_nameAll_184 : decode cX4_nameAll 184 = .ok (.istore 7, 2) := by decide +kernel
theorem dX4_nameAll_186 : decode cX4_nameAll 186 = .ok (.iload 7, 2) := by decide +kernel
theorem dX4_nameAll_188 : decode cX4_nameAll 188 = .ok (.aload_n 0, 1) := by decide +kernel
theorem dX4_nameAll_189 : decode cX4_nameAll 189 = .ok (.getfield 25, 3) := by decide +kernel
theorem dX4_nameAll_192 : decode cX4_nameAll 192 = .ok (.iload_n 1, 1) := by decide +kernel
theorem dX4_nameAll_193 : decode cX4_nameAll 193 = .ok (.iaload, 1) := by decide +kernel
theorem dX4_nameAll_194 : decode cX4_nameAll 194 = .ok (.if_icmp .ge 101, 3) := by decide +kernel
theorem dX4_nameAll_197 : decode cX4_nameAll 197 = .ok (.iload 5, 2) := by decide +kernel
theorem dX4_nameAll_199 : decode cX4_nameAll 199 = .ok (.iload 7, 2) := by decide +kernel
theorem dX4_nameAll_201 : decode cX4_nameAll 201 = .ok (.ishr, 1) := by decide +kernel
theorem dX4_nameAll_202 : decode cX4_nameAll 202 = .ok (.iconst 1, 1) := by decide +kernel
theorem dX4_nameAll_203 : decode cX4_nameAll 203 = .ok (.iand, 1) := by decide +kernel
theorem dX4_nameAll_204 : decode cX4_nameAll 204 = .ok (.ifCond .ne 6, 3) := by decide +kernel
theorem dX4_nameAll_207 : decode cX4_nameAll 207 = .ok (.goto 82, 3) := by decide +kernel
theorem dX4_nameAll_210 : decode cX4_nameAll 210 = .ok (.bipush 8, 2) := by decide +kernel
theorem dX4_nameAll_212 : decode cX4_nameAll 212 = .ok (.iload_n 1, 1) := by decide +kernel
theorem dX4_nameAll_213 : decode cX4_nameAll 213 = .ok (.imul, 1) := by decide +kernel
theorem dX4_nameAll_214 : decode cX4_nameAll 214 = .ok (.iload 7, 2) := by decide +kernel
theorem dX4_nameAll_216 : decode cX4_nameAll 216 = .ok (.iadd, 1) := by decide +kernel
theorem dX4_nameAll_217 : decode cX4_nameAll 217 = .ok (.istore 8, 2) := by decide +kernel
theorem dX4_nameAll_219 : decode cX4_nameAll 219 = .ok (.bipush 8, 2) := by decide +kernel
theorem dX4_nameAll_221 : decode cX4_nameAll 221 = .ok (.iload_n 1, 1) := by decide +kernel
theorem dX4_nameAll_222 : decode cX4_nameAll 222 = .ok (.imul, 1) := by decide +kernel
theorem dX4_nameAll_223 : decode cX4_nameAll 223 = .ok (.iload 6, 2) := by decide +kernel
theorem dX4_nameAll_225 : decode cX4_nameAll 225 = .ok (.iadd, 1) := by decide +kernel
theorem dX4_nameAll_226 : decode cX4_nameAll 226 = .ok (.istore 9, 2) := by decide +kernel
theorem dX4_nameAll_228 : decode cX4_nameAll 228 = .ok (.iload 6, 2) := by decide +kernel
theorem dX4_nameAll_230 : decode cX4_nameAll 230 = .ok (.iconst (-1), 1) := by decide +kernel
theorem dX4_nameAll_231 : decode cX4_nameAll 231 = .ok (.if_icmp .eq 54, 3) := by decide +kernel
theorem dX4_nameAll_234 : decode cX4_nameAll 234 = .ok (.aload_n 0, 1) := by decide +kernel
theorem dX4_nameAll_235 : decode cX4_nameAll 235 = .ok (.getfield 31, 3) := by decide +kernel
theorem dX4_nameAll_238 : decode cX4_nameAll 238 = .ok (.iload 8, 2) := by decide +kernel
theorem dX4_nameAll_240 : decode cX4_nameAll 240 = .ok (.iaload, 1) := by decide +kernel
theorem dX4_nameAll_241 : decode cX4_nameAll 241 = .ok (.aload_n 0, 1) := by decide +kernel
theorem dX4_nameAll_242 : decode cX4_nameAll 242 = .ok (.getfield 31, 3) := by decide +kernel
theorem dX4_nameAll_245 : decode cX4_nameAll 245 = .ok (.iload 9, 2) := by decide +kernel
theorem dX4_nameAll_247 : decode cX4_nameAll 247 = .ok (.iaload, 1) := by decide +kernel
theorem dX4_nameAll_248 : decode cX4_nameAll 248 = .ok (.if_icmp .lt 37, 3) := by decide +kernel
theorem dX4_nameAll_251 : decode cX4_nameAll 251 = .ok (.aload_n 0, 1) := by decide +kernel
theorem dX4_nameAll_252 : decode cX4_nameAll 252 = .ok (.getfield 31, 3) := by decide +kernel
theorem dX4_nameAll_255 : decode cX4_nameAll 255 = .ok (.iload 8, 2) := by decide +kernel
theorem dX4_nameAll_257 : decode cX4_nameAll 257 = .ok (.iaload, 1) := by decide +kernel
theorem dX4_nameAll_258 : decode cX4_nameAll 258 = .ok (.aload_n 0, 1) := by decide +kernel
theorem dX4_nameAll_259 : decode cX4_nameAll 259 = .ok (.getfield 31, 3) := by decide +kernel
theorem dX4_nameAll_262 : decode cX4_nameAll 262 = .ok (.iload 9, 2) := by decide +kernel
theorem dX4_nameAll_264 : decode cX4_nameAll 264 = .ok (.iaload, 1) := by decide +kernel
theorem dX4_nameAll_265 : decode cX4_nameAll 265 = .ok (.if_icmp .ne 24, 3) := by decide +kernel
theorem dX4_nameAll_268 : decode cX4_nameAll 268 = .ok (.aload_n 0, 1) := by decide +kernel
theorem dX4_nameAll_269 : decode cX4_nameAll 269 = .ok (.getfield 28, 3) := by decide +kernel
theorem dX4_nameAll_272 : decode cX4_nameAll 272 = .ok (.iload 8, 2) := by decide +kernel
theorem dX4_nameAll_274 : decode cX4_nameAll 274 = .ok (.iaload, 1) := by decide +kernel
theorem dX4_nameAll_275 : decode cX4_nameAll 275 = .ok (.aload_n 0, 1) := by decide +kernel
theorem dX4_nameAll_276 : decode cX4_nameAll 276 = .ok (.getfield 28, 3) := by decide +kernel
theorem dX4_nameAll_279 : decode cX4_nameAll 279 = .ok (.iload 9, 2) := by decide +kernel
theorem dX4_nameAll_281 : decode cX4_nameAll 281 = .ok (.iaload, 1) := by decide +kernel
theorem dX4_nameAll_282 : decode cX4_nameAll 282 = .ok (.if_icmp .ge 7, 3) := by decide +kernel
theorem dX4_nameAll_285 : decode cX4_nameAll 285 = .ok (.iload 7, 2) := by decide +kernel
theorem dX4_nameAll_287 : decode cX4_nameAll 287 = .ok (.istore 6, 2) := by decide +kernel
theorem dX4_nameAll_289 : decode cX4_nameAll 289 = .ok (.iinc 7 1, 3) := by decide +kernel
theorem dX4_nameAll_292 : decode cX4_nameAll 292 = .ok (.goto (-106), 3) := by decide +kernel
theorem dX4_nameAll_295 : decode cX4_nameAll 295 = .ok (.iload 5, 2) := by decide +kernel
theorem dX4_nameAll_297 : decode cX4_nameAll 297 = .ok (.iconst 1, 1) := by decide +kernel
theorem dX4_nameAll_298 : decode cX4_nameAll 298 = .ok (.iload 6, 2) := by decide +kernel
theorem dX4_nameAll_300 : decode cX4_nameAll 300 = .ok (.ishl, 1) := by decide +kernel
theorem dX4_nameAll_301 : decode cX4_nameAll 301 = .ok (.ixor, 1) := by decide +kernel
theorem dX4_nameAll_302 : decode cX4_nameAll 302 = .ok (.istore 5, 2) := by decide +kernel
theorem dX4_nameAll_304 : decode cX4_nameAll 304 = .ok (.aload_n 0, 1) := by decide +kernel
theorem dX4_nameAll_305 : decode cX4_nameAll 305 = .ok (.getfield 56, 3) := by decide +kernel
theorem dX4_nameAll_308 : decode cX4_nameAll 308 = .ok (.iload_n 3, 1) := by decide +kernel
theorem dX4_nameAll_309 : decode cX4_nameAll 309 = .ok (.aload_n 0, 1) := by decide +kernel
theorem dX4_nameAll_310 : decode cX4_nameAll 310 = .ok (.getfield 28, 3) := by decide +kernel
theorem dX4_nameAll_313 : decode cX4_nameAll 313 = .ok (.bipush 8, 2) := by decide +kernel
theorem dX4_nameAll_315 : decode cX4_nameAll 315 = .ok (.iload_n 1, 1) := by decide +kernel
theorem dX4_nameAll_316 : decode cX4_nameAll 316 = .ok (.imul, 1) := by decide +kernel
theorem dX4_nameAll_317 : decode cX4_nameAll 317 = .ok (.iload 6, 2) := by decide +kernel
theorem dX4_nameAll_319 : decode cX4_nameAll 319 = .ok (.iadd, 1) := by decide +kernel
theorem dX4_nameAll_320 : decode cX4_nameAll 320 = .ok (.iaload, 1) := by decide +kernel
theorem dX4_nameAll_321 : decode cX4_nameAll 321 = .ok (.iastore, 1) := by decide +kernel
theorem dX4_nameAll_322 : decode cX4_nameAll 322 = .ok (.iinc 3 1, 3) := by decide +kernel
theorem dX4_nameAll_325 : decode cX4_nameAll 325 = .ok (.goto (-150), 3) := by decide +kernel
theorem dX4_nameAll_328 : decode cX4_nameAll 328 = .ok (.goto (-291), 3) := by decide +kernel
theorem dX4_nameAll_331 : decode cX4_nameAll 331 = .ok (.iload_n 3, 1) := by decide +kernel
theorem dX4_nameAll_332 : decode cX4_nameAll 332 = .ok (.ireturn, 1) := by decide +kernel
set_option maxRecDepth 20000 in
theorem ggX4_name_X4_isPicture : GoodIn wsX4_name wsX4_isPicture := goodIn_r _ [7, 8, 9, 10, 6, 11, 37, 38, 39, 40, 41, 42, 43, 44, 45, 46, 47, 48, 49, 50, 51, 52, 53, 54, 55, 56, 57, 58, 59, 60, 61, 62, 63] (by decide +kernel) (by decide +kernel)
set_option maxRecDepth 20000 in
theorem gX4_name_X4_isPicture : GoodIn wsX4_name (wsV RX4 88 RX4 yX4_isPicture wsX4_isPicture) := goodIn_app (goodIn_of _ (by decide +kernel)) ggX4_name_X4_isPicture
set_option maxRecDepth 20000 in
theorem ggX4_name_X4_isGood : GoodIn wsX4_name wsX4_isGood := goodIn_r _ [15, 16, 17, 18, 19, 20, 21, 22, 23, 6, 24, 25, 26, 27, 28, 29, 30, 31, 37, 38, 39, 40, 41, 42, 43, 44, 45, 46, 47, 48, 49, 50, 51, 52, 53, 54, 55, 56, 57, 58, 59, 60, 61, 62, 63] (by decide +kernel) (by decide +kernel)
set_option maxRecDepth 20000 in
theorem gX4_name_X4_isGood : GoodIn wsX4_name (wsV RX4 101 RX4 yX4_isGood wsX4_isGood) := goodIn_app (goodIn_of _ (by decide +kernel)) ggX4_name_X4_isGood
set_option maxRecDepth 20000 in
theorem ggX4_name_X4_nameAll : GoodIn wsX4_name wsX4_nameAll := goodIn_r _ [35, 16, 20, 36, 17, 30, 2, 25, 26, 27, 6, 28, 29, 31, 37, 38, 39, 40, 41, 42, 43, 44, 45, 46, 47, 48, 49, 50, 51, 52, 53, 54, 55, 56, 57, 58, 59, 60, 61, 62, 63] (by decide +kernel) (by decide +kernel)
set_option maxRecDepth 20000 in
theorem gX4_name_X4_nameAll : GoodIn wsX4_name (wsV RX4 127 RX4 yX4_nameAll wsX4_nameAll) := goodIn_app (goodIn_of _ (by decide +kernel)) ggX4_name_X4_nameAll
set_option maxRecDepth 20000 in
theorem ggX4_name_X4_in : GoodIn wsX4_name wsX4_in := goodIn_r _ [11] (by decide +kernel) (by decide +kernel)
set_option maxRecDepth 20000 in
theorem gX4_name_X4_in : GoodIn wsX4_name (va_wsS RX4 77 yX4_in wsX4_in) := goodIn_app (goodIn_of _ (by decide +kernel)) ggX4_name_X4_in
theorem dX4_name_0 : decode cX4_name 0 = .ok (.aload_n 0, 1) := by decide +kernel
theorem dX4_name_1 : decode cX4_name 1 = .ok (.iconst 0, 1) := by decide +kernel
theorem dX4_name_2 : decode cX4_name 2 = .ok (.putfield 71, 3) := by decide +kernel
theorem dX4_name_5 : decode cX4_name 5 = .ok (.aload_n 0, 1) := by decide +kernel
theorem dX4_name_6 : decode cX4_name 6 = .ok (.iload_n 1, 1) := by decide +kernel
theorem dX4_name_7 : decode cX4_name 7 = .ok (.invokevirtual 88, 3) := by decide +kernel
theorem dX4_name_10 : decode cX4_name 10 = .ok (.ifCond .eq 11, 3) := by decide +kernel
theorem dX4_name_13 : decode cX4_name 13 = .ok (.aload_n 0, 1) := by decide +kernel
theorem dX4_name_14 : decode cX4_name 14 = .ok (.iload_n 1, 1) := by decide +kernel
theorem dX4_name_15 : decode cX4_name 15 = .ok (.invokevirtual 101, 3) := by decide +kernel
theorem dX4_name_18 : decode cX4_name 18 = .ok (.ifCond .ne 5, 3) := by decide +kernel
theorem dX4_name_21 : decode cX4_name 21 = .ok (.iconst (-1), 1) := by decide +kernel
theorem dX4_name_22 : decode cX4_name 22 = .ok (.ireturn, 1) := by decide +kernel
theorem dX4_name_23 : decode cX4_name 23 = .ok (.aload_n 0, 1) := by decide +kernel
theorem dX4_name_24 : decode cX4_name 24 = .ok (.iload_n 1, 1) := by decide +kernel
theorem dX4_name_25 : decode cX4_name 25 = .ok (.invokevirtual 127, 3) := by decide +kernel
theorem dX4_name_28 : decode cX4_name 28 = .ok (.istore_n 3, 1) := by decide +kernel
theorem dX4_name_29 : decode cX4_name 29 = .ok (.iload_n 2, 1) := by decide +kernel
theorem dX4_name_30 : decode cX4_name 30 = .ok (.iconst 0, 1) := by decide +kernel
theorem dX4_name_31 : decode cX4_name 31 = .ok (.iload_n 3, 1) := by decide +kernel
theorem dX4_name_32 : decode cX4_name 32 = .ok (.iconst 1, 1) := by decide +kernel
theorem dX4_name_33 : decode cX4_name 33 = .ok (.isub, 1) := by decide +kernel
theorem dX4_name_34 : decode cX4_name 34 = .ok (.invokestatic 77, 3) := by decide +kernel
theorem dX4_name_37 : decode cX4_name 37 = .ok (.ifCond .eq 12, 3) := by decide +kernel
theorem dX4_name_40 : decode cX4_name 40 = .ok (.aload_n 0, 1) := by decide +kernel
theorem dX4_name_41 : decode cX4_name 41 = .ok (.getfield 56, 3) := by decide +kernel
theorem dX4_name_44 : decode cX4_name 44 = .ok (.iload_n 2, 1) := by decide +kernel
theorem dX4_name_45 : decode cX4_name 45 = .ok (.iaload, 1) := by decide +kernel
theorem dX4_name_46 : decode cX4_name 46 = .ok (.goto 4, 3) := by decide +kernel
theorem dX4_name_49 : decode cX4_name 49 = .ok (.iconst (-1), 1) := by decide +kernel
theorem dX4_name_50 : decode cX4_name 50 = .ok (.ireturn, 1) := by decide +kernel
set_option maxRecDepth 20000 in
theorem ggX4_timesIn_X4_seenIn : GoodIn wsX4_timesIn wsX4_seenIn := goodIn_r _ [6, 7, 8, 9, 10, 11, 5, 12, 13, 14, 15, 16, 17, 18, 19, 20, 21, 22, 23, 24, 25, 26, 27, 28, 29, 30, 31, 32, 33, 34, 35, 36, 37, 38, 39, 40, 41, 42, 43, 44, 45, 46, 47, 48, 49, 50, 51, 52, 53] (by decide +kernel) (by decide +kernel)
set_option maxRecDepth 20000 in
theorem gX4_timesIn_X4_seenIn : GoodIn wsX4_timesIn (wsV RX4 104 RX4 yX4_seenIn wsX4_seenIn) := goodIn_app (goodIn_of _ (by decide +kernel)) ggX4_timesIn_X4_seenIn
theorem dX4_timesIn_0 : decode cX4_timesIn 0 = .ok (.iconst 0, 1) := by decide +kernel
theorem dX4_timesIn_1 : decode cX4_timesIn 1 = .ok (.istore_n 3, 1) := by decide +kernel
theorem dX4_timesIn_2 : decode cX4_timesIn 2 = .ok (.iconst 0, 1) := by decide +kernel
theorem dX4_timesIn_3 : decode cX4_timesIn 3 = .ok (.istore 4, 2) := by decide +kernel
theorem dX4_timesIn_5 : decode cX4_timesIn 5 = .ok (.iload 4, 2) := by decide +kernel
theorem dX4_timesIn_7 : decode cX4_timesIn 7 = .ok (.aload_n 0, 1) := by decide +kernel
theorem dX4_timesIn_8 : decode cX4_timesIn 8 = .ok (.getfield 74, 3) := by decide +kernel
theorem dX4_timesIn_11 : decode cX4_timesIn 11 = .ok (.if_icmp .ge 32, 3) := by decide +kernel
theorem dX4_timesIn_14 : decode cX4_timesIn 14 = .ok (.iload_n 1, 1) := by decide +kernel
theorem dX4_timesIn_15 : decode cX4_timesIn 15 = .ok (.iload 4, 2) := by decide +kernel
theorem dX4_timesIn_17 : decode cX4_timesIn 17 = .ok (.ishr, 1) := by decide +kernel
theorem dX4_timesIn_18 : decode cX4_timesIn 18 = .ok (.iconst 1, 1) := by decide +kernel
theorem dX4_timesIn_19 : decode cX4_timesIn 19 = .ok (.iand, 1) := by decide +kernel
theorem dX4_timesIn_20 : decode cX4_timesIn 20 = .ok (.iconst 1, 1) := by decide +kernel
theorem dX4_timesIn_21 : decode cX4_timesIn 21 = .ok (.if_icmp .ne 16, 3) := by decide +kernel
theorem dX4_timesIn_24 : decode cX4_timesIn 24 = .ok (.iload_n 3, 1) := by decide +kernel
theorem dX4_timesIn_25 : decode cX4_timesIn 25 = .ok (.aload_n 0, 1) := by decide +kernel
theorem dX4_timesIn_26 : decode cX4_timesIn 26 = .ok (.iload 4, 2) := by decide +kernel
theorem dX4_timesIn_28 : decode cX4_timesIn 28 = .ok (.invokevirtual 104, 3) := by decide +kernel
theorem dX4_timesIn_31 : decode cX4_timesIn 31 = .ok (.iload_n 2, 1) := by decide +kernel
theorem dX4_timesIn_32 : decode cX4_timesIn 32 = .ok (.ishr, 1) := by decide +kernel
theorem dX4_timesIn_33 : decode cX4_timesIn 33 = .ok (.iconst 1, 1) := by decide +kernel
theorem dX4_timesIn_34 : decode cX4_timesIn 34 = .ok (.iand, 1) := by decide +kernel
theorem dX4_timesIn_35 : decode cX4_timesIn 35 = .ok (.iadd, 1) := by decide +kernel
theorem dX4_timesIn_36 : decode cX4_timesIn 36 = .ok (.istore_n 3, 1) := by decide +kernel
theorem dX4_timesIn_37 : decode cX4_timesIn 37 = .ok (.iinc 4 1, 3) := by decide +kernel
theorem dX4_timesIn_40 : decode cX4_timesIn 40 = .ok (.goto (-35), 3) := by decide +kernel
theorem dX4_timesIn_43 : decode cX4_timesIn 43 = .ok (.iload_n 3, 1) := by decide +kernel
theorem dX4_timesIn_44 : decode cX4_timesIn 44 = .ok (.ireturn, 1) := by decide +kernel
set_option maxRecDepth 20000 in
theorem ggX4_seen_X4_isChild : GoodIn wsX4_seen wsX4_isChild := goodIn_r _ [7, 8, 9, 10, 6, 11, 41, 42, 43, 44, 45, 46, 47, 48, 49, 50, 51, 52, 53, 54, 55, 56, 57, 58, 59, 60, 61, 62, 63, 64, 65, 66, 67] (by decide +kernel) (by decide +kernel)
set_option maxRecDepth 20000 in
theorem gX4_seen_X4_isChild : GoodIn wsX4_seen (wsV RX4 84 RX4 yX4_isChild wsX4_isChild) := goodIn_app (goodIn_of _ (by decide +kernel)) ggX4_seen_X4_isChild
set_option maxRecDepth 20000 in
theorem ggX4_seen_X4_timesIn : GoodIn wsX4_seen wsX4_timesIn := goodIn_r _ [15, 16, 17, 18, 19, 6, 20, 21, 22, 23, 24, 25, 26, 27, 28, 29, 30, 31, 32, 33, 34, 35, 36, 37, 38, 39, 40, 41, 42, 43, 44, 45, 46, 47, 48, 49, 50, 51, 52, 53, 54, 55, 56, 57, 58, 59, 60, 61, 62, 63, 64, 65, 66, 67] (by decide +kernel) (by decide +kernel)
set_option maxRecDepth 20000 in
theorem gX4_seen_X4_timesIn : GoodIn wsX4_seen (wsV RX4 130 RX4 yX4_timesIn wsX4_timesIn) := goodIn_app (goodIn_of _ (by decide +kernel)) ggX4_seen_X4_timesIn
theorem dX4_seen_0 : decode cX4_seen 0 = .ok (.aload_n 0, 1) := by decide +kernel
theorem dX4_seen_1 : decode cX4_seen 1 = .ok (.iconst 0, 1) := by decide +kernel
theorem dX4_seen_2 : decode cX4_seen 2 = .ok (.putfield 71, 3) := by decide +kernel
theorem dX4_seen_5 : decode cX4_seen 5 = .ok (.aload_n 0, 1) := by decide +kernel
theorem dX4_seen_6 : decode cX4_seen 6 = .ok (.iload_n 1, 1) := by decide +kernel
theorem dX4_seen_7 : decode cX4_seen 7 = .ok (.invokevirtual 84, 3) := by decide +kernel
theorem dX4_seen_10 : decode cX4_seen 10 = .ok (.ifCond .eq 15, 3) := by decide +kernel
theorem dX4_seen_13 : decode cX4_seen 13 = .ok (.aload_n 0, 1) := by decide +kernel
theorem dX4_seen_14 : decode cX4_seen 14 = .ok (.aload_n 0, 1) := by decide +kernel
theorem dX4_seen_15 : decode cX4_seen 15 = .ok (.getfield 108, 3) := by decide +kernel
theorem dX4_seen_18 : decode cX4_seen 18 = .ok (.iload_n 1, 1) := by decide +kernel
theorem dX4_seen_19 : decode cX4_seen 19 = .ok (.invokevirtual 130, 3) := by decide +kernel
theorem dX4_seen_22 : decode cX4_seen 22 = .ok (.goto 4, 3) := by decide +kernel
theorem dX4_seen_25 : decode cX4_seen 25 = .ok (.iconst (-1), 1) := by decide +kernel
theorem dX4_seen_26 : decode cX4_seen 26 = .ok (.ireturn, 1) := by decide +kernel
set_option maxRecDepth 20000 in
theorem ggX4_proof_X4_isChild : GoodIn wsX4_proof wsX4_isChild := goodIn_r _ [8, 9, 10, 11, 7, 12, 37, 38, 39, 40, 41, 42, 43, 44, 45, 46, 47, 48, 49, 50, 51, 52, 53, 54, 55, 56, 57, 58, 59, 60, 61, 62, 63] (by decide +kernel) (by decide +kernel)
set_option maxRecDepth 20000 in
theorem gX4_proof_X4_isChild : GoodIn wsX4_proof (wsV RX4 84 RX4 yX4_isChild wsX4_isChild) := goodIn_app (goodIn_of _ (by decide +kernel)) ggX4_proof_X4_isChild
set_option maxRecDepth 20000 in
theorem ggX4_proof_X4_seenIn : GoodIn wsX4_proof wsX4_seenIn := goodIn_r _ [16, 17, 18, 19, 20, 21, 7, 22, 23, 24, 25, 26, 27, 28, 29, 30, 31, 32, 33, 34, 35, 36, 37, 38, 39, 40, 41, 42, 43, 44, 45, 46, 47, 48, 49, 50, 51, 52, 53, 54, 55, 56, 57, 58, 59, 60, 61, 62, 63] (by decide +kernel) (by decide +kernel)
set_option maxRecDepth 20000 in
theorem gX4_proof_X4_seenIn : GoodIn wsX4_proof (wsV RX4 104 RX4 yX4_seenIn wsX4_seenIn) := goodIn_app (goodIn_of _ (by decide +kernel)) ggX4_proof_X4_seenIn
theorem dX4_proof_0 : decode cX4_proof 0 = .ok (.aload_n 0, 1) := by decide +kernel
theorem dX4_proof_1 : decode cX4_proof 1 = .ok (.iconst 0, 1) := by decide +kernel
theorem dX4_proof_2 : decode cX4_proof 2 = .ok (.putfield 71, 3) := by decide +kernel
theorem dX4_proof_5 : decode cX4_proof 5 = .ok (.aload_n 0, 1) := by decide +kernel
theorem dX4_proof_6 : decode cX4_proof 6 = .ok (.iload_n 1, 1) := by decide +kernel
theorem dX4_proof_7 : decode cX4_proof 7 = .ok (.invokevirtual 84, 3) := by decide +kernel
theorem dX4_proof_10 : decode cX4_proof 10 = .ok (.ifCond .eq 7, 3) := by decide +kernel
theorem dX4_proof_13 : decode cX4_proof 13 = .ok (.iload_n 2, 1) := by decide +kernel
theorem dX4_proof_14 : decode cX4_proof 14 = .ok (.ifCond .ge 5, 3) := by decide +kernel
theorem dX4_proof_17 : decode cX4_proof 17 = .ok (.iconst (-1), 1) := by decide +kernel
theorem dX4_proof_18 : decode cX4_proof 18 = .ok (.ireturn, 1) := by decide +kernel
theorem dX4_proof_19 : decode cX4_proof 19 = .ok (.iload_n 2, 1) := by decide +kernel
theorem dX4_proof_20 : decode cX4_proof 20 = .ok (.istore_n 3, 1) := by decide +kernel
theorem dX4_proof_21 : decode cX4_proof 21 = .ok (.iconst 0, 1) := by decide +kernel
theorem dX4_proof_22 : decode cX4_proof 22 = .ok (.istore 4, 2) := by decide +kernel
theorem dX4_proof_24 : decode cX4_proof 24 = .ok (.iload 4, 2) := by decide +kernel
theorem dX4_proof_26 : decode cX4_proof 26 = .ok (.aload_n 0, 1) := by decide +kernel
theorem dX4_proof_27 : decode cX4_proof 27 = .ok (.getfield 74, 3) := by decide +kernel
theorem dX4_proof_30 : decode cX4_proof 30 = .ok (.if_icmp .ge 47, 3) := by decide +kernel
theorem dX4_proof_33 : decode cX4_proof 33 = .ok (.aload_n 0, 1) := by decide +kernel
theorem dX4_proof_34 : decode cX4_proof 34 = .ok (.getfield 108, 3) := by decide +kernel
theorem dX4_proof_37 : decode cX4_proof 37 = .ok (.iload 4, 2) := by decide +kernel
theorem dX4_proof_39 : decode cX4_proof 39 = .ok (.ishr, 1) := by decide +kernel
theorem dX4_proof_40 : decode cX4_proof 40 = .ok (.iconst 1, 1) := by decide +kernel
theorem dX4_proof_41 : decode cX4_proof 41 = .ok (.iand, 1) := by decide +kernel
theorem dX4_proof_42 : decode cX4_proof 42 = .ok (.ifCond .eq 29, 3) := by decide +kernel
theorem dX4_proof_45 : decode cX4_proof 45 = .ok (.aload_n 0, 1) := by decide +kernel
theorem dX4_proof_46 : decode cX4_proof 46 = .ok (.iload 4, 2) := by decide +kernel
theorem dX4_proof_48 : decode cX4_proof 48 = .ok (.invokevirtual 104, 3) := by decide +kernel
theorem dX4_proof_51 : decode cX4_proof 51 = .ok (.iload_n 1, 1) := by decide +kernel
theorem dX4_proof_52 : decode cX4_proof 52 = .ok (.ishr, 1) := by decide +kernel
theorem dX4_proof_53 : decode cX4_proof 53 = .ok (.iconst 1, 1) := by decide +kernel
theorem dX4_proof_54 : decode cX4_proof 54 = .ok (.iand, 1) := by decide +kernel
theorem dX4_proof_55 : decode cX4_proof 55 = .ok (.ifCond .ne 6, 3) := by decide +kernel
theorem dX4_proof_58 : decode cX4_proof 58 = .ok (.goto 13, 3) := by decide +kernel
theorem dX4_proof_61 : decode cX4_proof 61 = .ok (.iload_n 3, 1) := by decide +kernel
theorem dX4_proof_62 : decode cX4_proof 62 = .ok (.ifCond .ne 6, 3) := by decide +kernel
theorem dX4_proof_65 : decode cX4_proof 65 = .ok (.iload 4, 2) := by decide +kernel
theorem dX4_proof_67 : decode cX4_proof 67 = .ok (.ireturn, 1) := by decide +kernel
theorem dX4_proof_68 : decode cX4_proof 68 = .ok (.iinc 3 (-1), 3) := by decide +kernel
theorem dX4_proof_71 : decode cX4_proof 71 = .ok (.iinc 4 1, 3) := by decide +kernel
theorem dX4_proof_74 : decode cX4_proof 74 = .ok (.goto (-50), 3) := by decide +kernel
theorem dX4_proof_77 : decode cX4_proof 77 = .ok (.iconst (-1), 1) := by decide +kernel
theorem dX4_proof_78 : decode cX4_proof 78 = .ok (.ireturn, 1) := by decide +kernel
set_option maxRecDepth 20000 in
theorem ggX4_shows_X4_in : GoodIn wsX4_shows wsX4_in := goodIn_r _ [9] (by decide +kernel) (by decide +kernel)
set_option maxRecDepth 20000 in
theorem gX4_shows_X4_in : GoodIn wsX4_shows (va_wsS RX4 77 yX4_in wsX4_in) := goodIn_app (goodIn_of _ (by decide +kernel)) ggX4_shows_X4_in
set_option maxRecDepth 20000 in
theorem ggX4_shows_X4_seenIn : GoodIn wsX4_shows wsX4_seenIn := goodIn_r _ [13, 14, 15, 16, 17, 18, 8, 19, 20, 21, 22, 23, 24, 25, 26, 27, 28, 29, 30, 31, 32, 33, 34, 35, 36, 37, 38, 39, 40, 41, 42, 43, 44, 45, 46, 47, 48, 49, 50, 51, 52, 53, 54, 55, 56, 57, 58, 59, 60] (by decide +kernel) (by decide +kernel)
set_option maxRecDepth 20000 in
theorem gX4_shows_X4_seenIn : GoodIn wsX4_shows (wsV RX4 104 RX4 yX4_seenIn wsX4_seenIn) := goodIn_app (goodIn_of _ (by decide +kernel)) ggX4_shows_X4_seenIn
theorem dX4_shows_0 : decode cX4_shows 0 = .ok (.aload_n 0, 1) := by decide +kernel
theorem dX4_shows_1 : decode cX4_shows 1 = .ok (.iconst 0, 1) := by decide +kernel
theorem dX4_shows_2 : decode cX4_shows 2 = .ok (.putfield 71, 3) := by decide +kernel
theorem dX4_shows_5 : decode cX4_shows 5 = .ok (.iload_n 1, 1) := by decide +kernel
theorem dX4_shows_6 : decode cX4_shows 6 = .ok (.iconst 0, 1) := by decide +kernel
theorem dX4_shows_7 : decode cX4_shows 7 = .ok (.bipush 9, 2) := by decide +kernel
theorem dX4_shows_9 : decode cX4_shows 9 = .ok (.invokestatic 77, 3) := by decide +kernel
theorem dX4_shows_12 : decode cX4_shows 12 = .ok (.ifCond .ne 5, 3) := by decide +kernel
theorem dX4_shows_15 : decode cX4_shows 15 = .ok (.iconst (-1), 1) := by decide +kernel
theorem dX4_shows_16 : decode cX4_shows 16 = .ok (.ireturn, 1) := by decide +kernel
theorem dX4_shows_17 : decode cX4_shows 17 = .ok (.iconst 0, 1) := by decide +kernel
theorem dX4_shows_18 : decode cX4_shows 18 = .ok (.istore_n 2, 1) := by decide +kernel
theorem dX4_shows_19 : decode cX4_shows 19 = .ok (.iconst 0, 1) := by decide +kernel
theorem dX4_shows_20 : decode cX4_shows 20 = .ok (.istore_n 3, 1) := by decide +kernel
theorem dX4_shows_21 : decode cX4_shows 21 = .ok (.iload_n 3, 1) := by decide +kernel
theorem dX4_shows_22 : decode cX4_shows 22 = .ok (.aload_n 0, 1) := by decide +kernel
theorem dX4_shows_23 : decode cX4_shows 23 = .ok (.getfield 81, 3) := by decide +kernel
theorem dX4_shows_26 : decode cX4_shows 26 = .ok (.if_icmp .ge 25, 3) := by decide +kernel
theorem dX4_shows_29 : decode cX4_shows 29 = .ok (.aload_n 0, 1) := by decide +kernel
theorem dX4_shows_30 : decode cX4_shows 30 = .ok (.getfield 9, 3) := by decide +kernel
theorem dX4_shows_33 : decode cX4_shows 33 = .ok (.iload_n 3, 1) := by decide +kernel
theorem dX4_shows_34 : decode cX4_shows 34 = .ok (.iaload, 1) := by decide +kernel
theorem dX4_shows_35 : decode cX4_shows 35 = .ok (.iload_n 1, 1) := by decide +kernel
theorem dX4_shows_36 : decode cX4_shows 36 = .ok (.if_icmp .ne 9, 3) := by decide +kernel
theorem dX4_shows_39 : decode cX4_shows 39 = .ok (.iload_n 2, 1) := by decide +kernel
theorem dX4_shows_40 : decode cX4_shows 40 = .ok (.iconst 1, 1) := by decide +kernel
theorem dX4_shows_41 : decode cX4_shows 41 = .ok (.iload_n 3, 1) := by decide +kernel
theorem dX4_shows_42 : decode cX4_shows 42 = .ok (.ishl, 1) := by decide +kernel
theorem dX4_shows_43 : decode cX4_shows 43 = .ok (.ior, 1) := by decide +kernel
theorem dX4_shows_44 : decode cX4_shows 44 = .ok (.istore_n 2, 1) := by decide +kernel
theorem dX4_shows_45 : decode cX4_shows 45 = .ok (.iinc 3 1, 3) := by decide +kernel
theorem dX4_shows_48 : decode cX4_shows 48 = .ok (.goto (-27), 3) := by decide +kernel
theorem dX4_shows_51 : decode cX4_shows 51 = .ok (.iconst 0, 1) := by decide +kernel
theorem dX4_shows_52 : decode cX4_shows 52 = .ok (.istore_n 3, 1) := by decide +kernel
theorem dX4_shows_53 : decode cX4_shows 53 = .ok (.iconst 0, 1) := by decide +kernel
theorem dX4_shows_54 : decode cX4_shows 54 = .ok (.istore 4, 2) := by decide +kernel
theorem dX4_shows_56 : decode cX4_shows 56 = .ok (.iload 4, 2) := by decide +kernel
theorem dX4_shows_58 : decode cX4_shows 58 = .ok (.aload_n 0, 1) := by decide +kernel
theorem dX4_shows_59 : decode cX4_shows 59 = .ok (.getfield 74, 3) := by decide +kernel
theorem dX4_shows_62 : decode cX4_shows 62 = .ok (.if_icmp .ge 36, 3) := by decide +kernel
theorem dX4_shows_65 : decode cX4_shows 65 = .ok (.aload_n 0, 1) := by decide +kernel
theorem dX4_shows_66 : decode cX4_shows 66 = .ok (.getfield 108, 3) := by decide +kernel
theorem dX4_shows_69 : decode cX4_shows 69 = .ok (.iload 4, 2) := by decide +kernel
theorem dX4_shows_71 : decode cX4_shows 71 = .ok (.ishr, 1) := by decide +kernel
theorem dX4_shows_72 : decode cX4_shows 72 = .ok (.iconst 1, 1) := by decide +kernel
theorem dX4_shows_73 : decode cX4_shows 73 = .ok (.iand, 1) := by decide +kernel
theorem dX4_shows_74 : decode cX4_shows 74 = .ok (.iconst 1, 1) := by decide +kernel
theorem dX4_shows_75 : decode cX4_shows 75 = .ok (.if_icmp .ne 17, 3) := by decide +kernel
theorem dX4_shows_78 : decode cX4_shows 78 = .ok (.aload_n 0, 1) := by decide +kernel
theorem dX4_shows_79 : decode cX4_shows 79 = .ok (.iload 4, 2) := by decide +kernel
theorem dX4_shows_81 : decode cX4_shows 81 = .ok (.invokevirtual 104, 3) := by decide +kernel
theorem dX4_shows_84 : decode cX4_shows 84 = .ok (.iload_n 2, 1) := by decide +kernel
theorem dX4_shows_85 : decode cX4_shows 85 = .ok (.iand, 1) := by decide +kernel
theorem dX4_shows_86 : decode cX4_shows 86 = .ok (.ifCond .eq 6, 3) := by decide +kernel
theorem dX4_shows_89 : decode cX4_shows 89 = .ok (.iinc 3 1, 3) := by decide +kernel
theorem dX4_shows_92 : decode cX4_shows 92 = .ok (.iinc 4 1, 3) := by decide +kernel
theorem dX4_shows_95 : decode cX4_shows 95 = .ok (.goto (-39), 3) := by decide +kernel
theorem dX4_shows_98 : decode cX4_shows 98 = .ok (.iload_n 3, 1) := by decide +kernel
theorem dX4_shows_99 : decode cX4_shows 99 = .ok (.ireturn, 1) := by decide +kernel
set_option maxRecDepth 20000 in
theorem ggX4_choose_X4_in : GoodIn wsX4_choose wsX4_in := goodIn_r _ [8] (by decide +kernel) (by decide +kernel)
set_option maxRecDepth 20000 in
theorem gX4_choose_X4_in : GoodIn wsX4_choose (va_wsS RX4 77 yX4_in wsX4_in) := goodIn_app (goodIn_of _ (by decide +kernel)) ggX4_choose_X4_in
theorem dX4_choose_0 : decode cX4_choose 0 = .ok (.aload_n 0, 1) := by decide +kernel
theorem dX4_choose_1 : decode cX4_choose 1 = .ok (.iconst 0, 1) := by decide +kernel
theorem dX4_choose_2 : decode cX4_choose 2 = .ok (.putfield 71, 3) := by decide +kernel
theorem dX4_choose_5 : decode cX4_choose 5 = .ok (.iload_n 1, 1) := by decide +kernel
theorem dX4_choose_6 : decode cX4_choose 6 = .ok (.iconst 0, 1) := by decide +kernel
theorem dX4_choose_7 : decode cX4_choose 7 = .ok (.iconst 1, 1) := by decide +kernel
theorem dX4_choose_8 : decode cX4_choose 8 = .ok (.aload_n 0, 1) := by decide +kernel
theorem dX4_choose_9 : decode cX4_choose 9 = .ok (.getfield 74, 3) := by decide +kernel
theorem dX4_choose_12 : decode cX4_choose 12 = .ok (.ishl, 1) := by decide +kernel
theorem dX4_choose_13 : decode cX4_choose 13 = .ok (.iconst 1, 1) := by decide +kernel
theorem dX4_choose_14 : decode cX4_choose 14 = .ok (.isub, 1) := by decide +kernel
theorem dX4_choose_15 : decode cX4_choose 15 = .ok (.invokestatic 77, 3) := by decide +kernel
theorem dX4_choose_18 : decode cX4_choose 18 = .ok (.ifCond .ne 5, 3) := by decide +kernel
theorem dX4_choose_21 : decode cX4_choose 21 = .ok (.iconst 0, 1) := by decide +kernel
theorem dX4_choose_22 : decode cX4_choose 22 = .ok (.ireturn, 1) := by decide +kernel
theorem dX4_choose_23 : decode cX4_choose 23 = .ok (.aload_n 0, 1) := by decide +kernel
theorem dX4_choose_24 : decode cX4_choose 24 = .ok (.iload_n 1, 1) := by decide +kernel
theorem dX4_choose_25 : decode cX4_choose 25 = .ok (.putfield 108, 3) := by decide +kernel
theorem dX4_choose_28 : decode cX4_choose 28 = .ok (.aload_n 0, 1) := by decide +kernel
theorem dX4_choose_29 : decode cX4_choose 29 = .ok (.iconst 0, 1) := by decide +kernel
theorem dX4_choose_30 : decode cX4_choose 30 = .ok (.putfield 114, 3) := by decide +kernel
theorem dX4_choose_33 : decode cX4_choose 33 = .ok (.iconst 1, 1) := by decide +kernel
theorem dX4_choose_34 : decode cX4_choose 34 = .ok (.ireturn, 1) := by decide +kernel
set_option maxRecDepth 20000 in
theorem ggX4_takeSeen_X4_seenIn : GoodIn wsX4_takeSeen wsX4_seenIn := goodIn_r _ [8, 9, 10, 11, 12, 13, 7, 14, 15, 16, 17, 18, 19, 20, 21, 22, 23, 24, 25, 26, 27, 28, 29, 30, 31, 32, 33, 34, 35, 36, 37, 38, 39, 40, 41, 42, 43, 44, 45, 46, 47, 48, 49, 50, 51, 52, 53, 54, 55] (by decide +kernel) (by decide +kernel)
set_option maxRecDepth 20000 in
theorem gX4_takeSeen_X4_seenIn : GoodIn wsX4_takeSeen (wsV RX4 104 RX4 yX4_seenIn wsX4_seenIn) := goodIn_app (goodIn_of _ (by decide +kernel)) ggX4_takeSeen_X4_seenIn
theorem dX4_takeSeen_0 : decode cX4_takeSeen 0 = .ok (.aload_n 0, 1) := by decide +kernel
theorem dX4_takeSeen_1 : decode cX4_takeSeen 1 = .ok (.iconst 0, 1) := by decide +kernel
theorem dX4_takeSeen_2 : decode cX4_takeSeen 2 = .ok (.putfield 134, 3) := by decide +kernel
theorem dX4_takeSeen_5 : decode cX4_takeSeen 5 = .ok (.iconst 0, 1) := by decide +kernel
theorem dX4_takeSeen_6 : decode cX4_takeSeen 6 = .ok (.istore_n 1, 1) := by decide +kernel
theorem dX4_takeSeen_7 : decode cX4_takeSeen 7 = .ok (.iload_n 1, 1) := by decide +kernel
theorem dX4_takeSeen_8 : decode cX4_takeSeen 8 = .ok (.aload_n 0, 1) := by decide +kernel
theorem dX4_takeSeen_9 : decode cX4_takeSeen 9 = .ok (.getfield 74, 3) := by decide +kernel
theorem dX4_takeSeen_12 : decode cX4_takeSeen 12 = .ok (.if_icmp .ge 35, 3) := by decide +kernel
theorem dX4_takeSeen_15 : decode cX4_takeSeen 15 = .ok (.aload_n 0, 1) := by decide +kernel
theorem dX4_takeSeen_16 : decode cX4_takeSeen 16 = .ok (.getfield 59, 3) := by decide +kernel
theorem dX4_takeSeen_19 : decode cX4_takeSeen 19 = .ok (.iload_n 1, 1) := by decide +kernel
theorem dX4_takeSeen_20 : decode cX4_takeSeen 20 = .ok (.aload_n 0, 1) := by decide +kernel
theorem dX4_takeSeen_21 : decode cX4_takeSeen 21 = .ok (.iload_n 1, 1) := by decide +kernel
theorem dX4_takeSeen_22 : decode cX4_takeSeen 22 = .ok (.invokevirtual 104, 3) := by decide +kernel
theorem dX4_takeSeen_25 : decode cX4_takeSeen 25 = .ok (.iastore, 1) := by decide +kernel
theorem dX4_takeSeen_26 : decode cX4_takeSeen 26 = .ok (.aload_n 0, 1) := by decide +kernel
theorem dX4_takeSeen_27 : decode cX4_takeSeen 27 = .ok (.dup, 1) := by decide +kernel
theorem dX4_takeSeen_28 : decode cX4_takeSeen 28 = .ok (.getfield 134, 3) := by decide +kernel
theorem dX4_takeSeen_31 : decode cX4_takeSeen 31 = .ok (.aload_n 0, 1) := by decide +kernel
theorem dX4_takeSeen_32 : decode cX4_takeSeen 32 = .ok (.getfield 59, 3) := by decide +kernel
theorem dX4_takeSeen_35 : decode cX4_takeSeen 35 = .ok (.iload_n 1, 1) := by decide +kernel
theorem dX4_takeSeen_36 : decode cX4_takeSeen 36 = .ok (.iaload, 1) := by decide +kernel
theorem dX4_takeSeen_37 : decode cX4_takeSeen 37 = .ok (.ior, 1) := by decide +kernel
theorem dX4_takeSeen_38 : decode cX4_takeSeen 38 = .ok (.putfield 134, 3) := by decide +kernel
theorem dX4_takeSeen_41 : decode cX4_takeSeen 41 = .ok (.iinc 1 1, 3) := by decide +kernel
theorem dX4_takeSeen_44 : decode cX4_takeSeen 44 = .ok (.goto (-37), 3) := by decide +kernel
theorem dX4_takeSeen_47 : decode cX4_takeSeen 47 = .ok (.return_, 1) := by decide +kernel
theorem dX4_why_0 : decode cX4_why 0 = .ok (.iconst 0, 1) := by decide +kernel
theorem dX4_why_1 : decode cX4_why 1 = .ok (.istore_n 2, 1) := by decide +kernel
theorem dX4_why_2 : decode cX4_why 2 = .ok (.iconst 0, 1) := by decide +kernel
theorem dX4_why_3 : decode cX4_why 3 = .ok (.istore_n 3, 1) := by decide +kernel
theorem dX4_why_4 : decode cX4_why 4 = .ok (.iconst 0, 1) := by decide +kernel
theorem dX4_why_5 : decode cX4_why 5 = .ok (.istore 4, 2) := by decide +kernel
theorem dX4_why_7 : decode cX4_why 7 = .ok (.iload 4, 2) := by decide +kernel
theorem dX4_why_9 : decode cX4_why 9 = .ok (.aload_n 0, 1) := by decide +kernel
theorem dX4_why_10 : decode cX4_why 10 = .ok (.getfield 81, 3) := by decide +kernel
theorem dX4_why_13 : decode cX4_why 13 = .ok (.if_icmp .ge 94, 3) := by decide +kernel
theorem dX4_why_16 : decode cX4_why 16 = .ok (.aload_n 0, 1) := by decide +kernel
theorem dX4_why_17 : decode cX4_why 17 = .ok (.getfield 134, 3) := by decide +kernel
theorem dX4_why_20 : decode cX4_why 20 = .ok (.iload 4, 2) := by decide +kernel
theorem dX4_why_22 : decode cX4_why 22 = .ok (.ishr, 1) := by decide +kernel
theorem dX4_why_23 : decode cX4_why 23 = .ok (.iconst 1, 1) := by decide +kernel
theorem dX4_why_24 : decode cX4_why 24 = .ok (.iand, 1) := by decide +kernel
theorem dX4_why_25 : decode cX4_why 25 = .ok (.ifCond .ne 6, 3) := by decide +kernel
theorem dX4_why_28 : decode cX4_why 28 = .ok (.goto 73, 3) := by decide +kernel
theorem dX4_why_31 : decode cX4_why 31 = .ok (.iconst 0, 1) := by decide +kernel
theorem dX4_why_32 : decode cX4_why 32 = .ok (.istore 5, 2) := by decide +kernel
theorem dX4_why_34 : decode cX4_why 34 = .ok (.iconst 0, 1) := by decide +kernel
theorem dX4_why_35 : decode cX4_why 35 = .ok (.istore 6, 2) := by decide +kernel
theorem dX4_why_37 : decode cX4_why 37 = .ok (.iload 6, 2) := by decide +kernel
theorem dX4_why_39 : decode cX4_why 39 = .ok (.aload_n 0, 1) := by decide +kernel
theorem dX4_why_40 : decode cX4_why 40 = .ok (.getfield 74, 3) := by decide +kernel
theorem dX4_why_43 : decode cX4_why 43 = .ok (.if_icmp .ge 36, 3) := by decide +kernel
theorem dX4_why_46 : decode cX4_why 46 = .ok (.iload_n 1, 1) := by decide +kernel
theorem dX4_why_47 : decode cX4_why 47 = .ok (.iload 6, 2) := by decide +kernel
theorem dX4_why_49 : decode cX4_why 49 = .ok (.ishr, 1) := by decide +kernel
theorem dX4_why_50 : decode cX4_why 50 = .ok (.iconst 1, 1) := by decide +kernel
theorem dX4_why_51 : decode cX4_why 51 = .ok (.iand, 1) := by decide +kernel
theorem dX4_why_52 : decode cX4_why 52 = .ok (.iconst 1, 1) := by decide +kernel
theorem dX4_why_53 : decode cX4_why 53 = .ok (.if_icmp .ne 20, 3) := by decide +kernel
theorem dX4_why_56 : decode cX4_why 56 = .ok (.iload 5, 2) := by decide +kernel
theorem dX4_why_58 : decode cX4_why 58 = .ok (.aload_n 0, 1) := by decide +kernel
theorem dX4_why_59 : decode cX4_why 59 = .ok (.getfield 59, 3) := by decide +kernel
theorem dX4_why_62 : decode cX4_why 62 = .ok (.iload 6, 2) := by decide +kernel
theorem dX4_why_64 : decode cX4_why 64 = .ok (.iaload, 1) := by decide +kernel
theorem dX4_why_65 : decode cX4_why 65 = .ok (.iload 4, 2) := by decide +kernel
theorem dX4_why_67 : decode cX4_why 67 = .ok (.ishr, 1) := by decide +kernel
theorem dX4_why_68 : decode cX4_why 68 = .ok (.iconst 1, 1) := by decide +kernel
theorem dX4_why_69 : decode cX4_why 69 = .ok (.iand, 1) := by decide +kernel
theorem dX4_why_70 : decode cX4_why 70 = .ok (.iadd, 1) := by decide +kernel
theorem dX4_why_71 : decode cX4_why 71 = .ok (.istore 5, 2) := by decide +kernel
theorem dX4_why_73 : decode cX4_why 73 = .ok (.iinc 6 1, 3) := by decide +kernel
theorem dX4_why_76 : decode cX4_why 76 = .ok (.goto (-39), 3) := by decide +kernel
theorem dX4_why_79 : decode cX4_why 79 = .ok (.iload 5, 2) := by decide +kernel
theorem dX4_why_81 : decode cX4_why 81 = .ok (.aload_n 0, 1) := by decide +kernel
theorem dX4_why_82 : decode cX4_why 82 = .ok (.getfield 91, 3) := by decide +kernel
theorem dX4_why_85 : decode cX4_why 85 = .ok (.if_icmp .ge 5, 3) := by decide +kernel
theorem dX4_why_88 : decode cX4_why 88 = .ok (.iconst 2, 1) := by decide +kernel
theorem dX4_why_89 : decode cX4_why 89 = .ok (.istore_n 3, 1) := by decide +kernel
theorem dX4_why_90 : decode cX4_why 90 = .ok (.iload 5, 2) := by decide +kernel
theorem dX4_why_92 : decode cX4_why 92 = .ok (.aload_n 0, 1) := by decide +kernel
theorem dX4_why_93 : decode cX4_why 93 = .ok (.getfield 44, 3) := by decide +kernel
theorem dX4_why_96 : decode cX4_why 96 = .ok (.if_icmp .le 5, 3) := by decide +kernel
theorem dX4_why_99 : decode cX4_why 99 = .ok (.iconst 3, 1) := by decide +kernel
theorem dX4_why_100 : decode cX4_why 100 = .ok (.istore_n 2, 1) := by decide +kernel
theorem dX4_why_101 : decode cX4_why 101 = .ok (.iinc 4 1, 3) := by decide +kernel
theorem dX4_why_104 : decode cX4_why 104 = .ok (.goto (-97), 3) := by decide +kernel
theorem dX4_why_107 : decode cX4_why 107 = .ok (.iload_n 3, 1) := by decide +kernel
theorem dX4_why_108 : decode cX4_why 108 = .ok (.ifCond .le 7, 3) := by decide +kernel
theorem dX4_why_111 : decode cX4_why 111 = .ok (.iload_n 3, 1) := by decide +kernel
theorem dX4_why_112 : decode cX4_why 112 = .ok (.goto 4, 3) := by decide +kernel
theorem dX4_why_115 : decode cX4_why 115 = .ok (.iload_n 2, 1) := by decide +kernel
theorem dX4_why_116 : decode cX4_why 116 = .ok (.ireturn, 1) := by decide +kernel
set_option maxRecDepth 20000 in
theorem ggX4_wrong_X4_good : GoodIn wsX4_wrong wsX4_good := goodIn_r _ [7, 8, 9, 10, 11, 6, 12, 13, 14, 15, 16, 17, 18, 19, 20, 21, 22, 23, 24, 25, 26, 27, 28, 46, 47, 48, 49, 50, 51, 52, 53, 54, 55, 56, 57, 58, 59, 60, 61, 62, 63, 64, 65, 66, 67, 68, 69, 70, 71, 72] (by decide +kernel) (by decide +kernel)
set_option maxRecDepth 20000 in
theorem gX4_wrong_X4_good : GoodIn wsX4_wrong (wsV RX4 117 RX4 yX4_good wsX4_good) := goodIn_app (goodIn_of _ (by decide +kernel)) ggX4_wrong_X4_good
set_option maxRecDepth 20000 in
theorem ggX4_wrong_X4_takeSeen : GoodIn wsX4_wrong wsX4_takeSeen := goodIn_r _ [32, 33, 8, 34, 35, 36, 37, 6, 38, 13, 27, 9, 10, 11, 12, 14, 15, 16, 17, 18, 19, 20, 21, 22, 23, 24, 25, 26, 28, 46, 47, 48, 49, 50, 51, 52, 53, 54, 55, 56, 57, 58, 59, 60, 61, 62, 63, 64, 65, 66, 67, 68, 69, 70, 71, 72] (by decide +kernel) (by decide +kernel)
set_option maxRecDepth 20000 in
theorem gX4_wrong_X4_takeSeen : GoodIn wsX4_wrong (wsV RX4 137 RX4 yX4_takeSeen wsX4_takeSeen) := goodIn_app (goodIn_of _ (by decide +kernel)) ggX4_wrong_X4_takeSeen
set_option maxRecDepth 20000 in
theorem ggX4_wrong_X4_why : GoodIn wsX4_wrong wsX4_why := goodIn_r _ [42, 43, 33, 8, 34, 44, 45, 46, 47, 48, 49, 50, 51, 52, 53, 54, 55, 56, 57, 58, 59, 60, 61, 62, 63, 64, 65, 66, 67, 68, 69, 70, 71, 72] (by decide +kernel) (by decide +kernel)
set_option maxRecDepth 20000 in
theorem gX4_wrong_X4_why : GoodIn wsX4_wrong (wsV RX4 140 RX4 yX4_why wsX4_why) := goodIn_app (goodIn_of _ (by decide +kernel)) ggX4_wrong_X4_why
theorem dX4_wrong_0 : decode cX4_wrong 0 = .ok (.aload_n 0, 1) := by decide +kernel
theorem dX4_wrong_1 : decode cX4_wrong 1 = .ok (.iconst 0, 1) := by decide +kernel
theorem dX4_wrong_2 : decode cX4_wrong 2 = .ok (.putfield 71, 3) := by decide +kernel
theorem dX4_wrong_5 : decode cX4_wrong 5 = .ok (.aload_n 0, 1) := by decide +kernel
theorem dX4_wrong_6 : decode cX4_wrong 6 = .ok (.getfield 108, 3) := by decide +kernel
theorem dX4_wrong_9 : decode cX4_wrong 9 = .ok (.aload_n 0, 1) := by decide +kernel
theorem dX4_wrong_10 : decode cX4_wrong 10 = .ok (.invokevirtual 117, 3) := by decide +kernel
theorem dX4_wrong_13 : decode cX4_wrong 13 = .ok (.iconst (-1), 1) := by decide +kernel
theorem dX4_wrong_14 : decode cX4_wrong 14 = .ok (.ixor, 1) := by decide +kernel
theorem dX4_wrong_15 : decode cX4_wrong 15 = .ok (.iand, 1) := by decide +kernel
theorem dX4_wrong_16 : decode cX4_wrong 16 = .ok (.ifCond .eq 5, 3) := by decide +kernel
theorem dX4_wrong_19 : decode cX4_wrong 19 = .ok (.iconst 1, 1) := by decide +kernel
theorem dX4_wrong_20 : decode cX4_wrong 20 = .ok (.ireturn, 1) := by decide +kernel
theorem dX4_wrong_21 : decode cX4_wrong 21 = .ok (.aload_n 0, 1) := by decide +kernel
theorem dX4_wrong_22 : decode cX4_wrong 22 = .ok (.invokevirtual 137, 3) := by decide +kernel
theorem dX4_wrong_25 : decode cX4_wrong 25 = .ok (.aload_n 0, 1) := by decide +kernel
theorem dX4_wrong_26 : decode cX4_wrong 26 = .ok (.aload_n 0, 1) := by decide +kernel
theorem dX4_wrong_27 : decode cX4_wrong 27 = .ok (.getfield 108, 3) := by decide +kernel
theorem dX4_wrong_30 : decode cX4_wrong 30 = .ok (.invokevirtual 140, 3) := by decide +kernel
theorem dX4_wrong_33 : decode cX4_wrong 33 = .ok (.ireturn, 1) := by decide +kernel
set_option maxRecDepth 20000 in
theorem ggX4_search_X4_good : GoodIn wsX4_search wsX4_good := goodIn_r _ [6, 1, 7, 8, 9, 5, 10, 11, 12, 13, 14, 15, 16, 17, 18, 19, 20, 21, 22, 23, 24, 25, 26, 61, 62, 63, 64, 65, 66, 67, 68, 69, 70, 71, 72, 73, 74, 75, 76, 77, 78, 79, 80, 81, 82, 83, 84, 85, 86, 87] (by decide +kernel) (by decide +kernel)
set_option maxRecDepth 20000 in
theorem gX4_search_X4_good : GoodIn wsX4_search (wsV RX4 117 RX4 yX4_good wsX4_good) := goodIn_app (goodIn_of _ (by decide +kernel)) ggX4_search_X4_good
set_option maxRecDepth 20000 in
theorem ggX4_search_X4_takeSeen : GoodIn wsX4_search wsX4_takeSeen := goodIn_r _ [30, 31, 1, 32, 33, 34, 35, 5, 36, 11, 25, 7, 8, 9, 10, 12, 13, 14, 15, 16, 17, 18, 19, 20, 21, 22, 23, 24, 26, 61, 62, 63, 64, 65, 66, 67, 68, 69, 70, 71, 72, 73, 74, 75, 76, 77, 78, 79, 80, 81, 82, 83, 84, 85, 86, 87] (by decide +kernel) (by decide +kernel)
set_option maxRecDepth 20000 in
theorem gX4_search_X4_takeSeen : GoodIn wsX4_search (wsV RX4 137 RX4 yX4_takeSeen wsX4_takeSeen) := goodIn_app (goodIn_of _ (by decide +kernel)) ggX4_search_X4_takeSeen
set_option maxRecDepth 20000 in
theorem ggX4_search_X4_why : GoodIn wsX4_search wsX4_why := goodIn_r _ [40, 41, 31, 1, 32, 42, 43, 61, 62, 63, 64, 65, 66, 67, 68, 69, 70, 71, 72, 73, 74, 75, 76, 77, 78, 79, 80, 81, 82, 83, 84, 85, 86, 87] (by decide +kernel) (by decide +kernel)
set_option maxRecDepth 20000 in
theorem gX4_search_X4_why : GoodIn wsX4_search (wsV RX4 140 RX4 yX4_why wsX4_why) := goodIn_app (goodIn_of _ (by decide +kernel)) ggX4_search_X4_why
set_option maxRecDepth 20000 in
theorem ggX4_search_X4_isAhead : GoodIn wsX4_search wsX4_isAhead := goodIn_r _ [47, 48, 49, 50, 51, 52, 53, 54, 55, 56, 57, 58, 5, 59, 1, 60, 61, 62, 63, 64, 65, 66, 67, 68, 69, 70, 71, 72, 73, 74, 75, 76, 77, 78, 79, 80, 81, 82, 83, 84, 85, 86, 87] (by decide +kernel) (by decide +kernel)
set_option maxRecDepth 20000 in
theorem gX4_search_X4_isAhead : GoodIn wsX4_search (wsV RX4 143 RX4 yX4_isAhead wsX4_isAhead) := goodIn_app (goodIn_of _ (by decide +kernel)) ggX4_search_X4_isAhead
theorem dX4_search_0 : decode cX4_search 0 = .ok (.aload_n 0, 1) := by decide +kernel
theorem dX4_search_1 : decode cX4_search 1 = .ok (.invokevirtual 117, 3) := by decide +kernel
theorem dX4_search_4 : decode cX4_search 4 = .ok (.istore_n 2, 1) := by decide +kernel
theorem dX4_search_5 : decode cX4_search 5 = .ok (.aload_n 0, 1) := by decide +kernel
theorem dX4_search_6 : decode cX4_search 6 = .ok (.invokevirtual 137, 3) := by decide +kernel
theorem dX4_search_9 : decode cX4_search 9 = .ok (.iconst (-1), 1) := by decide +kernel
theorem dX4_search_10 : decode cX4_search 10 = .ok (.istore_n 3, 1) := by decide +kernel
theorem dX4_search_11 : decode cX4_search 11 = .ok (.iconst 0, 1) := by decide +kernel
theorem dX4_search_12 : decode cX4_search 12 = .ok (.istore 4, 2) := by decide +kernel
theorem dX4_search_14 : decode cX4_search 14 = .ok (.iload 4, 2) := by decide +kernel
theorem dX4_search_16 : decode cX4_search 16 = .ok (.iconst 1, 1) := by decide +kernel
theorem dX4_search_17 : decode cX4_search 17 = .ok (.aload_n 0, 1) := by decide +kernel
theorem dX4_search_18 : decode cX4_search 18 = .ok (.getfield 74, 3) := by decide +kernel
theorem dX4_search_21 : decode cX4_search 21 = .ok (.ishl, 1) := by decide +kernel
theorem dX4_search_22 : decode cX4_search 22 = .ok (.if_icmp .ge 49, 3) := by decide +kernel
theorem dX4_search_25 : decode cX4_search 25 = .ok (.iload 4, 2) := by decide +kernel
theorem dX4_search_27 : decode cX4_search 27 = .ok (.iload_n 2, 1) := by decide +kernel
theorem dX4_search_28 : decode cX4_search 28 = .ok (.iconst (-1), 1) := by decide +kernel
theorem dX4_search_29 : decode cX4_search 29 = .ok (.ixor, 1) := by decide +kernel
theorem dX4_search_30 : decode cX4_search 30 = .ok (.iand, 1) := by decide +kernel
theorem dX4_search_31 : decode cX4_search 31 = .ok (.ifCond .ne 34, 3) := by decide +kernel
theorem dX4_search_34 : decode cX4_search 34 = .ok (.aload_n 0, 1) := by decide +kernel
theorem dX4_search_35 : decode cX4_search 35 = .ok (.iload 4, 2) := by decide +kernel
theorem dX4_search_37 : decode cX4_search 37 = .ok (.invokevirtual 140, 3) := by decide +kernel
theorem dX4_search_40 : decode cX4_search 40 = .ok (.ifCond .le 6, 3) := by decide +kernel
theorem dX4_search_43 : decode cX4_search 43 = .ok (.goto 22, 3) := by decide +kernel
theorem dX4_search_46 : decode cX4_search 46 = .ok (.iload_n 3, 1) := by decide +kernel
theorem dX4_search_47 : decode cX4_search 47 = .ok (.iconst (-1), 1) := by decide +kernel
theorem dX4_search_48 : decode cX4_search 48 = .ok (.if_icmp .eq 14, 3) := by decide +kernel
theorem dX4_search_51 : decode cX4_search 51 = .ok (.aload_n 0, 1) := by decide +kernel
theorem dX4_search_52 : decode cX4_search 52 = .ok (.iload 4, 2) := by decide +kernel
theorem dX4_search_54 : decode cX4_search 54 = .ok (.iload_n 3, 1) := by decide +kernel
theorem dX4_search_55 : decode cX4_search 55 = .ok (.iload_n 1, 1) := by decide +kernel
theorem dX4_search_56 : decode cX4_search 56 = .ok (.invokevirtual 143, 3) := by decide +kernel
theorem dX4_search_59 : decode cX4_search 59 = .ok (.ifCond .eq 6, 3) := by decide +kernel
theorem dX4_search_62 : decode cX4_search 62 = .ok (.iload 4, 2) := by decide +kernel
theorem dX4_search_64 : decode cX4_search 64 = .ok (.istore_n 3, 1) := by decide +kernel
theorem dX4_search_65 : decode cX4_search 65 = .ok (.iinc 4 1, 3) := by decide +kernel
theorem dX4_search_68 : decode cX4_search 68 = .ok (.goto (-54), 3) := by decide +kernel
theorem dX4_search_71 : decode cX4_search 71 = .ok (.iload_n 3, 1) := by decide +kernel
theorem dX4_search_72 : decode cX4_search 72 = .ok (.ireturn, 1) := by decide +kernel
set_option maxRecDepth 20000 in
theorem ggX4_isAhead_J6_bitCount_0f7a4 : GoodIn wsX4_isAhead wsJ6_bitCount_0f7a4 := goodIn_r _ [5, 6, 7, 8] (by decide +kernel) (by decide +kernel)
set_option maxRecDepth 20000 in
theorem gX4_isAhead_J6_bitCount_0f7a4 : GoodIn wsX4_isAhead (va_wsS RX4 147 yJ6_bitCount_0f7a4 wsJ6_bitCount_0f7a4) := goodIn_app (goodIn_of _ (by decide +kernel)) ggX4_isAhead_J6_bitCount_0f7a4
set_option maxRecDepth 20000 in
theorem ggX4_isAhead_X4_sum : GoodIn wsX4_isAhead wsX4_sum := goodIn_r _ [13, 14, 15, 16, 17, 18, 19, 20, 21, 22, 23, 24, 25, 26, 27, 28, 29, 30, 31, 32, 33, 34, 35, 36, 37, 38, 39, 40, 41, 42] (by decide +kernel) (by decide +kernel)
set_option maxRecDepth 20000 in
theorem gX4_isAhead_X4_sum : GoodIn wsX4_isAhead (wsV RX4 111 RX4 yX4_sum wsX4_sum) := goodIn_app (goodIn_of _ (by decide +kernel)) ggX4_isAhead_X4_sum
theorem dX4_isAhead_0 : decode cX4_isAhead 0 = .ok (.iload_n 3, 1) := by decide +kernel
theorem dX4_isAhead_1 : decode cX4_isAhead 1 = .ok (.ifCond .eq 15, 3) := by decide +kernel
theorem dX4_isAhead_4 : decode cX4_isAhead 4 = .ok (.iload_n 1, 1) := by decide +kernel
theorem dX4_isAhead_5 : decode cX4_isAhead 5 = .ok (.aload_n 0, 1) := by decide +kernel
theorem dX4_isAhead_6 : decode cX4_isAhead 6 = .ok (.getfield 108, 3) := by decide +kernel
theorem dX4_isAhead_9 : decode cX4_isAhead 9 = .ok (.ixor, 1) := by decide +kernel
theorem dX4_isAhead_10 : decode cX4_isAhead 10 = .ok (.invokestatic 147, 3) := by decide +kernel
theorem dX4_isAhead_13 : decode cX4_isAhead 13 = .ok (.goto 4, 3) := by decide +kernel
theorem dX4_isAhead_16 : decode cX4_isAhead 16 = .ok (.iconst 0, 1) := by decide +kernel
theorem dX4_isAhead_17 : decode cX4_isAhead 17 = .ok (.istore 4, 2) := by decide +kernel
theorem dX4_isAhead_19 : decode cX4_isAhead 19 = .ok (.iload_n 3, 1) := by decide +kernel
theorem dX4_isAhead_20 : decode cX4_isAhead 20 = .ok (.ifCond .eq 15, 3) := by decide +kernel
theorem dX4_isAhead_23 : decode cX4_isAhead 23 = .ok (.iload_n 2, 1) := by decide +kernel
theorem dX4_isAhead_24 : decode cX4_isAhead 24 = .ok (.aload_n 0, 1) := by decide +kernel
theorem dX4_isAhead_25 : decode cX4_isAhead 25 = .ok (.getfield 108, 3) := by decide +kernel
theorem dX4_isAhead_28 : decode cX4_isAhead 28 = .ok (.ixor, 1) := by decide +kernel
theorem dX4_isAhead_29 : decode cX4_isAhead 29 = .ok (.invokestatic 147, 3) := by decide +kernel
theorem dX4_isAhead_32 : decode cX4_isAhead 32 = .ok (.goto 4, 3) := by decide +kernel
theorem dX4_isAhead_35 : decode cX4_isAhead 35 = .ok (.iconst 0, 1) := by decide +kernel
theorem dX4_isAhead_36 : decode cX4_isAhead 36 = .ok (.istore 5, 2) := by decide +kernel
theorem dX4_isAhead_38 : decode cX4_isAhead 38 = .ok (.iload 4, 2) := by decide +kernel
theorem dX4_isAhead_40 : decode cX4_isAhead 40 = .ok (.iload 5, 2) := by decide +kernel
theorem dX4_isAhead_42 : decode cX4_isAhead 42 = .ok (.if_icmp .eq 16, 3) := by decide +kernel
theorem dX4_isAhead_45 : decode cX4_isAhead 45 = .ok (.iload 4, 2) := by decide +kernel
theorem dX4_isAhead_47 : decode cX4_isAhead 47 = .ok (.iload 5, 2) := by decide +kernel
theorem dX4_isAhead_49 : decode cX4_isAhead 49 = .ok (.if_icmp .ge 7, 3) := by decide +kernel
theorem dX4_isAhead_52 : decode cX4_isAhead 52 = .ok (.iconst 1, 1) := by decide +kernel
theorem dX4_isAhead_53 : decode cX4_isAhead 53 = .ok (.goto 4, 3) := by decide +kernel
theorem dX4_isAhead_56 : decode cX4_isAhead 56 = .ok (.iconst 0, 1) := by decide +kernel
theorem dX4_isAhead_57 : decode cX4_isAhead 57 = .ok (.ireturn, 1) := by decide +kernel
theorem dX4_isAhead_58 : decode cX4_isAhead 58 = .ok (.aload_n 0, 1) := by decide +kernel
theorem dX4_isAhead_59 : decode cX4_isAhead 59 = .ok (.iload_n 1, 1) := by decide +kernel
theorem dX4_isAhead_60 : decode cX4_isAhead 60 = .ok (.invokevirtual 111, 3) := by decide +kernel
theorem dX4_isAhead_63 : decode cX4_isAhead 63 = .ok (.aload_n 0, 1) := by decide +kernel
theorem dX4_isAhead_64 : decode cX4_isAhead 64 = .ok (.iload_n 2, 1) := by decide +kernel
theorem dX4_isAhead_65 : decode cX4_isAhead 65 = .ok (.invokevirtual 111, 3) := by decide +kernel
theorem dX4_isAhead_68 : decode cX4_isAhead 68 = .ok (.if_icmp .eq 22, 3) := by decide +kernel
theorem dX4_isAhead_71 : decode cX4_isAhead 71 = .ok (.aload_n 0, 1) := by decide +kernel
theorem dX4_isAhead_72 : decode cX4_isAhead 72 = .ok (.iload_n 1, 1) := by decide +kernel
theorem dX4_isAhead_73 : decode cX4_isAhead 73 = .ok (.invokevirtual 111, 3) := by decide +kernel
theorem dX4_isAhead_76 : decode cX4_isAhead 76 = .ok (.aload_n 0, 1) := by decide +kernel
theorem dX4_isAhead_77 : decode cX4_isAhead 77 = .ok (.iload_n 2, 1) := by decide +kernel
theorem dX4_isAhead_78 : decode cX4_isAhead 78 = .ok (.invokevirtual 111, 3) := by decide +kernel
theorem dX4_isAhead_81 : decode cX4_isAhead 81 = .ok (.if_icmp .le 7, 3) := by decide +kernel
theorem dX4_isAhead_84 : decode cX4_isAhead 84 = .ok (.iconst 1, 1) := by decide +kernel
theorem dX4_isAhead_85 : decode cX4_isAhead 85 = .ok (.goto 4, 3) := by decide +kernel
theorem dX4_isAhead_88 : decode cX4_isAhead 88 = .ok (.iconst 0, 1) := by decide +kernel
theorem dX4_isAhead_89 : decode cX4_isAhead 89 = .ok (.ireturn, 1) := by decide +kernel
theorem dX4_isAhead_90 : decode cX4_isAhead 90 = .ok (.iload_n 1, 1) := by decide +kernel
theorem dX4_isAhead_91 : decode cX4_isAhead 91 = .ok (.invokestatic 147, 3) := by decide +kernel
theorem dX4_isAhead_94 : decode cX4_isAhead 94 = .ok (.iload_n 2, 1) := by decide +kernel
theorem dX4_isAhead_95 : decode cX4_isAhead 95 = .ok (.invokestatic 147, 3) := by decide +kernel
theorem dX4_isAhead_98 : decode cX4_isAhead 98 = .ok (.if_icmp .ge 7, 3) := by decide +kernel
theorem dX4_isAhead_101 : decode cX4_isAhead 101 = .ok (.iconst 1, 1) := by decide +kernel
theorem dX4_isAhead_102 : decode cX4_isAhead 102 = .ok (.goto 4, 3) := by decide +kernel
theorem dX4_isAhead_105 : decode cX4_isAhead 105 = .ok (.iconst 0, 1) := by decide +kernel
theorem dX4_isAhead_106 : decode cX4_isAhead 106 = .ok (.ireturn, 1) := by decide +kernel
set_option maxRecDepth 20000 in
theorem ggX4_best_X4_search : GoodIn wsX4_best wsX4_search := goodIn_r _ [8, 9, 10, 11, 12, 7, 13, 14, 15, 16, 17, 18, 19, 20, 21, 22, 23, 24, 25, 26, 27, 28, 29, 30, 31, 32, 33, 34, 35, 36, 37, 38, 39, 40, 41, 42, 43, 44, 45, 46, 47, 48, 49, 50, 51, 52, 53, 54, 2, 55, 56, 57, 58, 59, 60, 61, 62, 63, 64, 65, 66, 67, 68, 69, 70, 71, 72, 73, 74, 75, 76, 77, 78, 79, 80, 81, 82, 83, 84, 85, 86, 87, 88, 89, 90, 91, 92, 93] (by decide +kernel) (by decide +kernel)
set_option maxRecDepth 20000 in
theorem gX4_best_X4_search : GoodIn wsX4_best (wsV RX4 152 RX4 yX4_search wsX4_search) := goodIn_app (goodIn_of _ (by decide +kernel)) ggX4_best_X4_search
set_option maxRecDepth 20000 in
theorem ggX4_best_X4_sum : GoodIn wsX4_best wsX4_sum := goodIn_r _ [65, 9, 66, 67, 68, 69, 70, 71, 72, 73, 74, 75, 76, 77, 78, 79, 80, 81, 82, 83, 84, 85, 86, 87, 88, 89, 90, 91, 92, 93] (by decide +kernel) (by decide +kernel)
set_option maxRecDepth 20000 in
theorem gX4_best_X4_sum : GoodIn wsX4_best (wsV RX4 111 RX4 yX4_sum wsX4_sum) := goodIn_app (goodIn_of _ (by decide +kernel)) ggX4_best_X4_sum
theorem dX4_best_0 : decode cX4_best 0 = .ok (.aload_n 0, 1) := by decide +kernel
theorem dX4_best_1 : decode cX4_best 1 = .ok (.iconst 0, 1) := by decide +kernel
theorem dX4_best_2 : decode cX4_best 2 = .ok (.putfield 71, 3) := by decide +kernel
theorem dX4_best_5 : decode cX4_best 5 = .ok (.aload_n 0, 1) := by decide +kernel
theorem dX4_best_6 : decode cX4_best 6 = .ok (.iconst 0, 1) := by decide +kernel
theorem dX4_best_7 : decode cX4_best 7 = .ok (.invokevirtual 152, 3) := by decide +kernel
theorem dX4_best_10 : decode cX4_best 10 = .ok (.istore_n 1, 1) := by decide +kernel
theorem dX4_best_11 : decode cX4_best 11 = .ok (.iload_n 1, 1) := by decide +kernel
theorem dX4_best_12 : decode cX4_best 12 = .ok (.iconst (-1), 1) := by decide +kernel
theorem dX4_best_13 : decode cX4_best 13 = .ok (.if_icmp .ne 5, 3) := by decide +kernel
theorem dX4_best_16 : decode cX4_best 16 = .ok (.iconst (-1), 1) := by decide +kernel
theorem dX4_best_17 : decode cX4_best 17 = .ok (.ireturn, 1) := by decide +kernel
theorem dX4_best_18 : decode cX4_best 18 = .ok (.aload_n 0, 1) := by decide +kernel
theorem dX4_best_19 : decode cX4_best 19 = .ok (.iload_n 1, 1) := by decide +kernel
theorem dX4_best_20 : decode cX4_best 20 = .ok (.putfield 108, 3) := by decide +kernel
theorem dX4_best_23 : decode cX4_best 23 = .ok (.aload_n 0, 1) := by decide +kernel
theorem dX4_best_24 : decode cX4_best 24 = .ok (.iconst 0, 1) := by decide +kernel
theorem dX4_best_25 : decode cX4_best 25 = .ok (.putfield 114, 3) := by decide +kernel
theorem dX4_best_28 : decode cX4_best 28 = .ok (.aload_n 0, 1) := by decide +kernel
theorem dX4_best_29 : decode cX4_best 29 = .ok (.aload_n 0, 1) := by decide +kernel
theorem dX4_best_30 : decode cX4_best 30 = .ok (.getfield 108, 3) := by decide +kernel
theorem dX4_best_33 : decode cX4_best 33 = .ok (.invokevirtual 111, 3) := by decide +kernel
theorem dX4_best_36 : decode cX4_best 36 = .ok (.ireturn, 1) := by decide +kernel
set_option maxRecDepth 20000 in
theorem ggX4_mend_X4_search : GoodIn wsX4_mend wsX4_search := goodIn_r _ [8, 9, 10, 11, 12, 7, 13, 14, 15, 16, 17, 18, 19, 20, 21, 22, 23, 24, 25, 26, 27, 28, 29, 30, 31, 32, 33, 34, 35, 36, 37, 38, 39, 40, 41, 42, 43, 44, 45, 46, 47, 48, 49, 50, 51, 52, 53, 54, 2, 55, 56, 57, 58, 59, 60, 61, 62, 63, 64, 65, 66, 67, 68, 69, 70, 71, 72, 73, 74, 75, 76, 77, 78, 79, 80, 81, 82, 83, 84, 85, 86, 87, 88, 89, 90, 91, 92, 93] (by decide +kernel) (by decide +kernel)
set_option maxRecDepth 20000 in
theorem gX4_mend_X4_search : GoodIn wsX4_mend (wsV RX4 152 RX4 yX4_search wsX4_search) := goodIn_app (goodIn_of _ (by decide +kernel)) ggX4_mend_X4_search
set_option maxRecDepth 20000 in
theorem ggX4_mend_J6_bitCount_0f7a4 : GoodIn wsX4_mend wsJ6_bitCount_0f7a4 := goodIn_r _ [58, 59, 60, 61] (by decide +kernel) (by decide +kernel)
set_option maxRecDepth 20000 in
theorem gX4_mend_J6_bitCount_0f7a4 : GoodIn wsX4_mend (va_wsS RX4 147 yJ6_bitCount_0f7a4 wsJ6_bitCount_0f7a4) := goodIn_app (goodIn_of _ (by decide +kernel)) ggX4_mend_J6_bitCount_0f7a4
theorem dX4_mend_0 : decode cX4_mend 0 = .ok (.aload_n 0, 1) := by decide +kernel
theorem dX4_mend_1 : decode cX4_mend 1 = .ok (.iconst 0, 1) := by decide +kernel
theorem dX4_mend_2 : decode cX4_mend 2 = .ok (.putfield 71, 3) := by decide +kernel
theorem dX4_mend_5 : decode cX4_mend 5 = .ok (.aload_n 0, 1) := by decide +kernel
theorem dX4_mend_6 : decode cX4_mend 6 = .ok (.iconst 1, 1) := by decide +kernel
theorem dX4_mend_7 : decode cX4_mend 7 = .ok (.invokevirtual 152, 3) := by decide +kernel
theorem dX4_mend_10 : decode cX4_mend 10 = .ok (.istore_n 1, 1) := by decide +kernel
theorem dX4_mend_11 : decode cX4_mend 11 = .ok (.iload_n 1, 1) := by decide +kernel
theorem dX4_mend_12 : decode cX4_mend 12 = .ok (.iconst (-1), 1) := by decide +kernel
theorem dX4_mend_13 : decode cX4_mend 13 = .ok (.if_icmp .ne 5, 3) := by decide +kernel
theorem dX4_mend_16 : decode cX4_mend 16 = .ok (.iconst (-1), 1) := by decide +kernel
theorem dX4_mend_17 : decode cX4_mend 17 = .ok (.ireturn, 1) := by decide +kernel
theorem dX4_mend_18 : decode cX4_mend 18 = .ok (.iload_n 1, 1) := by decide +kernel
theorem dX4_mend_19 : decode cX4_mend 19 = .ok (.aload_n 0, 1) := by decide +kernel
theorem dX4_mend_20 : decode cX4_mend 20 = .ok (.getfield 108, 3) := by decide +kernel
theorem dX4_mend_23 : decode cX4_mend 23 = .ok (.ixor, 1) := by decide +kernel
theorem dX4_mend_24 : decode cX4_mend 24 = .ok (.invokestatic 147, 3) := by decide +kernel
theorem dX4_mend_27 : decode cX4_mend 27 = .ok (.istore_n 2, 1) := by decide +kernel
theorem dX4_mend_28 : decode cX4_mend 28 = .ok (.aload_n 0, 1) := by decide +kernel
theorem dX4_mend_29 : decode cX4_mend 29 = .ok (.iload_n 1, 1) := by decide +kernel
theorem dX4_mend_30 : decode cX4_mend 30 = .ok (.putfield 108, 3) := by decide +kernel
theorem dX4_mend_33 : decode cX4_mend 33 = .ok (.aload_n 0, 1) := by decide +kernel
theorem dX4_mend_34 : decode cX4_mend 34 = .ok (.iconst 0, 1) := by decide +kernel
theorem dX4_mend_35 : decode cX4_mend 35 = .ok (.putfield 114, 3) := by decide +kernel
theorem dX4_mend_38 : decode cX4_mend 38 = .ok (.iload_n 2, 1) := by decide +kernel
theorem dX4_mend_39 : decode cX4_mend 39 = .ok (.ireturn, 1) := by decide +kernel
set_option maxRecDepth 20000 in
theorem ggX4_choices_X4_good : GoodIn wsX4_choices wsX4_good := goodIn_r _ [7, 2, 8, 9, 10, 6, 11, 12, 13, 14, 15, 16, 17, 18, 19, 20, 21, 22, 23, 24, 25, 26, 27, 45, 46, 47, 48, 49, 50, 51, 52, 53, 54, 55, 56, 57, 58, 59, 60, 61, 62, 63, 64, 65, 66, 67, 68, 69, 70, 71] (by decide +kernel) (by decide +kernel)
set_option maxRecDepth 20000 in
theorem gX4_choices_X4_good : GoodIn wsX4_choices (wsV RX4 117 RX4 yX4_good wsX4_good) := goodIn_app (goodIn_of _ (by decide +kernel)) ggX4_choices_X4_good
set_option maxRecDepth 20000 in
theorem ggX4_choices_X4_takeSeen : GoodIn wsX4_choices wsX4_takeSeen := goodIn_r _ [31, 32, 2, 33, 34, 35, 36, 6, 37, 12, 26, 8, 9, 10, 11, 13, 14, 15, 16, 17, 18, 19, 20, 21, 22, 23, 24, 25, 27, 45, 46, 47, 48, 49, 50, 51, 52, 53, 54, 55, 56, 57, 58, 59, 60, 61, 62, 63, 64, 65, 66, 67, 68, 69, 70, 71] (by decide +kernel) (by decide +kernel)
set_option maxRecDepth 20000 in
theorem gX4_choices_X4_takeSeen : GoodIn wsX4_choices (wsV RX4 137 RX4 yX4_takeSeen wsX4_takeSeen) := goodIn_app (goodIn_of _ (by decide +kernel)) ggX4_choices_X4_takeSeen
set_option maxRecDepth 20000 in
theorem ggX4_choices_X4_why : GoodIn wsX4_choices wsX4_why := goodIn_r _ [41, 42, 32, 2, 33, 43, 44, 45, 46, 47, 48, 49, 50, 51, 52, 53, 54, 55, 56, 57, 58, 59, 60, 61, 62, 63, 64, 65, 66, 67, 68, 69, 70, 71] (by decide +kernel) (by decide +kernel)
set_option maxRecDepth 20000 in
theorem gX4_choices_X4_why : GoodIn wsX4_choices (wsV RX4 140 RX4 yX4_why wsX4_why) := goodIn_app (goodIn_of _ (by decide +kernel)) ggX4_choices_X4_why
theorem dX4_choices_0 : decode cX4_choices 0 = .ok (.aload_n 0, 1) := by decide +kernel
theorem dX4_choices_1 : decode cX4_choices 1 = .ok (.iconst 0, 1) := by decide +kernel
theorem dX4_choices_2 : decode cX4_choices 2 = .ok (.putfield 71, 3) := by decide +kernel
theorem dX4_choices_5 : decode cX4_choices 5 = .ok (.aload_n 0, 1) := by decide +kernel
theorem dX4_choices_6 : decode cX4_choices 6 = .ok (.invokevirtual 117, 3) := by decide +kernel
theorem dX4_choices_9 : decode cX4_choices 9 = .ok (.istore_n 1, 1) := by decide +kernel
theorem dX4_choices_10 : decode cX4_choices 10 = .ok (.aload_n 0, 1) := by decide +kernel
theorem dX4_choices_11 : decode cX4_choices 11 = .ok (.invokevirtual 137, 3) := by decide +kernel
theorem dX4_choices_14 : decode cX4_choices 14 = .ok (.iconst 0, 1) := by decide +kernel
theorem dX4_choices_15 : decode cX4_choices 15 = .ok (.istore_n 2, 1) := by decide +kernel
theorem dX4_choices_16 : decode cX4_choices 16 = .ok (.iconst 0, 1) := by decide +kernel
theorem dX4_choices_17 : decode cX4_choices 17 = .ok (.istore_n 3, 1) := by decide +kernel
theorem dX4_choices_18 : decode cX4_choices 18 = .ok (.iload_n 3, 1) := by decide +kernel
theorem dX4_choices_19 : decode cX4_choices 19 = .ok (.iconst 1, 1) := by decide +kernel
theorem dX4_choices_20 : decode cX4_choices 20 = .ok (.aload_n 0, 1) := by decide +kernel
theorem dX4_choices_21 : decode cX4_choices 21 = .ok (.getfield 74, 3) := by decide +kernel
theorem dX4_choices_24 : decode cX4_choices 24 = .ok (.ishl, 1) := by decide +kernel
theorem dX4_choices_25 : decode cX4_choices 25 = .ok (.if_icmp .ge 28, 3) := by decide +kernel
theorem dX4_choices_28 : decode cX4_choices 28 = .ok (.iload_n 3, 1) := by decide +kernel
theorem dX4_choices_29 : decode cX4_choices 29 = .ok (.iload_n 1, 1) := by decide +kernel
theorem dX4_choices_30 : decode cX4_choices 30 = .ok (.iconst (-1), 1) := by decide +kernel
theorem dX4_choices_31 : decode cX4_choices 31 = .ok (.ixor, 1) := by decide +kernel
theorem dX4_choices_32 : decode cX4_choices 32 = .ok (.iand, 1) := by decide +kernel
theorem dX4_choices_33 : decode cX4_choices 33 = .ok (.ifCond .ne 14, 3) := by decide +kernel
theorem dX4_choices_36 : decode cX4_choices 36 = .ok (.aload_n 0, 1) := by decide +kernel
theorem dX4_choices_37 : decode cX4_choices 37 = .ok (.iload_n 3, 1) := by decide +kernel
theorem dX4_choices_38 : decode cX4_choices 38 = .ok (.invokevirtual 140, 3) := by decide +kernel
theorem dX4_choices_41 : decode cX4_choices 41 = .ok (.ifCond .ne 6, 3) := by decide +kernel
theorem dX4_choices_44 : decode cX4_choices 44 = .ok (.iinc 2 1, 3) := by decide +kernel
theorem dX4_choices_47 : decode cX4_choices 47 = .ok (.iinc 3 1, 3) := by decide +kernel
theorem dX4_choices_50 : decode cX4_choices 50 = .ok (.goto (-32), 3) := by decide +kernel
theorem dX4_choices_53 : decode cX4_choices 53 = .ok (.iload_n 2, 1) := by decide +kernel
theorem dX4_choices_54 : decode cX4_choices 54 = .ok (.ireturn, 1) := by decide +kernel
set_option maxRecDepth 20000 in
theorem ggX4_lacking_X4_timesIn : GoodIn wsX4_lacking wsX4_timesIn := goodIn_r _ [9, 3, 10, 11, 12, 8, 13, 14, 15, 16, 17, 18, 19, 20, 21, 22, 23, 24, 25, 26, 27, 28, 29, 30, 31, 32, 33, 34, 35, 36, 37, 38, 39, 40, 41, 42, 43, 44, 45, 46, 47, 48, 49, 50, 51, 52, 53, 54, 55, 56, 57, 58, 59, 60] (by decide +kernel) (by decide +kernel)
set_option maxRecDepth 20000 in
theorem gX4_lacking_X4_timesIn : GoodIn wsX4_lacking (wsV RX4 130 RX4 yX4_timesIn wsX4_timesIn) := goodIn_app (goodIn_of _ (by decide +kernel)) ggX4_lacking_X4_timesIn
theorem dX4_lacking_0 : decode cX4_lacking 0 = .ok (.aload_n 0, 1) := by decide +kernel
theorem dX4_lacking_1 : decode cX4_lacking 1 = .ok (.iconst 0, 1) := by decide +kernel
theorem dX4_lacking_2 : decode cX4_lacking 2 = .ok (.putfield 71, 3) := by decide +kernel
theorem dX4_lacking_5 : decode cX4_lacking 5 = .ok (.iconst 0, 1) := by decide +kernel
theorem dX4_lacking_6 : decode cX4_lacking 6 = .ok (.istore_n 1, 1) := by decide +kernel
theorem dX4_lacking_7 : decode cX4_lacking 7 = .ok (.iload_n 1, 1) := by decide +kernel
theorem dX4_lacking_8 : decode cX4_lacking 8 = .ok (.aload_n 0, 1) := by decide +kernel
theorem dX4_lacking_9 : decode cX4_lacking 9 = .ok (.getfield 81, 3) := by decide +kernel
theorem dX4_lacking_12 : decode cX4_lacking 12 = .ok (.if_icmp .ge 31, 3) := by decide +kernel
theorem dX4_lacking_15 : decode cX4_lacking 15 = .ok (.aload_n 0, 1) := by decide +kernel
theorem dX4_lacking_16 : decode cX4_lacking 16 = .ok (.iconst 1, 1) := by decide +kernel
theorem dX4_lacking_17 : decode cX4_lacking 17 = .ok (.aload_n 0, 1) := by decide +kernel
theorem dX4_lacking_18 : decode cX4_lacking 18 = .ok (.getfield 74, 3) := by decide +kernel
theorem dX4_lacking_21 : decode cX4_lacking 21 = .ok (.ishl, 1) := by decide +kernel
theorem dX4_lacking_22 : decode cX4_lacking 22 = .ok (.iconst 1, 1) := by decide +kernel
theorem dX4_lacking_23 : decode cX4_lacking 23 = .ok (.isub, 1) := by decide +kernel
theorem dX4_lacking_24 : decode cX4_lacking 24 = .ok (.iload_n 1, 1) := by decide +kernel
theorem dX4_lacking_25 : decode cX4_lacking 25 = .ok (.invokevirtual 130, 3) := by decide +kernel
theorem dX4_lacking_28 : decode cX4_lacking 28 = .ok (.aload_n 0, 1) := by decide +kernel
theorem dX4_lacking_29 : decode cX4_lacking 29 = .ok (.getfield 91, 3) := by decide +kernel
theorem dX4_lacking_32 : decode cX4_lacking 32 = .ok (.if_icmp .ge 5, 3) := by decide +kernel
theorem dX4_lacking_35 : decode cX4_lacking 35 = .ok (.iload_n 1, 1) := by decide +kernel
theorem dX4_lacking_36 : decode cX4_lacking 36 = .ok (.ireturn, 1) := by decide +kernel
theorem dX4_lacking_37 : decode cX4_lacking 37 = .ok (.iinc 1 1, 3) := by decide +kernel
theorem dX4_lacking_40 : decode cX4_lacking 40 = .ok (.goto (-33), 3) := by decide +kernel
theorem dX4_lacking_43 : decode cX4_lacking 43 = .ok (.iconst (-1), 1) := by decide +kernel
theorem dX4_lacking_44 : decode cX4_lacking 44 = .ok (.ireturn, 1) := by decide +kernel
theorem dX4_pack_0 : decode cX4_pack 0 = .ok (.iload_n 1, 1) := by decide +kernel
theorem dX4_pack_1 : decode cX4_pack 1 = .ok (.istore_n 2, 1) := by decide +kernel
theorem dX4_pack_2 : decode cX4_pack 2 = .ok (.iload_n 2, 1) := by decide +kernel
theorem dX4_pack_3 : decode cX4_pack 3 = .ok (.ifCond .le 59, 3) := by decide +kernel
theorem dX4_pack_6 : decode cX4_pack 6 = .ok (.aload_n 0, 1) := by decide +kernel
theorem dX4_pack_7 : decode cX4_pack 7 = .ok (.getfield 62, 3) := by decide +kernel
theorem dX4_pack_10 : decode cX4_pack 10 = .ok (.iload_n 2, 1) := by decide +kernel
theorem dX4_pack_11 : decode cX4_pack 11 = .ok (.iconst 0, 1) := by decide +kernel
theorem dX4_pack_12 : decode cX4_pack 12 = .ok (.iastore, 1) := by decide +kernel
theorem dX4_pack_13 : decode cX4_pack 13 = .ok (.iconst 0, 1) := by decide +kernel
theorem dX4_pack_14 : decode cX4_pack 14 = .ok (.istore_n 3, 1) := by decide +kernel
theorem dX4_pack_15 : decode cX4_pack 15 = .ok (.iload_n 3, 1) := by decide +kernel
theorem dX4_pack_16 : decode cX4_pack 16 = .ok (.aload_n 0, 1) := by decide +kernel
theorem dX4_pack_17 : decode cX4_pack 17 = .ok (.getfield 74, 3) := by decide +kernel
theorem dX4_pack_20 : decode cX4_pack 20 = .ok (.if_icmp .ge 33, 3) := by decide +kernel
theorem dX4_pack_23 : decode cX4_pack 23 = .ok (.iload_n 2, 1) := by decide +kernel
theorem dX4_pack_24 : decode cX4_pack 24 = .ok (.iload_n 3, 1) := by decide +kernel
theorem dX4_pack_25 : decode cX4_pack 25 = .ok (.ishr, 1) := by decide +kernel
theorem dX4_pack_26 : decode cX4_pack 26 = .ok (.iconst 1, 1) := by decide +kernel
theorem dX4_pack_27 : decode cX4_pack 27 = .ok (.iand, 1) := by decide +kernel
theorem dX4_pack_28 : decode cX4_pack 28 = .ok (.iconst 1, 1) := by decide +kernel
theorem dX4_pack_29 : decode cX4_pack 29 = .ok (.if_icmp .ne 18, 3) := by decide +kernel
theorem dX4_pack_32 : decode cX4_pack 32 = .ok (.aload_n 0, 1) := by decide +kernel
theorem dX4_pack_33 : decode cX4_pack 33 = .ok (.getfield 62, 3) := by decide +kernel
theorem dX4_pack_36 : decode cX4_pack 36 = .ok (.iload_n 2, 1) := by decide +kernel
theorem dX4_pack_37 : decode cX4_pack 37 = .ok (.dup2, 1) := by decide +kernel
theorem dX4_pack_38 : decode cX4_pack 38 = .ok (.iaload, 1) := by decide +kernel
theorem dX4_pack_39 : decode cX4_pack 39 = .ok (.aload_n 0, 1) := by decide +kernel
theorem dX4_pack_40 : decode cX4_pack 40 = .ok (.getfield 22, 3) := by decide +kernel
theorem dX4_pack_43 : decode cX4_pack 43 = .ok (.iload_n 3, 1) := by decide +kernel
theorem dX4_pack_44 : decode cX4_pack 44 = .ok (.iaload, 1) := by decide +kernel
theorem dX4_pack_45 : decode cX4_pack 45 = .ok (.iadd, 1) := by decide +kernel
theorem dX4_pack_46 : decode cX4_pack 46 = .ok (.iastore, 1) := by decide +kernel
theorem dX4_pack_47 : decode cX4_pack 47 = .ok (.iinc 3 1, 3) := by decide +kernel
theorem dX4_pack_50 : decode cX4_pack 50 = .ok (.goto (-35), 3) := by decide +kernel
theorem dX4_pack_53 : decode cX4_pack 53 = .ok (.iload_n 2, 1) := by decide +kernel
theorem dX4_pack_54 : decode cX4_pack 54 = .ok (.iconst 1, 1) := by decide +kernel
theorem dX4_pack_55 : decode cX4_pack 55 = .ok (.isub, 1) := by decide +kernel
theorem dX4_pack_56 : decode cX4_pack 56 = .ok (.iload_n 1, 1) := by decide +kernel
theorem dX4_pack_57 : decode cX4_pack 57 = .ok (.iand, 1) := by decide +kernel
theorem dX4_pack_58 : decode cX4_pack 58 = .ok (.istore_n 2, 1) := by decide +kernel
theorem dX4_pack_59 : decode cX4_pack 59 = .ok (.goto (-57), 3) := by decide +kernel
theorem dX4_pack_62 : decode cX4_pack 62 = .ok (.aload_n 0, 1) := by decide +kernel
theorem dX4_pack_63 : decode cX4_pack 63 = .ok (.getfield 65, 3) := by decide +kernel
theorem dX4_pack_66 : decode cX4_pack 66 = .ok (.iconst 0, 1) := by decide +kernel
theorem dX4_pack_67 : decode cX4_pack 67 = .ok (.iconst 0, 1) := by decide +kernel
theorem dX4_pack_68 : decode cX4_pack 68 = .ok (.iastore, 1) := by decide +kernel
theorem dX4_pack_69 : decode cX4_pack 69 = .ok (.iload_n 1, 1) := by decide +kernel
theorem dX4_pack_70 : decode cX4_pack 70 = .ok (.ineg, 1) := by decide +kernel
theorem dX4_pack_71 : decode cX4_pack 71 = .ok (.iload_n 1, 1) := by decide +kernel
theorem dX4_pack_72 : decode cX4_pack 72 = .ok (.iand, 1) := by decide +kernel
theorem dX4_pack_73 : decode cX4_pack 73 = .ok (.istore_n 2, 1) := by decide +kernel
theorem dX4_pack_74 : decode cX4_pack 74 = .ok (.iload_n 2, 1) := by decide +kernel
theorem dX4_pack_75 : decode cX4_pack 75 = .ok (.ifCond .eq 95, 3) := by decide +kernel
theorem dX4_pack_78 : decode cX4_pack 78 = .ok (.aload_n 0, 1) := by decide +kernel
theorem dX4_pack_79 : decode cX4_pack 79 = .ok (.getfield 65, 3) := by decide +kernel
theorem dX4_pack_82 : decode cX4_pack 82 = .ok (.iload_n 2, 1) := by decide +kernel
theorem dX4_pack_83 : decode cX4_pack 83 = .ok (.bipush 15, 2) := by decide +kernel
theorem dX4_pack_85 : decode cX4_pack 85 = .ok (.iastore, 1) := by decide +kernel
theorem dX4_pack_86 : decode cX4_pack 86 = .ok (.iload_n 2, 1) := by decide +kernel
theorem dX4_pack_87 : decode cX4_pack 87 = .ok (.iload_n 2, 1) := by decide +kernel
theorem dX4_pack_88 : decode cX4_pack 88 = .ok (.ineg, 1) := by decide +kernel
theorem dX4_pack_89 : decode cX4_pack 89 = .ok (.iand, 1) := by decide +kernel
theorem dX4_pack_90 : decode cX4_pack 90 = .ok (.istore_n 3, 1) := by decide +kernel
theorem dX4_pack_91 : decode cX4_pack 91 = .ok (.iload_n 2, 1) := by decide +kernel
theorem dX4_pack_92 : decode cX4_pack 92 = .ok (.iload_n 3, 1) := by decide +kernel
theorem dX4_pack_93 : decode cX4_pack 93 = .ok (.ixor, 1) := by decide +kernel
theorem dX4_pack_94 : decode cX4_pack 94 = .ok (.istore 4, 2) := by decide +kernel
theorem dX4_pack_96 : decode cX4_pack 96 = .ok (.iload 4, 2) := by decide +kernel
theorem dX4_pack_98 : decode cX4_pack 98 = .ok (.istore 5, 2) := by decide +kernel
theorem dX4_pack_100 : decode cX4_pack 100 = .ok (.aload_n 0, 1) := by decide +kernel
theorem dX4_pack_101 : decode cX4_pack 101 = .ok (.getfield 62, 3) := by decide +kernel
theorem dX4_pack_104 : decode cX4_pack 104 = .ok (.iload 5, 2) := by decide +kernel
theorem dX4_pack_106 : decode cX4_pack 106 = .ok (.iload_n 3, 1) := by decide +kernel
theorem dX4_pack_107 : decode cX4_pack 107 = .ok (.ior, 1) := by decide +kernel
theorem dX4_pack_108 : decode cX4_pack 108 = .ok (.iaload, 1) := by decide +kernel
theorem dX4_pack_109 : decode cX4_pack 109 = .ok (.bipush 12, 2) := by decide +kernel
theorem dX4_pack_111 : decode cX4_pack 111 = .ok (.if_icmp .gt 30, 3) := by decide +kernel
theorem dX4_pack_114 : decode cX4_pack 114 = .ok (.aload_n 0, 1) := by decide +kernel
theorem dX4_pack_115 : decode cX4_pack 115 = .ok (.getfield 65, 3) := by decide +kernel
theorem dX4_pack_118 : decode cX4_pack 118 = .ok (.iload_n 2, 1) := by decide +kernel
theorem dX4_pack_119 : decode cX4_pack 119 = .ok (.aload_n 0, 1) := by decide +kernel
theorem dX4_pack_120 : decode cX4_pack 120 = .ok (.getfield 65, 3) := by decide +kernel
theorem dX4_pack_123 : decode cX4_pack 123 = .ok (.iload_n 2, 1) := by decide +kernel
theorem dX4_pack_124 : decode cX4_pack 124 = .ok (.iaload, 1) := by decide +kernel
theorem dX4_pack_125 : decode cX4_pack 125 = .ok (.iconst 1, 1) := by decide +kernel
theorem dX4_pack_126 : decode cX4_pack 126 = .ok (.aload_n 0, 1) := by decide +kernel
theorem dX4_pack_127 : decode cX4_pack 127 = .ok (.getfield 65, 3) := by decide +kernel
theorem dX4_pack_130 : decode cX4_pack 130 = .ok (.iload 4, 2) := by decide +kernel
theorem dX4_pack_132 : decode cX4_pack 132 = .ok (.iload 5, 2) := by decide +kernel
theorem dX4_pack_134 : decode cX4_pack 134 = .ok (.ixor, 1) := by decide +kernel
theorem dX4_pack_135 : decode cX4_pack 135 = .ok (.iaload, 1) := by decide +kernel
theorem dX4_pack_136 : decode cX4_pack 136 = .ok (.iadd, 1) := by decide +kernel
theorem dX4_pack_137 : decode cX4_pack 137 = .ok (.invokestatic 156, 3) := by decide +kernel
theorem dX4_pack_140 : decode cX4_pack 140 = .ok (.iastore, 1) := by decide +kernel
theorem dX4_pack_141 : decode cX4_pack 141 = .ok (.iload 5, 2) := by decide +kernel
theorem dX4_pack_143 : decode cX4_pack 143 = .ok (.ifCond .ne 6, 3) := by decide +kernel
theorem dX4_pack_146 : decode cX4_pack 146 = .ok (.goto 15, 3) := by decide +kernel
theorem dX4_pack_149 : decode cX4_pack 149 = .ok (.iload 5, 2) := by decide +kernel
theorem dX4_pack_151 : decode cX4_pack 151 = .ok (.iconst 1, 1) := by decide +kernel
theorem dX4_pack_152 : decode cX4_pack 152 = .ok (.isub, 1) := by decide +kernel
theorem dX4_pack_153 : decode cX4_pack 153 = .ok (.iload 4, 2) := by decide +kernel
theorem dX4_pack_155 : decode cX4_pack 155 = .ok (.iand, 1) := by decide +kernel
theorem dX4_pack_156 : decode cX4_pack 156 = .ok (.istore 5, 2) := by decide +kernel
theorem dX4_pack_158 : decode cX4_pack 158 = .ok (.goto (-58), 3) := by decide +kernel
theorem dX4_pack_161 : decode cX4_pack 161 = .ok (.iload_n 2, 1) := by decide +kernel
theorem dX4_pack_162 : decode cX4_pack 162 = .ok (.iload_n 1, 1) := by decide +kernel
theorem dX4_pack_163 : decode cX4_pack 163 = .ok (.isub, 1) := by decide +kernel
theorem dX4_pack_164 : decode cX4_pack 164 = .ok (.iload_n 1, 1) := by decide +kernel
theorem dX4_pack_165 : decode cX4_pack 165 = .ok (.iand, 1) := by decide +kernel
theorem dX4_pack_166 : decode cX4_pack 166 = .ok (.istore_n 2, 1) := by decide +kernel
theorem dX4_pack_167 : decode cX4_pack 167 = .ok (.goto (-93), 3) := by decide +kernel
theorem dX4_pack_170 : decode cX4_pack 170 = .ok (.return_, 1) := by decide +kernel
set_option maxRecDepth 20000 in
theorem ggX4_fewest_X4_pack : GoodIn wsX4_fewest wsX4_pack := goodIn_r _ [8, 9, 10, 11, 3, 12, 13, 14, 15, 16, 17, 18, 19, 20, 21, 22, 23, 24, 25, 26, 27, 28, 29, 30, 31, 32, 33, 34, 35, 36, 37, 38, 39, 40, 41, 42] (by decide +kernel) (by decide +kernel)
set_option maxRecDepth 20000 in
theorem gX4_fewest_X4_pack : GoodIn wsX4_fewest (wsV RX4 161 RX4 yX4_pack wsX4_pack) := goodIn_app (goodIn_of _ (by decide +kernel)) ggX4_fewest_X4_pack
theorem dX4_fewest_0 : decode cX4_fewest 0 = .ok (.aload_n 0, 1) := by decide +kernel
theorem dX4_fewest_1 : decode cX4_fewest 1 = .ok (.iconst 0, 1) := by decide +kernel
theorem dX4_fewest_2 : decode cX4_fewest 2 = .ok (.putfield 71, 3) := by decide +kernel
theorem dX4_fewest_5 : decode cX4_fewest 5 = .ok (.aload_n 0, 1) := by decide +kernel
theorem dX4_fewest_6 : decode cX4_fewest 6 = .ok (.aload_n 0, 1) := by decide +kernel
theorem dX4_fewest_7 : decode cX4_fewest 7 = .ok (.getfield 108, 3) := by decide +kernel
theorem dX4_fewest_10 : decode cX4_fewest 10 = .ok (.invokevirtual 161, 3) := by decide +kernel
theorem dX4_fewest_13 : decode cX4_fewest 13 = .ok (.aload_n 0, 1) := by decide +kernel
theorem dX4_fewest_14 : decode cX4_fewest 14 = .ok (.getfield 65, 3) := by decide +kernel
theorem dX4_fewest_17 : decode cX4_fewest 17 = .ok (.aload_n 0, 1) := by decide +kernel
theorem dX4_fewest_18 : decode cX4_fewest 18 = .ok (.getfield 108, 3) := by decide +kernel
theorem dX4_fewest_21 : decode cX4_fewest 21 = .ok (.iaload, 1) := by decide +kernel
theorem dX4_fewest_22 : decode cX4_fewest 22 = .ok (.ireturn, 1) := by decide +kernel
set_option maxRecDepth 20000 in
theorem ggX4_layAll_X4_pack : GoodIn wsX4_layAll wsX4_pack := goodIn_r _ [8, 1, 9, 10, 2, 11, 12, 13, 14, 15, 16, 17, 18, 19, 20, 21, 22, 23, 24, 25, 26, 27, 28, 29, 30, 31, 32, 33, 34, 35, 36, 37, 38, 39, 40, 41] (by decide +kernel) (by decide +kernel)
set_option maxRecDepth 20000 in
theorem gX4_layAll_X4_pack : GoodIn wsX4_layAll (wsV RX4 161 RX4 yX4_pack wsX4_pack) := goodIn_app (goodIn_of _ (by decide +kernel)) ggX4_layAll_X4_pack
theorem dX4_layAll_0 : decode cX4_layAll 0 = .ok (.aload_n 0, 1) := by decide +kernel
theorem dX4_layAll_1 : decode cX4_layAll 1 = .ok (.iload_n 1, 1) := by decide +kernel
theorem dX4_layAll_2 : decode cX4_layAll 2 = .ok (.invokevirtual 161, 3) := by decide +kernel
theorem dX4_layAll_5 : decode cX4_layAll 5 = .ok (.iload_n 1, 1) := by decide +kernel
theorem dX4_layAll_6 : decode cX4_layAll 6 = .ok (.istore_n 2, 1) := by decide +kernel
theorem dX4_layAll_7 : decode cX4_layAll 7 = .ok (.iconst 0, 1) := by decide +kernel
theorem dX4_layAll_8 : decode cX4_layAll 8 = .ok (.istore_n 3, 1) := by decide +kernel
theorem dX4_layAll_9 : decode cX4_layAll 9 = .ok (.iload_n 2, 1) := by decide +kernel
theorem dX4_layAll_10 : decode cX4_layAll 10 = .ok (.ifCond .eq 163, 3) := by decide +kernel
theorem dX4_layAll_13 : decode cX4_layAll 13 = .ok (.iload_n 2, 1) := by decide +kernel
theorem dX4_layAll_14 : decode cX4_layAll 14 = .ok (.iload_n 2, 1) := by decide +kernel
theorem dX4_layAll_15 : decode cX4_layAll 15 = .ok (.ineg, 1) := by decide +kernel
theorem dX4_layAll_16 : decode cX4_layAll 16 = .ok (.iand, 1) := by decide +kernel
theorem dX4_layAll_17 : decode cX4_layAll 17 = .ok (.istore 4, 2) := by decide +kernel
theorem dX4_layAll_19 : decode cX4_layAll 19 = .ok (.iload_n 2, 1) := by decide +kernel
theorem dX4_layAll_20 : decode cX4_layAll 20 = .ok (.iload 4, 2) := by decide +kernel
theorem dX4_layAll_22 : decode cX4_layAll 22 = .ok (.ixor, 1) := by decide +kernel
theorem dX4_layAll_23 : decode cX4_layAll 23 = .ok (.istore 5, 2) := by decide +kernel
theorem dX4_layAll_25 : decode cX4_layAll 25 = .ok (.iconst (-1), 1) := by decide +kernel
theorem dX4_layAll_26 : decode cX4_layAll 26 = .ok (.istore 6, 2) := by decide +kernel
theorem dX4_layAll_28 : decode cX4_layAll 28 = .ok (.iload 5, 2) := by decide +kernel
theorem dX4_layAll_30 : decode cX4_layAll 30 = .ok (.istore 7, 2) := by decide +kernel
theorem dX4_layAll_32 : decode cX4_layAll 32 = .ok (.iload 7, 2) := by decide +kernel
theorem dX4_layAll_34 : decode cX4_layAll 34 = .ok (.iload 4, 2) := by decide +kernel
theorem dX4_layAll_36 : decode cX4_layAll 36 = .ok (.ior, 1) := by decide +kernel
theorem dX4_layAll_37 : decode cX4_layAll 37 = .ok (.istore 8, 2) := by decide +kernel
theorem dX4_layAll_39 : decode cX4_layAll 39 = .ok (.aload_n 0, 1) := by decide +kernel
theorem dX4_layAll_40 : decode cX4_layAll 40 = .ok (.getfield 62, 3) := by decide +kernel
theorem dX4_layAll_43 : decode cX4_layAll 43 = .ok (.iload 8, 2) := by decide +kernel
theorem dX4_layAll_45 : decode cX4_layAll 45 = .ok (.iaload, 1) := by decide +kernel
theorem dX4_layAll_46 : decode cX4_layAll 46 = .ok (.bipush 12, 2) := by decide +kernel
theorem dX4_layAll_48 : decode cX4_layAll 48 = .ok (.if_icmp .gt 27, 3) := by decide +kernel
theorem dX4_layAll_51 : decode cX4_layAll 51 = .ok (.aload_n 0, 1) := by decide +kernel
theorem dX4_layAll_52 : decode cX4_layAll 52 = .ok (.getfield 65, 3) := by decide +kernel
theorem dX4_layAll_55 : decode cX4_layAll 55 = .ok (.iload_n 2, 1) := by decide +kernel
theorem dX4_layAll_56 : decode cX4_layAll 56 = .ok (.iload 8, 2) := by decide +kernel
theorem dX4_layAll_58 : decode cX4_layAll 58 = .ok (.ixor, 1) := by decide +kernel
theorem dX4_layAll_59 : decode cX4_layAll 59 = .ok (.iaload, 1) := by decide +kernel
theorem dX4_layAll_60 : decode cX4_layAll 60 = .ok (.aload_n 0, 1) := by decide +kernel
theorem dX4_layAll_61 : decode cX4_layAll 61 = .ok (.getfield 65, 3) := by decide +kernel
theorem dX4_layAll_64 : decode cX4_layAll 64 = .ok (.iload_n 2, 1) := by decide +kernel
theorem dX4_layAll_65 : decode cX4_layAll 65 = .ok (.iaload, 1) := by decide +kernel
theorem dX4_layAll_66 : decode cX4_layAll 66 = .ok (.iconst 1, 1) := by decide +kernel
theorem dX4_layAll_67 : decode cX4_layAll 67 = .ok (.isub, 1) := by decide +kernel
theorem dX4_layAll_68 : decode cX4_layAll 68 = .ok (.if_icmp .ne 7, 3) := by decide +kernel
theorem dX4_layAll_71 : decode cX4_layAll 71 = .ok (.iconst 1, 1) := by decide +kernel
theorem dX4_layAll_72 : decode cX4_layAll 72 = .ok (.goto 4, 3) := by decide +kernel
theorem dX4_layAll_75 : decode cX4_layAll 75 = .ok (.iconst 0, 1) := by decide +kernel
theorem dX4_layAll_76 : decode cX4_layAll 76 = .ok (.istore 9, 2) := by decide +kernel
theorem dX4_layAll_78 : decode cX4_layAll 78 = .ok (.iload 9, 2) := by decide +kernel
theorem dX4_layAll_80 : decode cX4_layAll 80 = .ok (.ifCond .eq 54, 3) := by decide +kernel
theorem dX4_layAll_83 : decode cX4_layAll 83 = .ok (.iload 6, 2) := by decide +kernel
theorem dX4_layAll_85 : decode cX4_layAll 85 = .ok (.iconst (-1), 1) := by decide +kernel
theorem dX4_layAll_86 : decode cX4_layAll 86 = .ok (.if_icmp .eq 44, 3) := by decide +kernel
theorem dX4_layAll_89 : decode cX4_layAll 89 = .ok (.aload_n 0, 1) := by decide +kernel
theorem dX4_layAll_90 : decode cX4_layAll 90 = .ok (.getfield 62, 3) := by decide +kernel
theorem dX4_layAll_93 : decode cX4_layAll 93 = .ok (.iload 8, 2) := by decide +kernel
theorem dX4_layAll_95 : decode cX4_layAll 95 = .ok (.iaload, 1) := by decide +kernel
theorem dX4_layAll_96 : decode cX4_layAll 96 = .ok (.aload_n 0, 1) := by decide +kernel
theorem dX4_layAll_97 : decode cX4_layAll 97 = .ok (.getfield 62, 3) := by decide +kernel
theorem dX4_layAll_100 : decode cX4_layAll 100 = .ok (.iload 6, 2) := by decide +kernel
theorem dX4_layAll_102 : decode cX4_layAll 102 = .ok (.iaload, 1) := by decide +kernel
theorem dX4_layAll_103 : decode cX4_layAll 103 = .ok (.if_icmp .gt 27, 3) := by decide +kernel
theorem dX4_layAll_106 : decode cX4_layAll 106 = .ok (.aload_n 0, 1) := by decide +kernel
theorem dX4_layAll_107 : decode cX4_layAll 107 = .ok (.getfield 62, 3) := by decide +kernel
theorem dX4_layAll_110 : decode cX4_layAll 110 = .ok (.iload 8, 2) := by decide +kernel
theorem dX4_layAll_112 : decode cX4_layAll 112 = .ok (.iaload, 1) := by decide +kernel
theorem dX4_layAll_113 : decode cX4_layAll 113 = .ok (.aload_n 0, 1) := by decide +kernel
theorem dX4_layAll_114 : decode cX4_layAll 114 = .ok (.getfield 62, 3) := by decide +kernel
theorem dX4_layAll_117 : decode cX4_layAll 117 = .ok (.iload 6, 2) := by decide +kernel
theorem dX4_layAll_119 : decode cX4_layAll 119 = .ok (.iaload, 1) := by decide +kernel
theorem dX4_layAll_120 : decode cX4_layAll 120 = .ok (.if_icmp .ne 14, 3) := by decide +kernel
theorem dX4_layAll_123 : decode cX4_layAll 123 = .ok (.iload 8, 2) := by decide +kernel
theorem dX4_layAll_125 : decode cX4_layAll 125 = .ok (.iload 6, 2) := by decide +kernel
theorem dX4_layAll_127 : decode cX4_layAll 127 = .ok (.if_icmp .ge 7, 3) := by decide +kernel
theorem dX4_layAll_130 : decode cX4_layAll 130 = .ok (.iload 8, 2) := by decide +kernel
theorem dX4_layAll_132 : decode cX4_layAll 132 = .ok (.istore 6, 2) := by decide +kernel
theorem dX4_layAll_134 : decode cX4_layAll 134 = .ok (.iload 7, 2) := by decide +kernel
theorem dX4_layAll_136 : decode cX4_layAll 136 = .ok (.ifCond .ne 6, 3) := by decide +kernel
theorem dX4_layAll_139 : decode cX4_layAll 139 = .ok (.goto 15, 3) := by decide +kernel
theorem dX4_layAll_142 : decode cX4_layAll 142 = .ok (.iload 7, 2) := by decide +kernel
theorem dX4_layAll_144 : decode cX4_layAll 144 = .ok (.iconst 1, 1) := by decide +kernel
theorem dX4_layAll_145 : decode cX4_layAll 145 = .ok (.isub, 1) := by decide +kernel
theorem dX4_layAll_146 : decode cX4_layAll 146 = .ok (.iload 5, 2) := by decide +kernel
theorem dX4_layAll_148 : decode cX4_layAll 148 = .ok (.iand, 1) := by decide +kernel
theorem dX4_layAll_149 : decode cX4_layAll 149 = .ok (.istore 7, 2) := by decide +kernel
theorem dX4_layAll_151 : decode cX4_layAll 151 = .ok (.goto (-119), 3) := by decide +kernel
theorem dX4_layAll_154 : decode cX4_layAll 154 = .ok (.aload_n 0, 1) := by decide +kernel
theorem dX4_layAll_155 : decode cX4_layAll 155 = .ok (.getfield 68, 3) := by decide +kernel
theorem dX4_layAll_158 : decode cX4_layAll 158 = .ok (.iload_n 3, 1) := by decide +kernel
theorem dX4_layAll_159 : decode cX4_layAll 159 = .ok (.iload 6, 2) := by decide +kernel
theorem dX4_layAll_161 : decode cX4_layAll 161 = .ok (.iastore, 1) := by decide +kernel
theorem dX4_layAll_162 : decode cX4_layAll 162 = .ok (.iinc 3 1, 3) := by decide +kernel
theorem dX4_layAll_165 : decode cX4_layAll 165 = .ok (.iload_n 2, 1) := by decide +kernel
theorem dX4_layAll_166 : decode cX4_layAll 166 = .ok (.iload 6, 2) := by decide +kernel
theorem dX4_layAll_168 : decode cX4_layAll 168 = .ok (.ixor, 1) := by decide +kernel
theorem dX4_layAll_169 : decode cX4_layAll 169 = .ok (.istore_n 2, 1) := by decide +kernel
theorem dX4_layAll_170 : decode cX4_layAll 170 = .ok (.goto (-161), 3) := by decide +kernel
theorem dX4_layAll_173 : decode cX4_layAll 173 = .ok (.iload_n 3, 1) := by decide +kernel
theorem dX4_layAll_174 : decode cX4_layAll 174 = .ok (.ireturn, 1) := by decide +kernel
set_option maxRecDepth 20000 in
theorem ggX4_lay_X4_pack : GoodIn wsX4_lay wsX4_pack := goodIn_r _ [12, 13, 14, 15, 3, 16, 17, 18, 19, 24, 25, 26, 27, 28, 29, 30, 31, 32, 33, 34, 35, 36, 37, 38, 39, 40, 41, 42, 43, 44, 45, 46, 47, 48, 49, 50] (by decide +kernel) (by decide +kernel)
set_option maxRecDepth 20000 in
theorem gX4_lay_X4_pack : GoodIn wsX4_lay (wsV RX4 161 RX4 yX4_pack wsX4_pack) := goodIn_app (goodIn_of _ (by decide +kernel)) ggX4_lay_X4_pack
set_option maxRecDepth 20000 in
theorem ggX4_lay_X4_layAll : GoodIn wsX4_lay wsX4_layAll := goodIn_r _ [23, 13, 3, 7, 8, 9, 10, 11, 12, 14, 15, 16, 17, 18, 19, 24, 25, 26, 27, 28, 29, 30, 31, 32, 33, 34, 35, 36, 37, 38, 39, 40, 41, 42, 43, 44, 45, 46, 47, 48, 49, 50] (by decide +kernel) (by decide +kernel)
set_option maxRecDepth 20000 in
theorem gX4_lay_X4_layAll : GoodIn wsX4_lay (wsV RX4 165 RX4 yX4_layAll wsX4_layAll) := goodIn_app (goodIn_of _ (by decide +kernel)) ggX4_lay_X4_layAll
theorem dX4_lay_0 : decode cX4_lay 0 = .ok (.aload_n 0, 1) := by decide +kernel
theorem dX4_lay_1 : decode cX4_lay 1 = .ok (.iconst 0, 1) := by decide +kernel
theorem dX4_lay_2 : decode cX4_lay 2 = .ok (.putfield 71, 3) := by decide +kernel
theorem dX4_lay_5 : decode cX4_lay 5 = .ok (.aload_n 0, 1) := by decide +kernel
theorem dX4_lay_6 : decode cX4_lay 6 = .ok (.aload_n 0, 1) := by decide +kernel
theorem dX4_lay_7 : decode cX4_lay 7 = .ok (.getfield 108, 3) := by decide +kernel
theorem dX4_lay_10 : decode cX4_lay 10 = .ok (.invokevirtual 161, 3) := by decide +kernel
theorem dX4_lay_13 : decode cX4_lay 13 = .ok (.aload_n 0, 1) := by decide +kernel
theorem dX4_lay_14 : decode cX4_lay 14 = .ok (.getfield 65, 3) := by decide +kernel
theorem dX4_lay_17 : decode cX4_lay 17 = .ok (.aload_n 0, 1) := by decide +kernel
theorem dX4_lay_18 : decode cX4_lay 18 = .ok (.getfield 108, 3) := by decide +kernel
theorem dX4_lay_21 : decode cX4_lay 21 = .ok (.iaload, 1) := by decide +kernel
theorem dX4_lay_22 : decode cX4_lay 22 = .ok (.aload_n 0, 1) := by decide +kernel
theorem dX4_lay_23 : decode cX4_lay 23 = .ok (.getfield 47, 3) := by decide +kernel
theorem dX4_lay_26 : decode cX4_lay 26 = .ok (.if_icmp .le 5, 3) := by decide +kernel
theorem dX4_lay_29 : decode cX4_lay 29 = .ok (.iconst (-1), 1) := by decide +kernel
theorem dX4_lay_30 : decode cX4_lay 30 = .ok (.ireturn, 1) := by decide +kernel
theorem dX4_lay_31 : decode cX4_lay 31 = .ok (.aload_n 0, 1) := by decide +kernel
theorem dX4_lay_32 : decode cX4_lay 32 = .ok (.aload_n 0, 1) := by decide +kernel
theorem dX4_lay_33 : decode cX4_lay 33 = .ok (.aload_n 0, 1) := by decide +kernel
theorem dX4_lay_34 : decode cX4_lay 34 = .ok (.getfield 108, 3) := by decide +kernel
theorem dX4_lay_37 : decode cX4_lay 37 = .ok (.invokevirtual 165, 3) := by decide +kernel
theorem dX4_lay_40 : decode cX4_lay 40 = .ok (.putfield 114, 3) := by decide +kernel
theorem dX4_lay_43 : decode cX4_lay 43 = .ok (.iconst 0, 1) := by decide +kernel
theorem dX4_lay_44 : decode cX4_lay 44 = .ok (.istore_n 1, 1) := by decide +kernel
theorem dX4_lay_45 : decode cX4_lay 45 = .ok (.iload_n 1, 1) := by decide +kernel
theorem dX4_lay_46 : decode cX4_lay 46 = .ok (.aload_n 0, 1) := by decide +kernel
theorem dX4_lay_47 : decode cX4_lay 47 = .ok (.getfield 114, 3) := by decide +kernel
theorem dX4_lay_50 : decode cX4_lay 50 = .ok (.if_icmp .ge 21, 3) := by decide +kernel
theorem dX4_lay_53 : decode cX4_lay 53 = .ok (.aload_n 0, 1) := by decide +kernel
theorem dX4_lay_54 : decode cX4_lay 54 = .ok (.getfield 50, 3) := by decide +kernel
theorem dX4_lay_57 : decode cX4_lay 57 = .ok (.iload_n 1, 1) := by decide +kernel
theorem dX4_lay_58 : decode cX4_lay 58 = .ok (.aload_n 0, 1) := by decide +kernel
theorem dX4_lay_59 : decode cX4_lay 59 = .ok (.getfield 68, 3) := by decide +kernel
theorem dX4_lay_62 : decode cX4_lay 62 = .ok (.iload_n 1, 1) := by decide +kernel
theorem dX4_lay_63 : decode cX4_lay 63 = .ok (.iaload, 1) := by decide +kernel
theorem dX4_lay_64 : decode cX4_lay 64 = .ok (.iastore, 1) := by decide +kernel
theorem dX4_lay_65 : decode cX4_lay 65 = .ok (.iinc 1 1, 3) := by decide +kernel
theorem dX4_lay_68 : decode cX4_lay 68 = .ok (.goto (-23), 3) := by decide +kernel
theorem dX4_lay_71 : decode cX4_lay 71 = .ok (.aload_n 0, 1) := by decide +kernel
theorem dX4_lay_72 : decode cX4_lay 72 = .ok (.getfield 114, 3) := by decide +kernel
theorem dX4_lay_75 : decode cX4_lay 75 = .ok (.ireturn, 1) := by decide +kernel
set_option maxRecDepth 20000 in
theorem ggX4_page_X4_in : GoodIn wsX4_page wsX4_in := goodIn_r _ [7] (by decide +kernel) (by decide +kernel)
set_option maxRecDepth 20000 in
theorem gX4_page_X4_in : GoodIn wsX4_page (va_wsS RX4 77 yX4_in wsX4_in) := goodIn_app (goodIn_of _ (by decide +kernel)) ggX4_page_X4_in
theorem dX4_page_0 : decode cX4_page 0 = .ok (.aload_n 0, 1) := by decide +kernel
theorem dX4_page_1 : decode cX4_page 1 = .ok (.iconst 0, 1) := by decide +kernel
theorem dX4_page_2 : decode cX4_page 2 = .ok (.putfield 71, 3) := by decide +kernel
theorem dX4_page_5 : decode cX4_page 5 = .ok (.iload_n 1, 1) := by decide +kernel
theorem dX4_page_6 : decode cX4_page 6 = .ok (.iconst 0, 1) := by decide +kernel
theorem dX4_page_7 : decode cX4_page 7 = .ok (.aload_n 0, 1) := by decide +kernel
theorem dX4_page_8 : decode cX4_page 8 = .ok (.getfield 114, 3) := by decide +kernel
theorem dX4_page_11 : decode cX4_page 11 = .ok (.iconst 1, 1) := by decide +kernel
theorem dX4_page_12 : decode cX4_page 12 = .ok (.isub, 1) := by decide +kernel
theorem dX4_page_13 : decode cX4_page 13 = .ok (.invokestatic 77, 3) := by decide +kernel
theorem dX4_page_16 : decode cX4_page 16 = .ok (.ifCond .eq 12, 3) := by decide +kernel
theorem dX4_page_19 : decode cX4_page 19 = .ok (.aload_n 0, 1) := by decide +kernel
theorem dX4_page_20 : decode cX4_page 20 = .ok (.getfield 50, 3) := by decide +kernel
theorem dX4_page_23 : decode cX4_page 23 = .ok (.iload_n 1, 1) := by decide +kernel
theorem dX4_page_24 : decode cX4_page 24 = .ok (.iaload, 1) := by decide +kernel
theorem dX4_page_25 : decode cX4_page 25 = .ok (.goto 4, 3) := by decide +kernel
theorem dX4_page_28 : decode cX4_page 28 = .ok (.iconst (-1), 1) := by decide +kernel
theorem dX4_page_29 : decode cX4_page 29 = .ok (.ireturn, 1) := by decide +kernel
theorem dX4_pointsOf_0 : decode cX4_pointsOf 0 = .ok (.iconst 0, 1) := by decide +kernel
theorem dX4_pointsOf_1 : decode cX4_pointsOf 1 = .ok (.istore_n 2, 1) := by decide +kernel
theorem dX4_pointsOf_2 : decode cX4_pointsOf 2 = .ok (.iconst 0, 1) := by decide +kernel
theorem dX4_pointsOf_3 : decode cX4_pointsOf 3 = .ok (.istore_n 3, 1) := by decide +kernel
theorem dX4_pointsOf_4 : decode cX4_pointsOf 4 = .ok (.iload_n 3, 1) := by decide +kernel
theorem dX4_pointsOf_5 : decode cX4_pointsOf 5 = .ok (.aload_n 0, 1) := by decide +kernel
theorem dX4_pointsOf_6 : decode cX4_pointsOf 6 = .ok (.getfield 74, 3) := by decide +kernel
theorem dX4_pointsOf_9 : decode cX4_pointsOf 9 = .ok (.if_icmp .ge 27, 3) := by decide +kernel
theorem dX4_pointsOf_12 : decode cX4_pointsOf 12 = .ok (.iload_n 1, 1) := by decide +kernel
theorem dX4_pointsOf_13 : decode cX4_pointsOf 13 = .ok (.iload_n 3, 1) := by decide +kernel
theorem dX4_pointsOf_14 : decode cX4_pointsOf 14 = .ok (.ishr, 1) := by decide +kernel
theorem dX4_pointsOf_15 : decode cX4_pointsOf 15 = .ok (.iconst 1, 1) := by decide +kernel
theorem dX4_pointsOf_16 : decode cX4_pointsOf 16 = .ok (.iand, 1) := by decide +kernel
theorem dX4_pointsOf_17 : decode cX4_pointsOf 17 = .ok (.iconst 1, 1) := by decide +kernel
theorem dX4_pointsOf_18 : decode cX4_pointsOf 18 = .ok (.if_icmp .ne 12, 3) := by decide +kernel
theorem dX4_pointsOf_21 : decode cX4_pointsOf 21 = .ok (.iload_n 2, 1) := by decide +kernel
theorem dX4_pointsOf_22 : decode cX4_pointsOf 22 = .ok (.aload_n 0, 1) := by decide +kernel
theorem dX4_pointsOf_23 : decode cX4_pointsOf 23 = .ok (.getfield 22, 3) := by decide +kernel
theorem dX4_pointsOf_26 : decode cX4_pointsOf 26 = .ok (.iload_n 3, 1) := by decide +kernel
theorem dX4_pointsOf_27 : decode cX4_pointsOf 27 = .ok (.iaload, 1) := by decide +kernel
theorem dX4_pointsOf_28 : decode cX4_pointsOf 28 = .ok (.iadd, 1) := by decide +kernel
theorem dX4_pointsOf_29 : decode cX4_pointsOf 29 = .ok (.istore_n 2, 1) := by decide +kernel
theorem dX4_pointsOf_30 : decode cX4_pointsOf 30 = .ok (.iinc 3 1, 3) := by decide +kernel
theorem dX4_pointsOf_33 : decode cX4_pointsOf 33 = .ok (.goto (-29), 3) := by decide +kernel
theorem dX4_pointsOf_36 : decode cX4_pointsOf 36 = .ok (.iload_n 2, 1) := by decide +kernel
theorem dX4_pointsOf_37 : decode cX4_pointsOf 37 = .ok (.ireturn, 1) := by decide +kernel
set_option maxRecDepth 20000 in
theorem ggX4_left_X4_in : GoodIn wsX4_left wsX4_in := goodIn_r _ [7] (by decide +kernel) (by decide +kernel)
set_option maxRecDepth 20000 in
theorem gX4_left_X4_in : GoodIn wsX4_left (va_wsS RX4 77 yX4_in wsX4_in) := goodIn_app (goodIn_of _ (by decide +kernel)) ggX4_left_X4_in
set_option maxRecDepth 20000 in
theorem ggX4_left_X4_pointsOf : GoodIn wsX4_left wsX4_pointsOf := goodIn_r _ [11, 12, 13, 14, 15, 16, 17, 18, 19, 20, 21, 22, 23, 24, 25, 26, 27, 28, 29, 30, 31, 32, 33, 34, 35, 36, 37, 38, 39, 40] (by decide +kernel) (by decide +kernel)
set_option maxRecDepth 20000 in
theorem gX4_left_X4_pointsOf : GoodIn wsX4_left (wsV RX4 168 RX4 yX4_pointsOf wsX4_pointsOf) := goodIn_app (goodIn_of _ (by decide +kernel)) ggX4_left_X4_pointsOf
theorem dX4_left_0 : decode cX4_left 0 = .ok (.aload_n 0, 1) := by decide +kernel
theorem dX4_left_1 : decode cX4_left 1 = .ok (.iconst 0, 1) := by decide +kernel
theorem dX4_left_2 : decode cX4_left 2 = .ok (.putfield 71, 3) := by decide +kernel
theorem dX4_left_5 : decode cX4_left 5 = .ok (.iload_n 1, 1) := by decide +kernel
theorem dX4_left_6 : decode cX4_left 6 = .ok (.iconst 0, 1) := by decide +kernel
theorem dX4_left_7 : decode cX4_left 7 = .ok (.aload_n 0, 1) := by decide +kernel
theorem dX4_left_8 : decode cX4_left 8 = .ok (.getfield 114, 3) := by decide +kernel
theorem dX4_left_11 : decode cX4_left 11 = .ok (.iconst 1, 1) := by decide +kernel
theorem dX4_left_12 : decode cX4_left 12 = .ok (.isub, 1) := by decide +kernel
theorem dX4_left_13 : decode cX4_left 13 = .ok (.invokestatic 77, 3) := by decide +kernel
theorem dX4_left_16 : decode cX4_left 16 = .ok (.ifCond .eq 19, 3) := by decide +kernel
theorem dX4_left_19 : decode cX4_left 19 = .ok (.bipush 12, 2) := by decide +kernel
theorem dX4_left_21 : decode cX4_left 21 = .ok (.aload_n 0, 1) := by decide +kernel
theorem dX4_left_22 : decode cX4_left 22 = .ok (.aload_n 0, 1) := by decide +kernel
theorem dX4_left_23 : decode cX4_left 23 = .ok (.getfield 50, 3) := by decide +kernel
theorem dX4_left_26 : decode cX4_left 26 = .ok (.iload_n 1, 1) := by decide +kernel
theorem dX4_left_27 : decode cX4_left 27 = .ok (.iaload, 1) := by decide +kernel
theorem dX4_left_28 : decode cX4_left 28 = .ok (.invokevirtual 168, 3) := by decide +kernel
theorem dX4_left_31 : decode cX4_left 31 = .ok (.isub, 1) := by decide +kernel
theorem dX4_left_32 : decode cX4_left 32 = .ok (.goto 4, 3) := by decide +kernel
theorem dX4_left_35 : decode cX4_left 35 = .ok (.iconst (-1), 1) := by decide +kernel
theorem dX4_left_36 : decode cX4_left 36 = .ok (.ireturn, 1) := by decide +kernel
theorem dX4_on_0 : decode cX4_on 0 = .ok (.iconst 0, 1) := by decide +kernel
theorem dX4_on_1 : decode cX4_on 1 = .ok (.istore_n 2, 1) := by decide +kernel
theorem dX4_on_2 : decode cX4_on 2 = .ok (.iconst 0, 1) := by decide +kernel
theorem dX4_on_3 : decode cX4_on 3 = .ok (.istore_n 3, 1) := by decide +kernel
theorem dX4_on_4 : decode cX4_on 4 = .ok (.iload_n 3, 1) := by decide +kernel
theorem dX4_on_5 : decode cX4_on 5 = .ok (.aload_n 0, 1) := by decide +kernel
theorem dX4_on_6 : decode cX4_on 6 = .ok (.getfield 114, 3) := by decide +kernel
theorem dX4_on_9 : decode cX4_on 9 = .ok (.if_icmp .ge 27, 3) := by decide +kernel
theorem dX4_on_12 : decode cX4_on 12 = .ok (.iload_n 1, 1) := by decide +kernel
theorem dX4_on_13 : decode cX4_on 13 = .ok (.iload_n 3, 1) := by decide +kernel
theorem dX4_on_14 : decode cX4_on 14 = .ok (.ishr, 1) := by decide +kernel
theorem dX4_on_15 : decode cX4_on 15 = .ok (.iconst 1, 1) := by decide +kernel
theorem dX4_on_16 : decode cX4_on 16 = .ok (.iand, 1) := by decide +kernel
theorem dX4_on_17 : decode cX4_on 17 = .ok (.iconst 1, 1) := by decide +kernel
theorem dX4_on_18 : decode cX4_on 18 = .ok (.if_icmp .ne 12, 3) := by decide +kernel
theorem dX4_on_21 : decode cX4_on 21 = .ok (.iload_n 2, 1) := by decide +kernel
theorem dX4_on_22 : decode cX4_on 22 = .ok (.aload_n 0, 1) := by decide +kernel
theorem dX4_on_23 : decode cX4_on 23 = .ok (.getfield 50, 3) := by decide +kernel
theorem dX4_on_26 : decode cX4_on 26 = .ok (.iload_n 3, 1) := by decide +kernel
theorem dX4_on_27 : decode cX4_on 27 = .ok (.iaload, 1) := by decide +kernel
theorem dX4_on_28 : decode cX4_on 28 = .ok (.ior, 1) := by decide +kernel
theorem dX4_on_29 : decode cX4_on 29 = .ok (.istore_n 2, 1) := by decide +kernel
theorem dX4_on_30 : decode cX4_on 30 = .ok (.iinc 3 1, 3) := by decide +kernel
theorem dX4_on_33 : decode cX4_on 33 = .ok (.goto (-29), 3) := by decide +kernel
theorem dX4_on_36 : decode cX4_on 36 = .ok (.iload_n 2, 1) := by decide +kernel
theorem dX4_on_37 : decode cX4_on 37 = .ok (.ireturn, 1) := by decide +kernel
set_option maxRecDepth 20000 in
theorem ggX4_late_X4_isPicture : GoodIn wsX4_late wsX4_isPicture := goodIn_r _ [12, 13, 14, 15, 11, 16, 42, 43, 44, 45, 46, 47, 48, 49, 50, 51, 52, 53, 54, 55, 56, 57, 58, 59, 60, 61, 62, 63, 64, 65, 66, 67, 68] (by decide +kernel) (by decide +kernel)
set_option maxRecDepth 20000 in
theorem gX4_late_X4_isPicture : GoodIn wsX4_late (wsV RX4 88 RX4 yX4_isPicture wsX4_isPicture) := goodIn_app (goodIn_of _ (by decide +kernel)) ggX4_late_X4_isPicture
set_option maxRecDepth 20000 in
theorem ggX4_late_X4_on : GoodIn wsX4_late wsX4_on := goodIn_r _ [20, 3, 6, 42, 43, 44, 45, 46, 47, 48, 49, 50, 51, 52, 53, 54, 55, 56, 57, 58, 59, 60, 61, 62, 63, 64, 65, 66, 67, 68] (by decide +kernel) (by decide +kernel)
set_option maxRecDepth 20000 in
theorem gX4_late_X4_on : GoodIn wsX4_late (wsV RX4 171 RX4 yX4_on wsX4_on) := goodIn_app (goodIn_of _ (by decide +kernel)) ggX4_late_X4_on
set_option maxRecDepth 20000 in
theorem ggX4_late_X4_pack : GoodIn wsX4_late wsX4_pack := goodIn_r _ [24, 25, 13, 26, 4, 27, 28, 29, 30, 42, 43, 44, 45, 46, 47, 48, 49, 50, 51, 52, 53, 54, 55, 56, 57, 58, 59, 60, 61, 62, 63, 64, 65, 66, 67, 68] (by decide +kernel) (by decide +kernel)
set_option maxRecDepth 20000 in
theorem gX4_late_X4_pack : GoodIn wsX4_late (wsV RX4 161 RX4 yX4_pack wsX4_pack) := goodIn_app (goodIn_of _ (by decide +kernel)) ggX4_late_X4_pack
set_option maxRecDepth 20000 in
theorem ggX4_late_J6_bitCount_0f7a4 : GoodIn wsX4_late wsJ6_bitCount_0f7a4 := goodIn_r _ [34, 35, 36, 37] (by decide +kernel) (by decide +kernel)
set_option maxRecDepth 20000 in
theorem gX4_late_J6_bitCount_0f7a4 : GoodIn wsX4_late (va_wsS RX4 147 yJ6_bitCount_0f7a4 wsJ6_bitCount_0f7a4) := goodIn_app (goodIn_of _ (by decide +kernel)) ggX4_late_J6_bitCount_0f7a4
set_option maxRecDepth 20000 in
theorem ggX4_late_X4_layAll : GoodIn wsX4_late wsX4_layAll := goodIn_r _ [41, 25, 4, 7, 21, 22, 23, 11, 24, 13, 26, 27, 28, 29, 30, 42, 43, 44, 45, 46, 47, 48, 49, 50, 51, 52, 53, 54, 55, 56, 57, 58, 59, 60, 61, 62, 63, 64, 65, 66, 67, 68] (by decide +kernel) (by decide +kernel)
set_option maxRecDepth 20000 in
theorem gX4_late_X4_layAll : GoodIn wsX4_late (wsV RX4 165 RX4 yX4_layAll wsX4_layAll) := goodIn_app (goodIn_of _ (by decide +kernel)) ggX4_late_X4_layAll
theorem dX4_late_0 : decode cX4_late 0 = .ok (.aload_n 0, 1) := by decide +kernel
theorem dX4_late_1 : decode cX4_late 1 = .ok (.iconst 0, 1) := by decide +kernel
theorem dX4_late_2 : decode cX4_late 2 = .ok (.putfield 71, 3) := by decide +kernel
theorem dX4_late_5 : decode cX4_late 5 = .ok (.aload_n 0, 1) := by decide +kernel
theorem dX4_late_6 : decode cX4_late 6 = .ok (.iload_n 1, 1) := by decide +kernel
theorem dX4_late_7 : decode cX4_late 7 = .ok (.invokevirtual 88, 3) := by decide +kernel
theorem dX4_late_10 : decode cX4_late 10 = .ok (.ifCond .eq 22, 3) := by decide +kernel
theorem dX4_late_13 : decode cX4_late 13 = .ok (.aload_n 0, 1) := by decide +kernel
theorem dX4_late_14 : decode cX4_late 14 = .ok (.getfield 108, 3) := by decide +kernel
theorem dX4_late_17 : decode cX4_late 17 = .ok (.iload_n 1, 1) := by decide +kernel

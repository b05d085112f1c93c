theorem dX5_late_96 : decode cX5_late 96 = .ok (.iload 10, 2) := by decide +kernel
theorem dX5_late_98 : decode cX5_late 98 = .ok (.invokevirtual 269, 3) := by decide +kernel
theorem dX5_late_101 : decode cX5_late 101 = .ok (.istore 11, 2) := by decide +kernel
theorem dX5_late_103 : decode cX5_late 103 = .ok (.iload 9, 2) := by decide +kernel
theorem dX5_late_105 : decode cX5_late 105 = .ok (.ifCond .eq 22, 3) := by decide +kernel
theorem dX5_late_108 : decode cX5_late 108 = .ok (.iload 11, 2) := by decide +kernel
theorem dX5_late_110 : decode cX5_late 110 = .ok (.ifCond .ne 13, 3) := by decide +kernel
theorem dX5_late_113 : decode cX5_late 113 = .ok (.iload 7, 2) := by decide +kernel
theorem dX5_late_115 : decode cX5_late 115 = .ok (.iload 10, 2) := by decide +kernel
theorem dX5_late_117 : decode cX5_late 117 = .ok (.invokestatic 152, 3) := by decide +kernel
theorem dX5_late_120 : decode cX5_late 120 = .ok (.ifCond .ne 7, 3) := by decide +kernel
theorem dX5_late_123 : decode cX5_late 123 = .ok (.iconst 1, 1) := by decide +kernel
theorem dX5_late_124 : decode cX5_late 124 = .ok (.goto 4, 3) := by decide +kernel
theorem dX5_late_127 : decode cX5_late 127 = .ok (.iconst 0, 1) := by decide +kernel
theorem dX5_late_128 : decode cX5_late 128 = .ok (.istore 9, 2) := by decide +kernel
theorem dX5_late_130 : decode cX5_late 130 = .ok (.iload 8, 2) := by decide +kernel
theorem dX5_late_132 : decode cX5_late 132 = .ok (.iload 11, 2) := by decide +kernel
theorem dX5_late_134 : decode cX5_late 134 = .ok (.ifCond .eq 24, 3) := by decide +kernel
theorem dX5_late_137 : decode cX5_late 137 = .ok (.iload 7, 2) := by decide +kernel
theorem dX5_late_139 : decode cX5_late 139 = .ok (.iload 10, 2) := by decide +kernel
theorem dX5_late_141 : decode cX5_late 141 = .ok (.invokestatic 152, 3) := by decide +kernel
theorem dX5_late_144 : decode cX5_late 144 = .ok (.ifCond .eq 7, 3) := by decide +kernel
theorem dX5_late_147 : decode cX5_late 147 = .ok (.iload_n 2, 1) := by decide +kernel
theorem dX5_late_148 : decode cX5_late 148 = .ok (.goto 11, 3) := by decide +kernel
theorem dX5_late_151 : decode cX5_late 151 = .ok (.bipush 10, 2) := by decide +kernel
theorem dX5_late_153 : decode cX5_late 153 = .ok (.iload_n 2, 1) := by decide +kernel
theorem dX5_late_154 : decode cX5_late 154 = .ok (.isub, 1) := by decide +kernel
theorem dX5_late_155 : decode cX5_late 155 = .ok (.goto 4, 3) := by decide +kernel
theorem dX5_late_158 : decode cX5_late 158 = .ok (.iconst 1, 1) := by decide +kernel
theorem dX5_late_159 : decode cX5_late 159 = .ok (.imul, 1) := by decide +kernel
theorem dX5_late_160 : decode cX5_late 160 = .ok (.istore 8, 2) := by decide +kernel
theorem dX5_late_162 : decode cX5_late 162 = .ok (.aload_n 0, 1) := by decide +kernel
theorem dX5_late_163 : decode cX5_late 163 = .ok (.getfield 70, 3) := by decide +kernel
theorem dX5_late_166 : decode cX5_late 166 = .ok (.sipush 227, 3) := by decide +kernel
theorem dX5_late_169 : decode cX5_late 169 = .ok (.iload 10, 2) := by decide +kernel
theorem dX5_late_171 : decode cX5_late 171 = .ok (.iadd, 1) := by decide +kernel
theorem dX5_late_172 : decode cX5_late 172 = .ok (.dup2, 1) := by decide +kernel
theorem dX5_late_173 : decode cX5_late 173 = .ok (.iaload, 1) := by decide +kernel
theorem dX5_late_174 : decode cX5_late 174 = .ok (.iload 11, 2) := by decide +kernel
theorem dX5_late_176 : decode cX5_late 176 = .ok (.ifCond .eq 17, 3) := by decide +kernel
theorem dX5_late_179 : decode cX5_late 179 = .ok (.iload 7, 2) := by decide +kernel
theorem dX5_late_181 : decode cX5_late 181 = .ok (.iload 10, 2) := by decide +kernel
theorem dX5_late_183 : decode cX5_late 183 = .ok (.invokestatic 152, 3) := by decide +kernel
theorem dX5_late_186 : decode cX5_late 186 = .ok (.ifCond .eq 7, 3) := by decide +kernel
theorem dX5_late_189 : decode cX5_late 189 = .ok (.iload_n 1, 1) := by decide +kernel
theorem dX5_late_190 : decode cX5_late 190 = .ok (.goto 4, 3) := by decide +kernel
theorem dX5_late_193 : decode cX5_late 193 = .ok (.iconst 0, 1) := by decide +kernel
theorem dX5_late_194 : decode cX5_late 194 = .ok (.iadd, 1) := by decide +kernel
theorem dX5_late_195 : decode cX5_late 195 = .ok (.iastore, 1) := by decide +kernel
theorem dX5_late_196 : decode cX5_late 196 = .ok (.iinc 10 1, 3) := by decide +kernel
theorem dX5_late_199 : decode cX5_late 199 = .ok (.goto (-113), 3) := by decide +kernel
theorem dX5_late_202 : decode cX5_late 202 = .ok (.iload 9, 2) := by decide +kernel
theorem dX5_late_204 : decode cX5_late 204 = .ok (.ifCond .eq 29, 3) := by decide +kernel
theorem dX5_late_207 : decode cX5_late 207 = .ok (.iload 6, 2) := by decide +kernel
theorem dX5_late_209 : decode cX5_late 209 = .ok (.iload 8, 2) := by decide +kernel
theorem dX5_late_211 : decode cX5_late 211 = .ok (.iadd, 1) := by decide +kernel
theorem dX5_late_212 : decode cX5_late 212 = .ok (.istore 6, 2) := by decide +kernel
theorem dX5_late_214 : decode cX5_late 214 = .ok (.iload 5, 2) := by decide +kernel
theorem dX5_late_216 : decode cX5_late 216 = .ok (.aload_n 0, 1) := by decide +kernel
theorem dX5_late_217 : decode cX5_late 217 = .ok (.invokevirtual 247, 3) := by decide +kernel
theorem dX5_late_220 : decode cX5_late 220 = .ok (.iload_n 3, 1) := by decide +kernel
theorem dX5_late_221 : decode cX5_late 221 = .ok (.if_icmp .lt 8, 3) := by decide +kernel
theorem dX5_late_224 : decode cX5_late 224 = .ok (.iload 8, 2) := by decide +kernel
theorem dX5_late_226 : decode cX5_late 226 = .ok (.goto 4, 3) := by decide +kernel
theorem dX5_late_229 : decode cX5_late 229 = .ok (.iconst 0, 1) := by decide +kernel
theorem dX5_late_230 : decode cX5_late 230 = .ok (.iadd, 1) := by decide +kernel
theorem dX5_late_231 : decode cX5_late 231 = .ok (.istore 5, 2) := by decide +kernel
theorem dX5_late_233 : decode cX5_late 233 = .ok (.iinc 7 1, 3) := by decide +kernel
theorem dX5_late_236 : decode cX5_late 236 = .ok (.goto (-178), 3) := by decide +kernel
theorem dX5_late_239 : decode cX5_late 239 = .ok (.iload 5, 2) := by decide +kernel
theorem dX5_late_241 : decode cX5_late 241 = .ok (.istore 7, 2) := by decide +kernel
theorem dX5_late_243 : decode cX5_late 243 = .ok (.iload 6, 2) := by decide +kernel
theorem dX5_late_245 : decode cX5_late 245 = .ok (.istore 8, 2) := by decide +kernel
theorem dX5_late_247 : decode cX5_late 247 = .ok (.iload 8, 2) := by decide +kernel
theorem dX5_late_249 : decode cX5_late 249 = .ok (.ifCond .eq 21, 3) := by decide +kernel
theorem dX5_late_252 : decode cX5_late 252 = .ok (.iload 7, 2) := by decide +kernel
theorem dX5_late_254 : decode cX5_late 254 = .ok (.iload 8, 2) := by decide +kernel
theorem dX5_late_256 : decode cX5_late 256 = .ok (.irem, 1) := by decide +kernel
theorem dX5_late_257 : decode cX5_late 257 = .ok (.istore 9, 2) := by decide +kernel
theorem dX5_late_259 : decode cX5_late 259 = .ok (.iload 8, 2) := by decide +kernel
theorem dX5_late_261 : decode cX5_late 261 = .ok (.istore 7, 2) := by decide +kernel
theorem dX5_late_263 : decode cX5_late 263 = .ok (.iload 9, 2) := by decide +kernel
theorem dX5_late_265 : decode cX5_late 265 = .ok (.istore 8, 2) := by decide +kernel
theorem dX5_late_267 : decode cX5_late 267 = .ok (.goto (-20), 3) := by decide +kernel
theorem dX5_late_270 : decode cX5_late 270 = .ok (.iload 4, 2) := by decide +kernel
theorem dX5_late_272 : decode cX5_late 272 = .ok (.ifCond .ne 11, 3) := by decide +kernel
theorem dX5_late_275 : decode cX5_late 275 = .ok (.iload 5, 2) := by decide +kernel
theorem dX5_late_277 : decode cX5_late 277 = .ok (.iload 7, 2) := by decide +kernel
theorem dX5_late_279 : decode cX5_late 279 = .ok (.idiv, 1) := by decide +kernel
theorem dX5_late_280 : decode cX5_late 280 = .ok (.goto 8, 3) := by decide +kernel
theorem dX5_late_283 : decode cX5_late 283 = .ok (.iload 6, 2) := by decide +kernel
theorem dX5_late_285 : decode cX5_late 285 = .ok (.iload 7, 2) := by decide +kernel
theorem dX5_late_287 : decode cX5_late 287 = .ok (.idiv, 1) := by decide +kernel
theorem dX5_late_288 : decode cX5_late 288 = .ok (.ireturn, 1) := by decide +kernel
set_option maxRecDepth 20000 in
theorem ggX5_does_X5_canPin : GoodIn wsX5_does wsX5_canPin := goodIn_r _ [8, 3, 9, 10, 11, 12, 7, 13, 26, 27, 28, 29, 30, 31, 32, 33, 34, 35, 36, 37, 38, 39, 40, 41, 42, 43, 44, 45, 46, 47, 48, 49, 50, 51, 52, 53, 54, 55, 56, 57, 58, 59, 60, 61, 62, 63, 64] (by decide +kernel) (by decide +kernel)
set_option maxRecDepth 20000 in
theorem gX5_does_X5_canPin : GoodIn wsX5_does (wsV RX5 220 RX5 yX5_canPin wsX5_canPin) := goodIn_app (goodIn_of _ (by decide +kernel)) ggX5_does_X5_canPin
set_option maxRecDepth 20000 in
theorem ggX5_does_X5_ends : GoodIn wsX5_does wsX5_ends := goodIn_r _ [17, 3, 18, 19, 20, 21, 22, 23, 24, 7, 25, 26, 27, 28, 29, 30, 31, 32, 33, 34, 35, 36, 37, 38, 39, 40, 41, 42, 43, 44, 45, 46, 47, 48, 49, 50, 51, 52, 53, 54, 55, 56, 57, 58, 59, 60, 61, 62, 63, 64] (by decide +kernel) (by decide +kernel)
set_option maxRecDepth 20000 in
theorem gX5_does_X5_ends : GoodIn wsX5_does (wsV RX5 205 RX5 yX5_ends wsX5_ends) := goodIn_app (goodIn_of _ (by decide +kernel)) ggX5_does_X5_ends
theorem dX5_does_0 : decode cX5_does 0 = .ok (.iload_n 2, 1) := by decide +kernel
theorem dX5_does_1 : decode cX5_does 1 = .ok (.bipush 8, 2) := by decide +kernel
theorem dX5_does_3 : decode cX5_does 3 = .ok (.idiv, 1) := by decide +kernel
theorem dX5_does_4 : decode cX5_does 4 = .ok (.aload_n 0, 1) := by decide +kernel
theorem dX5_does_5 : decode cX5_does 5 = .ok (.getfield 116, 3) := by decide +kernel
theorem dX5_does_8 : decode cX5_does 8 = .ok (.irem, 1) := by decide +kernel
theorem dX5_does_9 : decode cX5_does 9 = .ok (.istore_n 3, 1) := by decide +kernel
theorem dX5_does_10 : decode cX5_does 10 = .ok (.iload_n 2, 1) := by decide +kernel
theorem dX5_does_11 : decode cX5_does 11 = .ok (.bipush 8, 2) := by decide +kernel
theorem dX5_does_13 : decode cX5_does 13 = .ok (.irem, 1) := by decide +kernel
theorem dX5_does_14 : decode cX5_does 14 = .ok (.istore 4, 2) := by decide +kernel
theorem dX5_does_16 : decode cX5_does 16 = .ok (.iload 4, 2) := by decide +kernel
theorem dX5_does_18 : decode cX5_does 18 = .ok (.iconst 2, 1) := by decide +kernel
theorem dX5_does_19 : decode cX5_does 19 = .ok (.if_icmp .ge 63, 3) := by decide +kernel
theorem dX5_does_22 : decode cX5_does 22 = .ok (.aload_n 0, 1) := by decide +kernel
theorem dX5_does_23 : decode cX5_does 23 = .ok (.iload_n 1, 1) := by decide +kernel
theorem dX5_does_24 : decode cX5_does 24 = .ok (.iload_n 3, 1) := by decide +kernel
theorem dX5_does_25 : decode cX5_does 25 = .ok (.iload_n 2, 1) := by decide +kernel
theorem dX5_does_26 : decode cX5_does 26 = .ok (.bipush 64, 2) := by decide +kernel
theorem dX5_does_28 : decode cX5_does 28 = .ok (.idiv, 1) := by decide +kernel
theorem dX5_does_29 : decode cX5_does 29 = .ok (.aload_n 0, 1) := by decide +kernel
theorem dX5_does_30 : decode cX5_does 30 = .ok (.getfield 110, 3) := by decide +kernel
theorem dX5_does_33 : decode cX5_does 33 = .ok (.irem, 1) := by decide +kernel
theorem dX5_does_34 : decode cX5_does 34 = .ok (.invokevirtual 220, 3) := by decide +kernel
theorem dX5_does_37 : decode cX5_does 37 = .ok (.ifCond .eq 45, 3) := by decide +kernel
theorem dX5_does_40 : decode cX5_does 40 = .ok (.aload_n 0, 1) := by decide +kernel
theorem dX5_does_41 : decode cX5_does 41 = .ok (.getfield 70, 3) := by decide +kernel
theorem dX5_does_44 : decode cX5_does 44 = .ok (.iload_n 1, 1) := by decide +kernel
theorem dX5_does_45 : decode cX5_does 45 = .ok (.bipush 14, 2) := by decide +kernel
theorem dX5_does_47 : decode cX5_does 47 = .ok (.iadd, 1) := by decide +kernel
theorem dX5_does_48 : decode cX5_does 48 = .ok (.iload_n 3, 1) := by decide +kernel
theorem dX5_does_49 : decode cX5_does 49 = .ok (.iadd, 1) := by decide +kernel
theorem dX5_does_50 : decode cX5_does 50 = .ok (.dup2, 1) := by decide +kernel
theorem dX5_does_51 : decode cX5_does 51 = .ok (.iaload, 1) := by decide +kernel
theorem dX5_does_52 : decode cX5_does 52 = .ok (.iconst 1, 1) := by decide +kernel
theorem dX5_does_53 : decode cX5_does 53 = .ok (.isub, 1) := by decide +kernel
theorem dX5_does_54 : decode cX5_does 54 = .ok (.iastore, 1) := by decide +kernel
theorem dX5_does_55 : decode cX5_does 55 = .ok (.aload_n 0, 1) := by decide +kernel
theorem dX5_does_56 : decode cX5_does 56 = .ok (.iload_n 1, 1) := by decide +kernel
theorem dX5_does_57 : decode cX5_does 57 = .ok (.iload_n 2, 1) := by decide +kernel
theorem dX5_does_58 : decode cX5_does 58 = .ok (.bipush 64, 2) := by decide +kernel
theorem dX5_does_60 : decode cX5_does 60 = .ok (.idiv, 1) := by decide +kernel
theorem dX5_does_61 : decode cX5_does 61 = .ok (.aload_n 0, 1) := by decide +kernel
theorem dX5_does_62 : decode cX5_does 62 = .ok (.getfield 110, 3) := by decide +kernel
theorem dX5_does_65 : decode cX5_does 65 = .ok (.irem, 1) := by decide +kernel
theorem dX5_does_66 : decode cX5_does 66 = .ok (.iconst 3, 1) := by decide +kernel
theorem dX5_does_67 : decode cX5_does 67 = .ok (.aload_n 0, 1) := by decide +kernel
theorem dX5_does_68 : decode cX5_does 68 = .ok (.getfield 70, 3) := by decide +kernel
theorem dX5_does_71 : decode cX5_does 71 = .ok (.iload_n 1, 1) := by decide +kernel
theorem dX5_does_72 : decode cX5_does 72 = .ok (.bipush 18, 2) := by decide +kernel
theorem dX5_does_74 : decode cX5_does 74 = .ok (.iadd, 1) := by decide +kernel
theorem dX5_does_75 : decode cX5_does 75 = .ok (.iaload, 1) := by decide +kernel
theorem dX5_does_76 : decode cX5_does 76 = .ok (.invokevirtual 205, 3) := by decide +kernel
theorem dX5_does_79 : decode cX5_does 79 = .ok (.goto 113, 3) := by decide +kernel
theorem dX5_does_82 : decode cX5_does 82 = .ok (.iload 4, 2) := by decide +kernel
theorem dX5_does_84 : decode cX5_does 84 = .ok (.iconst 2, 1) := by decide +kernel
theorem dX5_does_85 : decode cX5_does 85 = .ok (.if_icmp .ne 107, 3) := by decide +kernel
theorem dX5_does_88 : decode cX5_does 88 = .ok (.iload_n 2, 1) := by decide +kernel
theorem dX5_does_89 : decode cX5_does 89 = .ok (.bipush 64, 2) := by decide +kernel
theorem dX5_does_91 : decode cX5_does 91 = .ok (.idiv, 1) := by decide +kernel
theorem dX5_does_92 : decode cX5_does 92 = .ok (.aload_n 0, 1) := by decide +kernel
theorem dX5_does_93 : decode cX5_does 93 = .ok (.getfield 116, 3) := by decide +kernel
theorem dX5_does_96 : decode cX5_does 96 = .ok (.irem, 1) := by decide +kernel
theorem dX5_does_97 : decode cX5_does 97 = .ok (.istore 5, 2) := by decide +kernel
theorem dX5_does_99 : decode cX5_does 99 = .ok (.iload_n 3, 1) := by decide +kernel
theorem dX5_does_100 : decode cX5_does 100 = .ok (.iload 5, 2) := by decide +kernel
theorem dX5_does_102 : decode cX5_does 102 = .ok (.if_icmp .eq 38, 3) := by decide +kernel
theorem dX5_does_105 : decode cX5_does 105 = .ok (.aload_n 0, 1) := by decide +kernel
theorem dX5_does_106 : decode cX5_does 106 = .ok (.getfield 70, 3) := by decide +kernel
theorem dX5_does_109 : decode cX5_does 109 = .ok (.iload_n 1, 1) := by decide +kernel
theorem dX5_does_110 : decode cX5_does 110 = .ok (.bipush 14, 2) := by decide +kernel
theorem dX5_does_112 : decode cX5_does 112 = .ok (.iadd, 1) := by decide +kernel
theorem dX5_does_113 : decode cX5_does 113 = .ok (.iload_n 3, 1) := by decide +kernel
theorem dX5_does_114 : decode cX5_does 114 = .ok (.iadd, 1) := by decide +kernel
theorem dX5_does_115 : decode cX5_does 115 = .ok (.iaload, 1) := by decide +kernel
theorem dX5_does_116 : decode cX5_does 116 = .ok (.ifCond .le 24, 3) := by decide +kernel
theorem dX5_does_119 : decode cX5_does 119 = .ok (.aload_n 0, 1) := by decide +kernel
theorem dX5_does_120 : decode cX5_does 120 = .ok (.getfield 70, 3) := by decide +kernel
theorem dX5_does_123 : decode cX5_does 123 = .ok (.iload_n 1, 1) := by decide +kernel
theorem dX5_does_124 : decode cX5_does 124 = .ok (.bipush 14, 2) := by decide +kernel
theorem dX5_does_126 : decode cX5_does 126 = .ok (.iadd, 1) := by decide +kernel
theorem dX5_does_127 : decode cX5_does 127 = .ok (.iload 5, 2) := by decide +kernel
theorem dX5_does_129 : decode cX5_does 129 = .ok (.iadd, 1) := by decide +kernel
theorem dX5_does_130 : decode cX5_does 130 = .ok (.iaload, 1) := by decide +kernel
theorem dX5_does_131 : decode cX5_does 131 = .ok (.bipush 9, 2) := by decide +kernel
theorem dX5_does_133 : decode cX5_does 133 = .ok (.if_icmp .ge 7, 3) := by decide +kernel
theorem dX5_does_136 : decode cX5_does 136 = .ok (.iconst 1, 1) := by decide +kernel
theorem dX5_does_137 : decode cX5_does 137 = .ok (.goto 4, 3) := by decide +kernel
theorem dX5_does_140 : decode cX5_does 140 = .ok (.iconst 0, 1) := by decide +kernel
theorem dX5_does_141 : decode cX5_does 141 = .ok (.istore 6, 2) := by decide +kernel
theorem dX5_does_143 : decode cX5_does 143 = .ok (.aload_n 0, 1) := by decide +kernel
theorem dX5_does_144 : decode cX5_does 144 = .ok (.getfield 70, 3) := by decide +kernel
theorem dX5_does_147 : decode cX5_does 147 = .ok (.iload_n 1, 1) := by decide +kernel
theorem dX5_does_148 : decode cX5_does 148 = .ok (.bipush 14, 2) := by decide +kernel
theorem dX5_does_150 : decode cX5_does 150 = .ok (.iadd, 1) := by decide +kernel
theorem dX5_does_151 : decode cX5_does 151 = .ok (.iload_n 3, 1) := by decide +kernel
theorem dX5_does_152 : decode cX5_does 152 = .ok (.iadd, 1) := by decide +kernel
theorem dX5_does_153 : decode cX5_does 153 = .ok (.dup2, 1) := by decide +kernel
theorem dX5_does_154 : decode cX5_does 154 = .ok (.iaload, 1) := by decide +kernel
theorem dX5_does_155 : decode cX5_does 155 = .ok (.iload 6, 2) := by decide +kernel
theorem dX5_does_157 : decode cX5_does 157 = .ok (.ifCond .eq 7, 3) := by decide +kernel
theorem dX5_does_160 : decode cX5_does 160 = .ok (.iconst 1, 1) := by decide +kernel
theorem dX5_does_161 : decode cX5_does 161 = .ok (.goto 4, 3) := by decide +kernel
theorem dX5_does_164 : decode cX5_does 164 = .ok (.iconst 0, 1) := by decide +kernel
theorem dX5_does_165 : decode cX5_does 165 = .ok (.isub, 1) := by decide +kernel
theorem dX5_does_166 : decode cX5_does 166 = .ok (.iastore, 1) := by decide +kernel
theorem dX5_does_167 : decode cX5_does 167 = .ok (.aload_n 0, 1) := by decide +kernel
theorem dX5_does_168 : decode cX5_does 168 = .ok (.getfield 70, 3) := by decide +kernel
theorem dX5_does_171 : decode cX5_does 171 = .ok (.iload_n 1, 1) := by decide +kernel
theorem dX5_does_172 : decode cX5_does 172 = .ok (.bipush 14, 2) := by decide +kernel
theorem dX5_does_174 : decode cX5_does 174 = .ok (.iadd, 1) := by decide +kernel
theorem dX5_does_175 : decode cX5_does 175 = .ok (.iload 5, 2) := by decide +kernel
theorem dX5_does_177 : decode cX5_does 177 = .ok (.iadd, 1) := by decide +kernel
theorem dX5_does_178 : decode cX5_does 178 = .ok (.dup2, 1) := by decide +kernel
theorem dX5_does_179 : decode cX5_does 179 = .ok (.iaload, 1) := by decide +kernel
theorem dX5_does_180 : decode cX5_does 180 = .ok (.iload 6, 2) := by decide +kernel
theorem dX5_does_182 : decode cX5_does 182 = .ok (.ifCond .eq 7, 3) := by decide +kernel
theorem dX5_does_185 : decode cX5_does 185 = .ok (.iconst 1, 1) := by decide +kernel
theorem dX5_does_186 : decode cX5_does 186 = .ok (.goto 4, 3) := by decide +kernel
theorem dX5_does_189 : decode cX5_does 189 = .ok (.iconst 0, 1) := by decide +kernel
theorem dX5_does_190 : decode cX5_does 190 = .ok (.iadd, 1) := by decide +kernel
theorem dX5_does_191 : decode cX5_does 191 = .ok (.iastore, 1) := by decide +kernel
theorem dX5_does_192 : decode cX5_does 192 = .ok (.return_, 1) := by decide +kernel
theorem dX5_pins_0 : decode cX5_pins 0 = .ok (.iconst 0, 1) := by decide +kernel
theorem dX5_pins_1 : decode cX5_pins 1 = .ok (.istore_n 2, 1) := by decide +kernel
theorem dX5_pins_2 : decode cX5_pins 2 = .ok (.iconst 0, 1) := by decide +kernel
theorem dX5_pins_3 : decode cX5_pins 3 = .ok (.istore_n 3, 1) := by decide +kernel
theorem dX5_pins_4 : decode cX5_pins 4 = .ok (.iload_n 3, 1) := by decide +kernel
theorem dX5_pins_5 : decode cX5_pins 5 = .ok (.aload_n 0, 1) := by decide +kernel
theorem dX5_pins_6 : decode cX5_pins 6 = .ok (.getfield 116, 3) := by decide +kernel
theorem dX5_pins_9 : decode cX5_pins 9 = .ok (.if_icmp .ge 23, 3) := by decide +kernel
theorem dX5_pins_12 : decode cX5_pins 12 = .ok (.iload_n 2, 1) := by decide +kernel
theorem dX5_pins_13 : decode cX5_pins 13 = .ok (.aload_n 0, 1) := by decide +kernel
theorem dX5_pins_14 : decode cX5_pins 14 = .ok (.getfield 70, 3) := by decide +kernel
theorem dX5_pins_17 : decode cX5_pins 17 = .ok (.iload_n 1, 1) := by decide +kernel
theorem dX5_pins_18 : decode cX5_pins 18 = .ok (.bipush 14, 2) := by decide +kernel
theorem dX5_pins_20 : decode cX5_pins 20 = .ok (.iadd, 1) := by decide +kernel
theorem dX5_pins_21 : decode cX5_pins 21 = .ok (.iload_n 3, 1) := by decide +kernel
theorem dX5_pins_22 : decode cX5_pins 22 = .ok (.iadd, 1) := by decide +kernel
theorem dX5_pins_23 : decode cX5_pins 23 = .ok (.iaload, 1) := by decide +kernel
theorem dX5_pins_24 : decode cX5_pins 24 = .ok (.iadd, 1) := by decide +kernel
theorem dX5_pins_25 : decode cX5_pins 25 = .ok (.istore_n 2, 1) := by decide +kernel
theorem dX5_pins_26 : decode cX5_pins 26 = .ok (.iinc 3 1, 3) := by decide +kernel
theorem dX5_pins_29 : decode cX5_pins 29 = .ok (.goto (-25), 3) := by decide +kernel
theorem dX5_pins_32 : decode cX5_pins 32 = .ok (.iload_n 2, 1) := by decide +kernel
theorem dX5_pins_33 : decode cX5_pins 33 = .ok (.ireturn, 1) := by decide +kernel
set_option maxRecDepth 20000 in
theorem ggX5_season_X5_in : GoodIn wsX5_season wsX5_in := goodIn_r _ [11] (by decide +kernel) (by decide +kernel)
set_option maxRecDepth 20000 in
theorem gX5_season_X5_in : GoodIn wsX5_season (va_wsS RX5 119 yX5_in wsX5_in) := goodIn_app (goodIn_of _ (by decide +kernel)) ggX5_season_X5_in
set_option maxRecDepth 20000 in
theorem ggX5_season_X5_copies : GoodIn wsX5_season wsX5_copies := goodIn_r _ [15, 7, 76, 77, 78, 79, 80, 81, 82, 83, 84, 85, 86, 87, 88, 89, 90, 91, 92, 93, 94, 95, 96, 97, 98, 99, 100, 101, 102, 103, 104, 105, 106, 107, 108, 109, 110, 111, 112, 113, 114] (by decide +kernel) (by decide +kernel)
set_option maxRecDepth 20000 in
theorem gX5_season_X5_copies : GoodIn wsX5_season (wsV RX5 224 RX5 yX5_copies wsX5_copies) := goodIn_app (goodIn_of _ (by decide +kernel)) ggX5_season_X5_copies
set_option maxRecDepth 20000 in
theorem ggX5_season_X5_does : GoodIn wsX5_season wsX5_does := goodIn_r _ [19, 5, 20, 7, 21, 22, 23, 10, 24, 25, 26, 27, 28, 29, 30, 31, 32, 33, 34, 35, 36, 37, 38, 39, 40, 41, 76, 77, 78, 79, 80, 81, 82, 83, 84, 85, 86, 87, 88, 89, 90, 91, 92, 93, 94, 95, 96, 97, 98, 99, 100, 101, 102, 103, 104, 105, 106, 107, 108, 109, 110, 111, 112, 113, 114] (by decide +kernel) (by decide +kernel)
set_option maxRecDepth 20000 in
theorem gX5_season_X5_does : GoodIn wsX5_season (wsV RX5 280 RX5 yX5_does wsX5_does) := goodIn_app (goodIn_of _ (by decide +kernel)) ggX5_season_X5_does
set_option maxRecDepth 20000 in
theorem ggX5_season_X5_minutes : GoodIn wsX5_season wsX5_minutes := goodIn_r _ [45, 46, 47, 48, 49, 10, 50, 7, 20, 51, 52, 53, 54, 55, 56, 57, 58, 59, 60, 61, 62, 63, 26, 64, 65, 66, 67, 68, 39, 40, 41, 69, 70, 71, 30, 31, 32, 33, 34, 35, 36, 37, 38, 76, 77, 78, 79, 80, 81, 82, 83, 84, 85, 86, 87, 88, 89, 90, 91, 92, 93, 94, 95, 96, 97, 98, 99, 100, 101, 102, 103, 104, 105, 106, 107, 108, 109, 110, 111, 112, 113, 114] (by decide +kernel) (by decide +kernel)
set_option maxRecDepth 20000 in
theorem gX5_season_X5_minutes : GoodIn wsX5_season (wsV RX5 233 RX5 yX5_minutes wsX5_minutes) := goodIn_app (goodIn_of _ (by decide +kernel)) ggX5_season_X5_minutes
set_option maxRecDepth 20000 in
theorem ggX5_season_X5_pins : GoodIn wsX5_season wsX5_pins := goodIn_r _ [75, 5, 7, 76, 77, 78, 79, 80, 81, 82, 83, 84, 85, 86, 87, 88, 89, 90, 91, 92, 93, 94, 95, 96, 97, 98, 99, 100, 101, 102, 103, 104, 105, 106, 107, 108, 109, 110, 111, 112, 113, 114] (by decide +kernel) (by decide +kernel)
set_option maxRecDepth 20000 in
theorem gX5_season_X5_pins : GoodIn wsX5_season (wsV RX5 283 RX5 yX5_pins wsX5_pins) := goodIn_app (goodIn_of _ (by decide +kernel)) ggX5_season_X5_pins
theorem dX5_season_0 : decode cX5_season 0 = .ok (.iload_n 1, 1) := by decide +kernel
theorem dX5_season_1 : decode cX5_season 1 = .ok (.i2l, 1) := by decide +kernel
theorem dX5_season_2 : decode cX5_season 2 = .ok (.lconst 0, 1) := by decide +kernel
theorem dX5_season_3 : decode cX5_season 3 = .ok (.ldc2_w 272, 3) := by decide +kernel
theorem dX5_season_6 : decode cX5_season 6 = .ok (.invokestatic 119, 3) := by decide +kernel
theorem dX5_season_9 : decode cX5_season 9 = .ok (.ifCond .eq 25, 3) := by decide +kernel
theorem dX5_season_12 : decode cX5_season 12 = .ok (.iload_n 2, 1) := by decide +kernel
theorem dX5_season_13 : decode cX5_season 13 = .ok (.i2l, 1) := by decide +kernel
theorem dX5_season_14 : decode cX5_season 14 = .ok (.lconst 1, 1) := by decide +kernel
theorem dX5_season_15 : decode cX5_season 15 = .ok (.ldc2_w 242, 3) := by decide +kernel
theorem dX5_season_18 : decode cX5_season 18 = .ok (.invokestatic 119, 3) := by decide +kernel
theorem dX5_season_21 : decode cX5_season 21 = .ok (.ifCond .eq 13, 3) := by decide +kernel
theorem dX5_season_24 : decode cX5_season 24 = .ok (.iload_n 3, 1) := by decide +kernel
theorem dX5_season_25 : decode cX5_season 25 = .ok (.i2l, 1) := by decide +kernel
theorem dX5_season_26 : decode cX5_season 26 = .ok (.lconst 0, 1) := by decide +kernel
theorem dX5_season_27 : decode cX5_season 27 = .ok (.lconst 1, 1) := by decide +kernel
theorem dX5_season_28 : decode cX5_season 28 = .ok (.invokestatic 119, 3) := by decide +kernel
theorem dX5_season_31 : decode cX5_season 31 = .ok (.ifCond .ne 5, 3) := by decide +kernel
theorem dX5_season_34 : decode cX5_season 34 = .ok (.iconst (-1), 1) := by decide +kernel
theorem dX5_season_35 : decode cX5_season 35 = .ok (.ireturn, 1) := by decide +kernel
theorem dX5_season_36 : decode cX5_season 36 = .ok (.aload_n 0, 1) := by decide +kernel
theorem dX5_season_37 : decode cX5_season 37 = .ok (.iconst 0, 1) := by decide +kernel
theorem dX5_season_38 : decode cX5_season 38 = .ok (.sipush 220, 3) := by decide +kernel
theorem dX5_season_41 : decode cX5_season 41 = .ok (.invokevirtual 224, 3) := by decide +kernel
theorem dX5_season_44 : decode cX5_season 44 = .ok (.iconst 0, 1) := by decide +kernel
theorem dX5_season_45 : decode cX5_season 45 = .ok (.istore 4, 2) := by decide +kernel
theorem dX5_season_47 : decode cX5_season 47 = .ok (.iload 4, 2) := by decide +kernel
theorem dX5_season_49 : decode cX5_season 49 = .ok (.iload_n 2, 1) := by decide +kernel
theorem dX5_season_50 : decode cX5_season 50 = .ok (.if_icmp .ge 59, 3) := by decide +kernel
theorem dX5_season_53 : decode cX5_season 53 = .ok (.ldc2_w 274, 3) := by decide +kernel
theorem dX5_season_56 : decode cX5_season 56 = .ok (.iload_n 1, 1) := by decide +kernel
theorem dX5_season_57 : decode cX5_season 57 = .ok (.i2l, 1) := by decide +kernel
theorem dX5_season_58 : decode cX5_season 58 = .ok (.lmul, 1) := by decide +kernel
theorem dX5_season_59 : decode cX5_season 59 = .ok (.ldc2_w 276, 3) := by decide +kernel
theorem dX5_season_62 : decode cX5_season 62 = .ok (.iload 4, 2) := by decide +kernel
theorem dX5_season_64 : decode cX5_season 64 = .ok (.i2l, 1) := by decide +kernel
theorem dX5_season_65 : decode cX5_season 65 = .ok (.lmul, 1) := by decide +kernel
theorem dX5_season_66 : decode cX5_season 66 = .ok (.ladd, 1) := by decide +kernel
theorem dX5_season_67 : decode cX5_season 67 = .ok (.lconst 1, 1) := by decide +kernel
theorem dX5_season_68 : decode cX5_season 68 = .ok (.ladd, 1) := by decide +kernel
theorem dX5_season_69 : decode cX5_season 69 = .ok (.lstore 5, 2) := by decide +kernel
theorem dX5_season_71 : decode cX5_season 71 = .ok (.aload_n 0, 1) := by decide +kernel
theorem dX5_season_72 : decode cX5_season 72 = .ok (.getfield 116, 3) := by decide +kernel
theorem dX5_season_75 : decode cX5_season 75 = .ok (.ifCond .le 20, 3) := by decide +kernel
theorem dX5_season_78 : decode cX5_season 78 = .ok (.aload_n 0, 1) := by decide +kernel
theorem dX5_season_79 : decode cX5_season 79 = .ok (.sipush 220, 3) := by decide +kernel
theorem dX5_season_82 : decode cX5_season 82 = .ok (.lload 5, 2) := by decide +kernel
theorem dX5_season_84 : decode cX5_season 84 = .ok (.lload 5, 2) := by decide +kernel
theorem dX5_season_86 : decode cX5_season 86 = .ok (.lmul, 1) := by decide +kernel
theorem dX5_season_87 : decode cX5_season 87 = .ok (.ldc2_w 278, 3) := by decide +kernel
theorem dX5_season_90 : decode cX5_season 90 = .ok (.lrem, 1) := by decide +kernel
theorem dX5_season_91 : decode cX5_season 91 = .ok (.l2i, 1) := by decide +kernel
theorem dX5_season_92 : decode cX5_season 92 = .ok (.invokevirtual 280, 3) := by decide +kernel
theorem dX5_season_95 : decode cX5_season 95 = .ok (.aload_n 0, 1) := by decide +kernel
theorem dX5_season_96 : decode cX5_season 96 = .ok (.sipush 220, 3) := by decide +kernel
theorem dX5_season_99 : decode cX5_season 99 = .ok (.iconst 1, 1) := by decide +kernel
theorem dX5_season_100 : decode cX5_season 100 = .ok (.invokevirtual 233, 3) := by decide +kernel
theorem dX5_season_103 : decode cX5_season 103 = .ok (.iinc 4 1, 3) := by decide +kernel
theorem dX5_season_106 : decode cX5_season 106 = .ok (.goto (-59), 3) := by decide +kernel
theorem dX5_season_109 : decode cX5_season 109 = .ok (.iload_n 3, 1) := by decide +kernel
theorem dX5_season_110 : decode cX5_season 110 = .ok (.ifCond .ne 18, 3) := by decide +kernel
theorem dX5_season_113 : decode cX5_season 113 = .ok (.aload_n 0, 1) := by decide +kernel
theorem dX5_season_114 : decode cX5_season 114 = .ok (.getfield 70, 3) := by decide +kernel
theorem dX5_season_117 : decode cX5_season 117 = .ok (.sipush 239, 3) := by decide +kernel
theorem dX5_season_120 : decode cX5_season 120 = .ok (.iaload, 1) := by decide +kernel
theorem dX5_season_121 : decode cX5_season 121 = .ok (.sipush 10000, 3) := by decide +kernel
theorem dX5_season_124 : decode cX5_season 124 = .ok (.iadd, 1) := by decide +kernel
theorem dX5_season_125 : decode cX5_season 125 = .ok (.goto 10, 3) := by decide +kernel
theorem dX5_season_128 : decode cX5_season 128 = .ok (.aload_n 0, 1) := by decide +kernel
theorem dX5_season_129 : decode cX5_season 129 = .ok (.sipush 220, 3) := by decide +kernel
theorem dX5_season_132 : decode cX5_season 132 = .ok (.invokevirtual 283, 3) := by decide +kernel
theorem dX5_season_135 : decode cX5_season 135 = .ok (.ireturn, 1) := by decide +kernel
set_option maxRecDepth 20000 in
theorem ggX5_keep_X5_copies : GoodIn wsX5_keep wsX5_copies := goodIn_r _ [6, 7, 8, 9, 10, 11, 12, 13, 14, 15, 16, 17, 18, 19, 20, 21, 22, 23, 24, 25, 26, 27, 28, 29, 30, 31, 32, 33, 34, 35, 36, 37, 38, 39, 40, 41, 42, 43, 44, 45, 46] (by decide +kernel) (by decide +kernel)
set_option maxRecDepth 20000 in
theorem gX5_keep_X5_copies : GoodIn wsX5_keep (wsV RX5 224 RX5 yX5_copies wsX5_copies) := goodIn_app (goodIn_of _ (by decide +kernel)) ggX5_keep_X5_copies
theorem dX5_keep_0 : decode cX5_keep 0 = .ok (.aload_n 0, 1) := by decide +kernel
theorem dX5_keep_1 : decode cX5_keep 1 = .ok (.getfield 179, 3) := by decide +kernel
theorem dX5_keep_4 : decode cX5_keep 4 = .ok (.iconst 2, 1) := by decide +kernel
theorem dX5_keep_5 : decode cX5_keep 5 = .ok (.if_icmp .ne 6, 3) := by decide +kernel
theorem dX5_keep_8 : decode cX5_keep 8 = .ok (.bipush (-3), 2) := by decide +kernel
theorem dX5_keep_10 : decode cX5_keep 10 = .ok (.ireturn, 1) := by decide +kernel
theorem dX5_keep_11 : decode cX5_keep 11 = .ok (.aload_n 0, 1) := by decide +kernel
theorem dX5_keep_12 : decode cX5_keep 12 = .ok (.iconst 0, 1) := by decide +kernel
theorem dX5_keep_13 : decode cX5_keep 13 = .ok (.bipush 9, 2) := by decide +kernel
theorem dX5_keep_15 : decode cX5_keep 15 = .ok (.aload_n 0, 1) := by decide +kernel
theorem dX5_keep_16 : decode cX5_keep 16 = .ok (.getfield 179, 3) := by decide +kernel
theorem dX5_keep_19 : decode cX5_keep 19 = .ok (.iadd, 1) := by decide +kernel
theorem dX5_keep_20 : decode cX5_keep 20 = .ok (.bipush 20, 2) := by decide +kernel
theorem dX5_keep_22 : decode cX5_keep 22 = .ok (.imul, 1) := by decide +kernel
theorem dX5_keep_23 : decode cX5_keep 23 = .ok (.invokevirtual 224, 3) := by decide +kernel
theorem dX5_keep_26 : decode cX5_keep 26 = .ok (.aload_n 0, 1) := by decide +kernel
theorem dX5_keep_27 : decode cX5_keep 27 = .ok (.dup, 1) := by decide +kernel
theorem dX5_keep_28 : decode cX5_keep 28 = .ok (.getfield 179, 3) := by decide +kernel
theorem dX5_keep_31 : decode cX5_keep 31 = .ok (.iconst 1, 1) := by decide +kernel
theorem dX5_keep_32 : decode cX5_keep 32 = .ok (.iadd, 1) := by decide +kernel
theorem dX5_keep_33 : decode cX5_keep 33 = .ok (.putfield 179, 3) := by decide +kernel
theorem dX5_keep_36 : decode cX5_keep 36 = .ok (.aload_n 0, 1) := by decide +kernel
theorem dX5_keep_37 : decode cX5_keep 37 = .ok (.getfield 179, 3) := by decide +kernel
theorem dX5_keep_40 : decode cX5_keep 40 = .ok (.ireturn, 1) := by decide +kernel
set_option maxRecDepth 20000 in
theorem ggX5_back_X5_copies : GoodIn wsX5_back wsX5_copies := goodIn_r _ [7, 8, 9, 10, 11, 12, 13, 14, 15, 16, 17, 18, 19, 20, 21, 22, 23, 24, 25, 26, 27, 28, 29, 30, 31, 32, 33, 34, 35, 36, 37, 38, 39, 40, 41, 42, 43, 44, 45, 46, 47] (by decide +kernel) (by decide +kernel)
set_option maxRecDepth 20000 in
theorem gX5_back_X5_copies : GoodIn wsX5_back (wsV RX5 224 RX5 yX5_copies wsX5_copies) := goodIn_app (goodIn_of _ (by decide +kernel)) ggX5_back_X5_copies
theorem dX5_back_0 : decode cX5_back 0 = .ok (.aload_n 0, 1) := by decide +kernel
theorem dX5_back_1 : decode cX5_back 1 = .ok (.getfield 179, 3) := by decide +kernel
theorem dX5_back_4 : decode cX5_back 4 = .ok (.ifCond .ne 6, 3) := by decide +kernel
theorem dX5_back_7 : decode cX5_back 7 = .ok (.bipush (-2), 2) := by decide +kernel
theorem dX5_back_9 : decode cX5_back 9 = .ok (.ireturn, 1) := by decide +kernel
theorem dX5_back_10 : decode cX5_back 10 = .ok (.aload_n 0, 1) := by decide +kernel
theorem dX5_back_11 : decode cX5_back 11 = .ok (.dup, 1) := by decide +kernel
theorem dX5_back_12 : decode cX5_back 12 = .ok (.getfield 179, 3) := by decide +kernel
theorem dX5_back_15 : decode cX5_back 15 = .ok (.iconst 1, 1) := by decide +kernel
theorem dX5_back_16 : decode cX5_back 16 = .ok (.isub, 1) := by decide +kernel
theorem dX5_back_17 : decode cX5_back 17 = .ok (.putfield 179, 3) := by decide +kernel
theorem dX5_back_20 : decode cX5_back 20 = .ok (.aload_n 0, 1) := by decide +kernel
theorem dX5_back_21 : decode cX5_back 21 = .ok (.bipush 9, 2) := by decide +kernel
theorem dX5_back_23 : decode cX5_back 23 = .ok (.aload_n 0, 1) := by decide +kernel
theorem dX5_back_24 : decode cX5_back 24 = .ok (.getfield 179, 3) := by decide +kernel
theorem dX5_back_27 : decode cX5_back 27 = .ok (.iadd, 1) := by decide +kernel
theorem dX5_back_28 : decode cX5_back 28 = .ok (.bipush 20, 2) := by decide +kernel
theorem dX5_back_30 : decode cX5_back 30 = .ok (.imul, 1) := by decide +kernel
theorem dX5_back_31 : decode cX5_back 31 = .ok (.iconst 0, 1) := by decide +kernel
theorem dX5_back_32 : decode cX5_back 32 = .ok (.invokevirtual 224, 3) := by decide +kernel
theorem dX5_back_35 : decode cX5_back 35 = .ok (.aload_n 0, 1) := by decide +kernel
theorem dX5_back_36 : decode cX5_back 36 = .ok (.iconst 0, 1) := by decide +kernel
theorem dX5_back_37 : decode cX5_back 37 = .ok (.putfield 176, 3) := by decide +kernel
theorem dX5_back_40 : decode cX5_back 40 = .ok (.aload_n 0, 1) := by decide +kernel
theorem dX5_back_41 : decode cX5_back 41 = .ok (.getfield 179, 3) := by decide +kernel
theorem dX5_back_44 : decode cX5_back 44 = .ok (.ireturn, 1) := by decide +kernel
theorem dX5_manyOf_0 : decode cX5_manyOf 0 = .ok (.iconst 0, 1) := by decide +kernel
theorem dX5_manyOf_1 : decode cX5_manyOf 1 = .ok (.istore_n 2, 1) := by decide +kernel
theorem dX5_manyOf_2 : decode cX5_manyOf 2 = .ok (.iconst 0, 1) := by decide +kernel
theorem dX5_manyOf_3 : decode cX5_manyOf 3 = .ok (.istore_n 3, 1) := by decide +kernel
theorem dX5_manyOf_4 : decode cX5_manyOf 4 = .ok (.iload_n 3, 1) := by decide +kernel
theorem dX5_manyOf_5 : decode cX5_manyOf 5 = .ok (.aload_n 0, 1) := by decide +kernel
theorem dX5_manyOf_6 : decode cX5_manyOf 6 = .ok (.getfield 110, 3) := by decide +kernel
theorem dX5_manyOf_9 : decode cX5_manyOf 9 = .ok (.if_icmp .ge 27, 3) := by decide +kernel
theorem dX5_manyOf_12 : decode cX5_manyOf 12 = .ok (.iload_n 2, 1) := by decide +kernel
theorem dX5_manyOf_13 : decode cX5_manyOf 13 = .ok (.aload_n 0, 1) := by decide +kernel
theorem dX5_manyOf_14 : decode cX5_manyOf 14 = .ok (.getfield 70, 3) := by decide +kernel
theorem dX5_manyOf_17 : decode cX5_manyOf 17 = .ok (.iload_n 3, 1) := by decide +kernel
theorem dX5_manyOf_18 : decode cX5_manyOf 18 = .ok (.iaload, 1) := by decide +kernel
theorem dX5_manyOf_19 : decode cX5_manyOf 19 = .ok (.iload_n 1, 1) := by decide +kernel
theorem dX5_manyOf_20 : decode cX5_manyOf 20 = .ok (.if_icmp .ne 7, 3) := by decide +kernel
theorem dX5_manyOf_23 : decode cX5_manyOf 23 = .ok (.iconst 1, 1) := by decide +kernel
theorem dX5_manyOf_24 : decode cX5_manyOf 24 = .ok (.goto 4, 3) := by decide +kernel
theorem dX5_manyOf_27 : decode cX5_manyOf 27 = .ok (.iconst 0, 1) := by decide +kernel
theorem dX5_manyOf_28 : decode cX5_manyOf 28 = .ok (.iadd, 1) := by decide +kernel
theorem dX5_manyOf_29 : decode cX5_manyOf 29 = .ok (.istore_n 2, 1) := by decide +kernel
theorem dX5_manyOf_30 : decode cX5_manyOf 30 = .ok (.iinc 3 1, 3) := by decide +kernel
theorem dX5_manyOf_33 : decode cX5_manyOf 33 = .ok (.goto (-29), 3) := by decide +kernel
theorem dX5_manyOf_36 : decode cX5_manyOf 36 = .ok (.iload_n 2, 1) := by decide +kernel
theorem dX5_manyOf_37 : decode cX5_manyOf 37 = .ok (.ireturn, 1) := by decide +kernel
set_option maxRecDepth 20000 in
theorem ggX5_count_X5_manyOf : GoodIn wsX5_count wsX5_manyOf := goodIn_r _ [12, 1, 3, 17, 18, 19, 20, 21, 22, 23, 24, 25, 26, 27, 28, 29, 30, 31, 32, 33, 34, 35, 36, 37, 38, 39, 40, 41, 42, 43, 44, 45, 46, 47, 48, 49, 50, 51, 52, 53, 54, 55] (by decide +kernel) (by decide +kernel)
set_option maxRecDepth 20000 in
theorem gX5_count_X5_manyOf : GoodIn wsX5_count (wsV RX5 286 RX5 yX5_manyOf wsX5_manyOf) := goodIn_app (goodIn_of _ (by decide +kernel)) ggX5_count_X5_manyOf
set_option maxRecDepth 20000 in
theorem ggX5_count_X5_pins : GoodIn wsX5_count wsX5_pins := goodIn_r _ [16, 2, 3, 17, 18, 19, 20, 21, 22, 23, 24, 25, 26, 27, 28, 29, 30, 31, 32, 33, 34, 35, 36, 37, 38, 39, 40, 41, 42, 43, 44, 45, 46, 47, 48, 49, 50, 51, 52, 53, 54, 55] (by decide +kernel) (by decide +kernel)
set_option maxRecDepth 20000 in
theorem gX5_count_X5_pins : GoodIn wsX5_count (wsV RX5 283 RX5 yX5_pins wsX5_pins) := goodIn_app (goodIn_of _ (by decide +kernel)) ggX5_count_X5_pins
theorem dX5_count_0 : decode cX5_count 0 = .ok (.iload_n 1, 1) := by decide +kernel
theorem dX5_count_1 : decode cX5_count 1 = .ok (.ifCond .ne 10, 3) := by decide +kernel
theorem dX5_count_4 : decode cX5_count 4 = .ok (.aload_n 0, 1) := by decide +kernel
theorem dX5_count_5 : decode cX5_count 5 = .ok (.getfield 110, 3) := by decide +kernel
theorem dX5_count_8 : decode cX5_count 8 = .ok (.goto 170, 3) := by decide +kernel
theorem dX5_count_11 : decode cX5_count 11 = .ok (.iload_n 1, 1) := by decide +kernel
theorem dX5_count_12 : decode cX5_count 12 = .ok (.iconst 1, 1) := by decide +kernel
theorem dX5_count_13 : decode cX5_count 13 = .ok (.if_icmp .ne 10, 3) := by decide +kernel
theorem dX5_count_16 : decode cX5_count 16 = .ok (.aload_n 0, 1) := by decide +kernel
theorem dX5_count_17 : decode cX5_count 17 = .ok (.getfield 116, 3) := by decide +kernel
theorem dX5_count_20 : decode cX5_count 20 = .ok (.goto 158, 3) := by decide +kernel
theorem dX5_count_23 : decode cX5_count 23 = .ok (.iload_n 1, 1) := by decide +kernel
theorem dX5_count_24 : decode cX5_count 24 = .ok (.iconst 2, 1) := by decide +kernel
theorem dX5_count_25 : decode cX5_count 25 = .ok (.if_icmp .ne 13, 3) := by decide +kernel
theorem dX5_count_28 : decode cX5_count 28 = .ok (.aload_n 0, 1) := by decide +kernel
theorem dX5_count_29 : decode cX5_count 29 = .ok (.getfield 70, 3) := by decide +kernel
theorem dX5_count_32 : decode cX5_count 32 = .ok (.bipush 18, 2) := by decide +kernel
theorem dX5_count_34 : decode cX5_count 34 = .ok (.iaload, 1) := by decide +kernel
theorem dX5_count_35 : decode cX5_count 35 = .ok (.goto 143, 3) := by decide +kernel
theorem dX5_count_38 : decode cX5_count 38 = .ok (.iload_n 1, 1) := by decide +kernel
theorem dX5_count_39 : decode cX5_count 39 = .ok (.iconst 3, 1) := by decide +kernel
theorem dX5_count_40 : decode cX5_count 40 = .ok (.if_icmp .ne 11, 3) := by decide +kernel
theorem dX5_count_43 : decode cX5_count 43 = .ok (.aload_n 0, 1) := by decide +kernel
theorem dX5_count_44 : decode cX5_count 44 = .ok (.iconst 0, 1) := by decide +kernel
theorem dX5_count_45 : decode cX5_count 45 = .ok (.invokevirtual 286, 3) := by decide +kernel
theorem dX5_count_48 : decode cX5_count 48 = .ok (.goto 130, 3) := by decide +kernel
theorem dX5_count_51 : decode cX5_count 51 = .ok (.iload_n 1, 1) := by decide +kernel
theorem dX5_count_52 : decode cX5_count 52 = .ok (.iconst 4, 1) := by decide +kernel
theorem dX5_count_53 : decode cX5_count 53 = .ok (.if_icmp .ne 11, 3) := by decide +kernel
theorem dX5_count_56 : decode cX5_count 56 = .ok (.aload_n 0, 1) := by decide +kernel
theorem dX5_count_57 : decode cX5_count 57 = .ok (.iconst 1, 1) := by decide +kernel
theorem dX5_count_58 : decode cX5_count 58 = .ok (.invokevirtual 286, 3) := by decide +kernel
theorem dX5_count_61 : decode cX5_count 61 = .ok (.goto 117, 3) := by decide +kernel
theorem dX5_count_64 : decode cX5_count 64 = .ok (.iload_n 1, 1) := by decide +kernel
theorem dX5_count_65 : decode cX5_count 65 = .ok (.iconst 5, 1) := by decide +kernel
theorem dX5_count_66 : decode cX5_count 66 = .ok (.if_icmp .ne 11, 3) := by decide +kernel
theorem dX5_count_69 : decode cX5_count 69 = .ok (.aload_n 0, 1) := by decide +kernel
theorem dX5_count_70 : decode cX5_count 70 = .ok (.iconst 2, 1) := by decide +kernel
theorem dX5_count_71 : decode cX5_count 71 = .ok (.invokevirtual 286, 3) := by decide +kernel
theorem dX5_count_74 : decode cX5_count 74 = .ok (.goto 104, 3) := by decide +kernel
theorem dX5_count_77 : decode cX5_count 77 = .ok (.iload_n 1, 1) := by decide +kernel
theorem dX5_count_78 : decode cX5_count 78 = .ok (.bipush 6, 2) := by decide +kernel
theorem dX5_count_80 : decode cX5_count 80 = .ok (.if_icmp .ne 11, 3) := by decide +kernel
theorem dX5_count_83 : decode cX5_count 83 = .ok (.aload_n 0, 1) := by decide +kernel
theorem dX5_count_84 : decode cX5_count 84 = .ok (.iconst 3, 1) := by decide +kernel
theorem dX5_count_85 : decode cX5_count 85 = .ok (.invokevirtual 286, 3) := by decide +kernel
theorem dX5_count_88 : decode cX5_count 88 = .ok (.goto 90, 3) := by decide +kernel
theorem dX5_count_91 : decode cX5_count 91 = .ok (.iload_n 1, 1) := by decide +kernel
theorem dX5_count_92 : decode cX5_count 92 = .ok (.bipush 7, 2) := by decide +kernel
theorem dX5_count_94 : decode cX5_count 94 = .ok (.if_icmp .ne 17, 3) := by decide +kernel
theorem dX5_count_97 : decode cX5_count 97 = .ok (.aload_n 0, 1) := by decide +kernel
theorem dX5_count_98 : decode cX5_count 98 = .ok (.getfield 70, 3) := by decide +kernel
theorem dX5_count_101 : decode cX5_count 101 = .ok (.bipush 19, 2) := by decide +kernel
theorem dX5_count_103 : decode cX5_count 103 = .ok (.iaload, 1) := by decide +kernel
theorem dX5_count_104 : decode cX5_count 104 = .ok (.sipush 10000, 3) := by decide +kernel
theorem dX5_count_107 : decode cX5_count 107 = .ok (.iadd, 1) := by decide +kernel
theorem dX5_count_108 : decode cX5_count 108 = .ok (.goto 70, 3) := by decide +kernel
theorem dX5_count_111 : decode cX5_count 111 = .ok (.iload_n 1, 1) := by decide +kernel
theorem dX5_count_112 : decode cX5_count 112 = .ok (.bipush 8, 2) := by decide +kernel
theorem dX5_count_114 : decode cX5_count 114 = .ok (.if_icmp .ne 11, 3) := by decide +kernel
theorem dX5_count_117 : decode cX5_count 117 = .ok (.aload_n 0, 1) := by decide +kernel
theorem dX5_count_118 : decode cX5_count 118 = .ok (.iconst 0, 1) := by decide +kernel
theorem dX5_count_119 : decode cX5_count 119 = .ok (.invokevirtual 283, 3) := by decide +kernel
theorem dX5_count_122 : decode cX5_count 122 = .ok (.goto 56, 3) := by decide +kernel
theorem dX5_count_125 : decode cX5_count 125 = .ok (.iload_n 1, 1) := by decide +kernel
theorem dX5_count_126 : decode cX5_count 126 = .ok (.bipush 9, 2) := by decide +kernel
theorem dX5_count_128 : decode cX5_count 128 = .ok (.if_icmp .ne 10, 3) := by decide +kernel
theorem dX5_count_131 : decode cX5_count 131 = .ok (.aload_n 0, 1) := by decide +kernel
theorem dX5_count_132 : decode cX5_count 132 = .ok (.getfield 182, 3) := by decide +kernel
theorem dX5_count_135 : decode cX5_count 135 = .ok (.goto 43, 3) := by decide +kernel
theorem dX5_count_138 : decode cX5_count 138 = .ok (.iload_n 1, 1) := by decide +kernel
theorem dX5_count_139 : decode cX5_count 139 = .ok (.bipush 10, 2) := by decide +kernel
theorem dX5_count_141 : decode cX5_count 141 = .ok (.if_icmp .ne 10, 3) := by decide +kernel
theorem dX5_count_144 : decode cX5_count 144 = .ok (.aload_n 0, 1) := by decide +kernel
theorem dX5_count_145 : decode cX5_count 145 = .ok (.getfield 176, 3) := by decide +kernel
theorem dX5_count_148 : decode cX5_count 148 = .ok (.goto 30, 3) := by decide +kernel
theorem dX5_count_151 : decode cX5_count 151 = .ok (.iload_n 1, 1) := by decide +kernel
theorem dX5_count_152 : decode cX5_count 152 = .ok (.bipush 11, 2) := by decide +kernel
theorem dX5_count_154 : decode cX5_count 154 = .ok (.if_icmp .ne 10, 3) := by decide +kernel
theorem dX5_count_157 : decode cX5_count 157 = .ok (.aload_n 0, 1) := by decide +kernel
theorem dX5_count_158 : decode cX5_count 158 = .ok (.getfield 179, 3) := by decide +kernel
theorem dX5_count_161 : decode cX5_count 161 = .ok (.goto 17, 3) := by decide +kernel
theorem dX5_count_164 : decode cX5_count 164 = .ok (.iload_n 1, 1) := by decide +kernel
theorem dX5_count_165 : decode cX5_count 165 = .ok (.bipush 12, 2) := by decide +kernel
theorem dX5_count_167 : decode cX5_count 167 = .ok (.if_icmp .ne 10, 3) := by decide +kernel
theorem dX5_count_170 : decode cX5_count 170 = .ok (.aload_n 0, 1) := by decide +kernel
theorem dX5_count_171 : decode cX5_count 171 = .ok (.getfield 127, 3) := by decide +kernel
theorem dX5_count_174 : decode cX5_count 174 = .ok (.goto 4, 3) := by decide +kernel
theorem dX5_count_177 : decode cX5_count 177 = .ok (.iconst (-1), 1) := by decide +kernel
theorem dX5_count_178 : decode cX5_count 178 = .ok (.ireturn, 1) := by decide +kernel
theorem dJ9_max_7cf53_0 : decode cJ9_max_7cf53 0 = .ok (.iload_n 0, 1) := by decide +kernel
theorem dJ9_max_7cf53_1 : decode cJ9_max_7cf53 1 = .ok (.iload_n 1, 1) := by decide +kernel
theorem dJ9_max_7cf53_2 : decode cJ9_max_7cf53 2 = .ok (.if_icmp .lt 7, 3) := by decide +kernel
theorem dJ9_max_7cf53_5 : decode cJ9_max_7cf53 5 = .ok (.iload_n 0, 1) := by decide +kernel
theorem dJ9_max_7cf53_6 : decode cJ9_max_7cf53 6 = .ok (.goto 4, 3) := by decide +kernel
theorem dJ9_max_7cf53_9 : decode cJ9_max_7cf53 9 = .ok (.iload_n 1, 1) := by decide +kernel
theorem dJ9_max_7cf53_10 : decode cJ9_max_7cf53 10 = .ok (.ireturn, 1) := by decide +kernel
theorem dJ9_min_7cf53_0 : decode cJ9_min_7cf53 0 = .ok (.iload_n 0, 1) := by decide +kernel
theorem dJ9_min_7cf53_1 : decode cJ9_min_7cf53 1 = .ok (.iload_n 1, 1) := by decide +kernel
theorem dJ9_min_7cf53_2 : decode cJ9_min_7cf53 2 = .ok (.if_icmp .gt 7, 3) := by decide +kernel
theorem dJ9_min_7cf53_5 : decode cJ9_min_7cf53 5 = .ok (.iload_n 0, 1) := by decide +kernel
theorem dJ9_min_7cf53_6 : decode cJ9_min_7cf53 6 = .ok (.goto 4, 3) := by decide +kernel
theorem dJ9_min_7cf53_9 : decode cJ9_min_7cf53 9 = .ok (.iload_n 1, 1) := by decide +kernel
theorem dJ9_min_7cf53_10 : decode cJ9_min_7cf53 10 = .ok (.ireturn, 1) := by decide +kernel
set_option maxRecDepth 20000 in
theorem ggJ0_length_8abf5_J0_coder_7d493 : GoodIn wsJ0_length_8abf5 wsJ0_coder_7d493 := goodIn_r _ [6, 7, 8] (by decide +kernel) (by decide +kernel)
set_option maxRecDepth 20000 in
theorem gJ0_length_8abf5_J0_coder_7d493 : GoodIn wsJ0_length_8abf5 (wsV RJ0 335 RJ0 yJ0_coder_7d493 wsJ0_coder_7d493) := goodIn_app (goodIn_of _ (by decide +kernel)) ggJ0_length_8abf5_J0_coder_7d493
theorem dJ0_length_8abf5_0 : decode cJ0_length_8abf5 0 = .ok (.aload_n 0, 1) := by decide +kernel
theorem dJ0_length_8abf5_1 : decode cJ0_length_8abf5 1 = .ok (.getfield 9, 3) := by decide +kernel
theorem dJ0_length_8abf5_4 : decode cJ0_length_8abf5 4 = .ok (.arraylength, 1) := by decide +kernel
theorem dJ0_length_8abf5_5 : decode cJ0_length_8abf5 5 = .ok (.aload_n 0, 1) := by decide +kernel
theorem dJ0_length_8abf5_6 : decode cJ0_length_8abf5 6 = .ok (.invokevirtual 335, 3) := by decide +kernel
theorem dJ0_length_8abf5_9 : decode cJ0_length_8abf5 9 = .ok (.ishr, 1) := by decide +kernel
theorem dJ0_length_8abf5_10 : decode cJ0_length_8abf5 10 = .ok (.ireturn, 1) := by decide +kernel
set_option maxRecDepth 20000 in
theorem ggJ0_charAt_5068e_J0_isLatin1_aae02 : GoodIn wsJ0_charAt_5068e wsJ0_isLatin1_aae02 := goodIn_r _ [6, 7, 8] (by decide +kernel) (by decide +kernel)
set_option maxRecDepth 20000 in
theorem gJ0_charAt_5068e_J0_isLatin1_aae02 : GoodIn wsJ0_charAt_5068e (wsV RJ0 492 RJ0 yJ0_isLatin1_aae02 wsJ0_isLatin1_aae02) := goodIn_app (goodIn_of _ (by decide +kernel)) ggJ0_charAt_5068e_J0_isLatin1_aae02
set_option maxRecDepth 20000 in
theorem ggJ0_charAt_5068e_J1_charAt_3b067 : GoodIn wsJ0_charAt_5068e wsJ1_charAt_3b067 := goodIn_r _ [12, 13, 14, 5, 15, 16, 17, 18, 19, 20] (by decide +kernel) (by decide +kernel)
set_option maxRecDepth 20000 in
theorem gJ0_charAt_5068e_J1_charAt_3b067 : GoodIn wsJ0_charAt_5068e (va_wsS RJ0 495 yJ1_charAt_3b067 wsJ1_charAt_3b067) := goodIn_app (goodIn_of _ (by decide +kernel)) ggJ0_charAt_5068e_J1_charAt_3b067
set_option maxRecDepth 20000 in
theorem ggJ0_charAt_5068e_J2_charAt_3b067 : GoodIn wsJ0_charAt_5068e wsJ2_charAt_3b067 := goodIn_r _ [24, 25, 26, 23, 27, 28, 29, 30, 31, 14, 5, 15, 16, 17, 18, 19, 20, 32, 33, 34, 35, 36, 37] (by decide +kernel) (by decide +kernel)
set_option maxRecDepth 20000 in
theorem gJ0_charAt_5068e_J2_charAt_3b067 : GoodIn wsJ0_charAt_5068e (va_wsS RJ0 498 yJ2_charAt_3b067 wsJ2_charAt_3b067) := goodIn_app (goodIn_of _ (by decide +kernel)) ggJ0_charAt_5068e_J2_charAt_3b067
theorem dJ0_charAt_5068e_0 : decode cJ0_charAt_5068e 0 = .ok (.aload_n 0, 1) := by decide +kernel
theorem dJ0_charAt_5068e_1 : decode cJ0_charAt_5068e 1 = .ok (.invokevirtual 492, 3) := by decide +kernel
theorem dJ0_charAt_5068e_4 : decode cJ0_charAt_5068e 4 = .ok (.ifCond .eq 12, 3) := by decide +kernel
theorem dJ0_charAt_5068e_7 : decode cJ0_charAt_5068e 7 = .ok (.aload_n 0, 1) := by decide +kernel
theorem dJ0_charAt_5068e_8 : decode cJ0_charAt_5068e 8 = .ok (.getfield 9, 3) := by decide +kernel
theorem dJ0_charAt_5068e_11 : decode cJ0_charAt_5068e 11 = .ok (.iload_n 1, 1) := by decide +kernel
theorem dJ0_charAt_5068e_12 : decode cJ0_charAt_5068e 12 = .ok (.invokestatic 495, 3) := by decide +kernel
theorem dJ0_charAt_5068e_15 : decode cJ0_charAt_5068e 15 = .ok (.ireturn, 1) := by decide +kernel
theorem dJ0_charAt_5068e_16 : decode cJ0_charAt_5068e 16 = .ok (.aload_n 0, 1) := by decide +kernel
theorem dJ0_charAt_5068e_17 : decode cJ0_charAt_5068e 17 = .ok (.getfield 9, 3) := by decide +kernel
theorem dJ0_charAt_5068e_20 : decode cJ0_charAt_5068e 20 = .ok (.iload_n 1, 1) := by decide +kernel
theorem dJ0_charAt_5068e_21 : decode cJ0_charAt_5068e 21 = .ok (.invokestatic 498, 3) := by decide +kernel
theorem dJ0_charAt_5068e_24 : decode cJ0_charAt_5068e 24 = .ok (.ireturn, 1) := by decide +kernel
theorem dJ0_coder_7d493_0 : decode cJ0_coder_7d493 0 = .ok (.getstatic 38, 3) := by decide +kernel
theorem dJ0_coder_7d493_3 : decode cJ0_coder_7d493 3 = .ok (.ifCond .eq 10, 3) := by decide +kernel
theorem dJ0_coder_7d493_6 : decode cJ0_coder_7d493 6 = .ok (.aload_n 0, 1) := by decide +kernel
theorem dJ0_coder_7d493_7 : decode cJ0_coder_7d493 7 = .ok (.getfield 15, 3) := by decide +kernel
theorem dJ0_coder_7d493_10 : decode cJ0_coder_7d493 10 = .ok (.goto 4, 3) := by decide +kernel
theorem dJ0_coder_7d493_13 : decode cJ0_coder_7d493 13 = .ok (.iconst 1, 1) := by decide +kernel
theorem dJ0_coder_7d493_14 : decode cJ0_coder_7d493 14 = .ok (.ireturn, 1) := by decide +kernel
theorem dJ0_isLatin1_aae02_0 : decode cJ0_isLatin1_aae02 0 = .ok (.getstatic 38, 3) := by decide +kernel
theorem dJ0_isLatin1_aae02_3 : decode cJ0_isLatin1_aae02 3 = .ok (.ifCond .eq 14, 3) := by decide +kernel
theorem dJ0_isLatin1_aae02_6 : decode cJ0_isLatin1_aae02 6 = .ok (.aload_n 0, 1) := by decide +kernel
theorem dJ0_isLatin1_aae02_7 : decode cJ0_isLatin1_aae02 7 = .ok (.getfield 15, 3) := by decide +kernel
theorem dJ0_isLatin1_aae02_10 : decode cJ0_isLatin1_aae02 10 = .ok (.ifCond .ne 7, 3) := by decide +kernel
theorem dJ0_isLatin1_aae02_13 : decode cJ0_isLatin1_aae02 13 = .ok (.iconst 1, 1) := by decide +kernel
theorem dJ0_isLatin1_aae02_14 : decode cJ0_isLatin1_aae02 14 = .ok (.goto 4, 3) := by decide +kernel
theorem dJ0_isLatin1_aae02_17 : decode cJ0_isLatin1_aae02 17 = .ok (.iconst 0, 1) := by decide +kernel
theorem dJ0_isLatin1_aae02_18 : decode cJ0_isLatin1_aae02 18 = .ok (.ireturn, 1) := by decide +kernel
set_option maxRecDepth 20000 in
theorem ggJ0_checkIndex_df160_J3_checkIndex_8e157 : GoodIn wsJ0_checkIndex_df160 wsJ3_checkIndex_8e157 := goodIn_r _ [5] (by decide +kernel) (by decide +kernel)
set_option maxRecDepth 20000 in
theorem gJ0_checkIndex_df160_J3_checkIndex_8e157 : GoodIn wsJ0_checkIndex_df160 (va_wsS RJ0 1059 yJ3_checkIndex_8e157 wsJ3_checkIndex_8e157) := goodIn_app (goodIn_of _ (by decide +kernel)) ggJ0_checkIndex_df160_J3_checkIndex_8e157
theorem dJ0_checkIndex_df160_0 : decode cJ0_checkIndex_df160 0 = .ok (.iload_n 0, 1) := by decide +kernel
theorem dJ0_checkIndex_df160_1 : decode cJ0_checkIndex_df160 1 = .ok (.iload_n 1, 1) := by decide +kernel
theorem dJ0_checkIndex_df160_2 : decode cJ0_checkIndex_df160 2 = .ok (.getstatic 1053, 3) := by decide +kernel
theorem dJ0_checkIndex_df160_5 : decode cJ0_checkIndex_df160 5 = .ok (.invokestatic 1059, 3) := by decide +kernel
theorem dJ0_checkIndex_df160_8 : decode cJ0_checkIndex_df160 8 = .ok (.pop, 1) := by decide +kernel
theorem dJ0_checkIndex_df160_9 : decode cJ0_checkIndex_df160 9 = .ok (.return_, 1) := by decide +kernel
set_option maxRecDepth 20000 in
theorem ggJ1_charAt_3b067_J0_checkIndex_df160 : GoodIn wsJ1_charAt_3b067 wsJ0_checkIndex_df160 := goodIn_r _ [4, 5, 6, 7, 8, 9] (by decide +kernel) (by decide +kernel)
set_option maxRecDepth 20000 in
theorem gJ1_charAt_3b067_J0_checkIndex_df160 : GoodIn wsJ1_charAt_3b067 (va_wsS RJ1 9 yJ0_checkIndex_df160 wsJ0_checkIndex_df160) := goodIn_app (goodIn_of _ (by decide +kernel)) ggJ1_charAt_3b067_J0_checkIndex_df160
theorem dJ1_charAt_3b067_0 : decode cJ1_charAt_3b067 0 = .ok (.iload_n 1, 1) := by decide +kernel
theorem dJ1_charAt_3b067_1 : decode cJ1_charAt_3b067 1 = .ok (.aload_n 0, 1) := by decide +kernel
theorem dJ1_charAt_3b067_2 : decode cJ1_charAt_3b067 2 = .ok (.arraylength, 1) := by decide +kernel
theorem dJ1_charAt_3b067_3 : decode cJ1_charAt_3b067 3 = .ok (.invokestatic 9, 3) := by decide +kernel
theorem dJ1_charAt_3b067_6 : decode cJ1_charAt_3b067 6 = .ok (.aload_n 0, 1) := by decide +kernel
theorem dJ1_charAt_3b067_7 : decode cJ1_charAt_3b067 7 = .ok (.iload_n 1, 1) := by decide +kernel
theorem dJ1_charAt_3b067_8 : decode cJ1_charAt_3b067 8 = .ok (.baload, 1) := by decide +kernel
theorem dJ1_charAt_3b067_9 : decode cJ1_charAt_3b067 9 = .ok (.sipush 255, 3) := by decide +kernel
theorem dJ1_charAt_3b067_12 : decode cJ1_charAt_3b067 12 = .ok (.iand, 1) := by decide +kernel
theorem dJ1_charAt_3b067_13 : decode cJ1_charAt_3b067 13 = .ok (.i2c, 1) := by decide +kernel
theorem dJ1_charAt_3b067_14 : decode cJ1_charAt_3b067 14 = .ok (.ireturn, 1) := by decide +kernel
set_option maxRecDepth 20000 in
theorem ggJ2_getChar_3b067_J2_length_9d52b : GoodIn wsJ2_getChar_3b067 wsJ2_length_9d52b := goodIn_r _ [7] (by decide +kernel) (by decide +kernel)
set_option maxRecDepth 20000 in
theorem gJ2_getChar_3b067_J2_length_9d52b : GoodIn wsJ2_getChar_3b067 (va_wsS RJ2 48 yJ2_length_9d52b wsJ2_length_9d52b) := goodIn_app (goodIn_of _ (by decide +kernel)) ggJ2_getChar_3b067_J2_length_9d52b
theorem dJ2_getChar_3b067_0 : decode cJ2_getChar_3b067 0 = .ok (.getstatic 44, 3) := by decide +kernel
theorem dJ2_getChar_3b067_3 : decode cJ2_getChar_3b067 3 = .ok (.ifCond .ne 25, 3) := by decide +kernel
theorem dJ2_getChar_3b067_6 : decode cJ2_getChar_3b067 6 = .ok (.iload_n 1, 1) := by decide +kernel
theorem dJ2_getChar_3b067_7 : decode cJ2_getChar_3b067 7 = .ok (.ifCond .lt 11, 3) := by decide +kernel
theorem dJ2_getChar_3b067_10 : decode cJ2_getChar_3b067 10 = .ok (.iload_n 1, 1) := by decide +kernel
theorem dJ2_getChar_3b067_11 : decode cJ2_getChar_3b067 11 = .ok (.aload_n 0, 1) := by decide +kernel
theorem dJ2_getChar_3b067_12 : decode cJ2_getChar_3b067 12 = .ok (.invokestatic 48, 3) := by decide +kernel
theorem dJ2_getChar_3b067_15 : decode cJ2_getChar_3b067 15 = .ok (.if_icmp .lt 13, 3) := by decide +kernel
theorem dJ2_getChar_3b067_18 : decode cJ2_getChar_3b067 18 = .ok (.new 52, 3) := by decide +kernel
theorem dJ2_getChar_3b067_21 : decode cJ2_getChar_3b067 21 = .ok (.dup, 1) := by decide +kernel
theorem dJ2_getChar_3b067_22 : decode cJ2_getChar_3b067 22 = .ok (.ldc 54, 2) := by decide +kernel
theorem dJ2_getChar_3b067_24 : decode cJ2_getChar_3b067 24 = .ok (.invokespecial 56, 3) := by decide +kernel
theorem dJ2_getChar_3b067_27 : decode cJ2_getChar_3b067 27 = .ok (.athrow, 1) := by decide +kernel
theorem dJ2_getChar_3b067_28 : decode cJ2_getChar_3b067 28 = .ok (.iload_n 1, 1) := by decide +kernel
theorem dJ2_getChar_3b067_29 : decode cJ2_getChar_3b067 29 = .ok (.iconst 1, 1) := by decide +kernel
theorem dJ2_getChar_3b067_30 : decode cJ2_getChar_3b067 30 = .ok (.ishl, 1) := by decide +kernel
theorem dJ2_getChar_3b067_31 : decode cJ2_getChar_3b067 31 = .ok (.istore_n 1, 1) := by decide +kernel
theorem dJ2_getChar_3b067_32 : decode cJ2_getChar_3b067 32 = .ok (.aload_n 0, 1) := by decide +kernel
theorem dJ2_getChar_3b067_33 : decode cJ2_getChar_3b067 33 = .ok (.iload_n 1, 1) := by decide +kernel
theorem dJ2_getChar_3b067_34 : decode cJ2_getChar_3b067 34 = .ok (.iinc 1 1, 3) := by decide +kernel
theorem dJ2_getChar_3b067_37 : decode cJ2_getChar_3b067 37 = .ok (.baload, 1) := by decide +kernel
theorem dJ2_getChar_3b067_38 : decode cJ2_getChar_3b067 38 = .ok (.sipush 255, 3) := by decide +kernel
theorem dJ2_getChar_3b067_41 : decode cJ2_getChar_3b067 41 = .ok (.iand, 1) := by decide +kernel
theorem dJ2_getChar_3b067_42 : decode cJ2_getChar_3b067 42 = .ok (.getstatic 59, 3) := by decide +kernel
theorem dJ2_getChar_3b067_45 : decode cJ2_getChar_3b067 45 = .ok (.ishl, 1) := by decide +kernel
theorem dJ2_getChar_3b067_46 : decode cJ2_getChar_3b067 46 = .ok (.aload_n 0, 1) := by decide +kernel
theorem dJ2_getChar_3b067_47 : decode cJ2_getChar_3b067 47 = .ok (.iload_n 1, 1) := by decide +kernel
theorem dJ2_getChar_3b067_48 : decode cJ2_getChar_3b067 48 = .ok (.baload, 1) := by decide +kernel
theorem dJ2_getChar_3b067_49 : decode cJ2_getChar_3b067 49 = .ok (.sipush 255, 3) := by decide +kernel
theorem dJ2_getChar_3b067_52 : decode cJ2_getChar_3b067 52 = .ok (.iand, 1) := by decide +kernel
theorem dJ2_getChar_3b067_53 : decode cJ2_getChar_3b067 53 = .ok (.getstatic 63, 3) := by decide +kernel
theorem dJ2_getChar_3b067_56 : decode cJ2_getChar_3b067 56 = .ok (.ishl, 1) := by decide +kernel
theorem dJ2_getChar_3b067_57 : decode cJ2_getChar_3b067 57 = .ok (.ior, 1) := by decide +kernel
theorem dJ2_getChar_3b067_58 : decode cJ2_getChar_3b067 58 = .ok (.i2c, 1) := by decide +kernel
theorem dJ2_getChar_3b067_59 : decode cJ2_getChar_3b067 59 = .ok (.ireturn, 1) := by decide +kernel
theorem dJ2_length_9d52b_0 : decode cJ2_length_9d52b 0 = .ok (.aload_n 0, 1) := by decide +kernel
theorem dJ2_length_9d52b_1 : decode cJ2_length_9d52b 1 = .ok (.arraylength, 1) := by decide +kernel
theorem dJ2_length_9d52b_2 : decode cJ2_length_9d52b 2 = .ok (.iconst 1, 1) := by decide +kernel
theorem dJ2_length_9d52b_3 : decode cJ2_length_9d52b 3 = .ok (.ishr, 1) := by decide +kernel
theorem dJ2_length_9d52b_4 : decode cJ2_length_9d52b 4 = .ok (.ireturn, 1) := by decide +kernel
set_option maxRecDepth 20000 in
theorem ggJ2_charAt_3b067_J2_checkIndex_2214a : GoodIn wsJ2_charAt_3b067 wsJ2_checkIndex_2214a := goodIn_r _ [4, 5, 6, 3, 7, 8, 9, 10, 11, 12, 13, 14, 15, 16] (by decide +kernel) (by decide +kernel)
set_option maxRecDepth 20000 in
theorem gJ2_charAt_3b067_J2_checkIndex_2214a : GoodIn wsJ2_charAt_3b067 (va_wsS RJ2 67 yJ2_checkIndex_2214a wsJ2_checkIndex_2214a) := goodIn_app (goodIn_of _ (by decide +kernel)) ggJ2_charAt_3b067_J2_checkIndex_2214a
set_option maxRecDepth 20000 in
theorem ggJ2_charAt_3b067_J2_getChar_3b067 : GoodIn wsJ2_charAt_3b067 wsJ2_getChar_3b067 := goodIn_r _ [19, 20, 21, 22, 5, 6, 3, 7] (by decide +kernel) (by decide +kernel)
set_option maxRecDepth 20000 in
theorem gJ2_charAt_3b067_J2_getChar_3b067 : GoodIn wsJ2_charAt_3b067 (va_wsS RJ2 71 yJ2_getChar_3b067 wsJ2_getChar_3b067) := goodIn_app (goodIn_of _ (by decide +kernel)) ggJ2_charAt_3b067_J2_getChar_3b067
theorem dJ2_charAt_3b067_0 : decode cJ2_charAt_3b067 0 = .ok (.iload_n 1, 1) := by decide +kernel
theorem dJ2_charAt_3b067_1 : decode cJ2_charAt_3b067 1 = .ok (.aload_n 0, 1) := by decide +kernel
theorem dJ2_charAt_3b067_2 : decode cJ2_charAt_3b067 2 = .ok (.invokestatic 67, 3) := by decide +kernel
theorem dJ2_charAt_3b067_5 : decode cJ2_charAt_3b067 5 = .ok (.aload_n 0, 1) := by decide +kernel
theorem dJ2_charAt_3b067_6 : decode cJ2_charAt_3b067 6 = .ok (.iload_n 1, 1) := by decide +kernel
theorem dJ2_charAt_3b067_7 : decode cJ2_charAt_3b067 7 = .ok (.invokestatic 71, 3) := by decide +kernel
theorem dJ2_charAt_3b067_10 : decode cJ2_charAt_3b067 10 = .ok (.ireturn, 1) := by decide +kernel
set_option maxRecDepth 20000 in
theorem ggJ2_checkIndex_2214a_J2_length_9d52b : GoodIn wsJ2_checkIndex_2214a wsJ2_length_9d52b := goodIn_r _ [4] (by decide +kernel) (by decide +kernel)
set_option maxRecDepth 20000 in
theorem gJ2_checkIndex_2214a_J2_length_9d52b : GoodIn wsJ2_checkIndex_2214a (va_wsS RJ2 48 yJ2_length_9d52b wsJ2_length_9d52b) := goodIn_app (goodIn_of _ (by decide +kernel)) ggJ2_checkIndex_2214a_J2_length_9d52b
set_option maxRecDepth 20000 in
theorem ggJ2_checkIndex_2214a_J0_checkIndex_df160 : GoodIn wsJ2_checkIndex_2214a wsJ0_checkIndex_df160 := goodIn_r _ [8, 9, 10, 11, 12, 13] (by decide +kernel) (by decide +kernel)
set_option maxRecDepth 20000 in
theorem gJ2_checkIndex_2214a_J0_checkIndex_df160 : GoodIn wsJ2_checkIndex_2214a (va_wsS RJ2 414 yJ0_checkIndex_df160 wsJ0_checkIndex_df160) := goodIn_app (goodIn_of _ (by decide +kernel)) ggJ2_checkIndex_2214a_J0_checkIndex_df160
theorem dJ2_checkIndex_2214a_0 : decode cJ2_checkIndex_2214a 0 = .ok (.iload_n 0, 1) := by decide +kernel
theorem dJ2_checkIndex_2214a_1 : decode cJ2_checkIndex_2214a 1 = .ok (.aload_n 1, 1) := by decide +kernel
theorem dJ2_checkIndex_2214a_2 : decode cJ2_checkIndex_2214a 2 = .ok (.invokestatic 48, 3) := by decide +kernel
theorem dJ2_checkIndex_2214a_5 : decode cJ2_checkIndex_2214a 5 = .ok (.invokestatic 414, 3) := by decide +kernel
theorem dJ2_checkIndex_2214a_8 : decode cJ2_checkIndex_2214a 8 = .ok (.return_, 1) := by decide +kernel
theorem dJ3_checkIndex_8e157_0 : decode cJ3_checkIndex_8e157 0 = .ok (.iload_n 0, 1) := by decide +kernel
theorem dJ3_checkIndex_8e157_1 : decode cJ3_checkIndex_8e157 1 = .ok (.ifCond .lt 8, 3) := by decide +kernel
theorem dJ3_checkIndex_8e157_4 : decode cJ3_checkIndex_8e157 4 = .ok (.iload_n 0, 1) := by decide +kernel
theorem dJ3_checkIndex_8e157_5 : decode cJ3_checkIndex_8e157 5 = .ok (.iload_n 1, 1) := by decide +kernel
theorem dJ3_checkIndex_8e157_6 : decode cJ3_checkIndex_8e157 6 = .ok (.if_icmp .lt 10, 3) := by decide +kernel
theorem dJ3_checkIndex_8e157_9 : decode cJ3_checkIndex_8e157 9 = .ok (.aload_n 2, 1) := by decide +kernel
theorem dJ3_checkIndex_8e157_10 : decode cJ3_checkIndex_8e157 10 = .ok (.iload_n 0, 1) := by decide +kernel
theorem dJ3_checkIndex_8e157_11 : decode cJ3_checkIndex_8e157 11 = .ok (.iload_n 1, 1) := by decide +kernel
theorem dJ3_checkIndex_8e157_12 : decode cJ3_checkIndex_8e157 12 = .ok (.invokestatic 95, 3) := by decide +kernel
theorem dJ3_checkIndex_8e157_15 : decode cJ3_checkIndex_8e157 15 = .ok (.athrow, 1) := by decide +kernel
theorem dJ3_checkIndex_8e157_16 : decode cJ3_checkIndex_8e157 16 = .ok (.iload_n 0, 1) := by decide +kernel
theorem dJ3_checkIndex_8e157_17 : decode cJ3_checkIndex_8e157 17 = .ok (.ireturn, 1) := by decide +kernel
set_option maxRecDepth 20000 in
theorem ggL_law_X4_init : GoodIn wsL_law wsX4_init := goodIn_r _ [8, 9, 10, 11, 12, 13, 14, 15, 16, 17, 18, 19, 20, 21, 22, 23, 24, 25, 26, 27, 28, 29, 30, 31, 32, 33, 34, 35, 36, 37, 38, 39, 40, 41, 42, 43, 44, 45, 46, 47, 48, 49, 50, 51, 52, 53, 54, 55, 56, 57, 58, 59, 60, 61, 62, 63, 64, 65, 66, 67, 68, 69, 70, 71, 72, 73, 74, 75, 76, 77, 78, 79, 80, 81, 82, 83, 84, 85, 86, 87, 88, 89, 90, 91, 92, 93, 94, 95, 96, 97, 98, 99, 100, 101, 102, 103, 104, 105, 106, 107, 108, 109, 110, 111, 112, 113, 114, 115, 116, 117, 118, 119, 120, 121, 122, 123, 124, 125, 126, 127, 128, 129, 130, 131, 132, 133, 134, 135, 136, 137, 138, 139, 140, 141, 142, 143, 144, 145, 146, 147, 148, 149, 150, 151, 152, 153, 154, 155, 156, 157, 158, 159, 160, 161, 162, 163, 164, 165, 166, 167, 168, 169, 170, 171, 172, 173, 174, 175, 176, 809, 810, 811, 812, 760, 761, 762, 763, 764, 765, 766, 767, 768, 769, 813, 814, 815, 816, 817, 818, 819, 820, 821, 822, 823, 824, 825, 826, 827, 828, 829, 830, 831, 832, 833] (by decide +kernel) (by decide +kernel)
set_option maxRecDepth 20000 in
theorem gL_law_X4_init : GoodIn wsL_law (wsX4_init) := ggL_law_X4_init
set_option maxRecDepth 20000 in
theorem ggL_law_X5_init : GoodIn wsL_law wsX5_init := goodIn_r _ [179, 180, 10, 11, 31, 181, 182, 183, 184, 185, 186, 187, 188, 189, 190, 191, 192, 193, 194, 195, 196, 197, 198, 199, 200, 201, 202, 203, 204, 205, 206, 207, 208, 209, 210, 5, 211, 212, 213, 214, 215, 216, 217, 218, 219, 220, 221, 222, 223, 224, 225, 226, 227, 228, 770, 771, 772, 773, 774, 775, 776, 777, 778, 779, 780, 781, 782, 783, 784, 785, 786, 787, 788, 789, 790, 791, 792, 793, 794, 795, 796, 797, 798, 799, 800, 801, 802, 803, 804, 805, 806, 807, 808] (by decide +kernel) (by decide +kernel)
set_option maxRecDepth 20000 in
theorem gL_law_X5_init : GoodIn wsL_law (wsX5_init) := ggL_law_X5_init
set_option maxRecDepth 20000 in
theorem ggL_law_X4_write : GoodIn wsL_law wsX4_write := goodIn_r _ [232, 15, 34, 119, 120, 121, 14, 122, 123, 38, 760, 761, 762, 763, 764, 765, 766, 767, 768, 769, 809, 810, 811, 812] (by decide +kernel) (by decide +kernel)
set_option maxRecDepth 20000 in
theorem gL_law_X4_write : GoodIn wsL_law (wsV RL 13 RX4 yX4_write wsX4_write) := goodIn_app (goodIn_of _ (by decide +kernel)) ggL_law_X4_write
set_option maxRecDepth 20000 in
theorem ggL_law_X5_write : GoodIn wsL_law wsX5_write := goodIn_r _ [236, 237, 238, 239, 203, 240, 241, 5, 242, 770, 771, 772, 773, 774, 775, 776, 777, 778, 779, 780, 781, 782, 783, 784, 785, 786, 787, 788, 789, 790, 791, 792, 793, 794, 795, 796, 797, 798, 799, 800, 801, 802, 803, 804, 805, 806, 807, 808] (by decide +kernel) (by decide +kernel)
set_option maxRecDepth 20000 in
theorem gL_law_X5_write : GoodIn wsL_law (wsV RL 17 RX5 yX5_write wsX5_write) := goodIn_app (goodIn_of _ (by decide +kernel)) ggL_law_X5_write
set_option maxRecDepth 20000 in
theorem ggL_law_X4_wipe : GoodIn wsL_law wsX4_wipe := goodIn_r _ [246, 15, 34, 760, 761, 762, 763, 764, 765, 766, 767, 768, 769, 809, 810, 811, 812] (by decide +kernel) (by decide +kernel)
set_option maxRecDepth 20000 in
theorem gL_law_X4_wipe : GoodIn wsL_law (wsV RL 18 RX4 yX4_wipe wsX4_wipe) := goodIn_app (goodIn_of _ (by decide +kernel)) ggL_law_X4_wipe
set_option maxRecDepth 20000 in
theorem ggL_law_X5_wipe : GoodIn wsL_law wsX5_wipe := goodIn_r _ [250, 239, 770, 771, 772, 773, 774, 775, 776, 777, 778, 779, 780, 781, 782, 783, 784, 785, 786, 787, 788, 789, 790, 791, 792, 793, 794, 795, 796, 797, 798, 799, 800, 801, 802, 803, 804, 805, 806, 807, 808] (by decide +kernel) (by decide +kernel)
set_option maxRecDepth 20000 in
theorem gL_law_X5_wipe : GoodIn wsL_law (wsV RL 22 RX5 yX5_wipe wsX5_wipe) := goodIn_app (goodIn_of _ (by decide +kernel)) ggL_law_X5_wipe
set_option maxRecDepth 20000 in
theorem ggL_law_X4_fault : GoodIn wsL_law wsX4_fault := goodIn_r _ [254, 15, 20, 124, 125, 126, 14, 127, 123, 39, 128, 129, 130, 131, 18, 132, 133, 134, 135, 136, 137, 138, 139, 140, 141, 142, 143, 144, 145, 146, 147, 38, 148, 149, 150, 151, 152, 153, 154, 155, 43, 44, 45, 46, 47, 156, 157, 158, 159, 48, 49, 50, 160, 161, 162, 163, 51, 52, 760, 761, 762, 763, 764, 765, 766, 767, 768, 769, 809, 810, 811, 812, 813, 814, 815, 816, 817, 818, 819, 820, 821, 822, 823, 824, 825] (by decide +kernel) (by decide +kernel)
set_option maxRecDepth 20000 in
theorem gL_law_X4_fault : GoodIn wsL_law (wsV RL 23 RX4 yX4_fault wsX4_fault) := goodIn_app (goodIn_of _ (by decide +kernel)) ggL_law_X4_fault
set_option maxRecDepth 20000 in
theorem ggL_law_X5_fault : GoodIn wsL_law wsX5_fault := goodIn_r _ [258, 259, 260, 261, 262, 5, 263, 264, 265, 239, 208, 209, 210, 211, 212, 213, 207, 266, 267, 268, 269, 203, 270, 271, 272, 273, 274, 275, 276, 277, 278, 279, 280, 281, 282, 283, 240, 241, 242, 284, 285, 286, 287, 214, 215, 216, 217, 191, 192, 193, 194, 195, 288, 289, 290, 291, 218, 219, 220, 221, 196, 197, 198, 292, 293, 294, 295, 199, 200, 296, 297, 298, 770, 771, 772, 773, 774, 775, 776, 777, 778, 779, 780, 781, 782, 783, 784, 785, 786, 787, 788, 789, 790, 791, 792, 793, 794, 795, 796, 797, 798, 799, 800, 801, 802, 803, 804, 805, 806, 807, 808] (by decide +kernel) (by decide +kernel)
set_option maxRecDepth 20000 in
theorem gL_law_X5_fault : GoodIn wsL_law (wsV RL 26 RX5 yX5_fault wsX5_fault) := goodIn_app (goodIn_of _ (by decide +kernel)) ggL_law_X5_fault
set_option maxRecDepth 20000 in
theorem ggL_law_X4_lay : GoodIn wsL_law wsX4_lay := goodIn_r _ [302, 15, 20, 303, 19, 24, 29, 304, 30, 305, 124, 125, 126, 14, 127, 123, 39, 128, 129, 130, 131, 18, 132, 133, 134, 135, 136, 137, 138, 139, 140, 141, 142, 143, 144, 145, 146, 147, 38, 148, 149, 150, 151, 152, 153, 154, 155, 43, 44, 45, 46, 47, 156, 157, 158, 159, 48, 49, 50, 160, 161, 162, 163, 51, 52, 164, 165, 166, 23, 167, 168, 169, 56, 57, 170, 171, 58, 172, 59, 173, 174, 175, 176, 760, 761, 762, 763, 764, 765, 766, 767, 768, 769, 813, 814, 815, 816, 817, 818, 819, 820, 821, 822, 823, 824, 825, 832, 833, 809, 810, 811, 812, 826, 827, 828, 829, 830, 831] (by decide +kernel) (by decide +kernel)
set_option maxRecDepth 20000 in
theorem gL_law_X4_lay : GoodIn wsL_law (wsV RL 27 RX4 yX4_lay wsX4_lay) := goodIn_app (goodIn_of _ (by decide +kernel)) ggL_law_X4_lay
set_option maxRecDepth 20000 in
theorem ggL_law_X5_lay : GoodIn wsL_law wsX5_lay := goodIn_r _ [309, 212, 310, 311, 312, 226, 260, 261, 262, 5, 263, 264, 265, 239, 259, 208, 209, 210, 211, 213, 207, 266, 267, 268, 269, 203, 270, 271, 272, 273, 274, 275, 276, 277, 278, 279, 280, 281, 282, 283, 240, 241, 242, 284, 285, 286, 287, 214, 215, 216, 217, 191, 192, 193, 194, 195, 288, 289, 290, 291, 218, 219, 220, 221, 196, 197, 198, 292, 293, 294, 295, 199, 200, 296, 297, 298, 222, 223, 224, 225, 227, 228, 181, 182, 183, 184, 185, 201, 186, 187, 188, 189, 190, 770, 771, 772, 773, 774, 775, 776, 777, 778, 779, 780, 781, 782, 783, 784, 785, 786, 787, 788, 789, 790, 791, 792, 793, 794, 795, 796, 797, 798, 799, 800, 801, 802, 803, 804, 805, 806, 807, 808] (by decide +kernel) (by decide +kernel)
set_option maxRecDepth 20000 in
theorem gL_law_X5_lay : GoodIn wsL_law (wsV RL 30 RX5 yX5_lay wsX5_lay) := goodIn_app (goodIn_of _ (by decide +kernel)) ggL_law_X5_lay
set_option maxRecDepth 20000 in
theorem ggL_law_X4_going : GoodIn wsL_law wsX4_going := goodIn_r _ [316, 19, 317, 318, 319, 320, 24, 321, 322, 323, 324, 2, 325, 303, 326, 327, 328, 23, 329, 56, 58, 57, 171, 330, 331, 332, 333, 334, 335, 336, 168, 337, 338, 339, 340, 66, 341, 342, 65, 67, 760, 761, 762, 763, 764, 765, 766, 767, 768, 769, 813, 814, 815, 816, 817, 818, 819, 820, 821, 822, 823, 824, 825, 826, 827, 828, 829, 830, 831] (by decide +kernel) (by decide +kernel)
set_option maxRecDepth 20000 in
theorem gL_law_X4_going : GoodIn wsL_law (wsV RL 31 RX4 yX4_going wsX4_going) := goodIn_app (goodIn_of _ (by decide +kernel)) ggL_law_X4_going
set_option maxRecDepth 20000 in
theorem ggL_law_X5_going : GoodIn wsL_law wsX5_going := goodIn_r _ [346, 347, 201, 181, 183, 184, 185, 348, 349, 350, 5, 351, 226, 240, 241, 242, 352, 353, 354, 355, 356, 357, 358, 359, 360, 361, 362, 363, 364, 770, 771, 772, 773, 774, 775, 776, 777, 778, 779, 780, 781, 782, 783, 784, 785, 786, 787, 788, 789, 790, 791, 792, 793, 794, 795, 796, 797, 798, 799, 800, 801, 802, 803, 804, 805, 806, 807, 808] (by decide +kernel) (by decide +kernel)
set_option maxRecDepth 20000 in
theorem gL_law_X5_going : GoodIn wsL_law (wsV RL 35 RX5 yX5_going wsX5_going) := goodIn_app (goodIn_of _ (by decide +kernel)) ggL_law_X5_going
set_option maxRecDepth 20000 in
theorem ggL_law_X4_lady : GoodIn wsL_law wsX4_lady := goodIn_r _ [368, 24, 369, 19, 370, 371, 372, 373, 2, 374, 375, 376, 377, 378, 23, 379, 380, 381, 382, 383, 384, 385, 334, 59, 56, 760, 761, 762, 763, 764, 765, 766, 767, 768, 769, 826, 827, 828, 829, 830, 831, 813, 814, 815, 816, 817, 818, 819, 820, 821, 822, 823, 824, 825] (by decide +kernel) (by decide +kernel)
set_option maxRecDepth 20000 in
theorem gL_law_X4_lady : GoodIn wsL_law (wsV RL 36 RX4 yX4_lady wsX4_lady) := goodIn_app (goodIn_of _ (by decide +kernel)) ggL_law_X4_lady
set_option maxRecDepth 20000 in
theorem ggL_law_X5_lady : GoodIn wsL_law wsX5_lady := goodIn_r _ [389, 390, 226, 201, 190, 391, 392, 393, 5, 394, 228, 240, 241, 242, 395, 396, 397, 398, 181, 296, 297, 298, 770, 771, 772, 773, 774, 775, 776, 777, 778, 779, 780, 781, 782, 783, 784, 785, 786, 787, 788, 789, 790, 791, 792, 793, 794, 795, 796, 797, 798, 799, 800, 801, 802, 803, 804, 805, 806, 807, 808] (by decide +kernel) (by decide +kernel)
set_option maxRecDepth 20000 in
theorem gL_law_X5_lady : GoodIn wsL_law (wsV RL 39 RX5 yX5_lady wsX5_lady) := goodIn_app (goodIn_of _ (by decide +kernel)) ggL_law_X5_lady
set_option maxRecDepth 20000 in
theorem ggL_law_X4_pass : GoodIn wsL_law wsX4_pass := goodIn_r _ [402, 24, 403, 29, 19, 404, 405, 406, 407, 28, 408, 409, 69, 410, 411, 412, 413, 414, 415, 416, 23, 417, 168, 169, 56, 173, 174, 175, 176, 57, 58, 59, 418, 419, 420, 421, 422, 423, 424, 425, 380, 426, 427, 428, 429, 430, 331, 332, 333, 334, 335, 336, 337, 2, 338, 339, 340, 66, 341, 342, 65, 67, 431, 432, 433, 434, 435, 436, 437, 438, 439, 440, 441, 442, 443, 444, 760, 761, 762, 763, 764, 765, 766, 767, 768, 769, 826, 827, 828, 829, 830, 831, 832, 833, 813, 814, 815, 816, 817, 818, 819, 820, 821, 822, 823, 824, 825] (by decide +kernel) (by decide +kernel)
set_option maxRecDepth 20000 in
theorem gL_law_X4_pass : GoodIn wsL_law (wsV RL 40 RX4 yX4_pass wsX4_pass) := goodIn_app (goodIn_of _ (by decide +kernel)) ggL_law_X4_pass
set_option maxRecDepth 20000 in
theorem ggL_law_X5_pass : GoodIn wsL_law wsX5_pass := goodIn_r _ [448, 449, 201, 240, 241, 5, 242, 450, 451, 452, 453, 310, 454, 455, 456, 457, 458, 459, 460, 461, 462, 463, 464, 465, 466, 226, 185, 467, 468, 469, 470, 471, 472, 473, 474, 352, 353, 354, 355, 181, 183, 184, 356, 357, 358, 359, 360, 361, 362, 363, 364, 475, 476, 477, 478, 227, 187, 186, 206, 188, 770, 771, 772, 773, 774, 775, 776, 777, 778, 779, 780, 781, 782, 783, 784, 785, 786, 787, 788, 789, 790, 791, 792, 793, 794, 795, 796, 797, 798, 799, 800, 801, 802, 803, 804, 805, 806, 807, 808] (by decide +kernel) (by decide +kernel)
set_option maxRecDepth 20000 in
theorem gL_law_X5_pass : GoodIn wsL_law (wsV RL 43 RX5 yX5_pass wsX5_pass) := goodIn_app (goodIn_of _ (by decide +kernel)) ggL_law_X5_pass
set_option maxRecDepth 20000 in
theorem ggL_law_X4_pin : GoodIn wsL_law wsX4_pin := goodIn_r _ [482, 24, 19, 29, 369, 371, 372, 373, 2, 374, 375, 322, 323, 324, 325, 303, 483, 382, 383, 23, 384, 385, 334, 59, 56, 405, 406, 407, 28, 408, 409, 69, 410, 411, 412, 413, 414, 415, 416, 417, 168, 169, 173, 174, 175, 176, 57, 58, 484, 485, 486, 487, 436, 437, 438, 439, 440, 441, 442, 443, 444, 340, 66, 341, 760, 761, 762, 763, 764, 765, 766, 767, 768, 769, 826, 827, 828, 829, 830, 831, 813, 814, 815, 816, 817, 818, 819, 820, 821, 822, 823, 824, 825, 832, 833] (by decide +kernel) (by decide +kernel)
set_option maxRecDepth 20000 in
theorem gL_law_X4_pin : GoodIn wsL_law (wsV RL 44 RX4 yX4_pin wsX4_pin) := goodIn_app (goodIn_of _ (by decide +kernel)) ggL_law_X4_pin
set_option maxRecDepth 20000 in
theorem ggL_law_X5_pin : GoodIn wsL_law wsX5_pin := goodIn_r _ [491, 201, 391, 392, 393, 5, 394, 228, 240, 241, 242, 348, 349, 350, 351, 226, 395, 396, 397, 398, 190, 181, 296, 297, 298, 450, 451, 452, 453, 310, 454, 455, 456, 457, 475, 476, 477, 478, 227, 187, 186, 206, 188, 359, 360, 361, 770, 771, 772, 773, 774, 775, 776, 777, 778, 779, 780, 781, 782, 783, 784, 785, 786, 787, 788, 789, 790, 791, 792, 793, 794, 795, 796, 797, 798, 799, 800, 801, 802, 803, 804, 805, 806, 807, 808] (by decide +kernel) (by decide +kernel)
set_option maxRecDepth 20000 in
theorem gL_law_X5_pin : GoodIn wsL_law (wsV RL 47 RX5 yX5_pin wsX5_pin) := goodIn_app (goodIn_of _ (by decide +kernel)) ggL_law_X5_pin
set_option maxRecDepth 20000 in
theorem ggL_law_X4_lend : GoodIn wsL_law wsX4_lend := goodIn_r _ [495, 24, 369, 29, 371, 372, 373, 2, 374, 19, 375, 405, 406, 407, 28, 408, 409, 69, 410, 411, 412, 413, 414, 415, 416, 23, 417, 168, 169, 56, 173, 174, 175, 176, 57, 58, 59, 496, 497, 498, 499, 760, 761, 762, 763, 764, 765, 766, 767, 768, 769, 826, 827, 828, 829, 830, 831, 813, 814, 815, 816, 817, 818, 819, 820, 821, 822, 823, 824, 825, 832, 833] (by decide +kernel) (by decide +kernel)
set_option maxRecDepth 20000 in
theorem gL_law_X4_lend : GoodIn wsL_law (wsV RL 48 RX4 yX4_lend wsX4_lend) := goodIn_app (goodIn_of _ (by decide +kernel)) ggL_law_X4_lend
set_option maxRecDepth 20000 in
theorem ggL_law_X5_lend : GoodIn wsL_law wsX5_lend := goodIn_r _ [503, 201, 391, 392, 393, 5, 394, 228, 240, 241, 242, 450, 451, 452, 453, 310, 454, 455, 456, 457, 770, 771, 772, 773, 774, 775, 776, 777, 778, 779, 780, 781, 782, 783, 784, 785, 786, 787, 788, 789, 790, 791, 792, 793, 794, 795, 796, 797, 798, 799, 800, 801, 802, 803, 804, 805, 806, 807, 808] (by decide +kernel) (by decide +kernel)
set_option maxRecDepth 20000 in
theorem gL_law_X5_lend : GoodIn wsL_law (wsV RL 51 RX5 yX5_lend wsX5_lend) := goodIn_app (goodIn_of _ (by decide +kernel)) ggL_law_X5_lend
set_option maxRecDepth 20000 in
theorem ggL_law_X4_undo : GoodIn wsL_law wsX4_undo := goodIn_r _ [507, 29, 24, 304, 508, 509, 510, 28, 511, 409, 69, 414, 415, 416, 23, 417, 168, 169, 56, 173, 174, 175, 176, 57, 58, 59, 760, 761, 762, 763, 764, 765, 766, 767, 768, 769, 832, 833, 826, 827, 828, 829, 830, 831] (by decide +kernel) (by decide +kernel)
set_option maxRecDepth 20000 in
theorem gL_law_X4_undo : GoodIn wsL_law (wsV RL 52 RX4 yX4_undo wsX4_undo) := goodIn_app (goodIn_of _ (by decide +kernel)) ggL_law_X4_undo
set_option maxRecDepth 20000 in
theorem ggL_law_X5_undo : GoodIn wsL_law wsX5_undo := goodIn_r _ [515, 310, 454, 455, 456, 5, 457, 201, 770, 771, 772, 773, 774, 775, 776, 777, 778, 779, 780, 781, 782, 783, 784, 785, 786, 787, 788, 789, 790, 791, 792, 793, 794, 795, 796, 797, 798, 799, 800, 801, 802, 803, 804, 805, 806, 807, 808] (by decide +kernel) (by decide +kernel)
set_option maxRecDepth 20000 in
theorem gL_law_X5_undo : GoodIn wsL_law (wsV RL 55 RX5 yX5_undo wsX5_undo) := goodIn_app (goodIn_of _ (by decide +kernel)) ggL_law_X5_undo
set_option maxRecDepth 20000 in
theorem ggL_law_X4_behind : GoodIn wsL_law wsX4_behind := goodIn_r _ [519, 25, 24, 19, 404, 520, 521, 2, 522, 523, 415, 416, 23, 417, 168, 169, 56, 173, 174, 175, 176, 57, 58, 59, 418, 419, 420, 421, 422, 423, 424, 425, 380, 426, 427, 428, 429, 430, 331, 332, 333, 334, 335, 336, 337, 338, 339, 340, 66, 341, 342, 65, 67, 431, 432, 433, 434, 435, 436, 437, 438, 439, 440, 441, 442, 443, 444, 524, 525, 526, 527, 760, 761, 762, 763, 764, 765, 766, 767, 768, 769, 826, 827, 828, 829, 830, 831, 813, 814, 815, 816, 817, 818, 819, 820, 821, 822, 823, 824, 825] (by decide +kernel) (by decide +kernel)
set_option maxRecDepth 20000 in
theorem gL_law_X4_behind : GoodIn wsL_law (wsV RL 56 RX4 yX4_behind wsX4_behind) := goodIn_app (goodIn_of _ (by decide +kernel)) ggL_law_X4_behind
set_option maxRecDepth 20000 in
theorem ggL_law_X5_behind : GoodIn wsL_law wsX5_behind := goodIn_r _ [531, 532, 201, 240, 241, 5, 242, 454, 455, 456, 457, 458, 459, 460, 461, 462, 463, 464, 465, 466, 226, 185, 467, 468, 469, 470, 471, 472, 473, 474, 352, 353, 354, 355, 181, 183, 184, 356, 357, 358, 359, 360, 361, 362, 363, 364, 475, 476, 477, 478, 227, 187, 186, 206, 188, 533, 534, 535, 536, 770, 771, 772, 773, 774, 775, 776, 777, 778, 779, 780, 781, 782, 783, 784, 785, 786, 787, 788, 789, 790, 791, 792, 793, 794, 795, 796, 797, 798, 799, 800, 801, 802, 803, 804, 805, 806, 807, 808] (by decide +kernel) (by decide +kernel)
set_option maxRecDepth 20000 in
theorem gL_law_X5_behind : GoodIn wsL_law (wsV RL 59 RX5 yX5_behind wsX5_behind) := goodIn_app (goodIn_of _ (by decide +kernel)) ggL_law_X5_behind
set_option maxRecDepth 20000 in
theorem ggL_law_X4_dull : GoodIn wsL_law wsX4_dull := goodIn_r _ [540, 25, 24, 19, 523, 415, 416, 23, 417, 168, 169, 56, 173, 174, 175, 176, 57, 58, 59, 541, 423, 424, 425, 380, 542, 427, 428, 429, 430, 331, 332, 333, 334, 335, 336, 337, 2, 338, 339, 340, 66, 341, 342, 65, 67, 543, 432, 433, 434, 435, 436, 437, 438, 439, 440, 441, 442, 443, 444, 760, 761, 762, 763, 764, 765, 766, 767, 768, 769, 826, 827, 828, 829, 830, 831, 813, 814, 815, 816, 817, 818, 819, 820, 821, 822, 823, 824, 825] (by decide +kernel) (by decide +kernel)
set_option maxRecDepth 20000 in
theorem gL_law_X4_dull : GoodIn wsL_law (wsV RL 60 RX4 yX4_dull wsX4_dull) := goodIn_app (goodIn_of _ (by decide +kernel)) ggL_law_X4_dull
set_option maxRecDepth 20000 in
theorem ggL_law_X5_dull : GoodIn wsL_law wsX5_dull := goodIn_r _ [547, 201, 454, 455, 456, 5, 457, 458, 459, 460, 461, 462, 463, 464, 465, 466, 226, 185, 467, 468, 469, 470, 471, 472, 473, 474, 352, 353, 354, 355, 181, 183, 184, 356, 357, 358, 359, 360, 361, 362, 363, 364, 475, 476, 477, 478, 227, 187, 186, 206, 188, 770, 771, 772, 773, 774, 775, 776, 777, 778, 779, 780, 781, 782, 783, 784, 785, 786, 787, 788, 789, 790, 791, 792, 793, 794, 795, 796, 797, 798, 799, 800, 801, 802, 803, 804, 805, 806, 807, 808] (by decide +kernel) (by decide +kernel)
set_option maxRecDepth 20000 in
theorem gL_law_X5_dull : GoodIn wsL_law (wsV RL 63 RX5 yX5_dull wsX5_dull) := goodIn_app (goodIn_of _ (by decide +kernel)) ggL_law_X5_dull
set_option maxRecDepth 20000 in
theorem ggL_law_X4_quiet : GoodIn wsL_law wsX4_quiet := goodIn_r _ [551, 25, 24, 19, 342, 65, 66, 67, 523, 415, 416, 23, 417, 168, 169, 56, 173, 174, 175, 176, 57, 58, 59, 541, 423, 424, 425, 380, 524, 525, 526, 527, 543, 432, 433, 434, 435, 436, 437, 438, 439, 440, 441, 442, 443, 444, 340, 341, 760, 761, 762, 763, 764, 765, 766, 767, 768, 769, 826, 827, 828, 829, 830, 831, 813, 814, 815, 816, 817, 818, 819, 820, 821, 822, 823, 824, 825] (by decide +kernel) (by decide +kernel)
set_option maxRecDepth 20000 in
theorem gL_law_X4_quiet : GoodIn wsL_law (wsV RL 64 RX4 yX4_quiet wsX4_quiet) := goodIn_app (goodIn_of _ (by decide +kernel)) ggL_law_X4_quiet
set_option maxRecDepth 20000 in
theorem ggL_law_X5_quiet : GoodIn wsL_law wsX5_quiet := goodIn_r _ [555, 454, 455, 456, 5, 457, 201, 463, 464, 465, 466, 226, 185, 467, 468, 469, 470, 471, 472, 473, 474, 352, 353, 354, 355, 181, 183, 184, 356, 357, 358, 359, 360, 361, 362, 363, 364, 475, 476, 477, 478, 227, 187, 186, 206, 188, 770, 771, 772, 773, 774, 775, 776, 777, 778, 779, 780, 781, 782, 783, 784, 785, 786, 787, 788, 789, 790, 791, 792, 793, 794, 795, 796, 797, 798, 799, 800, 801, 802, 803, 804, 805, 806, 807, 808] (by decide +kernel) (by decide +kernel)
set_option maxRecDepth 20000 in
theorem gL_law_X5_quiet : GoodIn wsL_law (wsV RL 67 RX5 yX5_quiet wsX5_quiet) := goodIn_app (goodIn_of _ (by decide +kernel)) ggL_law_X5_quiet
set_option maxRecDepth 20000 in
theorem ggL_law_X4_stop : GoodIn wsL_law wsX4_stop := goodIn_r _ [559, 24, 321, 322, 323, 324, 2, 325, 19, 303, 520, 521, 522, 560, 561, 562, 563, 25, 404, 523, 415, 416, 23, 417, 168, 169, 56, 173, 174, 175, 176, 57, 58, 59, 418, 419, 420, 421, 422, 423, 424, 425, 380, 426, 427, 428, 429, 430, 331, 332, 333, 334, 335, 336, 337, 338, 339, 340, 66, 341, 342, 65, 67, 431, 432, 433, 434, 435, 436, 437, 438, 439, 440, 441, 442, 443, 444, 564, 565, 566, 567, 568, 569, 570, 571, 760, 761, 762, 763, 764, 765, 766, 767, 768, 769, 826, 827, 828, 829, 830, 831, 813, 814, 815, 816, 817, 818, 819, 820, 821, 822, 823, 824, 825] (by decide +kernel) (by decide +kernel)
set_option maxRecDepth 20000 in
theorem gL_law_X4_stop : GoodIn wsL_law (wsV RL 68 RX4 yX4_stop wsX4_stop) := goodIn_app (goodIn_of _ (by decide +kernel)) ggL_law_X4_stop
set_option maxRecDepth 20000 in
theorem ggL_law_X5_stop : GoodIn wsL_law wsX5_stop := goodIn_r _ [575, 201, 348, 349, 350, 5, 351, 226, 240, 241, 242, 576, 577, 578, 579, 454, 455, 456, 457, 580, 581, 582, 583, 458, 459, 460, 461, 462, 463, 464, 465, 466, 185, 467, 468, 469, 470, 471, 472, 473, 474, 352, 353, 354, 355, 181, 183, 184, 356, 357, 358, 359, 360, 361, 362, 363, 364, 475, 476, 477, 478, 227, 187, 186, 206, 188, 584, 585, 586, 587, 770, 771, 772, 773, 774, 775, 776, 777, 778, 779, 780, 781, 782, 783, 784, 785, 786, 787, 788, 789, 790, 791, 792, 793, 794, 795, 796, 797, 798, 799, 800, 801, 802, 803, 804, 805, 806, 807, 808] (by decide +kernel) (by decide +kernel)
set_option maxRecDepth 20000 in
theorem gL_law_X5_stop : GoodIn wsL_law (wsV RL 71 RX5 yX5_stop wsX5_stop) := goodIn_app (goodIn_of _ (by decide +kernel)) ggL_law_X5_stop
set_option maxRecDepth 20000 in
theorem ggL_law_X4_best : GoodIn wsL_law wsX4_best := goodIn_r _ [591, 19, 375, 303, 24, 520, 521, 2, 522, 560, 561, 562, 563, 25, 404, 523, 415, 416, 23, 417, 168, 169, 56, 173, 174, 175, 176, 57, 58, 59, 418, 419, 420, 421, 422, 423, 424, 425, 380, 426, 427, 428, 429, 430, 331, 332, 333, 334, 335, 336, 337, 338, 339, 340, 66, 341, 342, 65, 67, 431, 432, 433, 434, 435, 436, 437, 438, 439, 440, 441, 442, 443, 444, 483, 382, 383, 384, 385, 592, 593, 594, 595, 568, 569, 570, 571, 760, 761, 762, 763, 764, 765, 766, 767, 768, 769, 813, 814, 815, 816, 817, 818, 819, 820, 821, 822, 823, 824, 825, 826, 827, 828, 829, 830, 831] (by decide +kernel) (by decide +kernel)
set_option maxRecDepth 20000 in
theorem gL_law_X4_best : GoodIn wsL_law (wsV RL 72 RX4 yX4_best wsX4_best) := goodIn_app (goodIn_of _ (by decide +kernel)) ggL_law_X4_best
set_option maxRecDepth 20000 in
theorem ggL_law_X5_best : GoodIn wsL_law wsX5_best := goodIn_r _ [599, 228, 226, 201, 240, 241, 5, 242, 576, 577, 578, 579, 454, 455, 456, 457, 580, 581, 582, 583, 458, 459, 460, 461, 462, 463, 464, 465, 466, 185, 467, 468, 469, 470, 471, 472, 473, 474, 352, 353, 354, 355, 181, 183, 184, 356, 357, 358, 359, 360, 361, 362, 363, 364, 475, 476, 477, 478, 227, 187, 186, 206, 188, 395, 396, 397, 398, 190, 296, 297, 298, 770, 771, 772, 773, 774, 775, 776, 777, 778, 779, 780, 781, 782, 783, 784, 785, 786, 787, 788, 789, 790, 791, 792, 793, 794, 795, 796, 797, 798, 799, 800, 801, 802, 803, 804, 805, 806, 807, 808] (by decide +kernel) (by decide +kernel)
set_option maxRecDepth 20000 in
theorem gL_law_X5_best : GoodIn wsL_law (wsV RL 75 RX5 yX5_best wsX5_best) := goodIn_app (goodIn_of _ (by decide +kernel)) ggL_law_X5_best
set_option maxRecDepth 20000 in
theorem ggL_law_X4_both : GoodIn wsL_law wsX4_both := goodIn_r _ [603, 19, 303, 24, 321, 520, 521, 2, 522, 592, 593, 594, 595, 25, 404, 523, 415, 416, 23, 417, 168, 169, 56, 173, 174, 175, 176, 57, 58, 59, 568, 437, 438, 439, 440, 441, 442, 443, 444, 340, 66, 341, 418, 419, 420, 421, 422, 423, 424, 425, 380, 426, 427, 428, 429, 430, 331, 332, 333, 334, 335, 336, 337, 338, 339, 342, 65, 67, 431, 432, 433, 434, 435, 436, 569, 570, 571, 760, 761, 762, 763, 764, 765, 766, 767, 768, 769, 813, 814, 815, 816, 817, 818, 819, 820, 821, 822, 823, 824, 825, 826, 827, 828, 829, 830, 831] (by decide +kernel) (by decide +kernel)
set_option maxRecDepth 20000 in
theorem gL_law_X4_both : GoodIn wsL_law (wsV RL 76 RX4 yX4_both wsX4_both) := goodIn_app (goodIn_of _ (by decide +kernel)) ggL_law_X4_both
set_option maxRecDepth 20000 in
theorem ggL_law_X5_both : GoodIn wsL_law wsX5_both := goodIn_r _ [607, 226, 201, 240, 241, 5, 242, 454, 455, 456, 457, 475, 476, 477, 478, 227, 187, 186, 206, 188, 359, 360, 361, 580, 581, 582, 583, 458, 459, 460, 461, 462, 463, 464, 465, 466, 185, 467, 468, 469, 470, 471, 472, 473, 474, 352, 353, 354, 355, 181, 183, 184, 356, 357, 358, 362, 363, 364, 770, 771, 772, 773, 774, 775, 776, 777, 778, 779, 780, 781, 782, 783, 784, 785, 786, 787, 788, 789, 790, 791, 792, 793, 794, 795, 796, 797, 798, 799, 800, 801, 802, 803, 804, 805, 806, 807, 808] (by decide +kernel) (by decide +kernel)
set_option maxRecDepth 20000 in
theorem gL_law_X5_both : GoodIn wsL_law (wsV RL 79 RX5 yX5_both wsX5_both) := goodIn_app (goodIn_of _ (by decide +kernel)) ggL_law_X5_both
set_option maxRecDepth 20000 in
theorem ggL_law_X4_never : GoodIn wsL_law wsX4_never := goodIn_r _ [611, 19, 303, 24, 321, 520, 521, 2, 522, 560, 561, 562, 563, 25, 404, 523, 415, 416, 23, 417, 168, 169, 56, 173, 174, 175, 176, 57, 58, 59, 418, 419, 420, 421, 422, 423, 424, 425, 380, 426, 427, 428, 429, 430, 331, 332, 333, 334, 335, 336, 337, 338, 339, 340, 66, 341, 342, 65, 67, 431, 432, 433, 434, 435, 436, 437, 438, 439, 440, 441, 442, 443, 444, 612, 613, 614, 615, 569, 570, 571, 760, 761, 762, 763, 764, 765, 766, 767, 768, 769, 813, 814, 815, 816, 817, 818, 819, 820, 821, 822, 823, 824, 825, 826, 827, 828, 829, 830, 831] (by decide +kernel) (by decide +kernel)
set_option maxRecDepth 20000 in
theorem gL_law_X4_never : GoodIn wsL_law (wsV RL 80 RX4 yX4_never wsX4_never) := goodIn_app (goodIn_of _ (by decide +kernel)) ggL_law_X4_never
set_option maxRecDepth 20000 in
theorem ggL_law_X5_never : GoodIn wsL_law wsX5_never := goodIn_r _ [619, 226, 201, 206, 240, 241, 5, 242, 576, 577, 578, 579, 454, 455, 456, 457, 580, 581, 582, 583, 458, 459, 460, 461, 462, 463, 464, 465, 466, 185, 467, 468, 469, 470, 471, 472, 473, 474, 352, 353, 354, 355, 181, 183, 184, 356, 357, 358, 359, 360, 361, 362, 363, 364, 475, 476, 477, 478, 227, 187, 186, 188, 770, 771, 772, 773, 774, 775, 776, 777, 778, 779, 780, 781, 782, 783, 784, 785, 786, 787, 788, 789, 790, 791, 792, 793, 794, 795, 796, 797, 798, 799, 800, 801, 802, 803, 804, 805, 806, 807, 808] (by decide +kernel) (by decide +kernel)
set_option maxRecDepth 20000 in
theorem gL_law_X5_never : GoodIn wsL_law (wsV RL 83 RX5 yX5_never wsX5_never) := goodIn_app (goodIn_of _ (by decide +kernel)) ggL_law_X5_never
set_option maxRecDepth 20000 in
theorem ggL_law_X4_note : GoodIn wsL_law wsX4_note := goodIn_r _ [623, 305, 32, 33, 760, 761, 762, 763, 764, 765, 766, 767, 768, 769] (by decide +kernel) (by decide +kernel)
set_option maxRecDepth 20000 in
theorem gL_law_X4_note : GoodIn wsL_law (wsV RL 84 RX4 yX4_note wsX4_note) := goodIn_app (goodIn_of _ (by decide +kernel)) ggL_law_X4_note
set_option maxRecDepth 20000 in
theorem ggL_law_X5_note : GoodIn wsL_law wsX5_note := goodIn_r _ [627, 628, 629, 630, 312, 204, 205, 240, 241, 5, 242, 770, 771, 772, 773, 774, 775, 776, 777, 778, 779, 780, 781, 782, 783, 784, 785, 786, 787, 788, 789, 790, 791, 792, 793, 794, 795, 796, 797, 798, 799, 800, 801, 802, 803, 804, 805, 806, 807, 808] (by decide +kernel) (by decide +kernel)
set_option maxRecDepth 20000 in
theorem gL_law_X5_note : GoodIn wsL_law (wsV RL 87 RX5 yX5_note wsX5_note) := goodIn_app (goodIn_of _ (by decide +kernel)) ggL_law_X5_note
set_option maxRecDepth 20000 in
theorem ggL_law_X4_forget : GoodIn wsL_law wsX4_forget := goodIn_r _ [634, 305, 760, 761, 762, 763, 764, 765, 766, 767, 768, 769] (by decide +kernel) (by decide +kernel)
set_option maxRecDepth 20000 in
theorem gL_law_X4_forget : GoodIn wsL_law (wsV RL 88 RX4 yX4_forget wsX4_forget) := goodIn_app (goodIn_of _ (by decide +kernel)) ggL_law_X4_forget
set_option maxRecDepth 20000 in
theorem ggL_law_X5_forget : GoodIn wsL_law wsX5_forget := goodIn_r _ [638, 312, 770, 771, 772, 773, 774, 775, 776, 777, 778, 779, 780, 781, 782, 783, 784, 785, 786, 787, 788, 789, 790, 791, 792, 793, 794, 795, 796, 797, 798, 799, 800, 801, 802, 803, 804, 805, 806, 807, 808] (by decide +kernel) (by decide +kernel)
set_option maxRecDepth 20000 in
theorem gL_law_X5_forget : GoodIn wsL_law (wsV RL 91 RX5 yX5_forget wsX5_forget) := goodIn_app (goodIn_of _ (by decide +kernel)) ggL_law_X5_forget
set_option maxRecDepth 20000 in
theorem ggL_law_X4_waning : GoodIn wsL_law wsX4_waning := goodIn_r _ [642, 520, 521, 2, 522, 643, 644, 645, 646, 305, 32, 33, 647, 337, 338, 339, 340, 66, 341, 342, 65, 67, 760, 761, 762, 763, 764, 765, 766, 767, 768, 769] (by decide +kernel) (by decide +kernel)
set_option maxRecDepth 20000 in
theorem gL_law_X4_waning : GoodIn wsL_law (wsV RL 92 RX4 yX4_waning wsX4_waning) := goodIn_app (goodIn_of _ (by decide +kernel)) ggL_law_X4_waning
set_option maxRecDepth 20000 in
theorem ggL_law_X5_waning : GoodIn wsL_law wsX5_waning := goodIn_r _ [651, 240, 241, 5, 242, 652, 653, 654, 655, 312, 204, 205, 356, 357, 358, 359, 360, 361, 362, 363, 364, 770, 771, 772, 773, 774, 775, 776, 777, 778, 779, 780, 781, 782, 783, 784, 785, 786, 787, 788, 789, 790, 791, 792, 793, 794, 795, 796, 797, 798, 799, 800, 801, 802, 803, 804, 805, 806, 807, 808] (by decide +kernel) (by decide +kernel)
set_option maxRecDepth 20000 in
theorem gL_law_X5_waning : GoodIn wsL_law (wsV RL 95 RX5 yX5_waning wsX5_waning) := goodIn_app (goodIn_of _ (by decide +kernel)) ggL_law_X5_waning
set_option maxRecDepth 20000 in
theorem ggL_law_X4_kinds : GoodIn wsL_law wsX4_kinds := goodIn_r _ [659, 19, 318, 319, 322, 323, 324, 2, 325, 303, 643, 644, 645, 646, 305, 32, 33, 647, 337, 338, 339, 340, 66, 341, 342, 65, 67, 760, 761, 762, 763, 764, 765, 766, 767, 768, 769, 813, 814, 815, 816, 817, 818, 819, 820, 821, 822, 823, 824, 825] (by decide +kernel) (by decide +kernel)
set_option maxRecDepth 20000 in
theorem gL_law_X4_kinds : GoodIn wsL_law (wsV RL 96 RX4 yX4_kinds wsX4_kinds) := goodIn_app (goodIn_of _ (by decide +kernel)) ggL_law_X4_kinds
set_option maxRecDepth 20000 in
theorem ggL_law_X5_kinds : GoodIn wsL_law wsX5_kinds := goodIn_r _ [663, 183, 184, 348, 349, 350, 5, 351, 226, 240, 241, 242, 652, 653, 654, 655, 312, 204, 205, 356, 357, 358, 359, 360, 361, 362, 363, 364, 770, 771, 772, 773, 774, 775, 776, 777, 778, 779, 780, 781, 782, 783, 784, 785, 786, 787, 788, 789, 790, 791, 792, 793, 794, 795, 796, 797, 798, 799, 800, 801, 802, 803, 804, 805, 806, 807, 808] (by decide +kernel) (by decide +kernel)
set_option maxRecDepth 20000 in
theorem gL_law_X5_kinds : GoodIn wsL_law (wsV RL 99 RX5 yX5_kinds wsX5_kinds) := goodIn_app (goodIn_of _ (by decide +kernel)) ggL_law_X5_kinds
set_option maxRecDepth 20000 in
theorem ggL_law_X4_late : GoodIn wsL_law wsX4_late := goodIn_r _ [667, 24, 19, 303, 520, 521, 2, 522, 668, 669, 670, 23, 671, 380, 56, 57, 168, 672, 673, 674, 675, 676, 677, 678, 25, 679, 404, 523, 415, 416, 417, 169, 173, 174, 175, 176, 58, 59, 418, 419, 420, 421, 422, 423, 424, 425, 426, 427, 428, 429, 430, 331, 332, 333, 334, 335, 336, 337, 338, 339, 340, 66, 341, 342, 65, 67, 431, 432, 433, 434, 435, 436, 437, 438, 439, 440, 441, 442, 443, 444, 680, 681, 682, 760, 761, 762, 763, 764, 765, 766, 767, 768, 769, 813, 814, 815, 816, 817, 818, 819, 820, 821, 822, 823, 824, 825, 826, 827, 828, 829, 830, 831] (by decide +kernel) (by decide +kernel)
set_option maxRecDepth 20000 in
theorem gL_law_X4_late : GoodIn wsL_law (wsV RL 100 RX4 yX4_late wsX4_late) := goodIn_app (goodIn_of _ (by decide +kernel)) ggL_law_X4_late
set_option maxRecDepth 20000 in
theorem ggL_law_X5_late : GoodIn wsL_law wsX5_late := goodIn_r _ [686, 630, 687, 688, 226, 201, 240, 241, 5, 242, 454, 455, 456, 457, 689, 690, 691, 692, 296, 297, 298, 580, 581, 582, 583, 458, 459, 460, 461, 462, 463, 464, 465, 466, 185, 467, 468, 469, 470, 471, 472, 473, 474, 352, 353, 354, 355, 181, 183, 184, 356, 357, 358, 359, 360, 361, 362, 363, 364, 475, 476, 477, 478, 227, 187, 186, 206, 188, 770, 771, 772, 773, 774, 775, 776, 777, 778, 779, 780, 781, 782, 783, 784, 785, 786, 787, 788, 789, 790, 791, 792, 793, 794, 795, 796, 797, 798, 799, 800, 801, 802, 803, 804, 805, 806, 807, 808] (by decide +kernel) (by decide +kernel)
set_option maxRecDepth 20000 in
theorem gL_law_X5_late : GoodIn wsL_law (wsV RL 104 RX5 yX5_late wsX5_late) := goodIn_app (goodIn_of _ (by decide +kernel)) ggL_law_X5_late
set_option maxRecDepth 20000 in
theorem ggL_law_X4_season : GoodIn wsL_law wsX4_season := goodIn_r _ [696, 25, 24, 19, 404, 520, 521, 2, 522, 523, 415, 416, 23, 417, 168, 169, 56, 173, 174, 175, 176, 57, 58, 59, 697, 698, 699, 700, 701, 702, 703, 704, 705, 706, 375, 303, 369, 483, 382, 383, 384, 385, 334, 484, 485, 486, 487, 436, 437, 438, 439, 440, 441, 442, 443, 444, 340, 66, 341, 496, 497, 498, 499, 418, 419, 420, 421, 422, 423, 424, 425, 380, 426, 427, 428, 429, 430, 331, 332, 333, 335, 336, 337, 338, 339, 342, 65, 67, 431, 432, 433, 434, 435, 707, 708, 709, 710, 711, 760, 761, 762, 763, 764, 765, 766, 767, 768, 769, 826, 827, 828, 829, 830, 831, 813, 814, 815, 816, 817, 818, 819, 820, 821, 822, 823, 824, 825] (by decide +kernel) (by decide +kernel)
set_option maxRecDepth 20000 in
theorem gL_law_X4_season : GoodIn wsL_law (wsV RL 105 RX4 yX4_season wsX4_season) := goodIn_app (goodIn_of _ (by decide +kernel)) ggL_law_X4_season
set_option maxRecDepth 20000 in
theorem ggL_law_X5_season : GoodIn wsL_law wsX5_season := goodIn_r _ [715, 716, 532, 717, 718, 228, 719, 201, 240, 241, 5, 242, 454, 455, 456, 457, 720, 721, 722, 723, 226, 395, 396, 397, 398, 190, 181, 296, 297, 298, 475, 476, 477, 478, 227, 187, 186, 206, 188, 359, 360, 361, 458, 459, 460, 461, 462, 463, 464, 465, 466, 185, 467, 468, 469, 470, 471, 472, 473, 474, 352, 353, 354, 355, 183, 184, 356, 357, 358, 362, 363, 364, 724, 725, 726, 727, 770, 771, 772, 773, 774, 775, 776, 777, 778, 779, 780, 781, 782, 783, 784, 785, 786, 787, 788, 789, 790, 791, 792, 793, 794, 795, 796, 797, 798, 799, 800, 801, 802, 803, 804, 805, 806, 807, 808] (by decide +kernel) (by decide +kernel)
set_option maxRecDepth 20000 in
theorem gL_law_X5_season : GoodIn wsL_law (wsV RL 109 RX5 yX5_season wsX5_season) := goodIn_app (goodIn_of _ (by decide +kernel)) ggL_law_X5_season
set_option maxRecDepth 20000 in
theorem ggL_law_X4_keep : GoodIn wsL_law wsX4_keep := goodIn_r _ [731, 30, 304, 24, 405, 406, 407, 28, 408, 409, 69, 410, 411, 412, 413, 414, 415, 416, 23, 417, 168, 169, 56, 173, 174, 175, 176, 57, 58, 59, 760, 761, 762, 763, 764, 765, 766, 767, 768, 769, 832, 833, 826, 827, 828, 829, 830, 831] (by decide +kernel) (by decide +kernel)
set_option maxRecDepth 20000 in
theorem gL_law_X4_keep : GoodIn wsL_law (wsV RL 110 RX4 yX4_keep wsX4_keep) := goodIn_app (goodIn_of _ (by decide +kernel)) ggL_law_X4_keep
set_option maxRecDepth 20000 in
theorem ggL_law_X5_keep : GoodIn wsL_law wsX5_keep := goodIn_r _ [735, 311, 454, 455, 456, 5, 457, 201, 770, 771, 772, 773, 774, 775, 776, 777, 778, 779, 780, 781, 782, 783, 784, 785, 786, 787, 788, 789, 790, 791, 792, 793, 794, 795, 796, 797, 798, 799, 800, 801, 802, 803, 804, 805, 806, 807, 808] (by decide +kernel) (by decide +kernel)
set_option maxRecDepth 20000 in
theorem gL_law_X5_keep : GoodIn wsL_law (wsV RL 113 RX5 yX5_keep wsX5_keep) := goodIn_app (goodIn_of _ (by decide +kernel)) ggL_law_X5_keep
set_option maxRecDepth 20000 in
theorem ggL_law_X4_back : GoodIn wsL_law wsX4_back := goodIn_r _ [739, 30, 24, 29, 304, 508, 509, 510, 28, 511, 409, 69, 414, 415, 416, 23, 417, 168, 169, 56, 173, 174, 175, 176, 57, 58, 59, 760, 761, 762, 763, 764, 765, 766, 767, 768, 769, 832, 833, 826, 827, 828, 829, 830, 831] (by decide +kernel) (by decide +kernel)
set_option maxRecDepth 20000 in
theorem gL_law_X4_back : GoodIn wsL_law (wsV RL 114 RX4 yX4_back wsX4_back) := goodIn_app (goodIn_of _ (by decide +kernel)) ggL_law_X4_back
set_option maxRecDepth 20000 in
theorem ggL_law_X5_back : GoodIn wsL_law wsX5_back := goodIn_r _ [743, 311, 310, 454, 455, 456, 5, 457, 201, 770, 771, 772, 773, 774, 775, 776, 777, 778, 779, 780, 781, 782, 783, 784, 785, 786, 787, 788, 789, 790, 791, 792, 793, 794, 795, 796, 797, 798, 799, 800, 801, 802, 803, 804, 805, 806, 807, 808] (by decide +kernel) (by decide +kernel)
set_option maxRecDepth 20000 in
theorem gL_law_X5_back : GoodIn wsL_law (wsV RL 117 RX5 yX5_back wsX5_back) := goodIn_app (goodIn_of _ (by decide +kernel)) ggL_law_X5_back
set_option maxRecDepth 20000 in
theorem ggL_law_X4_count : GoodIn wsL_law wsX4_count := goodIn_r _ [747, 19, 303, 375, 24, 403, 404, 305, 29, 304, 30, 15, 34, 748, 749, 750, 23, 751, 380, 56, 707, 708, 709, 710, 711, 59, 760, 761, 762, 763, 764, 765, 766, 767, 768, 769, 813, 814, 815, 816, 817, 818, 819, 820, 821, 822, 823, 824, 825, 826, 827, 828, 829, 830, 831, 832, 833, 809, 810, 811, 812] (by decide +kernel) (by decide +kernel)
set_option maxRecDepth 20000 in
theorem gL_law_X4_count : GoodIn wsL_law (wsV RL 118 RX4 yX4_count wsX4_count) := goodIn_app (goodIn_of _ (by decide +kernel)) ggL_law_X4_count
set_option maxRecDepth 20000 in
theorem ggL_law_X5_count : GoodIn wsL_law wsX5_count := goodIn_r _ [755, 226, 228, 201, 312, 310, 311, 239, 756, 757, 758, 5, 759, 724, 725, 726, 727, 770, 771, 772, 773, 774, 775, 776, 777, 778, 779, 780, 781, 782, 783, 784, 785, 786, 787, 788, 789, 790, 791, 792, 793, 794, 795, 796, 797, 798, 799, 800, 801, 802, 803, 804, 805, 806, 807, 808] (by decide +kernel) (by decide +kernel)
set_option maxRecDepth 20000 in
theorem gL_law_X5_count : GoodIn wsL_law (wsV RL 121 RX5 yX5_count wsX5_count) := goodIn_app (goodIn_of _ (by decide +kernel)) ggL_law_X5_count
theorem dL_law_0 : decode cL_law 0 = .ok (.new 7, 3) := by decide +kernel
theorem dL_law_3 : decode cL_law 3 = .ok (.dup, 1) := by decide +kernel
theorem dL_law_4 : decode cL_law 4 = .ok (.invokespecial 9, 3) := by decide +kernel
theorem dL_law_7 : decode cL_law 7 = .ok (.astore_n 1, 1) := by decide +kernel
theorem dL_law_8 : decode cL_law 8 = .ok (.new 10, 3) := by decide +kernel
theorem dL_law_11 : decode cL_law 11 = .ok (.dup, 1) := by decide +kernel
theorem dL_law_12 : decode cL_law 12 = .ok (.invokespecial 12, 3) := by decide +kernel
theorem dL_law_15 : decode cL_law 15 = .ok (.astore_n 2, 1) := by decide +kernel
theorem dL_law_16 : decode cL_law 16 = .ok (.iconst 0, 1) := by decide +kernel
theorem dL_law_17 : decode cL_law 17 = .ok (.istore_n 3, 1) := by decide +kernel
theorem dL_law_18 : decode cL_law 18 = .ok (.iload_n 3, 1) := by decide +kernel
theorem dL_law_19 : decode cL_law 19 = .ok (.aload_n 0, 1) := by decide +kernel
theorem dL_law_20 : decode cL_law 20 = .ok (.arraylength, 1) := by decide +kernel
theorem dL_law_21 : decode cL_law 21 = .ok (.iconst 5, 1) := by decide +kernel
theorem dL_law_22 : decode cL_law 22 = .ok (.isub, 1) := by decide +kernel
theorem dL_law_23 : decode cL_law 23 = .ok (.if_icmp .gt 763, 3) := by decide +kernel
theorem dL_law_26 : decode cL_law 26 = .ok (.aload_n 0, 1) := by decide +kernel
theorem dL_law_27 : decode cL_law 27 = .ok (.iload_n 3, 1) := by decide +kernel
theorem dL_law_28 : decode cL_law 28 = .ok (.iaload, 1) := by decide +kernel
theorem dL_law_29 : decode cL_law 29 = .ok (.bipush 31, 2) := by decide +kernel
theorem dL_law_31 : decode cL_law 31 = .ok (.iand, 1) := by decide +kernel
theorem dL_law_32 : decode cL_law 32 = .ok (.tableswitch 748 0 25 #[120, 143, 156, 169, 182, 215, 248, 271, 304, 337, 350, 383, 396, 409, 442, 465, 488, 511, 544, 557, 580, 603, 656, 699, 712, 725], 120) := by decide +kernel
theorem dL_law_152 : decode cL_law 152 = .ok (.aload_n 1, 1) := by decide +kernel
theorem dL_law_153 : decode cL_law 153 = .ok (.aload_n 0, 1) := by decide +kernel
theorem dL_law_154 : decode cL_law 154 = .ok (.iload_n 3, 1) := by decide +kernel
theorem dL_law_155 : decode cL_law 155 = .ok (.iconst 1, 1) := by decide +kernel
theorem dL_law_156 : decode cL_law 156 = .ok (.iadd, 1) := by decide +kernel
theorem dL_law_157 : decode cL_law 157 = .ok (.iaload, 1) := by decide +kernel
theorem dL_law_158 : decode cL_law 158 = .ok (.invokevirtual 13, 3) := by decide +kernel
theorem dL_law_161 : decode cL_law 161 = .ok (.aload_n 2, 1) := by decide +kernel
theorem dL_law_162 : decode cL_law 162 = .ok (.aload_n 0, 1) := by decide +kernel
theorem dL_law_163 : decode cL_law 163 = .ok (.iload_n 3, 1) := by decide +kernel
theorem dL_law_164 : decode cL_law 164 = .ok (.iconst 1, 1) := by decide +kernel
theorem dL_law_165 : decode cL_law 165 = .ok (.iadd, 1) := by decide +kernel
theorem dL_law_166 : decode cL_law 166 = .ok (.iaload, 1) := by decide +kernel
theorem dL_law_167 : decode cL_law 167 = .ok (.invokevirtual 17, 3) := by decide +kernel
theorem dL_law_170 : decode cL_law 170 = .ok (.if_icmp .eq 610, 3) := by decide +kernel
theorem dL_law_173 : decode cL_law 173 = .ok (.iconst 0, 1) := by decide +kernel
theorem dL_law_174 : decode cL_law 174 = .ok (.ireturn, 1) := by decide +kernel
theorem dL_law_175 : decode cL_law 175 = .ok (.aload_n 1, 1) := by decide +kernel
theorem dL_law_176 : decode cL_law 176 = .ok (.invokevirtual 18, 3) := by decide +kernel
theorem dL_law_179 : decode cL_law 179 = .ok (.aload_n 2, 1) := by decide +kernel
theorem dL_law_180 : decode cL_law 180 = .ok (.invokevirtual 22, 3) := by decide +kernel
theorem dL_law_183 : decode cL_law 183 = .ok (.if_icmp .eq 597, 3) := by decide +kernel
theorem dL_law_186 : decode cL_law 186 = .ok (.iconst 0, 1) := by decide +kernel
theorem dL_law_187 : decode cL_law 187 = .ok (.ireturn, 1) := by decide +kernel
theorem dL_law_188 : decode cL_law 188 = .ok (.aload_n 1, 1) := by decide +kernel
theorem dL_law_189 : decode cL_law 189 = .ok (.invokevirtual 23, 3) := by decide +kernel
theorem dL_law_192 : decode cL_law 192 = .ok (.aload_n 2, 1) := by decide +kernel
theorem dL_law_193 : decode cL_law 193 = .ok (.invokevirtual 26, 3) := by decide +kernel
theorem dL_law_196 : decode cL_law 196 = .ok (.if_icmp .eq 584, 3) := by decide +kernel
theorem dL_law_199 : decode cL_law 199 = .ok (.iconst 0, 1) := by decide +kernel
theorem dL_law_200 : decode cL_law 200 = .ok (.ireturn, 1) := by decide +kernel
theorem dL_law_201 : decode cL_law 201 = .ok (.aload_n 1, 1) := by decide +kernel
theorem dL_law_202 : decode cL_law 202 = .ok (.invokevirtual 27, 3) := by decide +kernel
theorem dL_law_205 : decode cL_law 205 = .ok (.aload_n 2, 1) := by decide +kernel
theorem dL_law_206 : decode cL_law 206 = .ok (.invokevirtual 30, 3) := by decide +kernel
theorem dL_law_209 : decode cL_law 209 = .ok (.if_icmp .eq 571, 3) := by decide +kernel
theorem dL_law_212 : decode cL_law 212 = .ok (.iconst 0, 1) := by decide +kernel
theorem dL_law_213 : decode cL_law 213 = .ok (.ireturn, 1) := by decide +kernel
theorem dL_law_214 : decode cL_law 214 = .ok (.aload_n 1, 1) := by decide +kernel
theorem dL_law_215 : decode cL_law 215 = .ok (.aload_n 0, 1) := by decide +kernel
theorem dL_law_216 : decode cL_law 216 = .ok (.iload_n 3, 1) := by decide +kernel
theorem dL_law_217 : decode cL_law 217 = .ok (.iconst 1, 1) := by decide +kernel
theorem dL_law_218 : decode cL_law 218 = .ok (.iadd, 1) := by decide +kernel
theorem dL_law_219 : decode cL_law 219 = .ok (.iaload, 1) := by decide +kernel
theorem dL_law_220 : decode cL_law 220 = .ok (.aload_n 0, 1) := by decide +kernel
theorem dL_law_221 : decode cL_law 221 = .ok (.iload_n 3, 1) := by decide +kernel
theorem dL_law_222 : decode cL_law 222 = .ok (.iconst 2, 1) := by decide +kernel
theorem dL_law_223 : decode cL_law 223 = .ok (.iadd, 1) := by decide +kernel
theorem dL_law_224 : decode cL_law 224 = .ok (.iaload, 1) := by decide +kernel
theorem dL_law_225 : decode cL_law 225 = .ok (.invokevirtual 31, 3) := by decide +kernel
theorem dL_law_228 : decode cL_law 228 = .ok (.aload_n 2, 1) := by decide +kernel
theorem dL_law_229 : decode cL_law 229 = .ok (.aload_n 0, 1) := by decide +kernel
theorem dL_law_230 : decode cL_law 230 = .ok (.iload_n 3, 1) := by decide +kernel
theorem dL_law_231 : decode cL_law 231 = .ok (.iconst 1, 1) := by decide +kernel
theorem dL_law_232 : decode cL_law 232 = .ok (.iadd, 1) := by decide +kernel
theorem dL_law_233 : decode cL_law 233 = .ok (.iaload, 1) := by decide +kernel
theorem dL_law_234 : decode cL_law 234 = .ok (.aload_n 0, 1) := by decide +kernel
theorem dL_law_235 : decode cL_law 235 = .ok (.iload_n 3, 1) := by decide +kernel
theorem dL_law_236 : decode cL_law 236 = .ok (.iconst 2, 1) := by decide +kernel
theorem dL_law_237 : decode cL_law 237 = .ok (.iadd, 1) := by decide +kernel
theorem dL_law_238 : decode cL_law 238 = .ok (.iaload, 1) := by decide +kernel
theorem dL_law_239 : decode cL_law 239 = .ok (.invokevirtual 35, 3) := by decide +kernel
theorem dL_law_242 : decode cL_law 242 = .ok (.if_icmp .eq 538, 3) := by decide +kernel
theorem dL_law_245 : decode cL_law 245 = .ok (.iconst 0, 1) := by decide +kernel
theorem dL_law_246 : decode cL_law 246 = .ok (.ireturn, 1) := by decide +kernel
theorem dL_law_247 : decode cL_law 247 = .ok (.aload_n 1, 1) := by decide +kernel
theorem dL_law_248 : decode cL_law 248 = .ok (.aload_n 0, 1) := by decide +kernel
theorem dL_law_249 : decode cL_law 249 = .ok (.iload_n 3, 1) := by decide +kernel
theorem dL_law_250 : decode cL_law 250 = .ok (.iconst 1, 1) := by decide +kernel
theorem dL_law_251 : decode cL_law 251 = .ok (.iadd, 1) := by decide +kernel
theorem dL_law_252 : decode cL_law 252 = .ok (.iaload, 1) := by decide +kernel
theorem dL_law_253 : decode cL_law 253 = .ok (.aload_n 0, 1) := by decide +kernel
theorem dL_law_254 : decode cL_law 254 = .ok (.iload_n 3, 1) := by decide +kernel
theorem dL_law_255 : decode cL_law 255 = .ok (.iconst 2, 1) := by decide +kernel
theorem dL_law_256 : decode cL_law 256 = .ok (.iadd, 1) := by decide +kernel
theorem dL_law_257 : decode cL_law 257 = .ok (.iaload, 1) := by decide +kernel
theorem dL_law_258 : decode cL_law 258 = .ok (.invokevirtual 36, 3) := by decide +kernel
theorem dL_law_261 : decode cL_law 261 = .ok (.aload_n 2, 1) := by decide +kernel
theorem dL_law_262 : decode cL_law 262 = .ok (.aload_n 0, 1) := by decide +kernel
theorem dL_law_263 : decode cL_law 263 = .ok (.iload_n 3, 1) := by decide +kernel
theorem dL_law_264 : decode cL_law 264 = .ok (.iconst 1, 1) := by decide +kernel
theorem dL_law_265 : decode cL_law 265 = .ok (.iadd, 1) := by decide +kernel
theorem dL_law_266 : decode cL_law 266 = .ok (.iaload, 1) := by decide +kernel
theorem dL_law_267 : decode cL_law 267 = .ok (.aload_n 0, 1) := by decide +kernel
theorem dL_law_268 : decode cL_law 268 = .ok (.iload_n 3, 1) := by decide +kernel
theorem dL_law_269 : decode cL_law 269 = .ok (.iconst 2, 1) := by decide +kernel
theorem dL_law_270 : decode cL_law 270 = .ok (.iadd, 1) := by decide +kernel
theorem dL_law_271 : decode cL_law 271 = .ok (.iaload, 1) := by decide +kernel
theorem dL_law_272 : decode cL_law 272 = .ok (.invokevirtual 39, 3) := by decide +kernel
theorem dL_law_275 : decode cL_law 275 = .ok (.if_icmp .eq 505, 3) := by decide +kernel
theorem dL_law_278 : decode cL_law 278 = .ok (.iconst 0, 1) := by decide +kernel
theorem dL_law_279 : decode cL_law 279 = .ok (.ireturn, 1) := by decide +kernel
theorem dL_law_280 : decode cL_law 280 = .ok (.aload_n 1, 1) := by decide +kernel
theorem dL_law_281 : decode cL_law 281 = .ok (.aload_n 0, 1) := by decide +kernel
theorem dL_law_282 : decode cL_law 282 = .ok (.iload_n 3, 1) := by decide +kernel
theorem dL_law_283 : decode cL_law 283 = .ok (.iconst 1, 1) := by decide +kernel
theorem dL_law_284 : decode cL_law 284 = .ok (.iadd, 1) := by decide +kernel
theorem dL_law_285 : decode cL_law 285 = .ok (.iaload, 1) := by decide +kernel
theorem dL_law_286 : decode cL_law 286 = .ok (.invokevirtual 40, 3) := by decide +kernel
theorem dL_law_289 : decode cL_law 289 = .ok (.aload_n 2, 1) := by decide +kernel
theorem dL_law_290 : decode cL_law 290 = .ok (.aload_n 0, 1) := by decide +kernel
theorem dL_law_291 : decode cL_law 291 = .ok (.iload_n 3, 1) := by decide +kernel
theorem dL_law_292 : decode cL_law 292 = .ok (.iconst 1, 1) := by decide +kernel
theorem dL_law_293 : decode cL_law 293 = .ok (.iadd, 1) := by decide +kernel
theorem dL_law_294 : decode cL_law 294 = .ok (.iaload, 1) := by decide +kernel
theorem dL_law_295 : decode cL_law 295 = .ok (.invokevirtual 43, 3) := by decide +kernel
theorem dL_law_298 : decode cL_law 298 = .ok (.if_icmp .eq 482, 3) := by decide +kernel
theorem dL_law_301 : decode cL_law 301 = .ok (.iconst 0, 1) := by decide +kernel
theorem dL_law_302 : decode cL_law 302 = .ok (.ireturn, 1) := by decide +kernel
theorem dL_law_303 : decode cL_law 303 = .ok (.aload_n 1, 1) := by decide +kernel
theorem dL_law_304 : decode cL_law 304 = .ok (.aload_n 0, 1) := by decide +kernel
theorem dL_law_305 : decode cL_law 305 = .ok (.iload_n 3, 1) := by decide +kernel
theorem dL_law_306 : decode cL_law 306 = .ok (.iconst 1, 1) := by decide +kernel
theorem dL_law_307 : decode cL_law 307 = .ok (.iadd, 1) := by decide +kernel
theorem dL_law_308 : decode cL_law 308 = .ok (.iaload, 1) := by decide +kernel
theorem dL_law_309 : decode cL_law 309 = .ok (.aload_n 0, 1) := by decide +kernel
theorem dL_law_310 : decode cL_law 310 = .ok (.iload_n 3, 1) := by decide +kernel
theorem dL_law_311 : decode cL_law 311 = .ok (.iconst 2, 1) := by decide +kernel
theorem dL_law_312 : decode cL_law 312 = .ok (.iadd, 1) := by decide +kernel
theorem dL_law_313 : decode cL_law 313 = .ok (.iaload, 1) := by decide +kernel
theorem dL_law_314 : decode cL_law 314 = .ok (.invokevirtual 44, 3) := by decide +kernel
theorem dL_law_317 : decode cL_law 317 = .ok (.aload_n 2, 1) := by decide +kernel
theorem dL_law_318 : decode cL_law 318 = .ok (.aload_n 0, 1) := by decide +kernel
theorem dL_law_319 : decode cL_law 319 = .ok (.iload_n 3, 1) := by decide +kernel
theorem dL_law_320 : decode cL_law 320 = .ok (.iconst 1, 1) := by decide +kernel
theorem dL_law_321 : decode cL_law 321 = .ok (.iadd, 1) := by decide +kernel
theorem dL_law_322 : decode cL_law 322 = .ok (.iaload, 1) := by decide +kernel
theorem dL_law_323 : decode cL_law 323 = .ok (.aload_n 0, 1) := by decide +kernel
theorem dL_law_324 : decode cL_law 324 = .ok (.iload_n 3, 1) := by decide +kernel
theorem dL_law_325 : decode cL_law 325 = .ok (.iconst 2, 1) := by decide +kernel
theorem dL_law_326 : decode cL_law 326 = .ok (.iadd, 1) := by decide +kernel
theorem dL_law_327 : decode cL_law 327 = .ok (.iaload, 1) := by decide +kernel
theorem dL_law_328 : decode cL_law 328 = .ok (.invokevirtual 47, 3) := by decide +kernel
theorem dL_law_331 : decode cL_law 331 = .ok (.if_icmp .eq 449, 3) := by decide +kernel
theorem dL_law_334 : decode cL_law 334 = .ok (.iconst 0, 1) := by decide +kernel
theorem dL_law_335 : decode cL_law 335 = .ok (.ireturn, 1) := by decide +kernel
theorem dL_law_336 : decode cL_law 336 = .ok (.aload_n 1, 1) := by decide +kernel
theorem dL_law_337 : decode cL_law 337 = .ok (.aload_n 0, 1) := by decide +kernel
theorem dL_law_338 : decode cL_law 338 = .ok (.iload_n 3, 1) := by decide +kernel
theorem dL_law_339 : decode cL_law 339 = .ok (.iconst 1, 1) := by decide +kernel
theorem dL_law_340 : decode cL_law 340 = .ok (.iadd, 1) := by decide +kernel
theorem dL_law_341 : decode cL_law 341 = .ok (.iaload, 1) := by decide +kernel
theorem dL_law_342 : decode cL_law 342 = .ok (.aload_n 0, 1) := by decide +kernel
theorem dL_law_343 : decode cL_law 343 = .ok (.iload_n 3, 1) := by decide +kernel
theorem dL_law_344 : decode cL_law 344 = .ok (.iconst 2, 1) := by decide +kernel
theorem dL_law_345 : decode cL_law 345 = .ok (.iadd, 1) := by decide +kernel
theorem dL_law_346 : decode cL_law 346 = .ok (.iaload, 1) := by decide +kernel
theorem dL_law_347 : decode cL_law 347 = .ok (.invokevirtual 48, 3) := by decide +kernel
theorem dL_law_350 : decode cL_law 350 = .ok (.aload_n 2, 1) := by decide +kernel
theorem dL_law_351 : decode cL_law 351 = .ok (.aload_n 0, 1) := by decide +kernel
theorem dL_law_352 : decode cL_law 352 = .ok (.iload_n 3, 1) := by decide +kernel
theorem dL_law_353 : decode cL_law 353 = .ok (.iconst 1, 1) := by decide +kernel
theorem dL_law_354 : decode cL_law 354 = .ok (.iadd, 1) := by decide +kernel
theorem dL_law_355 : decode cL_law 355 = .ok (.iaload, 1) := by decide +kernel
theorem dL_law_356 : decode cL_law 356 = .ok (.aload_n 0, 1) := by decide +kernel
theorem dL_law_357 : decode cL_law 357 = .ok (.iload_n 3, 1) := by decide +kernel
theorem dL_law_358 : decode cL_law 358 = .ok (.iconst 2, 1) := by decide +kernel
theorem dL_law_359 : decode cL_law 359 = .ok (.iadd, 1) := by decide +kernel
theorem dL_law_360 : decode cL_law 360 = .ok (.iaload, 1) := by decide +kernel
theorem dL_law_361 : decode cL_law 361 = .ok (.invokevirtual 51, 3) := by decide +kernel
theorem dL_law_364 : decode cL_law 364 = .ok (.if_icmp .eq 416, 3) := by decide +kernel
theorem dL_law_367 : decode cL_law 367 = .ok (.iconst 0, 1) := by decide +kernel
theorem dL_law_368 : decode cL_law 368 = .ok (.ireturn, 1) := by decide +kernel
theorem dL_law_369 : decode cL_law 369 = .ok (.aload_n 1, 1) := by decide +kernel
theorem dL_law_370 : decode cL_law 370 = .ok (.invokevirtual 52, 3) := by decide +kernel
theorem dL_law_373 : decode cL_law 373 = .ok (.aload_n 2, 1) := by decide +kernel
theorem dL_law_374 : decode cL_law 374 = .ok (.invokevirtual 55, 3) := by decide +kernel
theorem dL_law_377 : decode cL_law 377 = .ok (.if_icmp .eq 403, 3) := by decide +kernel
theorem dL_law_380 : decode cL_law 380 = .ok (.iconst 0, 1) := by decide +kernel
theorem dL_law_381 : decode cL_law 381 = .ok (.ireturn, 1) := by decide +kernel
theorem dL_law_382 : decode cL_law 382 = .ok (.aload_n 1, 1) := by decide +kernel
theorem dL_law_383 : decode cL_law 383 = .ok (.aload_n 0, 1) := by decide +kernel
theorem dL_law_384 : decode cL_law 384 = .ok (.iload_n 3, 1) := by decide +kernel
theorem dL_law_385 : decode cL_law 385 = .ok (.iconst 1, 1) := by decide +kernel
theorem dL_law_386 : decode cL_law 386 = .ok (.iadd, 1) := by decide +kernel
theorem dL_law_387 : decode cL_law 387 = .ok (.iaload, 1) := by decide +kernel
theorem dL_law_388 : decode cL_law 388 = .ok (.aload_n 0, 1) := by decide +kernel
theorem dL_law_389 : decode cL_law 389 = .ok (.iload_n 3, 1) := by decide +kernel
theorem dL_law_390 : decode cL_law 390 = .ok (.iconst 2, 1) := by decide +kernel
theorem dL_law_391 : decode cL_law 391 = .ok (.iadd, 1) := by decide +kernel
theorem dL_law_392 : decode cL_law 392 = .ok (.iaload, 1) := by decide +kernel
theorem dL_law_393 : decode cL_law 393 = .ok (.invokevirtual 56, 3) := by decide +kernel
theorem dL_law_396 : decode cL_law 396 = .ok (.aload_n 2, 1) := by decide +kernel
theorem dL_law_397 : decode cL_law 397 = .ok (.aload_n 0, 1) := by decide +kernel
theorem dL_law_398 : decode cL_law 398 = .ok (.iload_n 3, 1) := by decide +kernel
theorem dL_law_399 : decode cL_law 399 = .ok (.iconst 1, 1) := by decide +kernel
theorem dL_law_400 : decode cL_law 400 = .ok (.iadd, 1) := by decide +kernel
theorem dL_law_401 : decode cL_law 401 = .ok (.iaload, 1) := by decide +kernel
theorem dL_law_402 : decode cL_law 402 = .ok (.aload_n 0, 1) := by decide +kernel
theorem dL_law_403 : decode cL_law 403 = .ok (.iload_n 3, 1) := by decide +kernel
theorem dL_law_404 : decode cL_law 404 = .ok (.iconst 2, 1) := by decide +kernel
theorem dL_law_405 : decode cL_law 405 = .ok (.iadd, 1) := by decide +kernel
theorem dL_law_406 : decode cL_law 406 = .ok (.iaload, 1) := by decide +kernel
theorem dL_law_407 : decode cL_law 407 = .ok (.invokevirtual 59, 3) := by decide +kernel
theorem dL_law_410 : decode cL_law 410 = .ok (.if_icmp .eq 370, 3) := by decide +kernel
theorem dL_law_413 : decode cL_law 413 = .ok (.iconst 0, 1) := by decide +kernel
theorem dL_law_414 : decode cL_law 414 = .ok (.ireturn, 1) := by decide +kernel
theorem dL_law_415 : decode cL_law 415 = .ok (.aload_n 1, 1) := by decide +kernel
theorem dL_law_416 : decode cL_law 416 = .ok (.invokevirtual 60, 3) := by decide +kernel
theorem dL_law_419 : decode cL_law 419 = .ok (.aload_n 2, 1) := by decide +kernel
theorem dL_law_420 : decode cL_law 420 = .ok (.invokevirtual 63, 3) := by decide +kernel
theorem dL_law_423 : decode cL_law 423 = .ok (.if_icmp .eq 357, 3) := by decide +kernel
theorem dL_law_426 : decode cL_law 426 = .ok (.iconst 0, 1) := by decide +kernel
theorem dL_law_427 : decode cL_law 427 = .ok (.ireturn, 1) := by decide +kernel
theorem dL_law_428 : decode cL_law 428 = .ok (.aload_n 1, 1) := by decide +kernel
theorem dL_law_429 : decode cL_law 429 = .ok (.invokevirtual 64, 3) := by decide +kernel
theorem dL_law_432 : decode cL_law 432 = .ok (.aload_n 2, 1) := by decide +kernel
theorem dL_law_433 : decode cL_law 433 = .ok (.invokevirtual 67, 3) := by decide +kernel
theorem dL_law_436 : decode cL_law 436 = .ok (.if_icmp .eq 344, 3) := by decide +kernel
theorem dL_law_439 : decode cL_law 439 = .ok (.iconst 0, 1) := by decide +kernel
theorem dL_law_440 : decode cL_law 440 = .ok (.ireturn, 1) := by decide +kernel
theorem dL_law_441 : decode cL_law 441 = .ok (.aload_n 1, 1) := by decide +kernel
theorem dL_law_442 : decode cL_law 442 = .ok (.aload_n 0, 1) := by decide +kernel
theorem dL_law_443 : decode cL_law 443 = .ok (.iload_n 3, 1) := by decide +kernel
theorem dL_law_444 : decode cL_law 444 = .ok (.iconst 1, 1) := by decide +kernel
theorem dL_law_445 : decode cL_law 445 = .ok (.iadd, 1) := by decide +kernel
theorem dL_law_446 : decode cL_law 446 = .ok (.iaload, 1) := by decide +kernel
theorem dL_law_447 : decode cL_law 447 = .ok (.aload_n 0, 1) := by decide +kernel
theorem dL_law_448 : decode cL_law 448 = .ok (.iload_n 3, 1) := by decide +kernel
theorem dL_law_449 : decode cL_law 449 = .ok (.iconst 2, 1) := by decide +kernel
theorem dL_law_450 : decode cL_law 450 = .ok (.iadd, 1) := by decide +kernel
theorem dL_law_451 : decode cL_law 451 = .ok (.iaload, 1) := by decide +kernel
theorem dL_law_452 : decode cL_law 452 = .ok (.invokevirtual 68, 3) := by decide +kernel
theorem dL_law_455 : decode cL_law 455 = .ok (.aload_n 2, 1) := by decide +kernel
theorem dL_law_456 : decode cL_law 456 = .ok (.aload_n 0, 1) := by decide +kernel
theorem dL_law_457 : decode cL_law 457 = .ok (.iload_n 3, 1) := by decide +kernel
theorem dL_law_458 : decode cL_law 458 = .ok (.iconst 1, 1) := by decide +kernel
theorem dL_law_459 : decode cL_law 459 = .ok (.iadd, 1) := by decide +kernel
theorem dL_law_460 : decode cL_law 460 = .ok (.iaload, 1) := by decide +kernel
theorem dL_law_461 : decode cL_law 461 = .ok (.aload_n 0, 1) := by decide +kernel
theorem dL_law_462 : decode cL_law 462 = .ok (.iload_n 3, 1) := by decide +kernel
theorem dL_law_463 : decode cL_law 463 = .ok (.iconst 2, 1) := by decide +kernel
theorem dL_law_464 : decode cL_law 464 = .ok (.iadd, 1) := by decide +kernel
theorem dL_law_465 : decode cL_law 465 = .ok (.iaload, 1) := by decide +kernel
theorem dL_law_466 : decode cL_law 466 = .ok (.invokevirtual 71, 3) := by decide +kernel
theorem dL_law_469 : decode cL_law 469 = .ok (.if_icmp .eq 311, 3) := by decide +kernel
theorem dL_law_472 : decode cL_law 472 = .ok (.iconst 0, 1) := by decide +kernel
theorem dL_law_473 : decode cL_law 473 = .ok (.ireturn, 1) := by decide +kernel
theorem dL_law_474 : decode cL_law 474 = .ok (.aload_n 1, 1) := by decide +kernel
theorem dL_law_475 : decode cL_law 475 = .ok (.aload_n 0, 1) := by decide +kernel
theorem dL_law_476 : decode cL_law 476 = .ok (.iload_n 3, 1) := by decide +kernel
theorem dL_law_477 : decode cL_law 477 = .ok (.iconst 1, 1) := by decide +kernel
theorem dL_law_478 : decode cL_law 478 = .ok (.iadd, 1) := by decide +kernel
theorem dL_law_479 : decode cL_law 479 = .ok (.iaload, 1) := by decide +kernel
theorem dL_law_480 : decode cL_law 480 = .ok (.invokevirtual 72, 3) := by decide +kernel
theorem dL_law_483 : decode cL_law 483 = .ok (.aload_n 2, 1) := by decide +kernel
theorem dL_law_484 : decode cL_law 484 = .ok (.aload_n 0, 1) := by decide +kernel
theorem dL_law_485 : decode cL_law 485 = .ok (.iload_n 3, 1) := by decide +kernel
theorem dL_law_486 : decode cL_law 486 = .ok (.iconst 1, 1) := by decide +kernel
theorem dL_law_487 : decode cL_law 487 = .ok (.iadd, 1) := by decide +kernel
theorem dL_law_488 : decode cL_law 488 = .ok (.iaload, 1) := by decide +kernel
theorem dL_law_489 : decode cL_law 489 = .ok (.invokevirtual 75, 3) := by decide +kernel
theorem dL_law_492 : decode cL_law 492 = .ok (.if_icmp .eq 288, 3) := by decide +kernel
theorem dL_law_495 : decode cL_law 495 = .ok (.iconst 0, 1) := by decide +kernel
theorem dL_law_496 : decode cL_law 496 = .ok (.ireturn, 1) := by decide +kernel
theorem dL_law_497 : decode cL_law 497 = .ok (.aload_n 1, 1) := by decide +kernel
theorem dL_law_498 : decode cL_law 498 = .ok (.aload_n 0, 1) := by decide +kernel
theorem dL_law_499 : decode cL_law 499 = .ok (.iload_n 3, 1) := by decide +kernel
theorem dL_law_500 : decode cL_law 500 = .ok (.iconst 1, 1) := by decide +kernel
theorem dL_law_501 : decode cL_law 501 = .ok (.iadd, 1) := by decide +kernel
theorem dL_law_502 : decode cL_law 502 = .ok (.iaload, 1) := by decide +kernel
theorem dL_law_503 : decode cL_law 503 = .ok (.invokevirtual 76, 3) := by decide +kernel
theorem dL_law_506 : decode cL_law 506 = .ok (.aload_n 2, 1) := by decide +kernel
theorem dL_law_507 : decode cL_law 507 = .ok (.aload_n 0, 1) := by decide +kernel
theorem dL_law_508 : decode cL_law 508 = .ok (.iload_n 3, 1) := by decide +kernel
theorem dL_law_509 : decode cL_law 509 = .ok (.iconst 1, 1) := by decide +kernel
theorem dL_law_510 : decode cL_law 510 = .ok (.iadd, 1) := by decide +kernel
theorem dL_law_511 : decode cL_law 511 = .ok (.iaload, 1) := by decide +kernel
theorem dL_law_512 : decode cL_law 512 = .ok (.invokevirtual 79, 3) := by decide +kernel
theorem dL_law_515 : decode cL_law 515 = .ok (.if_icmp .eq 265, 3) := by decide +kernel
theorem dL_law_518 : decode cL_law 518 = .ok (.iconst 0, 1) := by decide +kernel
theorem dL_law_519 : decode cL_law 519 = .ok (.ireturn, 1) := by decide +kernel
theorem dL_law_520 : decode cL_law 520 = .ok (.aload_n 1, 1) := by decide +kernel
theorem dL_law_521 : decode cL_law 521 = .ok (.aload_n 0, 1) := by decide +kernel
theorem dL_law_522 : decode cL_law 522 = .ok (.iload_n 3, 1) := by decide +kernel
theorem dL_law_523 : decode cL_law 523 = .ok (.iconst 1, 1) := by decide +kernel
theorem dL_law_524 : decode cL_law 524 = .ok (.iadd, 1) := by decide +kernel
theorem dL_law_525 : decode cL_law 525 = .ok (.iaload, 1) := by decide +kernel
theorem dL_law_526 : decode cL_law 526 = .ok (.invokevirtual 80, 3) := by decide +kernel
theorem dL_law_529 : decode cL_law 529 = .ok (.aload_n 2, 1) := by decide +kernel
theorem dL_law_530 : decode cL_law 530 = .ok (.aload_n 0, 1) := by decide +kernel
theorem dL_law_531 : decode cL_law 531 = .ok (.iload_n 3, 1) := by decide +kernel
theorem dL_law_532 : decode cL_law 532 = .ok (.iconst 1, 1) := by decide +kernel
theorem dL_law_533 : decode cL_law 533 = .ok (.iadd, 1) := by decide +kernel
theorem dL_law_534 : decode cL_law 534 = .ok (.iaload, 1) := by decide +kernel
theorem dL_law_535 : decode cL_law 535 = .ok (.invokevirtual 83, 3) := by decide +kernel
theorem dL_law_538 : decode cL_law 538 = .ok (.if_icmp .eq 242, 3) := by decide +kernel
theorem dL_law_541 : decode cL_law 541 = .ok (.iconst 0, 1) := by decide +kernel
theorem dL_law_542 : decode cL_law 542 = .ok (.ireturn, 1) := by decide +kernel
theorem dL_law_543 : decode cL_law 543 = .ok (.aload_n 1, 1) := by decide +kernel
theorem dL_law_544 : decode cL_law 544 = .ok (.aload_n 0, 1) := by decide +kernel
theorem dL_law_545 : decode cL_law 545 = .ok (.iload_n 3, 1) := by decide +kernel
theorem dL_law_546 : decode cL_law 546 = .ok (.iconst 1, 1) := by decide +kernel
theorem dL_law_547 : decode cL_law 547 = .ok (.iadd, 1) := by decide +kernel
theorem dL_law_548 : decode cL_law 548 = .ok (.iaload, 1) := by decide +kernel
theorem dL_law_549 : decode cL_law 549 = .ok (.aload_n 0, 1) := by decide +kernel
theorem dL_law_550 : decode cL_law 550 = .ok (.iload_n 3, 1) := by decide +kernel
theorem dL_law_551 : decode cL_law 551 = .ok (.iconst 2, 1) := by decide +kernel
theorem dL_law_552 : decode cL_law 552 = .ok (.iadd, 1) := by decide +kernel
theorem dL_law_553 : decode cL_law 553 = .ok (.iaload, 1) := by decide +kernel
theorem dL_law_554 : decode cL_law 554 = .ok (.invokevirtual 84, 3) := by decide +kernel
theorem dL_law_557 : decode cL_law 557 = .ok (.aload_n 2, 1) := by decide +kernel
theorem dL_law_558 : decode cL_law 558 = .ok (.aload_n 0, 1) := by decide +kernel
theorem dL_law_559 : decode cL_law 559 = .ok (.iload_n 3, 1) := by decide +kernel
theorem dL_law_560 : decode cL_law 560 = .ok (.iconst 1, 1) := by decide +kernel
theorem dL_law_561 : decode cL_law 561 = .ok (.iadd, 1) := by decide +kernel
theorem dL_law_562 : decode cL_law 562 = .ok (.iaload, 1) := by decide +kernel
theorem dL_law_563 : decode cL_law 563 = .ok (.aload_n 0, 1) := by decide +kernel
theorem dL_law_564 : decode cL_law 564 = .ok (.iload_n 3, 1) := by decide +kernel
theorem dL_law_565 : decode cL_law 565 = .ok (.iconst 2, 1) := by decide +kernel
theorem dL_law_566 : decode cL_law 566 = .ok (.iadd, 1) := by decide +kernel
theorem dL_law_567 : decode cL_law 567 = .ok (.iaload, 1) := by decide +kernel
theorem dL_law_568 : decode cL_law 568 = .ok (.invokevirtual 87, 3) := by decide +kernel
theorem dL_law_571 : decode cL_law 571 = .ok (.if_icmp .eq 209, 3) := by decide +kernel
theorem dL_law_574 : decode cL_law 574 = .ok (.iconst 0, 1) := by decide +kernel
theorem dL_law_575 : decode cL_law 575 = .ok (.ireturn, 1) := by decide +kernel
theorem dL_law_576 : decode cL_law 576 = .ok (.aload_n 1, 1) := by decide +kernel
theorem dL_law_577 : decode cL_law 577 = .ok (.invokevirtual 88, 3) := by decide +kernel
theorem dL_law_580 : decode cL_law 580 = .ok (.aload_n 2, 1) := by decide +kernel
theorem dL_law_581 : decode cL_law 581 = .ok (.invokevirtual 91, 3) := by decide +kernel
theorem dL_law_584 : decode cL_law 584 = .ok (.if_icmp .eq 196, 3) := by decide +kernel
theorem dL_law_587 : decode cL_law 587 = .ok (.iconst 0, 1) := by decide +kernel
theorem dL_law_588 : decode cL_law 588 = .ok (.ireturn, 1) := by decide +kernel
theorem dL_law_589 : decode cL_law 589 = .ok (.aload_n 1, 1) := by decide +kernel
theorem dL_law_590 : decode cL_law 590 = .ok (.aload_n 0, 1) := by decide +kernel
theorem dL_law_591 : decode cL_law 591 = .ok (.iload_n 3, 1) := by decide +kernel
theorem dL_law_592 : decode cL_law 592 = .ok (.iconst 1, 1) := by decide +kernel
theorem dL_law_593 : decode cL_law 593 = .ok (.iadd, 1) := by decide +kernel
theorem dL_law_594 : decode cL_law 594 = .ok (.iaload, 1) := by decide +kernel
theorem dL_law_595 : decode cL_law 595 = .ok (.invokevirtual 92, 3) := by decide +kernel
theorem dL_law_598 : decode cL_law 598 = .ok (.aload_n 2, 1) := by decide +kernel
theorem dL_law_599 : decode cL_law 599 = .ok (.aload_n 0, 1) := by decide +kernel
theorem dL_law_600 : decode cL_law 600 = .ok (.iload_n 3, 1) := by decide +kernel
theorem dL_law_601 : decode cL_law 601 = .ok (.iconst 1, 1) := by decide +kernel
theorem dL_law_602 : decode cL_law 602 = .ok (.iadd, 1) := by decide +kernel
theorem dL_law_603 : decode cL_law 603 = .ok (.iaload, 1) := by decide +kernel
theorem dL_law_604 : decode cL_law 604 = .ok (.invokevirtual 95, 3) := by decide +kernel
theorem dL_law_607 : decode cL_law 607 = .ok (.if_icmp .eq 173, 3) := by decide +kernel
theorem dL_law_610 : decode cL_law 610 = .ok (.iconst 0, 1) := by decide +kernel
theorem dL_law_611 : decode cL_law 611 = .ok (.ireturn, 1) := by decide +kernel
theorem dL_law_612 : decode cL_law 612 = .ok (.aload_n 1, 1) := by decide +kernel
theorem dL_law_613 : decode cL_law 613 = .ok (.aload_n 0, 1) := by decide +kernel
theorem dL_law_614 : decode cL_law 614 = .ok (.iload_n 3, 1) := by decide +kernel
theorem dL_law_615 : decode cL_law 615 = .ok (.iconst 1, 1) := by decide +kernel
theorem dL_law_616 : decode cL_law 616 = .ok (.iadd, 1) := by decide +kernel
theorem dL_law_617 : decode cL_law 617 = .ok (.iaload, 1) := by decide +kernel
theorem dL_law_618 : decode cL_law 618 = .ok (.invokevirtual 96, 3) := by decide +kernel
theorem dL_law_621 : decode cL_law 621 = .ok (.aload_n 2, 1) := by decide +kernel
theorem dL_law_622 : decode cL_law 622 = .ok (.aload_n 0, 1) := by decide +kernel
theorem dL_law_623 : decode cL_law 623 = .ok (.iload_n 3, 1) := by decide +kernel
theorem dL_law_624 : decode cL_law 624 = .ok (.iconst 1, 1) := by decide +kernel
theorem dL_law_625 : decode cL_law 625 = .ok (.iadd, 1) := by decide +kernel
theorem dL_law_626 : decode cL_law 626 = .ok (.iaload, 1) := by decide +kernel
theorem dL_law_627 : decode cL_law 627 = .ok (.invokevirtual 99, 3) := by decide +kernel
theorem dL_law_630 : decode cL_law 630 = .ok (.if_icmp .eq 150, 3) := by decide +kernel
theorem dL_law_633 : decode cL_law 633 = .ok (.iconst 0, 1) := by decide +kernel
theorem dL_law_634 : decode cL_law 634 = .ok (.ireturn, 1) := by decide +kernel
theorem dL_law_635 : decode cL_law 635 = .ok (.aload_n 1, 1) := by decide +kernel
theorem dL_law_636 : decode cL_law 636 = .ok (.aload_n 0, 1) := by decide +kernel
theorem dL_law_637 : decode cL_law 637 = .ok (.iload_n 3, 1) := by decide +kernel
theorem dL_law_638 : decode cL_law 638 = .ok (.iconst 1, 1) := by decide +kernel
theorem dL_law_639 : decode cL_law 639 = .ok (.iadd, 1) := by decide +kernel
theorem dL_law_640 : decode cL_law 640 = .ok (.iaload, 1) := by decide +kernel
theorem dL_law_641 : decode cL_law 641 = .ok (.aload_n 0, 1) := by decide +kernel
theorem dL_law_642 : decode cL_law 642 = .ok (.iload_n 3, 1) := by decide +kernel
theorem dL_law_643 : decode cL_law 643 = .ok (.iconst 2, 1) := by decide +kernel
theorem dL_law_644 : decode cL_law 644 = .ok (.iadd, 1) := by decide +kernel
theorem dL_law_645 : decode cL_law 645 = .ok (.iaload, 1) := by decide +kernel
theorem dL_law_646 : decode cL_law 646 = .ok (.aload_n 0, 1) := by decide +kernel
theorem dL_law_647 : decode cL_law 647 = .ok (.iload_n 3, 1) := by decide +kernel
theorem dL_law_648 : decode cL_law 648 = .ok (.iconst 3, 1) := by decide +kernel
theorem dL_law_649 : decode cL_law 649 = .ok (.iadd, 1) := by decide +kernel
theorem dL_law_650 : decode cL_law 650 = .ok (.iaload, 1) := by decide +kernel
theorem dL_law_651 : decode cL_law 651 = .ok (.aload_n 0, 1) := by decide +kernel
theorem dL_law_652 : decode cL_law 652 = .ok (.iload_n 3, 1) := by decide +kernel
theorem dL_law_653 : decode cL_law 653 = .ok (.iconst 4, 1) := by decide +kernel
theorem dL_law_654 : decode cL_law 654 = .ok (.iadd, 1) := by decide +kernel
theorem dL_law_655 : decode cL_law 655 = .ok (.iaload, 1) := by decide +kernel
theorem dL_law_656 : decode cL_law 656 = .ok (.invokevirtual 100, 3) := by decide +kernel
theorem dL_law_659 : decode cL_law 659 = .ok (.aload_n 2, 1) := by decide +kernel
theorem dL_law_660 : decode cL_law 660 = .ok (.aload_n 0, 1) := by decide +kernel
theorem dL_law_661 : decode cL_law 661 = .ok (.iload_n 3, 1) := by decide +kernel
theorem dL_law_662 : decode cL_law 662 = .ok (.iconst 1, 1) := by decide +kernel
theorem dL_law_663 : decode cL_law 663 = .ok (.iadd, 1) := by decide +kernel
theorem dL_law_664 : decode cL_law 664 = .ok (.iaload, 1) := by decide +kernel
theorem dL_law_665 : decode cL_law 665 = .ok (.aload_n 0, 1) := by decide +kernel
theorem dL_law_666 : decode cL_law 666 = .ok (.iload_n 3, 1) := by decide +kernel
theorem dL_law_667 : decode cL_law 667 = .ok (.iconst 2, 1) := by decide +kernel
theorem dL_law_668 : decode cL_law 668 = .ok (.iadd, 1) := by decide +kernel
theorem dL_law_669 : decode cL_law 669 = .ok (.iaload, 1) := by decide +kernel
theorem dL_law_670 : decode cL_law 670 = .ok (.aload_n 0, 1) := by decide +kernel
theorem dL_law_671 : decode cL_law 671 = .ok (.iload_n 3, 1) := by decide +kernel
theorem dL_law_672 : decode cL_law 672 = .ok (.iconst 3, 1) := by decide +kernel
theorem dL_law_673 : decode cL_law 673 = .ok (.iadd, 1) := by decide +kernel
theorem dL_law_674 : decode cL_law 674 = .ok (.iaload, 1) := by decide +kernel
theorem dL_law_675 : decode cL_law 675 = .ok (.aload_n 0, 1) := by decide +kernel
theorem dL_law_676 : decode cL_law 676 = .ok (.iload_n 3, 1) := by decide +kernel
theorem dL_law_677 : decode cL_law 677 = .ok (.iconst 4, 1) := by decide +kernel
theorem dL_law_678 : decode cL_law 678 = .ok (.iadd, 1) := by decide +kernel
theorem dL_law_679 : decode cL_law 679 = .ok (.iaload, 1) := by decide +kernel
theorem dL_law_680 : decode cL_law 680 = .ok (.invokevirtual 104, 3) := by decide +kernel
theorem dL_law_683 : decode cL_law 683 = .ok (.if_icmp .eq 97, 3) := by decide +kernel
theorem dL_law_686 : decode cL_law 686 = .ok (.iconst 0, 1) := by decide +kernel
theorem dL_law_687 : decode cL_law 687 = .ok (.ireturn, 1) := by decide +kernel
theorem dL_law_688 : decode cL_law 688 = .ok (.aload_n 1, 1) := by decide +kernel
theorem dL_law_689 : decode cL_law 689 = .ok (.aload_n 0, 1) := by decide +kernel
theorem dL_law_690 : decode cL_law 690 = .ok (.iload_n 3, 1) := by decide +kernel
theorem dL_law_691 : decode cL_law 691 = .ok (.iconst 1, 1) := by decide +kernel
theorem dL_law_692 : decode cL_law 692 = .ok (.iadd, 1) := by decide +kernel
theorem dL_law_693 : decode cL_law 693 = .ok (.iaload, 1) := by decide +kernel
theorem dL_law_694 : decode cL_law 694 = .ok (.aload_n 0, 1) := by decide +kernel
theorem dL_law_695 : decode cL_law 695 = .ok (.iload_n 3, 1) := by decide +kernel
theorem dL_law_696 : decode cL_law 696 = .ok (.iconst 2, 1) := by decide +kernel
theorem dL_law_697 : decode cL_law 697 = .ok (.iadd, 1) := by decide +kernel
theorem dL_law_698 : decode cL_law 698 = .ok (.iaload, 1) := by decide +kernel
theorem dL_law_699 : decode cL_law 699 = .ok (.aload_n 0, 1) := by decide +kernel
theorem dL_law_700 : decode cL_law 700 = .ok (.iload_n 3, 1) := by decide +kernel
theorem dL_law_701 : decode cL_law 701 = .ok (.iconst 3, 1) := by decide +kernel
theorem dL_law_702 : decode cL_law 702 = .ok (.iadd, 1) := by decide +kernel
theorem dL_law_703 : decode cL_law 703 = .ok (.iaload, 1) := by decide +kernel
theorem dL_law_704 : decode cL_law 704 = .ok (.invokevirtual 105, 3) := by decide +kernel
theorem dL_law_707 : decode cL_law 707 = .ok (.aload_n 2, 1) := by decide +kernel
theorem dL_law_708 : decode cL_law 708 = .ok (.aload_n 0, 1) := by decide +kernel
theorem dL_law_709 : decode cL_law 709 = .ok (.iload_n 3, 1) := by decide +kernel
theorem dL_law_710 : decode cL_law 710 = .ok (.iconst 1, 1) := by decide +kernel
theorem dL_law_711 : decode cL_law 711 = .ok (.iadd, 1) := by decide +kernel
theorem dL_law_712 : decode cL_law 712 = .ok (.iaload, 1) := by decide +kernel
theorem dL_law_713 : decode cL_law 713 = .ok (.aload_n 0, 1) := by decide +kernel
theorem dL_law_714 : decode cL_law 714 = .ok (.iload_n 3, 1) := by decide +kernel
theorem dL_law_715 : decode cL_law 715 = .ok (.iconst 2, 1) := by decide +kernel
theorem dL_law_716 : decode cL_law 716 = .ok (.iadd, 1) := by decide +kernel
theorem dL_law_717 : decode cL_law 717 = .ok (.iaload, 1) := by decide +kernel
theorem dL_law_718 : decode cL_law 718 = .ok (.aload_n 0, 1) := by decide +kernel
theorem dL_law_719 : decode cL_law 719 = .ok (.iload_n 3, 1) := by decide +kernel
theorem dL_law_720 : decode cL_law 720 = .ok (.iconst 3, 1) := by decide +kernel
theorem dL_law_721 : decode cL_law 721 = .ok (.iadd, 1) := by decide +kernel
theorem dL_law_722 : decode cL_law 722 = .ok (.iaload, 1) := by decide +kernel
theorem dL_law_723 : decode cL_law 723 = .ok (.invokevirtual 109, 3) := by decide +kernel
theorem dL_law_726 : decode cL_law 726 = .ok (.if_icmp .eq 54, 3) := by decide +kernel
theorem dL_law_729 : decode cL_law 729 = .ok (.iconst 0, 1) := by decide +kernel
theorem dL_law_730 : decode cL_law 730 = .ok (.ireturn, 1) := by decide +kernel
theorem dL_law_731 : decode cL_law 731 = .ok (.aload_n 1, 1) := by decide +kernel
theorem dL_law_732 : decode cL_law 732 = .ok (.invokevirtual 110, 3) := by decide +kernel
theorem dL_law_735 : decode cL_law 735 = .ok (.aload_n 2, 1) := by decide +kernel
theorem dL_law_736 : decode cL_law 736 = .ok (.invokevirtual 113, 3) := by decide +kernel
theorem dL_law_739 : decode cL_law 739 = .ok (.if_icmp .eq 41, 3) := by decide +kernel
theorem dL_law_742 : decode cL_law 742 = .ok (.iconst 0, 1) := by decide +kernel
theorem dL_law_743 : decode cL_law 743 = .ok (.ireturn, 1) := by decide +kernel
theorem dL_law_744 : decode cL_law 744 = .ok (.aload_n 1, 1) := by decide +kernel
theorem dL_law_745 : decode cL_law 745 = .ok (.invokevirtual 114, 3) := by decide +kernel
theorem dL_law_748 : decode cL_law 748 = .ok (.aload_n 2, 1) := by decide +kernel
theorem dL_law_749 : decode cL_law 749 = .ok (.invokevirtual 117, 3) := by decide +kernel
theorem dL_law_752 : decode cL_law 752 = .ok (.if_icmp .eq 28, 3) := by decide +kernel
theorem dL_law_755 : decode cL_law 755 = .ok (.iconst 0, 1) := by decide +kernel
theorem dL_law_756 : decode cL_law 756 = .ok (.ireturn, 1) := by decide +kernel
theorem dL_law_757 : decode cL_law 757 = .ok (.aload_n 1, 1) := by decide +kernel
theorem dL_law_758 : decode cL_law 758 = .ok (.aload_n 0, 1) := by decide +kernel
theorem dL_law_759 : decode cL_law 759 = .ok (.iload_n 3, 1) := by decide +kernel
theorem dL_law_760 : decode cL_law 760 = .ok (.iconst 1, 1) := by decide +kernel
theorem dL_law_761 : decode cL_law 761 = .ok (.iadd, 1) := by decide +kernel
theorem dL_law_762 : decode cL_law 762 = .ok (.iaload, 1) := by decide +kernel
theorem dL_law_763 : decode cL_law 763 = .ok (.invokevirtual 118, 3) := by decide +kernel
theorem dL_law_766 : decode cL_law 766 = .ok (.aload_n 2, 1) := by decide +kernel
theorem dL_law_767 : decode cL_law 767 = .ok (.aload_n 0, 1) := by decide +kernel
theorem dL_law_768 : decode cL_law 768 = .ok (.iload_n 3, 1) := by decide +kernel
theorem dL_law_769 : decode cL_law 769 = .ok (.iconst 1, 1) := by decide +kernel
theorem dL_law_770 : decode cL_law 770 = .ok (.iadd, 1) := by decide +kernel
theorem dL_law_771 : decode cL_law 771 = .ok (.iaload, 1) := by decide +kernel
theorem dL_law_772 : decode cL_law 772 = .ok (.invokevirtual 121, 3) := by decide +kernel
theorem dL_law_775 : decode cL_law 775 = .ok (.if_icmp .eq 5, 3) := by decide +kernel
theorem dL_law_778 : decode cL_law 778 = .ok (.iconst 0, 1) := by decide +kernel
theorem dL_law_779 : decode cL_law 779 = .ok (.ireturn, 1) := by decide +kernel
theorem dL_law_780 : decode cL_law 780 = .ok (.iinc 3 5, 3) := by decide +kernel
theorem dL_law_783 : decode cL_law 783 = .ok (.goto (-765), 3) := by decide +kernel
theorem dL_law_786 : decode cL_law 786 = .ok (.iconst 1, 1) := by decide +kernel
theorem dL_law_787 : decode cL_law 787 = .ok (.ireturn, 1) := by decide +kernel
abbrev vwCl : List vw_C := [(RX0, TX0, 13), (RX1, TX1, 2), (RX2, TX2, 6), (RX3, TX3, 4), (RX4, TX4, 10), (RX5, TX5, 39)]


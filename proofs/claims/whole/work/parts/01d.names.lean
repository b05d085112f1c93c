theorem dX4_worth_74 : decode cX4_worth 74 = .ok (.istore 4, 2) := by decide +kernel
theorem dX4_worth_76 : decode cX4_worth 76 = .ok (.iload 4, 2) := by decide +kernel
theorem dX4_worth_78 : decode cX4_worth 78 = .ok (.bipush (-20), 2) := by decide +kernel
theorem dX4_worth_80 : decode cX4_worth 80 = .ok (.invokestatic 177, 3) := by decide +kernel
theorem dX4_worth_83 : decode cX4_worth 83 = .ok (.ireturn, 1) := by decide +kernel
set_option maxRecDepth 20000 in
theorem ggX5_init_X5_clears : GoodIn wsX5_init wsX5_clears := goodIn_r _ [36, 37, 38, 31, 54, 55, 56, 57, 58, 59, 60, 61, 62, 63, 64, 65, 66, 67, 68, 69, 70, 71, 72, 73, 74, 75, 76, 77, 78, 79, 80, 81, 82, 83, 84, 85, 86, 87, 88, 89, 90, 91, 92] (by decide +kernel) (by decide +kernel)
set_option maxRecDepth 20000 in
theorem gX5_init_X5_clears : GoodIn wsX5_init (wsV RX5 87 RX5 yX5_clears wsX5_clears) := goodIn_app (goodIn_of _ (by decide +kernel)) ggX5_init_X5_clears
set_option maxRecDepth 20000 in
theorem ggX5_init_X5_comes : GoodIn wsX5_init wsX5_comes := goodIn_r _ [42, 15, 37, 16, 17, 18, 19, 54, 55, 56, 57, 58, 59, 60, 61, 62, 63, 64, 65, 66, 67, 68, 69, 70, 71, 72, 73, 74, 75, 76, 77, 78, 79, 80, 81, 82, 83, 84, 85, 86, 87, 88, 89, 90, 91, 92] (by decide +kernel) (by decide +kernel)
set_option maxRecDepth 20000 in
theorem gX5_init_X5_comes : GoodIn wsX5_init (wsV RX5 90 RX5 yX5_comes wsX5_comes) := goodIn_app (goodIn_of _ (by decide +kernel)) ggX5_init_X5_comes
set_option maxRecDepth 20000 in
theorem ggX5_init_X5_follow : GoodIn wsX5_init wsX5_follow := goodIn_r _ [46, 20, 38, 21, 22, 54, 55, 56, 57, 58, 59, 60, 61, 62, 63, 64, 65, 66, 67, 68, 69, 70, 71, 72, 73, 74, 75, 76, 77, 78, 79, 80, 81, 82, 83, 84, 85, 86, 87, 88, 89, 90, 91, 92] (by decide +kernel) (by decide +kernel)
set_option maxRecDepth 20000 in
theorem gX5_init_X5_follow : GoodIn wsX5_init (wsV RX5 94 RX5 yX5_follow wsX5_follow) := goodIn_app (goodIn_of _ (by decide +kernel)) ggX5_init_X5_follow
set_option maxRecDepth 20000 in
theorem ggX5_init_X5_settles : GoodIn wsX5_init wsX5_settles := goodIn_r _ [50, 37, 51, 38, 52, 31, 53, 5, 15, 6, 16, 7, 17, 8, 18, 9, 19, 25, 10, 20, 11, 21, 12, 22, 13, 23, 14, 24, 54, 55, 56, 57, 58, 59, 60, 61, 62, 63, 64, 65, 66, 67, 68, 69, 70, 71, 72, 73, 74, 75, 76, 77, 78, 79, 80, 81, 82, 83, 84, 85, 86, 87, 88, 89, 90, 91, 92] (by decide +kernel) (by decide +kernel)
set_option maxRecDepth 20000 in
theorem gX5_init_X5_settles : GoodIn wsX5_init (wsV RX5 101 RX5 yX5_settles wsX5_settles) := goodIn_app (goodIn_of _ (by decide +kernel)) ggX5_init_X5_settles
theorem dX5_init_0 : decode cX5_init 0 = .ok (.aload_n 0, 1) := by decide +kernel
theorem dX5_init_1 : decode cX5_init 1 = .ok (.invokespecial 1, 3) := by decide +kernel
theorem dX5_init_4 : decode cX5_init 4 = .ok (.aload_n 0, 1) := by decide +kernel
theorem dX5_init_5 : decode cX5_init 5 = .ok (.bipush 7, 2) := by decide +kernel
theorem dX5_init_7 : decode cX5_init 7 = .ok (.newarray .int, 2) := by decide +kernel
theorem dX5_init_9 : decode cX5_init 9 = .ok (.putfield 7, 3) := by decide +kernel
theorem dX5_init_12 : decode cX5_init 12 = .ok (.aload_n 0, 1) := by decide +kernel
theorem dX5_init_13 : decode cX5_init 13 = .ok (.bipush 7, 2) := by decide +kernel
theorem dX5_init_15 : decode cX5_init 15 = .ok (.newarray .int, 2) := by decide +kernel
theorem dX5_init_17 : decode cX5_init 17 = .ok (.putfield 13, 3) := by decide +kernel
theorem dX5_init_20 : decode cX5_init 20 = .ok (.aload_n 0, 1) := by decide +kernel
theorem dX5_init_21 : decode cX5_init 21 = .ok (.bipush 7, 2) := by decide +kernel
theorem dX5_init_23 : decode cX5_init 23 = .ok (.newarray .int, 2) := by decide +kernel
theorem dX5_init_25 : decode cX5_init 25 = .ok (.putfield 16, 3) := by decide +kernel
theorem dX5_init_28 : decode cX5_init 28 = .ok (.aload_n 0, 1) := by decide +kernel
theorem dX5_init_29 : decode cX5_init 29 = .ok (.bipush 7, 2) := by decide +kernel
theorem dX5_init_31 : decode cX5_init 31 = .ok (.newarray .int, 2) := by decide +kernel
theorem dX5_init_33 : decode cX5_init 33 = .ok (.putfield 19, 3) := by decide +kernel
theorem dX5_init_36 : decode cX5_init 36 = .ok (.aload_n 0, 1) := by decide +kernel
theorem dX5_init_37 : decode cX5_init 37 = .ok (.bipush 7, 2) := by decide +kernel
theorem dX5_init_39 : decode cX5_init 39 = .ok (.newarray .int, 2) := by decide +kernel
theorem dX5_init_41 : decode cX5_init 41 = .ok (.putfield 22, 3) := by decide +kernel
theorem dX5_init_44 : decode cX5_init 44 = .ok (.aload_n 0, 1) := by decide +kernel
theorem dX5_init_45 : decode cX5_init 45 = .ok (.bipush 6, 2) := by decide +kernel
theorem dX5_init_47 : decode cX5_init 47 = .ok (.newarray .int, 2) := by decide +kernel
theorem dX5_init_49 : decode cX5_init 49 = .ok (.putfield 25, 3) := by decide +kernel
theorem dX5_init_52 : decode cX5_init 52 = .ok (.aload_n 0, 1) := by decide +kernel
theorem dX5_init_53 : decode cX5_init 53 = .ok (.bipush 6, 2) := by decide +kernel
theorem dX5_init_55 : decode cX5_init 55 = .ok (.newarray .int, 2) := by decide +kernel
theorem dX5_init_57 : decode cX5_init 57 = .ok (.putfield 28, 3) := by decide +kernel
theorem dX5_init_60 : decode cX5_init 60 = .ok (.aload_n 0, 1) := by decide +kernel
theorem dX5_init_61 : decode cX5_init 61 = .ok (.bipush 6, 2) := by decide +kernel
theorem dX5_init_63 : decode cX5_init 63 = .ok (.newarray .int, 2) := by decide +kernel
theorem dX5_init_65 : decode cX5_init 65 = .ok (.putfield 31, 3) := by decide +kernel
theorem dX5_init_68 : decode cX5_init 68 = .ok (.aload_n 0, 1) := by decide +kernel
theorem dX5_init_69 : decode cX5_init 69 = .ok (.iconst 4, 1) := by decide +kernel
theorem dX5_init_70 : decode cX5_init 70 = .ok (.newarray .int, 2) := by decide +kernel
theorem dX5_init_72 : decode cX5_init 72 = .ok (.putfield 34, 3) := by decide +kernel
theorem dX5_init_75 : decode cX5_init 75 = .ok (.aload_n 0, 1) := by decide +kernel
theorem dX5_init_76 : decode cX5_init 76 = .ok (.iconst 4, 1) := by decide +kernel
theorem dX5_init_77 : decode cX5_init 77 = .ok (.newarray .int, 2) := by decide +kernel
theorem dX5_init_79 : decode cX5_init 79 = .ok (.putfield 37, 3) := by decide +kernel
theorem dX5_init_82 : decode cX5_init 82 = .ok (.aload_n 0, 1) := by decide +kernel
theorem dX5_init_83 : decode cX5_init 83 = .ok (.bipush 7, 2) := by decide +kernel
theorem dX5_init_85 : decode cX5_init 85 = .ok (.newarray .int, 2) := by decide +kernel
theorem dX5_init_87 : decode cX5_init 87 = .ok (.putfield 40, 3) := by decide +kernel
theorem dX5_init_90 : decode cX5_init 90 = .ok (.aload_n 0, 1) := by decide +kernel
theorem dX5_init_91 : decode cX5_init 91 = .ok (.bipush 7, 2) := by decide +kernel
theorem dX5_init_93 : decode cX5_init 93 = .ok (.newarray .int, 2) := by decide +kernel
theorem dX5_init_95 : decode cX5_init 95 = .ok (.putfield 43, 3) := by decide +kernel
theorem dX5_init_98 : decode cX5_init 98 = .ok (.aload_n 0, 1) := by decide +kernel
theorem dX5_init_99 : decode cX5_init 99 = .ok (.bipush 7, 2) := by decide +kernel
theorem dX5_init_101 : decode cX5_init 101 = .ok (.newarray .int, 2) := by decide +kernel
theorem dX5_init_103 : decode cX5_init 103 = .ok (.putfield 46, 3) := by decide +kernel
theorem dX5_init_106 : decode cX5_init 106 = .ok (.aload_n 0, 1) := by decide +kernel
theorem dX5_init_107 : decode cX5_init 107 = .ok (.bipush 7, 2) := by decide +kernel
theorem dX5_init_109 : decode cX5_init 109 = .ok (.newarray .int, 2) := by decide +kernel
theorem dX5_init_111 : decode cX5_init 111 = .ok (.putfield 49, 3) := by decide +kernel
theorem dX5_init_114 : decode cX5_init 114 = .ok (.aload_n 0, 1) := by decide +kernel
theorem dX5_init_115 : decode cX5_init 115 = .ok (.bipush 7, 2) := by decide +kernel
theorem dX5_init_117 : decode cX5_init 117 = .ok (.newarray .int, 2) := by decide +kernel
theorem dX5_init_119 : decode cX5_init 119 = .ok (.putfield 52, 3) := by decide +kernel
theorem dX5_init_122 : decode cX5_init 122 = .ok (.aload_n 0, 1) := by decide +kernel
theorem dX5_init_123 : decode cX5_init 123 = .ok (.bipush 6, 2) := by decide +kernel
theorem dX5_init_125 : decode cX5_init 125 = .ok (.newarray .int, 2) := by decide +kernel
theorem dX5_init_127 : decode cX5_init 127 = .ok (.putfield 55, 3) := by decide +kernel
theorem dX5_init_130 : decode cX5_init 130 = .ok (.aload_n 0, 1) := by decide +kernel
theorem dX5_init_131 : decode cX5_init 131 = .ok (.bipush 6, 2) := by decide +kernel
theorem dX5_init_133 : decode cX5_init 133 = .ok (.newarray .int, 2) := by decide +kernel
theorem dX5_init_135 : decode cX5_init 135 = .ok (.putfield 58, 3) := by decide +kernel
theorem dX5_init_138 : decode cX5_init 138 = .ok (.aload_n 0, 1) := by decide +kernel
theorem dX5_init_139 : decode cX5_init 139 = .ok (.bipush 6, 2) := by decide +kernel
theorem dX5_init_141 : decode cX5_init 141 = .ok (.newarray .int, 2) := by decide +kernel
theorem dX5_init_143 : decode cX5_init 143 = .ok (.putfield 61, 3) := by decide +kernel
theorem dX5_init_146 : decode cX5_init 146 = .ok (.aload_n 0, 1) := by decide +kernel
theorem dX5_init_147 : decode cX5_init 147 = .ok (.iconst 4, 1) := by decide +kernel
theorem dX5_init_148 : decode cX5_init 148 = .ok (.newarray .int, 2) := by decide +kernel
theorem dX5_init_150 : decode cX5_init 150 = .ok (.putfield 64, 3) := by decide +kernel
theorem dX5_init_153 : decode cX5_init 153 = .ok (.aload_n 0, 1) := by decide +kernel
theorem dX5_init_154 : decode cX5_init 154 = .ok (.iconst 4, 1) := by decide +kernel
theorem dX5_init_155 : decode cX5_init 155 = .ok (.newarray .int, 2) := by decide +kernel
theorem dX5_init_157 : decode cX5_init 157 = .ok (.putfield 67, 3) := by decide +kernel
theorem dX5_init_160 : decode cX5_init 160 = .ok (.aload_n 0, 1) := by decide +kernel
theorem dX5_init_161 : decode cX5_init 161 = .ok (.sipush 240, 3) := by decide +kernel
theorem dX5_init_164 : decode cX5_init 164 = .ok (.newarray .int, 2) := by decide +kernel
theorem dX5_init_166 : decode cX5_init 166 = .ok (.putfield 70, 3) := by decide +kernel
theorem dX5_init_169 : decode cX5_init 169 = .ok (.aload_n 0, 1) := by decide +kernel
theorem dX5_init_170 : decode cX5_init 170 = .ok (.sipush 200, 3) := by decide +kernel
theorem dX5_init_173 : decode cX5_init 173 = .ok (.newarray .byte, 2) := by decide +kernel
theorem dX5_init_175 : decode cX5_init 175 = .ok (.putfield 73, 3) := by decide +kernel
theorem dX5_init_178 : decode cX5_init 178 = .ok (.aload_n 0, 1) := by decide +kernel
theorem dX5_init_179 : decode cX5_init 179 = .ok (.bipush 8, 2) := by decide +kernel
theorem dX5_init_181 : decode cX5_init 181 = .ok (.newarray .int, 2) := by decide +kernel
theorem dX5_init_183 : decode cX5_init 183 = .ok (.putfield 77, 3) := by decide +kernel
theorem dX5_init_186 : decode cX5_init 186 = .ok (.aload_n 0, 1) := by decide +kernel
theorem dX5_init_187 : decode cX5_init 187 = .ok (.bipush 8, 2) := by decide +kernel
theorem dX5_init_189 : decode cX5_init 189 = .ok (.newarray .int, 2) := by decide +kernel
theorem dX5_init_191 : decode cX5_init 191 = .ok (.putfield 80, 3) := by decide +kernel
theorem dX5_init_194 : decode cX5_init 194 = .ok (.aload_n 0, 1) := by decide +kernel
theorem dX5_init_195 : decode cX5_init 195 = .ok (.bipush (-4), 2) := by decide +kernel
theorem dX5_init_197 : decode cX5_init 197 = .ok (.putfield 83, 3) := by decide +kernel
theorem dX5_init_200 : decode cX5_init 200 = .ok (.aload_n 0, 1) := by decide +kernel
theorem dX5_init_201 : decode cX5_init 201 = .ok (.invokevirtual 87, 3) := by decide +kernel
theorem dX5_init_204 : decode cX5_init 204 = .ok (.aload_n 0, 1) := by decide +kernel
theorem dX5_init_205 : decode cX5_init 205 = .ok (.iconst 0, 1) := by decide +kernel
theorem dX5_init_206 : decode cX5_init 206 = .ok (.iconst 0, 1) := by decide +kernel
theorem dX5_init_207 : decode cX5_init 207 = .ok (.bipush 9, 2) := by decide +kernel
theorem dX5_init_209 : decode cX5_init 209 = .ok (.iconst 1, 1) := by decide +kernel
theorem dX5_init_210 : decode cX5_init 210 = .ok (.bipush 20, 2) := by decide +kernel
theorem dX5_init_212 : decode cX5_init 212 = .ok (.invokevirtual 90, 3) := by decide +kernel
theorem dX5_init_215 : decode cX5_init 215 = .ok (.aload_n 0, 1) := by decide +kernel
theorem dX5_init_216 : decode cX5_init 216 = .ok (.iconst 1, 1) := by decide +kernel
theorem dX5_init_217 : decode cX5_init 217 = .ok (.iconst 3, 1) := by decide +kernel
theorem dX5_init_218 : decode cX5_init 218 = .ok (.bipush 6, 2) := by decide +kernel
theorem dX5_init_220 : decode cX5_init 220 = .ok (.iconst 2, 1) := by decide +kernel
theorem dX5_init_221 : decode cX5_init 221 = .ok (.bipush 15, 2) := by decide +kernel
theorem dX5_init_223 : decode cX5_init 223 = .ok (.invokevirtual 90, 3) := by decide +kernel
theorem dX5_init_226 : decode cX5_init 226 = .ok (.aload_n 0, 1) := by decide +kernel
theorem dX5_init_227 : decode cX5_init 227 = .ok (.iconst 2, 1) := by decide +kernel
theorem dX5_init_228 : decode cX5_init 228 = .ok (.bipush 99, 2) := by decide +kernel
theorem dX5_init_230 : decode cX5_init 230 = .ok (.iconst 2, 1) := by decide +kernel
theorem dX5_init_231 : decode cX5_init 231 = .ok (.iconst 1, 1) := by decide +kernel
theorem dX5_init_232 : decode cX5_init 232 = .ok (.bipush 12, 2) := by decide +kernel
theorem dX5_init_234 : decode cX5_init 234 = .ok (.invokevirtual 90, 3) := by decide +kernel
theorem dX5_init_237 : decode cX5_init 237 = .ok (.aload_n 0, 1) := by decide +kernel
theorem dX5_init_238 : decode cX5_init 238 = .ok (.iconst 3, 1) := by decide +kernel
theorem dX5_init_239 : decode cX5_init 239 = .ok (.bipush 10, 2) := by decide +kernel
theorem dX5_init_241 : decode cX5_init 241 = .ok (.iconst 5, 1) := by decide +kernel
theorem dX5_init_242 : decode cX5_init 242 = .ok (.iconst 1, 1) := by decide +kernel
theorem dX5_init_243 : decode cX5_init 243 = .ok (.bipush 30, 2) := by decide +kernel
theorem dX5_init_245 : decode cX5_init 245 = .ok (.invokevirtual 90, 3) := by decide +kernel
theorem dX5_init_248 : decode cX5_init 248 = .ok (.aload_n 0, 1) := by decide +kernel
theorem dX5_init_249 : decode cX5_init 249 = .ok (.iconst 0, 1) := by decide +kernel
theorem dX5_init_250 : decode cX5_init 250 = .ok (.bipush 99, 2) := by decide +kernel
theorem dX5_init_252 : decode cX5_init 252 = .ok (.bipush 14, 2) := by decide +kernel
theorem dX5_init_254 : decode cX5_init 254 = .ok (.iconst 3, 1) := by decide +kernel
theorem dX5_init_255 : decode cX5_init 255 = .ok (.bipush 10, 2) := by decide +kernel
theorem dX5_init_257 : decode cX5_init 257 = .ok (.invokevirtual 90, 3) := by decide +kernel
theorem dX5_init_260 : decode cX5_init 260 = .ok (.aload_n 0, 1) := by decide +kernel
theorem dX5_init_261 : decode cX5_init 261 = .ok (.iconst 0, 1) := by decide +kernel
theorem dX5_init_262 : decode cX5_init 262 = .ok (.iconst 2, 1) := by decide +kernel
theorem dX5_init_263 : decode cX5_init 263 = .ok (.iconst 2, 1) := by decide +kernel
theorem dX5_init_264 : decode cX5_init 264 = .ok (.invokevirtual 94, 3) := by decide +kernel
theorem dX5_init_267 : decode cX5_init 267 = .ok (.aload_n 0, 1) := by decide +kernel
theorem dX5_init_268 : decode cX5_init 268 = .ok (.iconst 1, 1) := by decide +kernel
theorem dX5_init_269 : decode cX5_init 269 = .ok (.iconst 4, 1) := by decide +kernel
theorem dX5_init_270 : decode cX5_init 270 = .ok (.iconst 5, 1) := by decide +kernel
theorem dX5_init_271 : decode cX5_init 271 = .ok (.invokevirtual 94, 3) := by decide +kernel
theorem dX5_init_274 : decode cX5_init 274 = .ok (.aload_n 0, 1) := by decide +kernel
theorem dX5_init_275 : decode cX5_init 275 = .ok (.iconst 2, 1) := by decide +kernel
theorem dX5_init_276 : decode cX5_init 276 = .ok (.iconst 4, 1) := by decide +kernel
theorem dX5_init_277 : decode cX5_init 277 = .ok (.iconst 1, 1) := by decide +kernel
theorem dX5_init_278 : decode cX5_init 278 = .ok (.invokevirtual 94, 3) := by decide +kernel
theorem dX5_init_281 : decode cX5_init 281 = .ok (.aload_n 0, 1) := by decide +kernel
theorem dX5_init_282 : decode cX5_init 282 = .ok (.iconst 3, 1) := by decide +kernel
theorem dX5_init_283 : decode cX5_init 283 = .ok (.putfield 98, 3) := by decide +kernel
theorem dX5_init_286 : decode cX5_init 286 = .ok (.aload_n 0, 1) := by decide +kernel
theorem dX5_init_287 : decode cX5_init 287 = .ok (.getfield 64, 3) := by decide +kernel
theorem dX5_init_290 : decode cX5_init 290 = .ok (.iconst 0, 1) := by decide +kernel
theorem dX5_init_291 : decode cX5_init 291 = .ok (.iconst 2, 1) := by decide +kernel
theorem dX5_init_292 : decode cX5_init 292 = .ok (.iastore, 1) := by decide +kernel
theorem dX5_init_293 : decode cX5_init 293 = .ok (.aload_n 0, 1) := by decide +kernel
theorem dX5_init_294 : decode cX5_init 294 = .ok (.getfield 64, 3) := by decide +kernel
theorem dX5_init_297 : decode cX5_init 297 = .ok (.iconst 1, 1) := by decide +kernel
theorem dX5_init_298 : decode cX5_init 298 = .ok (.iconst 1, 1) := by decide +kernel
theorem dX5_init_299 : decode cX5_init 299 = .ok (.iastore, 1) := by decide +kernel
theorem dX5_init_300 : decode cX5_init 300 = .ok (.aload_n 0, 1) := by decide +kernel
theorem dX5_init_301 : decode cX5_init 301 = .ok (.getfield 64, 3) := by decide +kernel
theorem dX5_init_304 : decode cX5_init 304 = .ok (.iconst 2, 1) := by decide +kernel
theorem dX5_init_305 : decode cX5_init 305 = .ok (.iconst 3, 1) := by decide +kernel
theorem dX5_init_306 : decode cX5_init 306 = .ok (.iastore, 1) := by decide +kernel
theorem dX5_init_307 : decode cX5_init 307 = .ok (.aload_n 0, 1) := by decide +kernel
theorem dX5_init_308 : decode cX5_init 308 = .ok (.getfield 67, 3) := by decide +kernel
theorem dX5_init_311 : decode cX5_init 311 = .ok (.iconst 2, 1) := by decide +kernel
theorem dX5_init_312 : decode cX5_init 312 = .ok (.iconst 1, 1) := by decide +kernel
theorem dX5_init_313 : decode cX5_init 313 = .ok (.iastore, 1) := by decide +kernel
theorem dX5_init_314 : decode cX5_init 314 = .ok (.aload_n 0, 1) := by decide +kernel
theorem dX5_init_315 : decode cX5_init 315 = .ok (.getfield 67, 3) := by decide +kernel
theorem dX5_init_318 : decode cX5_init 318 = .ok (.iconst 0, 1) := by decide +kernel
theorem dX5_init_319 : decode cX5_init 319 = .ok (.iconst 3, 1) := by decide +kernel
theorem dX5_init_320 : decode cX5_init 320 = .ok (.iastore, 1) := by decide +kernel
theorem dX5_init_321 : decode cX5_init 321 = .ok (.aload_n 0, 1) := by decide +kernel
theorem dX5_init_322 : decode cX5_init 322 = .ok (.getfield 67, 3) := by decide +kernel
theorem dX5_init_325 : decode cX5_init 325 = .ok (.iconst 1, 1) := by decide +kernel
theorem dX5_init_326 : decode cX5_init 326 = .ok (.bipush 12, 2) := by decide +kernel
theorem dX5_init_328 : decode cX5_init 328 = .ok (.iastore, 1) := by decide +kernel
theorem dX5_init_329 : decode cX5_init 329 = .ok (.aload_n 0, 1) := by decide +kernel
theorem dX5_init_330 : decode cX5_init 330 = .ok (.invokevirtual 101, 3) := by decide +kernel
theorem dX5_init_333 : decode cX5_init 333 = .ok (.return_, 1) := by decide +kernel
theorem dX5_in_0 : decode cX5_in 0 = .ok (.lload_n 0, 1) := by decide +kernel
theorem dX5_in_1 : decode cX5_in 1 = .ok (.lload_n 2, 1) := by decide +kernel
theorem dX5_in_2 : decode cX5_in 2 = .ok (.lcmp, 1) := by decide +kernel
theorem dX5_in_3 : decode cX5_in 3 = .ok (.ifCond .lt 14, 3) := by decide +kernel
theorem dX5_in_6 : decode cX5_in 6 = .ok (.lload_n 0, 1) := by decide +kernel
theorem dX5_in_7 : decode cX5_in 7 = .ok (.lload 4, 2) := by decide +kernel
theorem dX5_in_9 : decode cX5_in 9 = .ok (.lcmp, 1) := by decide +kernel
theorem dX5_in_10 : decode cX5_in 10 = .ok (.ifCond .gt 7, 3) := by decide +kernel
theorem dX5_in_13 : decode cX5_in 13 = .ok (.iconst 1, 1) := by decide +kernel
theorem dX5_in_14 : decode cX5_in 14 = .ok (.goto 4, 3) := by decide +kernel
theorem dX5_in_17 : decode cX5_in 17 = .ok (.iconst 0, 1) := by decide +kernel
theorem dX5_in_18 : decode cX5_in 18 = .ok (.ireturn, 1) := by decide +kernel
theorem dX5_has_0 : decode cX5_has 0 = .ok (.iload_n 0, 1) := by decide +kernel
theorem dX5_has_1 : decode cX5_has 1 = .ok (.iload_n 1, 1) := by decide +kernel
theorem dX5_has_2 : decode cX5_has 2 = .ok (.ishr, 1) := by decide +kernel
theorem dX5_has_3 : decode cX5_has 3 = .ok (.iconst 1, 1) := by decide +kernel
theorem dX5_has_4 : decode cX5_has 4 = .ok (.iand, 1) := by decide +kernel
theorem dX5_has_5 : decode cX5_has 5 = .ok (.iconst 1, 1) := by decide +kernel
theorem dX5_has_6 : decode cX5_has 6 = .ok (.if_icmp .ne 7, 3) := by decide +kernel
theorem dX5_has_9 : decode cX5_has 9 = .ok (.iconst 1, 1) := by decide +kernel
theorem dX5_has_10 : decode cX5_has 10 = .ok (.goto 4, 3) := by decide +kernel
theorem dX5_has_13 : decode cX5_has 13 = .ok (.iconst 0, 1) := by decide +kernel
theorem dX5_has_14 : decode cX5_has 14 = .ok (.ireturn, 1) := by decide +kernel
theorem dX5_smaller_0 : decode cX5_smaller 0 = .ok (.iload_n 0, 1) := by decide +kernel
theorem dX5_smaller_1 : decode cX5_smaller 1 = .ok (.iload_n 1, 1) := by decide +kernel
theorem dX5_smaller_2 : decode cX5_smaller 2 = .ok (.if_icmp .ge 7, 3) := by decide +kernel
theorem dX5_smaller_5 : decode cX5_smaller 5 = .ok (.iload_n 0, 1) := by decide +kernel
theorem dX5_smaller_6 : decode cX5_smaller 6 = .ok (.goto 4, 3) := by decide +kernel
theorem dX5_smaller_9 : decode cX5_smaller 9 = .ok (.iload_n 1, 1) := by decide +kernel
theorem dX5_smaller_10 : decode cX5_smaller 10 = .ok (.ireturn, 1) := by decide +kernel
theorem dX5_larger_0 : decode cX5_larger 0 = .ok (.iload_n 0, 1) := by decide +kernel
theorem dX5_larger_1 : decode cX5_larger 1 = .ok (.iload_n 1, 1) := by decide +kernel
theorem dX5_larger_2 : decode cX5_larger 2 = .ok (.if_icmp .ge 7, 3) := by decide +kernel
theorem dX5_larger_5 : decode cX5_larger 5 = .ok (.iload_n 1, 1) := by decide +kernel
theorem dX5_larger_6 : decode cX5_larger 6 = .ok (.goto 4, 3) := by decide +kernel
theorem dX5_larger_9 : decode cX5_larger 9 = .ok (.iload_n 0, 1) := by decide +kernel
theorem dX5_larger_10 : decode cX5_larger 10 = .ok (.ireturn, 1) := by decide +kernel
theorem dX5_clears_0 : decode cX5_clears 0 = .ok (.aload_n 0, 1) := by decide +kernel
theorem dX5_clears_1 : decode cX5_clears 1 = .ok (.iconst 0, 1) := by decide +kernel
theorem dX5_clears_2 : decode cX5_clears 2 = .ok (.putfield 104, 3) := by decide +kernel
theorem dX5_clears_5 : decode cX5_clears 5 = .ok (.aload_n 0, 1) := by decide +kernel
theorem dX5_clears_6 : decode cX5_clears 6 = .ok (.iconst 0, 1) := by decide +kernel
theorem dX5_clears_7 : decode cX5_clears 7 = .ok (.putfield 107, 3) := by decide +kernel
theorem dX5_clears_10 : decode cX5_clears 10 = .ok (.aload_n 0, 1) := by decide +kernel
theorem dX5_clears_11 : decode cX5_clears 11 = .ok (.iconst 0, 1) := by decide +kernel
theorem dX5_clears_12 : decode cX5_clears 12 = .ok (.putfield 98, 3) := by decide +kernel
theorem dX5_clears_15 : decode cX5_clears 15 = .ok (.return_, 1) := by decide +kernel
theorem dX5_comes_0 : decode cX5_comes 0 = .ok (.aload_n 0, 1) := by decide +kernel
theorem dX5_comes_1 : decode cX5_comes 1 = .ok (.getfield 40, 3) := by decide +kernel
theorem dX5_comes_4 : decode cX5_comes 4 = .ok (.aload_n 0, 1) := by decide +kernel
theorem dX5_comes_5 : decode cX5_comes 5 = .ok (.getfield 104, 3) := by decide +kernel
theorem dX5_comes_8 : decode cX5_comes 8 = .ok (.iload_n 1, 1) := by decide +kernel
theorem dX5_comes_9 : decode cX5_comes 9 = .ok (.iastore, 1) := by decide +kernel
theorem dX5_comes_10 : decode cX5_comes 10 = .ok (.aload_n 0, 1) := by decide +kernel
theorem dX5_comes_11 : decode cX5_comes 11 = .ok (.getfield 43, 3) := by decide +kernel
theorem dX5_comes_14 : decode cX5_comes 14 = .ok (.aload_n 0, 1) := by decide +kernel
theorem dX5_comes_15 : decode cX5_comes 15 = .ok (.getfield 104, 3) := by decide +kernel
theorem dX5_comes_18 : decode cX5_comes 18 = .ok (.iload_n 2, 1) := by decide +kernel
theorem dX5_comes_19 : decode cX5_comes 19 = .ok (.iastore, 1) := by decide +kernel
theorem dX5_comes_20 : decode cX5_comes 20 = .ok (.aload_n 0, 1) := by decide +kernel
theorem dX5_comes_21 : decode cX5_comes 21 = .ok (.getfield 46, 3) := by decide +kernel
theorem dX5_comes_24 : decode cX5_comes 24 = .ok (.aload_n 0, 1) := by decide +kernel
theorem dX5_comes_25 : decode cX5_comes 25 = .ok (.getfield 104, 3) := by decide +kernel
theorem dX5_comes_28 : decode cX5_comes 28 = .ok (.iload_n 3, 1) := by decide +kernel
theorem dX5_comes_29 : decode cX5_comes 29 = .ok (.iastore, 1) := by decide +kernel
theorem dX5_comes_30 : decode cX5_comes 30 = .ok (.aload_n 0, 1) := by decide +kernel
theorem dX5_comes_31 : decode cX5_comes 31 = .ok (.getfield 49, 3) := by decide +kernel
theorem dX5_comes_34 : decode cX5_comes 34 = .ok (.aload_n 0, 1) := by decide +kernel
theorem dX5_comes_35 : decode cX5_comes 35 = .ok (.getfield 104, 3) := by decide +kernel
theorem dX5_comes_38 : decode cX5_comes 38 = .ok (.iload 4, 2) := by decide +kernel
theorem dX5_comes_40 : decode cX5_comes 40 = .ok (.iastore, 1) := by decide +kernel
theorem dX5_comes_41 : decode cX5_comes 41 = .ok (.aload_n 0, 1) := by decide +kernel
theorem dX5_comes_42 : decode cX5_comes 42 = .ok (.getfield 52, 3) := by decide +kernel
theorem dX5_comes_45 : decode cX5_comes 45 = .ok (.aload_n 0, 1) := by decide +kernel
theorem dX5_comes_46 : decode cX5_comes 46 = .ok (.getfield 104, 3) := by decide +kernel
theorem dX5_comes_49 : decode cX5_comes 49 = .ok (.iload 5, 2) := by decide +kernel
theorem dX5_comes_51 : decode cX5_comes 51 = .ok (.iastore, 1) := by decide +kernel
theorem dX5_comes_52 : decode cX5_comes 52 = .ok (.aload_n 0, 1) := by decide +kernel
theorem dX5_comes_53 : decode cX5_comes 53 = .ok (.dup, 1) := by decide +kernel
theorem dX5_comes_54 : decode cX5_comes 54 = .ok (.getfield 104, 3) := by decide +kernel
theorem dX5_comes_57 : decode cX5_comes 57 = .ok (.iconst 1, 1) := by decide +kernel
theorem dX5_comes_58 : decode cX5_comes 58 = .ok (.iadd, 1) := by decide +kernel
theorem dX5_comes_59 : decode cX5_comes 59 = .ok (.putfield 104, 3) := by decide +kernel
theorem dX5_comes_62 : decode cX5_comes 62 = .ok (.return_, 1) := by decide +kernel
theorem dX5_follow_0 : decode cX5_follow 0 = .ok (.aload_n 0, 1) := by decide +kernel
theorem dX5_follow_1 : decode cX5_follow 1 = .ok (.getfield 55, 3) := by decide +kernel
theorem dX5_follow_4 : decode cX5_follow 4 = .ok (.aload_n 0, 1) := by decide +kernel
theorem dX5_follow_5 : decode cX5_follow 5 = .ok (.getfield 107, 3) := by decide +kernel
theorem dX5_follow_8 : decode cX5_follow 8 = .ok (.iload_n 1, 1) := by decide +kernel
theorem dX5_follow_9 : decode cX5_follow 9 = .ok (.iastore, 1) := by decide +kernel
theorem dX5_follow_10 : decode cX5_follow 10 = .ok (.aload_n 0, 1) := by decide +kernel
theorem dX5_follow_11 : decode cX5_follow 11 = .ok (.getfield 58, 3) := by decide +kernel
theorem dX5_follow_14 : decode cX5_follow 14 = .ok (.aload_n 0, 1) := by decide +kernel
theorem dX5_follow_15 : decode cX5_follow 15 = .ok (.getfield 107, 3) := by decide +kernel
theorem dX5_follow_18 : decode cX5_follow 18 = .ok (.iload_n 2, 1) := by decide +kernel
theorem dX5_follow_19 : decode cX5_follow 19 = .ok (.iastore, 1) := by decide +kernel
theorem dX5_follow_20 : decode cX5_follow 20 = .ok (.aload_n 0, 1) := by decide +kernel
theorem dX5_follow_21 : decode cX5_follow 21 = .ok (.getfield 61, 3) := by decide +kernel
theorem dX5_follow_24 : decode cX5_follow 24 = .ok (.aload_n 0, 1) := by decide +kernel
theorem dX5_follow_25 : decode cX5_follow 25 = .ok (.getfield 107, 3) := by decide +kernel
theorem dX5_follow_28 : decode cX5_follow 28 = .ok (.iload_n 3, 1) := by decide +kernel
theorem dX5_follow_29 : decode cX5_follow 29 = .ok (.iastore, 1) := by decide +kernel
theorem dX5_follow_30 : decode cX5_follow 30 = .ok (.aload_n 0, 1) := by decide +kernel
theorem dX5_follow_31 : decode cX5_follow 31 = .ok (.dup, 1) := by decide +kernel
theorem dX5_follow_32 : decode cX5_follow 32 = .ok (.getfield 107, 3) := by decide +kernel
theorem dX5_follow_35 : decode cX5_follow 35 = .ok (.iconst 1, 1) := by decide +kernel
theorem dX5_follow_36 : decode cX5_follow 36 = .ok (.iadd, 1) := by decide +kernel
theorem dX5_follow_37 : decode cX5_follow 37 = .ok (.putfield 107, 3) := by decide +kernel
theorem dX5_follow_40 : decode cX5_follow 40 = .ok (.return_, 1) := by decide +kernel
theorem dX5_settles_0 : decode cX5_settles 0 = .ok (.aload_n 0, 1) := by decide +kernel
theorem dX5_settles_1 : decode cX5_settles 1 = .ok (.aload_n 0, 1) := by decide +kernel
theorem dX5_settles_2 : decode cX5_settles 2 = .ok (.getfield 104, 3) := by decide +kernel
theorem dX5_settles_5 : decode cX5_settles 5 = .ok (.putfield 110, 3) := by decide +kernel
theorem dX5_settles_8 : decode cX5_settles 8 = .ok (.aload_n 0, 1) := by decide +kernel
theorem dX5_settles_9 : decode cX5_settles 9 = .ok (.aload_n 0, 1) := by decide +kernel
theorem dX5_settles_10 : decode cX5_settles 10 = .ok (.getfield 107, 3) := by decide +kernel
theorem dX5_settles_13 : decode cX5_settles 13 = .ok (.putfield 113, 3) := by decide +kernel
theorem dX5_settles_16 : decode cX5_settles 16 = .ok (.aload_n 0, 1) := by decide +kernel
theorem dX5_settles_17 : decode cX5_settles 17 = .ok (.aload_n 0, 1) := by decide +kernel
theorem dX5_settles_18 : decode cX5_settles 18 = .ok (.getfield 98, 3) := by decide +kernel
theorem dX5_settles_21 : decode cX5_settles 21 = .ok (.putfield 116, 3) := by decide +kernel
theorem dX5_settles_24 : decode cX5_settles 24 = .ok (.iconst 0, 1) := by decide +kernel
theorem dX5_settles_25 : decode cX5_settles 25 = .ok (.istore_n 1, 1) := by decide +kernel
theorem dX5_settles_26 : decode cX5_settles 26 = .ok (.iload_n 1, 1) := by decide +kernel
theorem dX5_settles_27 : decode cX5_settles 27 = .ok (.bipush 7, 2) := by decide +kernel
theorem dX5_settles_29 : decode cX5_settles 29 = .ok (.if_icmp .ge 114, 3) := by decide +kernel
theorem dX5_settles_32 : decode cX5_settles 32 = .ok (.aload_n 0, 1) := by decide +kernel
theorem dX5_settles_33 : decode cX5_settles 33 = .ok (.getfield 7, 3) := by decide +kernel
theorem dX5_settles_36 : decode cX5_settles 36 = .ok (.iload_n 1, 1) := by decide +kernel
theorem dX5_settles_37 : decode cX5_settles 37 = .ok (.aload_n 0, 1) := by decide +kernel
theorem dX5_settles_38 : decode cX5_settles 38 = .ok (.getfield 40, 3) := by decide +kernel
theorem dX5_settles_41 : decode cX5_settles 41 = .ok (.iload_n 1, 1) := by decide +kernel
theorem dX5_settles_42 : decode cX5_settles 42 = .ok (.iaload, 1) := by decide +kernel
theorem dX5_settles_43 : decode cX5_settles 43 = .ok (.iastore, 1) := by decide +kernel
theorem dX5_settles_44 : decode cX5_settles 44 = .ok (.aload_n 0, 1) := by decide +kernel
theorem dX5_settles_45 : decode cX5_settles 45 = .ok (.getfield 13, 3) := by decide +kernel
theorem dX5_settles_48 : decode cX5_settles 48 = .ok (.iload_n 1, 1) := by decide +kernel
theorem dX5_settles_49 : decode cX5_settles 49 = .ok (.aload_n 0, 1) := by decide +kernel
theorem dX5_settles_50 : decode cX5_settles 50 = .ok (.getfield 43, 3) := by decide +kernel
theorem dX5_settles_53 : decode cX5_settles 53 = .ok (.iload_n 1, 1) := by decide +kernel
theorem dX5_settles_54 : decode cX5_settles 54 = .ok (.iaload, 1) := by decide +kernel
theorem dX5_settles_55 : decode cX5_settles 55 = .ok (.iastore, 1) := by decide +kernel
theorem dX5_settles_56 : decode cX5_settles 56 = .ok (.aload_n 0, 1) := by decide +kernel
theorem dX5_settles_57 : decode cX5_settles 57 = .ok (.getfield 16, 3) := by decide +kernel
theorem dX5_settles_60 : decode cX5_settles 60 = .ok (.iload_n 1, 1) := by decide +kernel
theorem dX5_settles_61 : decode cX5_settles 61 = .ok (.aload_n 0, 1) := by decide +kernel
theorem dX5_settles_62 : decode cX5_settles 62 = .ok (.getfield 46, 3) := by decide +kernel
theorem dX5_settles_65 : decode cX5_settles 65 = .ok (.iload_n 1, 1) := by decide +kernel
theorem dX5_settles_66 : decode cX5_settles 66 = .ok (.iaload, 1) := by decide +kernel
theorem dX5_settles_67 : decode cX5_settles 67 = .ok (.iastore, 1) := by decide +kernel
theorem dX5_settles_68 : decode cX5_settles 68 = .ok (.aload_n 0, 1) := by decide +kernel
theorem dX5_settles_69 : decode cX5_settles 69 = .ok (.getfield 19, 3) := by decide +kernel
theorem dX5_settles_72 : decode cX5_settles 72 = .ok (.iload_n 1, 1) := by decide +kernel
theorem dX5_settles_73 : decode cX5_settles 73 = .ok (.aload_n 0, 1) := by decide +kernel
theorem dX5_settles_74 : decode cX5_settles 74 = .ok (.getfield 49, 3) := by decide +kernel
theorem dX5_settles_77 : decode cX5_settles 77 = .ok (.iload_n 1, 1) := by decide +kernel
theorem dX5_settles_78 : decode cX5_settles 78 = .ok (.iaload, 1) := by decide +kernel
theorem dX5_settles_79 : decode cX5_settles 79 = .ok (.iastore, 1) := by decide +kernel
theorem dX5_settles_80 : decode cX5_settles 80 = .ok (.aload_n 0, 1) := by decide +kernel
theorem dX5_settles_81 : decode cX5_settles 81 = .ok (.getfield 22, 3) := by decide +kernel
theorem dX5_settles_84 : decode cX5_settles 84 = .ok (.iload_n 1, 1) := by decide +kernel
theorem dX5_settles_85 : decode cX5_settles 85 = .ok (.aload_n 0, 1) := by decide +kernel
theorem dX5_settles_86 : decode cX5_settles 86 = .ok (.getfield 52, 3) := by decide +kernel
theorem dX5_settles_89 : decode cX5_settles 89 = .ok (.iload_n 1, 1) := by decide +kernel
theorem dX5_settles_90 : decode cX5_settles 90 = .ok (.iaload, 1) := by decide +kernel
theorem dX5_settles_91 : decode cX5_settles 91 = .ok (.iastore, 1) := by decide +kernel
theorem dX5_settles_92 : decode cX5_settles 92 = .ok (.aload_n 0, 1) := by decide +kernel
theorem dX5_settles_93 : decode cX5_settles 93 = .ok (.getfield 70, 3) := by decide +kernel
theorem dX5_settles_96 : decode cX5_settles 96 = .ok (.iload_n 1, 1) := by decide +kernel
theorem dX5_settles_97 : decode cX5_settles 97 = .ok (.iconst 0, 1) := by decide +kernel
theorem dX5_settles_98 : decode cX5_settles 98 = .ok (.iastore, 1) := by decide +kernel
theorem dX5_settles_99 : decode cX5_settles 99 = .ok (.aload_n 0, 1) := by decide +kernel
theorem dX5_settles_100 : decode cX5_settles 100 = .ok (.getfield 70, 3) := by decide +kernel
theorem dX5_settles_103 : decode cX5_settles 103 = .ok (.bipush 7, 2) := by decide +kernel
theorem dX5_settles_105 : decode cX5_settles 105 = .ok (.iload_n 1, 1) := by decide +kernel
theorem dX5_settles_106 : decode cX5_settles 106 = .ok (.iadd, 1) := by decide +kernel
theorem dX5_settles_107 : decode cX5_settles 107 = .ok (.iload_n 1, 1) := by decide +kernel
theorem dX5_settles_108 : decode cX5_settles 108 = .ok (.aload_n 0, 1) := by decide +kernel
theorem dX5_settles_109 : decode cX5_settles 109 = .ok (.getfield 110, 3) := by decide +kernel
theorem dX5_settles_112 : decode cX5_settles 112 = .ok (.if_icmp .ge 14, 3) := by decide +kernel
theorem dX5_settles_115 : decode cX5_settles 115 = .ok (.aload_n 0, 1) := by decide +kernel
theorem dX5_settles_116 : decode cX5_settles 116 = .ok (.getfield 13, 3) := by decide +kernel
theorem dX5_settles_119 : decode cX5_settles 119 = .ok (.iload_n 1, 1) := by decide +kernel
theorem dX5_settles_120 : decode cX5_settles 120 = .ok (.iaload, 1) := by decide +kernel
theorem dX5_settles_121 : decode cX5_settles 121 = .ok (.bipush 99, 2) := by decide +kernel
theorem dX5_settles_123 : decode cX5_settles 123 = .ok (.if_icmp .ne 7, 3) := by decide +kernel
theorem dX5_settles_126 : decode cX5_settles 126 = .ok (.iconst (-1), 1) := by decide +kernel
theorem dX5_settles_127 : decode cX5_settles 127 = .ok (.goto 9, 3) := by decide +kernel
theorem dX5_settles_130 : decode cX5_settles 130 = .ok (.aload_n 0, 1) := by decide +kernel
theorem dX5_settles_131 : decode cX5_settles 131 = .ok (.getfield 13, 3) := by decide +kernel
theorem dX5_settles_134 : decode cX5_settles 134 = .ok (.iload_n 1, 1) := by decide +kernel
theorem dX5_settles_135 : decode cX5_settles 135 = .ok (.iaload, 1) := by decide +kernel
theorem dX5_settles_136 : decode cX5_settles 136 = .ok (.iastore, 1) := by decide +kernel
theorem dX5_settles_137 : decode cX5_settles 137 = .ok (.iinc 1 1, 3) := by decide +kernel
theorem dX5_settles_140 : decode cX5_settles 140 = .ok (.goto (-114), 3) := by decide +kernel
theorem dX5_settles_143 : decode cX5_settles 143 = .ok (.iconst 0, 1) := by decide +kernel
theorem dX5_settles_144 : decode cX5_settles 144 = .ok (.istore_n 1, 1) := by decide +kernel
theorem dX5_settles_145 : decode cX5_settles 145 = .ok (.iload_n 1, 1) := by decide +kernel
theorem dX5_settles_146 : decode cX5_settles 146 = .ok (.bipush 6, 2) := by decide +kernel
theorem dX5_settles_148 : decode cX5_settles 148 = .ok (.if_icmp .ge 45, 3) := by decide +kernel
theorem dX5_settles_151 : decode cX5_settles 151 = .ok (.aload_n 0, 1) := by decide +kernel
theorem dX5_settles_152 : decode cX5_settles 152 = .ok (.getfield 25, 3) := by decide +kernel
theorem dX5_settles_155 : decode cX5_settles 155 = .ok (.iload_n 1, 1) := by decide +kernel
theorem dX5_settles_156 : decode cX5_settles 156 = .ok (.aload_n 0, 1) := by decide +kernel
theorem dX5_settles_157 : decode cX5_settles 157 = .ok (.getfield 55, 3) := by decide +kernel
theorem dX5_settles_160 : decode cX5_settles 160 = .ok (.iload_n 1, 1) := by decide +kernel
theorem dX5_settles_161 : decode cX5_settles 161 = .ok (.iaload, 1) := by decide +kernel
theorem dX5_settles_162 : decode cX5_settles 162 = .ok (.iastore, 1) := by decide +kernel
theorem dX5_settles_163 : decode cX5_settles 163 = .ok (.aload_n 0, 1) := by decide +kernel
theorem dX5_settles_164 : decode cX5_settles 164 = .ok (.getfield 28, 3) := by decide +kernel
theorem dX5_settles_167 : decode cX5_settles 167 = .ok (.iload_n 1, 1) := by decide +kernel
theorem dX5_settles_168 : decode cX5_settles 168 = .ok (.aload_n 0, 1) := by decide +kernel
theorem dX5_settles_169 : decode cX5_settles 169 = .ok (.getfield 58, 3) := by decide +kernel
theorem dX5_settles_172 : decode cX5_settles 172 = .ok (.iload_n 1, 1) := by decide +kernel
theorem dX5_settles_173 : decode cX5_settles 173 = .ok (.iaload, 1) := by decide +kernel
theorem dX5_settles_174 : decode cX5_settles 174 = .ok (.iastore, 1) := by decide +kernel
theorem dX5_settles_175 : decode cX5_settles 175 = .ok (.aload_n 0, 1) := by decide +kernel
theorem dX5_settles_176 : decode cX5_settles 176 = .ok (.getfield 31, 3) := by decide +kernel
theorem dX5_settles_179 : decode cX5_settles 179 = .ok (.iload_n 1, 1) := by decide +kernel
theorem dX5_settles_180 : decode cX5_settles 180 = .ok (.aload_n 0, 1) := by decide +kernel
theorem dX5_settles_181 : decode cX5_settles 181 = .ok (.getfield 61, 3) := by decide +kernel
theorem dX5_settles_184 : decode cX5_settles 184 = .ok (.iload_n 1, 1) := by decide +kernel
theorem dX5_settles_185 : decode cX5_settles 185 = .ok (.iaload, 1) := by decide +kernel
theorem dX5_settles_186 : decode cX5_settles 186 = .ok (.iastore, 1) := by decide +kernel
theorem dX5_settles_187 : decode cX5_settles 187 = .ok (.iinc 1 1, 3) := by decide +kernel
theorem dX5_settles_190 : decode cX5_settles 190 = .ok (.goto (-45), 3) := by decide +kernel
theorem dX5_settles_193 : decode cX5_settles 193 = .ok (.iconst 0, 1) := by decide +kernel
theorem dX5_settles_194 : decode cX5_settles 194 = .ok (.istore_n 1, 1) := by decide +kernel
theorem dX5_settles_195 : decode cX5_settles 195 = .ok (.iload_n 1, 1) := by decide +kernel
theorem dX5_settles_196 : decode cX5_settles 196 = .ok (.iconst 4, 1) := by decide +kernel
theorem dX5_settles_197 : decode cX5_settles 197 = .ok (.if_icmp .ge 60, 3) := by decide +kernel
theorem dX5_settles_200 : decode cX5_settles 200 = .ok (.aload_n 0, 1) := by decide +kernel
theorem dX5_settles_201 : decode cX5_settles 201 = .ok (.getfield 34, 3) := by decide +kernel
theorem dX5_settles_204 : decode cX5_settles 204 = .ok (.iload_n 1, 1) := by decide +kernel
theorem dX5_settles_205 : decode cX5_settles 205 = .ok (.aload_n 0, 1) := by decide +kernel
theorem dX5_settles_206 : decode cX5_settles 206 = .ok (.getfield 64, 3) := by decide +kernel
theorem dX5_settles_209 : decode cX5_settles 209 = .ok (.iload_n 1, 1) := by decide +kernel
theorem dX5_settles_210 : decode cX5_settles 210 = .ok (.iaload, 1) := by decide +kernel
theorem dX5_settles_211 : decode cX5_settles 211 = .ok (.iastore, 1) := by decide +kernel
theorem dX5_settles_212 : decode cX5_settles 212 = .ok (.aload_n 0, 1) := by decide +kernel
theorem dX5_settles_213 : decode cX5_settles 213 = .ok (.getfield 37, 3) := by decide +kernel
theorem dX5_settles_216 : decode cX5_settles 216 = .ok (.iload_n 1, 1) := by decide +kernel
theorem dX5_settles_217 : decode cX5_settles 217 = .ok (.aload_n 0, 1) := by decide +kernel
theorem dX5_settles_218 : decode cX5_settles 218 = .ok (.getfield 67, 3) := by decide +kernel
theorem dX5_settles_221 : decode cX5_settles 221 = .ok (.iload_n 1, 1) := by decide +kernel
theorem dX5_settles_222 : decode cX5_settles 222 = .ok (.iaload, 1) := by decide +kernel
theorem dX5_settles_223 : decode cX5_settles 223 = .ok (.iastore, 1) := by decide +kernel
theorem dX5_settles_224 : decode cX5_settles 224 = .ok (.aload_n 0, 1) := by decide +kernel
theorem dX5_settles_225 : decode cX5_settles 225 = .ok (.getfield 70, 3) := by decide +kernel
theorem dX5_settles_228 : decode cX5_settles 228 = .ok (.bipush 14, 2) := by decide +kernel
theorem dX5_settles_230 : decode cX5_settles 230 = .ok (.iload_n 1, 1) := by decide +kernel
theorem dX5_settles_231 : decode cX5_settles 231 = .ok (.iadd, 1) := by decide +kernel
theorem dX5_settles_232 : decode cX5_settles 232 = .ok (.iload_n 1, 1) := by decide +kernel
theorem dX5_settles_233 : decode cX5_settles 233 = .ok (.aload_n 0, 1) := by decide +kernel
theorem dX5_settles_234 : decode cX5_settles 234 = .ok (.getfield 116, 3) := by decide +kernel
theorem dX5_settles_237 : decode cX5_settles 237 = .ok (.if_icmp .ge 12, 3) := by decide +kernel
theorem dX5_settles_240 : decode cX5_settles 240 = .ok (.aload_n 0, 1) := by decide +kernel
theorem dX5_settles_241 : decode cX5_settles 241 = .ok (.getfield 34, 3) := by decide +kernel
theorem dX5_settles_244 : decode cX5_settles 244 = .ok (.iload_n 1, 1) := by decide +kernel
theorem dX5_settles_245 : decode cX5_settles 245 = .ok (.iaload, 1) := by decide +kernel
theorem dX5_settles_246 : decode cX5_settles 246 = .ok (.goto 4, 3) := by decide +kernel
theorem dX5_settles_249 : decode cX5_settles 249 = .ok (.iconst 0, 1) := by decide +kernel
theorem dX5_settles_250 : decode cX5_settles 250 = .ok (.iastore, 1) := by decide +kernel
theorem dX5_settles_251 : decode cX5_settles 251 = .ok (.iinc 1 1, 3) := by decide +kernel
theorem dX5_settles_254 : decode cX5_settles 254 = .ok (.goto (-59), 3) := by decide +kernel
theorem dX5_settles_257 : decode cX5_settles 257 = .ok (.aload_n 0, 1) := by decide +kernel
theorem dX5_settles_258 : decode cX5_settles 258 = .ok (.getfield 70, 3) := by decide +kernel
theorem dX5_settles_261 : decode cX5_settles 261 = .ok (.bipush 18, 2) := by decide +kernel
theorem dX5_settles_263 : decode cX5_settles 263 = .ok (.iconst 0, 1) := by decide +kernel
theorem dX5_settles_264 : decode cX5_settles 264 = .ok (.iastore, 1) := by decide +kernel
theorem dX5_settles_265 : decode cX5_settles 265 = .ok (.aload_n 0, 1) := by decide +kernel
theorem dX5_settles_266 : decode cX5_settles 266 = .ok (.getfield 70, 3) := by decide +kernel
theorem dX5_settles_269 : decode cX5_settles 269 = .ok (.bipush 19, 2) := by decide +kernel
theorem dX5_settles_271 : decode cX5_settles 271 = .ok (.iconst 0, 1) := by decide +kernel
theorem dX5_settles_272 : decode cX5_settles 272 = .ok (.iastore, 1) := by decide +kernel
theorem dX5_settles_273 : decode cX5_settles 273 = .ok (.return_, 1) := by decide +kernel
theorem dX5_copies_0 : decode cX5_copies 0 = .ok (.iconst 0, 1) := by decide +kernel
theorem dX5_copies_1 : decode cX5_copies 1 = .ok (.istore_n 3, 1) := by decide +kernel
theorem dX5_copies_2 : decode cX5_copies 2 = .ok (.iload_n 3, 1) := by decide +kernel
theorem dX5_copies_3 : decode cX5_copies 3 = .ok (.bipush 20, 2) := by decide +kernel
theorem dX5_copies_5 : decode cX5_copies 5 = .ok (.if_icmp .ge 25, 3) := by decide +kernel
theorem dX5_copies_8 : decode cX5_copies 8 = .ok (.aload_n 0, 1) := by decide +kernel
theorem dX5_copies_9 : decode cX5_copies 9 = .ok (.getfield 70, 3) := by decide +kernel
theorem dX5_copies_12 : decode cX5_copies 12 = .ok (.iload_n 2, 1) := by decide +kernel
theorem dX5_copies_13 : decode cX5_copies 13 = .ok (.iload_n 3, 1) := by decide +kernel
theorem dX5_copies_14 : decode cX5_copies 14 = .ok (.iadd, 1) := by decide +kernel
theorem dX5_copies_15 : decode cX5_copies 15 = .ok (.aload_n 0, 1) := by decide +kernel
theorem dX5_copies_16 : decode cX5_copies 16 = .ok (.getfield 70, 3) := by decide +kernel
theorem dX5_copies_19 : decode cX5_copies 19 = .ok (.iload_n 1, 1) := by decide +kernel
theorem dX5_copies_20 : decode cX5_copies 20 = .ok (.iload_n 3, 1) := by decide +kernel
theorem dX5_copies_21 : decode cX5_copies 21 = .ok (.iadd, 1) := by decide +kernel
theorem dX5_copies_22 : decode cX5_copies 22 = .ok (.iaload, 1) := by decide +kernel
theorem dX5_copies_23 : decode cX5_copies 23 = .ok (.iastore, 1) := by decide +kernel
theorem dX5_copies_24 : decode cX5_copies 24 = .ok (.iinc 3 1, 3) := by decide +kernel
theorem dX5_copies_27 : decode cX5_copies 27 = .ok (.goto (-25), 3) := by decide +kernel
theorem dX5_copies_30 : decode cX5_copies 30 = .ok (.return_, 1) := by decide +kernel
set_option maxRecDepth 20000 in
theorem ggX5_isGoing_X5_in : GoodIn wsX5_isGoing wsX5_in := goodIn_r _ [5] (by decide +kernel) (by decide +kernel)
set_option maxRecDepth 20000 in
theorem gX5_isGoing_X5_in : GoodIn wsX5_isGoing (va_wsS RX5 119 yX5_in wsX5_in) := goodIn_app (goodIn_of _ (by decide +kernel)) ggX5_isGoing_X5_in
theorem dX5_isGoing_0 : decode cX5_isGoing 0 = .ok (.iload_n 1, 1) := by decide +kernel
theorem dX5_isGoing_1 : decode cX5_isGoing 1 = .ok (.i2l, 1) := by decide +kernel
theorem dX5_isGoing_2 : decode cX5_isGoing 2 = .ok (.lconst 0, 1) := by decide +kernel
theorem dX5_isGoing_3 : decode cX5_isGoing 3 = .ok (.aload_n 0, 1) := by decide +kernel
theorem dX5_isGoing_4 : decode cX5_isGoing 4 = .ok (.getfield 110, 3) := by decide +kernel
theorem dX5_isGoing_7 : decode cX5_isGoing 7 = .ok (.iconst 1, 1) := by decide +kernel
theorem dX5_isGoing_8 : decode cX5_isGoing 8 = .ok (.isub, 1) := by decide +kernel
theorem dX5_isGoing_9 : decode cX5_isGoing 9 = .ok (.i2l, 1) := by decide +kernel
theorem dX5_isGoing_10 : decode cX5_isGoing 10 = .ok (.invokestatic 119, 3) := by decide +kernel
theorem dX5_isGoing_13 : decode cX5_isGoing 13 = .ok (.ireturn, 1) := by decide +kernel
set_option maxRecDepth 20000 in
theorem ggX5_isLady_X5_in : GoodIn wsX5_isLady wsX5_in := goodIn_r _ [5] (by decide +kernel) (by decide +kernel)
set_option maxRecDepth 20000 in
theorem gX5_isLady_X5_in : GoodIn wsX5_isLady (va_wsS RX5 119 yX5_in wsX5_in) := goodIn_app (goodIn_of _ (by decide +kernel)) ggX5_isLady_X5_in
theorem dX5_isLady_0 : decode cX5_isLady 0 = .ok (.iload_n 1, 1) := by decide +kernel
theorem dX5_isLady_1 : decode cX5_isLady 1 = .ok (.i2l, 1) := by decide +kernel
theorem dX5_isLady_2 : decode cX5_isLady 2 = .ok (.lconst 0, 1) := by decide +kernel
theorem dX5_isLady_3 : decode cX5_isLady 3 = .ok (.aload_n 0, 1) := by decide +kernel
theorem dX5_isLady_4 : decode cX5_isLady 4 = .ok (.getfield 116, 3) := by decide +kernel
theorem dX5_isLady_7 : decode cX5_isLady 7 = .ok (.iconst 1, 1) := by decide +kernel
theorem dX5_isLady_8 : decode cX5_isLady 8 = .ok (.isub, 1) := by decide +kernel
theorem dX5_isLady_9 : decode cX5_isLady 9 = .ok (.i2l, 1) := by decide +kernel
theorem dX5_isLady_10 : decode cX5_isLady 10 = .ok (.invokestatic 119, 3) := by decide +kernel
theorem dX5_isLady_13 : decode cX5_isLady 13 = .ok (.ireturn, 1) := by decide +kernel
set_option maxRecDepth 20000 in
theorem ggX5_write_X5_in : GoodIn wsX5_write wsX5_in := goodIn_r _ [8] (by decide +kernel) (by decide +kernel)
set_option maxRecDepth 20000 in
theorem gX5_write_X5_in : GoodIn wsX5_write (va_wsS RX5 119 yX5_in wsX5_in) := goodIn_app (goodIn_of _ (by decide +kernel)) ggX5_write_X5_in
theorem dX5_write_0 : decode cX5_write 0 = .ok (.iload_n 1, 1) := by decide +kernel
theorem dX5_write_1 : decode cX5_write 1 = .ok (.i2l, 1) := by decide +kernel
theorem dX5_write_2 : decode cX5_write 2 = .ok (.ldc2_w 123, 3) := by decide +kernel
theorem dX5_write_5 : decode cX5_write 5 = .ok (.ldc2_w 125, 3) := by decide +kernel
theorem dX5_write_8 : decode cX5_write 8 = .ok (.invokestatic 119, 3) := by decide +kernel
theorem dX5_write_11 : decode cX5_write 11 = .ok (.ifCond .ne 5, 3) := by decide +kernel
theorem dX5_write_14 : decode cX5_write 14 = .ok (.iconst (-1), 1) := by decide +kernel
theorem dX5_write_15 : decode cX5_write 15 = .ok (.ireturn, 1) := by decide +kernel
theorem dX5_write_16 : decode cX5_write 16 = .ok (.aload_n 0, 1) := by decide +kernel
theorem dX5_write_17 : decode cX5_write 17 = .ok (.getfield 127, 3) := by decide +kernel
theorem dX5_write_20 : decode cX5_write 20 = .ok (.sipush 200, 3) := by decide +kernel
theorem dX5_write_23 : decode cX5_write 23 = .ok (.if_icmp .ne 6, 3) := by decide +kernel
theorem dX5_write_26 : decode cX5_write 26 = .ok (.bipush (-3), 2) := by decide +kernel
theorem dX5_write_28 : decode cX5_write 28 = .ok (.ireturn, 1) := by decide +kernel
theorem dX5_write_29 : decode cX5_write 29 = .ok (.aload_n 0, 1) := by decide +kernel
theorem dX5_write_30 : decode cX5_write 30 = .ok (.getfield 73, 3) := by decide +kernel
theorem dX5_write_33 : decode cX5_write 33 = .ok (.aload_n 0, 1) := by decide +kernel
theorem dX5_write_34 : decode cX5_write 34 = .ok (.getfield 127, 3) := by decide +kernel
theorem dX5_write_37 : decode cX5_write 37 = .ok (.iload_n 1, 1) := by decide +kernel
theorem dX5_write_38 : decode cX5_write 38 = .ok (.i2b, 1) := by decide +kernel
theorem dX5_write_39 : decode cX5_write 39 = .ok (.bastore, 1) := by decide +kernel
theorem dX5_write_40 : decode cX5_write 40 = .ok (.aload_n 0, 1) := by decide +kernel
theorem dX5_write_41 : decode cX5_write 41 = .ok (.dup, 1) := by decide +kernel
theorem dX5_write_42 : decode cX5_write 42 = .ok (.getfield 127, 3) := by decide +kernel
theorem dX5_write_45 : decode cX5_write 45 = .ok (.iconst 1, 1) := by decide +kernel
theorem dX5_write_46 : decode cX5_write 46 = .ok (.iadd, 1) := by decide +kernel
theorem dX5_write_47 : decode cX5_write 47 = .ok (.putfield 127, 3) := by decide +kernel
theorem dX5_write_50 : decode cX5_write 50 = .ok (.aload_n 0, 1) := by decide +kernel
theorem dX5_write_51 : decode cX5_write 51 = .ok (.getfield 127, 3) := by decide +kernel
theorem dX5_write_54 : decode cX5_write 54 = .ok (.ireturn, 1) := by decide +kernel
theorem dX5_wipe_0 : decode cX5_wipe 0 = .ok (.aload_n 0, 1) := by decide +kernel
theorem dX5_wipe_1 : decode cX5_wipe 1 = .ok (.getfield 127, 3) := by decide +kernel
theorem dX5_wipe_4 : decode cX5_wipe 4 = .ok (.istore_n 1, 1) := by decide +kernel
theorem dX5_wipe_5 : decode cX5_wipe 5 = .ok (.aload_n 0, 1) := by decide +kernel
theorem dX5_wipe_6 : decode cX5_wipe 6 = .ok (.iconst 0, 1) := by decide +kernel
theorem dX5_wipe_7 : decode cX5_wipe 7 = .ok (.putfield 127, 3) := by decide +kernel
theorem dX5_wipe_10 : decode cX5_wipe 10 = .ok (.iload_n 1, 1) := by decide +kernel
theorem dX5_wipe_11 : decode cX5_wipe 11 = .ok (.ireturn, 1) := by decide +kernel
theorem dX5_next_0 : decode cX5_next 0 = .ok (.aload_n 0, 1) := by decide +kernel
theorem dX5_next_1 : decode cX5_next 1 = .ok (.getfield 130, 3) := by decide +kernel
theorem dX5_next_4 : decode cX5_next 4 = .ok (.aload_n 0, 1) := by decide +kernel
theorem dX5_next_5 : decode cX5_next 5 = .ok (.getfield 127, 3) := by decide +kernel
theorem dX5_next_8 : decode cX5_next 8 = .ok (.if_icmp .ge 15, 3) := by decide +kernel
theorem dX5_next_11 : decode cX5_next 11 = .ok (.aload_n 0, 1) := by decide +kernel
theorem dX5_next_12 : decode cX5_next 12 = .ok (.getfield 73, 3) := by decide +kernel
theorem dX5_next_15 : decode cX5_next 15 = .ok (.aload_n 0, 1) := by decide +kernel
theorem dX5_next_16 : decode cX5_next 16 = .ok (.getfield 130, 3) := by decide +kernel
theorem dX5_next_19 : decode cX5_next 19 = .ok (.baload, 1) := by decide +kernel
theorem dX5_next_20 : decode cX5_next 20 = .ok (.goto 4, 3) := by decide +kernel
theorem dX5_next_23 : decode cX5_next 23 = .ok (.iconst (-1), 1) := by decide +kernel
theorem dX5_next_24 : decode cX5_next 24 = .ok (.ireturn, 1) := by decide +kernel
set_option maxRecDepth 20000 in
theorem ggX5_number_X5_next : GoodIn wsX5_number wsX5_next := goodIn_r _ [9, 3, 10, 11, 15, 16, 17, 18, 19, 20, 21, 22, 23, 24, 25, 26, 27, 28, 29, 30, 31, 32, 33, 34, 35, 36, 37, 38, 39, 40, 41, 42, 43, 44, 45, 46, 47, 48, 49, 50, 51, 52, 53] (by decide +kernel) (by decide +kernel)
set_option maxRecDepth 20000 in
theorem gX5_number_X5_next : GoodIn wsX5_number (wsV RX5 133 RX5 yX5_next wsX5_next) := goodIn_app (goodIn_of _ (by decide +kernel)) ggX5_number_X5_next
set_option maxRecDepth 20000 in
theorem ggX5_number_X5_in : GoodIn wsX5_number wsX5_in := goodIn_r _ [14] (by decide +kernel) (by decide +kernel)
set_option maxRecDepth 20000 in
theorem gX5_number_X5_in : GoodIn wsX5_number (va_wsS RX5 119 yX5_in wsX5_in) := goodIn_app (goodIn_of _ (by decide +kernel)) ggX5_number_X5_in
theorem dX5_number_0 : decode cX5_number 0 = .ok (.iconst 0, 1) := by decide +kernel
theorem dX5_number_1 : decode cX5_number 1 = .ok (.istore_n 3, 1) := by decide +kernel
theorem dX5_number_2 : decode cX5_number 2 = .ok (.iconst 0, 1) := by decide +kernel
theorem dX5_number_3 : decode cX5_number 3 = .ok (.istore 4, 2) := by decide +kernel
theorem dX5_number_5 : decode cX5_number 5 = .ok (.aload_n 0, 1) := by decide +kernel
theorem dX5_number_6 : decode cX5_number 6 = .ok (.invokevirtual 133, 3) := by decide +kernel
theorem dX5_number_9 : decode cX5_number 9 = .ok (.i2l, 1) := by decide +kernel
theorem dX5_number_10 : decode cX5_number 10 = .ok (.ldc2_w 137, 3) := by decide +kernel
theorem dX5_number_13 : decode cX5_number 13 = .ok (.ldc2_w 139, 3) := by decide +kernel
theorem dX5_number_16 : decode cX5_number 16 = .ok (.invokestatic 119, 3) := by decide +kernel
theorem dX5_number_19 : decode cX5_number 19 = .ok (.ifCond .eq 38, 3) := by decide +kernel
theorem dX5_number_22 : decode cX5_number 22 = .ok (.iload 4, 2) := by decide +kernel
theorem dX5_number_24 : decode cX5_number 24 = .ok (.iconst 3, 1) := by decide +kernel
theorem dX5_number_25 : decode cX5_number 25 = .ok (.if_icmp .ge 32, 3) := by decide +kernel
theorem dX5_number_28 : decode cX5_number 28 = .ok (.bipush 10, 2) := by decide +kernel
theorem dX5_number_30 : decode cX5_number 30 = .ok (.iload_n 3, 1) := by decide +kernel
theorem dX5_number_31 : decode cX5_number 31 = .ok (.imul, 1) := by decide +kernel
theorem dX5_number_32 : decode cX5_number 32 = .ok (.aload_n 0, 1) := by decide +kernel
theorem dX5_number_33 : decode cX5_number 33 = .ok (.invokevirtual 133, 3) := by decide +kernel
theorem dX5_number_36 : decode cX5_number 36 = .ok (.iadd, 1) := by decide +kernel
theorem dX5_number_37 : decode cX5_number 37 = .ok (.bipush 48, 2) := by decide +kernel
theorem dX5_number_39 : decode cX5_number 39 = .ok (.isub, 1) := by decide +kernel
theorem dX5_number_40 : decode cX5_number 40 = .ok (.istore_n 3, 1) := by decide +kernel
theorem dX5_number_41 : decode cX5_number 41 = .ok (.iinc 4 1, 3) := by decide +kernel
theorem dX5_number_44 : decode cX5_number 44 = .ok (.aload_n 0, 1) := by decide +kernel
theorem dX5_number_45 : decode cX5_number 45 = .ok (.dup, 1) := by decide +kernel
theorem dX5_number_46 : decode cX5_number 46 = .ok (.getfield 130, 3) := by decide +kernel
theorem dX5_number_49 : decode cX5_number 49 = .ok (.iconst 1, 1) := by decide +kernel
theorem dX5_number_50 : decode cX5_number 50 = .ok (.iadd, 1) := by decide +kernel
theorem dX5_number_51 : decode cX5_number 51 = .ok (.putfield 130, 3) := by decide +kernel
theorem dX5_number_54 : decode cX5_number 54 = .ok (.goto (-49), 3) := by decide +kernel
theorem dX5_number_57 : decode cX5_number 57 = .ok (.aload_n 0, 1) := by decide +kernel
theorem dX5_number_58 : decode cX5_number 58 = .ok (.aload_n 0, 1) := by decide +kernel
theorem dX5_number_59 : decode cX5_number 59 = .ok (.getfield 141, 3) := by decide +kernel
theorem dX5_number_62 : decode cX5_number 62 = .ok (.ifCond .ne 26, 3) := by decide +kernel
theorem dX5_number_65 : decode cX5_number 65 = .ok (.iload 4, 2) := by decide +kernel
theorem dX5_number_67 : decode cX5_number 67 = .ok (.ifCond .eq 21, 3) := by decide +kernel
theorem dX5_number_70 : decode cX5_number 70 = .ok (.iload 4, 2) := by decide +kernel
theorem dX5_number_72 : decode cX5_number 72 = .ok (.iconst 2, 1) := by decide +kernel
theorem dX5_number_73 : decode cX5_number 73 = .ok (.if_icmp .gt 15, 3) := by decide +kernel
theorem dX5_number_76 : decode cX5_number 76 = .ok (.iload_n 3, 1) := by decide +kernel
theorem dX5_number_77 : decode cX5_number 77 = .ok (.i2l, 1) := by decide +kernel
theorem dX5_number_78 : decode cX5_number 78 = .ok (.iload_n 1, 1) := by decide +kernel
theorem dX5_number_79 : decode cX5_number 79 = .ok (.i2l, 1) := by decide +kernel
theorem dX5_number_80 : decode cX5_number 80 = .ok (.iload_n 2, 1) := by decide +kernel
theorem dX5_number_81 : decode cX5_number 81 = .ok (.i2l, 1) := by decide +kernel
theorem dX5_number_82 : decode cX5_number 82 = .ok (.invokestatic 119, 3) := by decide +kernel
theorem dX5_number_85 : decode cX5_number 85 = .ok (.ifCond .ne 7, 3) := by decide +kernel
theorem dX5_number_88 : decode cX5_number 88 = .ok (.iconst 1, 1) := by decide +kernel
theorem dX5_number_89 : decode cX5_number 89 = .ok (.goto 4, 3) := by decide +kernel
theorem dX5_number_92 : decode cX5_number 92 = .ok (.iconst 0, 1) := by decide +kernel
theorem dX5_number_93 : decode cX5_number 93 = .ok (.putfield 141, 3) := by decide +kernel
theorem dX5_number_96 : decode cX5_number 96 = .ok (.aload_n 0, 1) := by decide +kernel
theorem dX5_number_97 : decode cX5_number 97 = .ok (.getfield 141, 3) := by decide +kernel
theorem dX5_number_100 : decode cX5_number 100 = .ok (.ifCond .eq 7, 3) := by decide +kernel
theorem dX5_number_103 : decode cX5_number 103 = .ok (.iconst 0, 1) := by decide +kernel
theorem dX5_number_104 : decode cX5_number 104 = .ok (.goto 4, 3) := by decide +kernel
theorem dX5_number_107 : decode cX5_number 107 = .ok (.iload_n 3, 1) := by decide +kernel
theorem dX5_number_108 : decode cX5_number 108 = .ok (.ireturn, 1) := by decide +kernel
set_option maxRecDepth 20000 in
theorem ggX5_more_X5_next : GoodIn wsX5_more wsX5_next := goodIn_r _ [7, 2, 8, 9, 19, 20, 21, 22, 23, 24, 25, 26, 27, 28, 29, 30, 31, 32, 33, 34, 35, 36, 37, 38, 39, 40, 41, 42, 43, 44, 45, 46, 47, 48, 49, 50, 51, 52, 53, 54, 55, 56, 57] (by decide +kernel) (by decide +kernel)
set_option maxRecDepth 20000 in
theorem gX5_more_X5_next : GoodIn wsX5_more (wsV RX5 133 RX5 yX5_next wsX5_next) := goodIn_app (goodIn_of _ (by decide +kernel)) ggX5_more_X5_next
set_option maxRecDepth 20000 in
theorem ggX5_more_X5_number : GoodIn wsX5_more wsX5_number := goodIn_r _ [13, 14, 15, 2, 1, 3, 4, 5, 6, 7, 8, 9, 16, 17, 18, 19, 20, 21, 22, 23, 24, 25, 26, 27, 28, 29, 30, 31, 32, 33, 34, 35, 36, 37, 38, 39, 40, 41, 42, 43, 44, 45, 46, 47, 48, 49, 50, 51, 52, 53, 54, 55, 56, 57] (by decide +kernel) (by decide +kernel)
set_option maxRecDepth 20000 in
theorem gX5_more_X5_number : GoodIn wsX5_more (wsV RX5 145 RX5 yX5_number wsX5_number) := goodIn_app (goodIn_of _ (by decide +kernel)) ggX5_more_X5_number
theorem dX5_more_0 : decode cX5_more 0 = .ok (.aload_n 0, 1) := by decide +kernel
theorem dX5_more_1 : decode cX5_more 1 = .ok (.aload_n 0, 1) := by decide +kernel
theorem dX5_more_2 : decode cX5_more 2 = .ok (.getfield 141, 3) := by decide +kernel
theorem dX5_more_5 : decode cX5_more 5 = .ok (.ifCond .ne 12, 3) := by decide +kernel
theorem dX5_more_8 : decode cX5_more 8 = .ok (.aload_n 0, 1) := by decide +kernel
theorem dX5_more_9 : decode cX5_more 9 = .ok (.invokevirtual 133, 3) := by decide +kernel
theorem dX5_more_12 : decode cX5_more 12 = .ok (.bipush 44, 2) := by decide +kernel
theorem dX5_more_14 : decode cX5_more 14 = .ok (.if_icmp .eq 7, 3) := by decide +kernel
theorem dX5_more_17 : decode cX5_more 17 = .ok (.iconst 1, 1) := by decide +kernel
theorem dX5_more_18 : decode cX5_more 18 = .ok (.goto 4, 3) := by decide +kernel
theorem dX5_more_21 : decode cX5_more 21 = .ok (.iconst 0, 1) := by decide +kernel
theorem dX5_more_22 : decode cX5_more 22 = .ok (.putfield 141, 3) := by decide +kernel
theorem dX5_more_25 : decode cX5_more 25 = .ok (.aload_n 0, 1) := by decide +kernel
theorem dX5_more_26 : decode cX5_more 26 = .ok (.dup, 1) := by decide +kernel
theorem dX5_more_27 : decode cX5_more 27 = .ok (.getfield 130, 3) := by decide +kernel
theorem dX5_more_30 : decode cX5_more 30 = .ok (.iconst 1, 1) := by decide +kernel
theorem dX5_more_31 : decode cX5_more 31 = .ok (.iadd, 1) := by decide +kernel
theorem dX5_more_32 : decode cX5_more 32 = .ok (.putfield 130, 3) := by decide +kernel
theorem dX5_more_35 : decode cX5_more 35 = .ok (.aload_n 0, 1) := by decide +kernel
theorem dX5_more_36 : decode cX5_more 36 = .ok (.getfield 141, 3) := by decide +kernel
theorem dX5_more_39 : decode cX5_more 39 = .ok (.ifCond .eq 7, 3) := by decide +kernel
theorem dX5_more_42 : decode cX5_more 42 = .ok (.iconst 0, 1) := by decide +kernel
theorem dX5_more_43 : decode cX5_more 43 = .ok (.goto 9, 3) := by decide +kernel
theorem dX5_more_46 : decode cX5_more 46 = .ok (.aload_n 0, 1) := by decide +kernel
theorem dX5_more_47 : decode cX5_more 47 = .ok (.iload_n 1, 1) := by decide +kernel
theorem dX5_more_48 : decode cX5_more 48 = .ok (.iload_n 2, 1) := by decide +kernel
theorem dX5_more_49 : decode cX5_more 49 = .ok (.invokevirtual 145, 3) := by decide +kernel
theorem dX5_more_52 : decode cX5_more 52 = .ok (.ireturn, 1) := by decide +kernel
set_option maxRecDepth 20000 in
theorem ggX5_goingItem_X5_number : GoodIn wsX5_goingItem wsX5_number := goodIn_r _ [7, 8, 9, 10, 2, 11, 12, 13, 6, 14, 15, 16, 17, 18, 19, 33, 34, 35, 36, 37, 38, 39, 40, 41, 42, 43, 44, 45, 46, 47, 48, 49, 50, 51, 52, 53, 54, 55, 56, 57, 58, 59, 60, 61, 62, 63, 64, 65, 66, 67, 68, 69, 70, 71] (by decide +kernel) (by decide +kernel)
set_option maxRecDepth 20000 in
theorem gX5_goingItem_X5_number : GoodIn wsX5_goingItem (wsV RX5 145 RX5 yX5_number wsX5_number) := goodIn_app (goodIn_of _ (by decide +kernel)) ggX5_goingItem_X5_number
set_option maxRecDepth 20000 in
theorem ggX5_goingItem_X5_more : GoodIn wsX5_goingItem wsX5_more := goodIn_r _ [23, 2, 10, 11, 12, 13, 6, 14, 15, 16, 3, 4, 5, 7, 8, 9, 17, 18, 19, 33, 34, 35, 36, 37, 38, 39, 40, 41, 42, 43, 44, 45, 46, 47, 48, 49, 50, 51, 52, 53, 54, 55, 56, 57, 58, 59, 60, 61, 62, 63, 64, 65, 66, 67, 68, 69, 70, 71] (by decide +kernel) (by decide +kernel)
set_option maxRecDepth 20000 in
theorem gX5_goingItem_X5_more : GoodIn wsX5_goingItem (wsV RX5 149 RX5 yX5_more wsX5_more) := goodIn_app (goodIn_of _ (by decide +kernel)) ggX5_goingItem_X5_more
set_option maxRecDepth 20000 in
theorem ggX5_goingItem_X5_comes : GoodIn wsX5_goingItem wsX5_comes := goodIn_r _ [27, 28, 1, 29, 30, 31, 32, 33, 34, 35, 36, 37, 38, 39, 40, 41, 42, 43, 44, 45, 46, 47, 48, 49, 50, 51, 52, 53, 54, 55, 56, 57, 58, 59, 60, 61, 62, 63, 64, 65, 66, 67, 68, 69, 70, 71] (by decide +kernel) (by decide +kernel)
set_option maxRecDepth 20000 in
theorem gX5_goingItem_X5_comes : GoodIn wsX5_goingItem (wsV RX5 90 RX5 yX5_comes wsX5_comes) := goodIn_app (goodIn_of _ (by decide +kernel)) ggX5_goingItem_X5_comes
theorem dX5_goingItem_0 : decode cX5_goingItem 0 = .ok (.aload_n 0, 1) := by decide +kernel
theorem dX5_goingItem_1 : decode cX5_goingItem 1 = .ok (.aload_n 0, 1) := by decide +kernel
theorem dX5_goingItem_2 : decode cX5_goingItem 2 = .ok (.getfield 104, 3) := by decide +kernel
theorem dX5_goingItem_5 : decode cX5_goingItem 5 = .ok (.bipush 7, 2) := by decide +kernel
theorem dX5_goingItem_7 : decode cX5_goingItem 7 = .ok (.if_icmp .ne 7, 3) := by decide +kernel
theorem dX5_goingItem_10 : decode cX5_goingItem 10 = .ok (.iconst 1, 1) := by decide +kernel
theorem dX5_goingItem_11 : decode cX5_goingItem 11 = .ok (.goto 4, 3) := by decide +kernel
theorem dX5_goingItem_14 : decode cX5_goingItem 14 = .ok (.iconst 0, 1) := by decide +kernel
theorem dX5_goingItem_15 : decode cX5_goingItem 15 = .ok (.putfield 141, 3) := by decide +kernel
theorem dX5_goingItem_18 : decode cX5_goingItem 18 = .ok (.aload_n 0, 1) := by decide +kernel
theorem dX5_goingItem_19 : decode cX5_goingItem 19 = .ok (.getfield 141, 3) := by decide +kernel
theorem dX5_goingItem_22 : decode cX5_goingItem 22 = .ok (.ifCond .eq 7, 3) := by decide +kernel
theorem dX5_goingItem_25 : decode cX5_goingItem 25 = .ok (.iconst 0, 1) := by decide +kernel
theorem dX5_goingItem_26 : decode cX5_goingItem 26 = .ok (.goto 9, 3) := by decide +kernel
theorem dX5_goingItem_29 : decode cX5_goingItem 29 = .ok (.aload_n 0, 1) := by decide +kernel
theorem dX5_goingItem_30 : decode cX5_goingItem 30 = .ok (.iconst 0, 1) := by decide +kernel
theorem dX5_goingItem_31 : decode cX5_goingItem 31 = .ok (.iconst 3, 1) := by decide +kernel
theorem dX5_goingItem_32 : decode cX5_goingItem 32 = .ok (.invokevirtual 145, 3) := by decide +kernel
theorem dX5_goingItem_35 : decode cX5_goingItem 35 = .ok (.istore_n 1, 1) := by decide +kernel
theorem dX5_goingItem_36 : decode cX5_goingItem 36 = .ok (.aload_n 0, 1) := by decide +kernel
theorem dX5_goingItem_37 : decode cX5_goingItem 37 = .ok (.iconst 0, 1) := by decide +kernel
theorem dX5_goingItem_38 : decode cX5_goingItem 38 = .ok (.bipush 99, 2) := by decide +kernel
theorem dX5_goingItem_40 : decode cX5_goingItem 40 = .ok (.invokevirtual 149, 3) := by decide +kernel
theorem dX5_goingItem_43 : decode cX5_goingItem 43 = .ok (.istore_n 2, 1) := by decide +kernel
theorem dX5_goingItem_44 : decode cX5_goingItem 44 = .ok (.aload_n 0, 1) := by decide +kernel
theorem dX5_goingItem_45 : decode cX5_goingItem 45 = .ok (.aload_n 0, 1) := by decide +kernel
theorem dX5_goingItem_46 : decode cX5_goingItem 46 = .ok (.getfield 141, 3) := by decide +kernel
theorem dX5_goingItem_49 : decode cX5_goingItem 49 = .ok (.ifCond .ne 15, 3) := by decide +kernel
theorem dX5_goingItem_52 : decode cX5_goingItem 52 = .ok (.iload_n 2, 1) := by decide +kernel
theorem dX5_goingItem_53 : decode cX5_goingItem 53 = .ok (.bipush 60, 2) := by decide +kernel
theorem dX5_goingItem_55 : decode cX5_goingItem 55 = .ok (.if_icmp .le 13, 3) := by decide +kernel
theorem dX5_goingItem_58 : decode cX5_goingItem 58 = .ok (.iload_n 2, 1) := by decide +kernel
theorem dX5_goingItem_59 : decode cX5_goingItem 59 = .ok (.bipush 99, 2) := by decide +kernel
theorem dX5_goingItem_61 : decode cX5_goingItem 61 = .ok (.if_icmp .ge 7, 3) := by decide +kernel
theorem dX5_goingItem_64 : decode cX5_goingItem 64 = .ok (.iconst 1, 1) := by decide +kernel
theorem dX5_goingItem_65 : decode cX5_goingItem 65 = .ok (.goto 4, 3) := by decide +kernel
theorem dX5_goingItem_68 : decode cX5_goingItem 68 = .ok (.iconst 0, 1) := by decide +kernel
theorem dX5_goingItem_69 : decode cX5_goingItem 69 = .ok (.putfield 141, 3) := by decide +kernel
theorem dX5_goingItem_72 : decode cX5_goingItem 72 = .ok (.aload_n 0, 1) := by decide +kernel
theorem dX5_goingItem_73 : decode cX5_goingItem 73 = .ok (.iconst 0, 1) := by decide +kernel
theorem dX5_goingItem_74 : decode cX5_goingItem 74 = .ok (.bipush 20, 2) := by decide +kernel
theorem dX5_goingItem_76 : decode cX5_goingItem 76 = .ok (.invokevirtual 149, 3) := by decide +kernel
theorem dX5_goingItem_79 : decode cX5_goingItem 79 = .ok (.istore_n 3, 1) := by decide +kernel
theorem dX5_goingItem_80 : decode cX5_goingItem 80 = .ok (.aload_n 0, 1) := by decide +kernel
theorem dX5_goingItem_81 : decode cX5_goingItem 81 = .ok (.iconst 0, 1) := by decide +kernel
theorem dX5_goingItem_82 : decode cX5_goingItem 82 = .ok (.iconst 5, 1) := by decide +kernel
theorem dX5_goingItem_83 : decode cX5_goingItem 83 = .ok (.invokevirtual 149, 3) := by decide +kernel
theorem dX5_goingItem_86 : decode cX5_goingItem 86 = .ok (.istore 4, 2) := by decide +kernel
theorem dX5_goingItem_88 : decode cX5_goingItem 88 = .ok (.aload_n 0, 1) := by decide +kernel
theorem dX5_goingItem_89 : decode cX5_goingItem 89 = .ok (.iconst 1, 1) := by decide +kernel
theorem dX5_goingItem_90 : decode cX5_goingItem 90 = .ok (.bipush 40, 2) := by decide +kernel
theorem dX5_goingItem_92 : decode cX5_goingItem 92 = .ok (.invokevirtual 149, 3) := by decide +kernel
theorem dX5_goingItem_95 : decode cX5_goingItem 95 = .ok (.istore 5, 2) := by decide +kernel
theorem dX5_goingItem_97 : decode cX5_goingItem 97 = .ok (.aload_n 0, 1) := by decide +kernel
theorem dX5_goingItem_98 : decode cX5_goingItem 98 = .ok (.getfield 141, 3) := by decide +kernel
theorem dX5_goingItem_101 : decode cX5_goingItem 101 = .ok (.ifCond .ne 14, 3) := by decide +kernel
theorem dX5_goingItem_104 : decode cX5_goingItem 104 = .ok (.aload_n 0, 1) := by decide +kernel
theorem dX5_goingItem_105 : decode cX5_goingItem 105 = .ok (.iload_n 1, 1) := by decide +kernel
theorem dX5_goingItem_106 : decode cX5_goingItem 106 = .ok (.iload_n 2, 1) := by decide +kernel
theorem dX5_goingItem_107 : decode cX5_goingItem 107 = .ok (.iload_n 3, 1) := by decide +kernel
theorem dX5_goingItem_108 : decode cX5_goingItem 108 = .ok (.iload 4, 2) := by decide +kernel
theorem dX5_goingItem_110 : decode cX5_goingItem 110 = .ok (.iload 5, 2) := by decide +kernel
theorem dX5_goingItem_112 : decode cX5_goingItem 112 = .ok (.invokevirtual 90, 3) := by decide +kernel
theorem dX5_goingItem_115 : decode cX5_goingItem 115 = .ok (.return_, 1) := by decide +kernel
set_option maxRecDepth 20000 in
theorem ggX5_followItem_X5_number : GoodIn wsX5_followItem wsX5_number := goodIn_r _ [8, 9, 10, 11, 2, 12, 13, 14, 7, 15, 16, 17, 18, 19, 20, 32, 33, 34, 35, 36, 37, 38, 39, 40, 41, 42, 43, 44, 45, 46, 47, 48, 49, 50, 51, 52, 53, 54, 55, 56, 57, 58, 59, 60, 61, 62, 63, 64, 65, 66, 67, 68, 69, 70] (by decide +kernel) (by decide +kernel)
set_option maxRecDepth 20000 in
theorem gX5_followItem_X5_number : GoodIn wsX5_followItem (wsV RX5 145 RX5 yX5_number wsX5_number) := goodIn_app (goodIn_of _ (by decide +kernel)) ggX5_followItem_X5_number
set_option maxRecDepth 20000 in
theorem ggX5_followItem_X5_more : GoodIn wsX5_followItem wsX5_more := goodIn_r _ [24, 2, 11, 12, 13, 14, 7, 15, 16, 17, 4, 5, 6, 8, 9, 10, 18, 19, 20, 32, 33, 34, 35, 36, 37, 38, 39, 40, 41, 42, 43, 44, 45, 46, 47, 48, 49, 50, 51, 52, 53, 54, 55, 56, 57, 58, 59, 60, 61, 62, 63, 64, 65, 66, 67, 68, 69, 70] (by decide +kernel) (by decide +kernel)
set_option maxRecDepth 20000 in
theorem gX5_followItem_X5_more : GoodIn wsX5_followItem (wsV RX5 149 RX5 yX5_more wsX5_more) := goodIn_app (goodIn_of _ (by decide +kernel)) ggX5_followItem_X5_more
set_option maxRecDepth 20000 in
theorem ggX5_followItem_X5_follow : GoodIn wsX5_followItem wsX5_follow := goodIn_r _ [28, 29, 1, 30, 31, 32, 33, 34, 35, 36, 37, 38, 39, 40, 41, 42, 43, 44, 45, 46, 47, 48, 49, 50, 51, 52, 53, 54, 55, 56, 57, 58, 59, 60, 61, 62, 63, 64, 65, 66, 67, 68, 69, 70] (by decide +kernel) (by decide +kernel)
set_option maxRecDepth 20000 in
theorem gX5_followItem_X5_follow : GoodIn wsX5_followItem (wsV RX5 94 RX5 yX5_follow wsX5_follow) := goodIn_app (goodIn_of _ (by decide +kernel)) ggX5_followItem_X5_follow
theorem dX5_followItem_0 : decode cX5_followItem 0 = .ok (.aload_n 0, 1) := by decide +kernel
theorem dX5_followItem_1 : decode cX5_followItem 1 = .ok (.aload_n 0, 1) := by decide +kernel
theorem dX5_followItem_2 : decode cX5_followItem 2 = .ok (.getfield 107, 3) := by decide +kernel
theorem dX5_followItem_5 : decode cX5_followItem 5 = .ok (.bipush 6, 2) := by decide +kernel
theorem dX5_followItem_7 : decode cX5_followItem 7 = .ok (.if_icmp .ne 7, 3) := by decide +kernel
theorem dX5_followItem_10 : decode cX5_followItem 10 = .ok (.iconst 1, 1) := by decide +kernel
theorem dX5_followItem_11 : decode cX5_followItem 11 = .ok (.goto 4, 3) := by decide +kernel
theorem dX5_followItem_14 : decode cX5_followItem 14 = .ok (.iconst 0, 1) := by decide +kernel
theorem dX5_followItem_15 : decode cX5_followItem 15 = .ok (.putfield 141, 3) := by decide +kernel
theorem dX5_followItem_18 : decode cX5_followItem 18 = .ok (.aload_n 0, 1) := by decide +kernel
theorem dX5_followItem_19 : decode cX5_followItem 19 = .ok (.getfield 141, 3) := by decide +kernel
theorem dX5_followItem_22 : decode cX5_followItem 22 = .ok (.ifCond .eq 7, 3) := by decide +kernel
theorem dX5_followItem_25 : decode cX5_followItem 25 = .ok (.iconst 0, 1) := by decide +kernel
theorem dX5_followItem_26 : decode cX5_followItem 26 = .ok (.goto 14, 3) := by decide +kernel
theorem dX5_followItem_29 : decode cX5_followItem 29 = .ok (.aload_n 0, 1) := by decide +kernel
theorem dX5_followItem_30 : decode cX5_followItem 30 = .ok (.iconst 0, 1) := by decide +kernel
theorem dX5_followItem_31 : decode cX5_followItem 31 = .ok (.aload_n 0, 1) := by decide +kernel
theorem dX5_followItem_32 : decode cX5_followItem 32 = .ok (.getfield 104, 3) := by decide +kernel
theorem dX5_followItem_35 : decode cX5_followItem 35 = .ok (.iconst 1, 1) := by decide +kernel
theorem dX5_followItem_36 : decode cX5_followItem 36 = .ok (.isub, 1) := by decide +kernel
theorem dX5_followItem_37 : decode cX5_followItem 37 = .ok (.invokevirtual 145, 3) := by decide +kernel
theorem dX5_followItem_40 : decode cX5_followItem 40 = .ok (.istore_n 1, 1) := by decide +kernel
theorem dX5_followItem_41 : decode cX5_followItem 41 = .ok (.aload_n 0, 1) := by decide +kernel
theorem dX5_followItem_42 : decode cX5_followItem 42 = .ok (.iconst 0, 1) := by decide +kernel
theorem dX5_followItem_43 : decode cX5_followItem 43 = .ok (.aload_n 0, 1) := by decide +kernel
theorem dX5_followItem_44 : decode cX5_followItem 44 = .ok (.getfield 104, 3) := by decide +kernel
theorem dX5_followItem_47 : decode cX5_followItem 47 = .ok (.iconst 1, 1) := by decide +kernel
theorem dX5_followItem_48 : decode cX5_followItem 48 = .ok (.isub, 1) := by decide +kernel
theorem dX5_followItem_49 : decode cX5_followItem 49 = .ok (.invokevirtual 149, 3) := by decide +kernel
theorem dX5_followItem_52 : decode cX5_followItem 52 = .ok (.istore_n 2, 1) := by decide +kernel
theorem dX5_followItem_53 : decode cX5_followItem 53 = .ok (.aload_n 0, 1) := by decide +kernel
theorem dX5_followItem_54 : decode cX5_followItem 54 = .ok (.aload_n 0, 1) := by decide +kernel
theorem dX5_followItem_55 : decode cX5_followItem 55 = .ok (.getfield 141, 3) := by decide +kernel
theorem dX5_followItem_58 : decode cX5_followItem 58 = .ok (.ifCond .ne 8, 3) := by decide +kernel
theorem dX5_followItem_61 : decode cX5_followItem 61 = .ok (.iload_n 1, 1) := by decide +kernel
theorem dX5_followItem_62 : decode cX5_followItem 62 = .ok (.iload_n 2, 1) := by decide +kernel
theorem dX5_followItem_63 : decode cX5_followItem 63 = .ok (.if_icmp .ne 7, 3) := by decide +kernel
theorem dX5_followItem_66 : decode cX5_followItem 66 = .ok (.iconst 1, 1) := by decide +kernel
theorem dX5_followItem_67 : decode cX5_followItem 67 = .ok (.goto 4, 3) := by decide +kernel
theorem dX5_followItem_70 : decode cX5_followItem 70 = .ok (.iconst 0, 1) := by decide +kernel
theorem dX5_followItem_71 : decode cX5_followItem 71 = .ok (.putfield 141, 3) := by decide +kernel
theorem dX5_followItem_74 : decode cX5_followItem 74 = .ok (.aload_n 0, 1) := by decide +kernel
theorem dX5_followItem_75 : decode cX5_followItem 75 = .ok (.iconst 0, 1) := by decide +kernel
theorem dX5_followItem_76 : decode cX5_followItem 76 = .ok (.bipush 20, 2) := by decide +kernel
theorem dX5_followItem_78 : decode cX5_followItem 78 = .ok (.invokevirtual 149, 3) := by decide +kernel
theorem dX5_followItem_81 : decode cX5_followItem 81 = .ok (.istore_n 3, 1) := by decide +kernel
theorem dX5_followItem_82 : decode cX5_followItem 82 = .ok (.aload_n 0, 1) := by decide +kernel
theorem dX5_followItem_83 : decode cX5_followItem 83 = .ok (.getfield 141, 3) := by decide +kernel
theorem dX5_followItem_86 : decode cX5_followItem 86 = .ok (.ifCond .ne 10, 3) := by decide +kernel
theorem dX5_followItem_89 : decode cX5_followItem 89 = .ok (.aload_n 0, 1) := by decide +kernel
theorem dX5_followItem_90 : decode cX5_followItem 90 = .ok (.iload_n 1, 1) := by decide +kernel
theorem dX5_followItem_91 : decode cX5_followItem 91 = .ok (.iload_n 2, 1) := by decide +kernel
theorem dX5_followItem_92 : decode cX5_followItem 92 = .ok (.iload_n 3, 1) := by decide +kernel
theorem dX5_followItem_93 : decode cX5_followItem 93 = .ok (.invokevirtual 94, 3) := by decide +kernel
theorem dX5_followItem_96 : decode cX5_followItem 96 = .ok (.return_, 1) := by decide +kernel
set_option maxRecDepth 20000 in
theorem ggX5_ladyItem_X5_number : GoodIn wsX5_ladyItem wsX5_number := goodIn_r _ [9, 10, 11, 12, 2, 13, 14, 15, 8, 16, 17, 18, 19, 20, 21, 29, 30, 31, 32, 33, 34, 35, 36, 37, 38, 39, 40, 41, 42, 43, 44, 45, 46, 47, 48, 49, 50, 51, 52, 53, 54, 55, 56, 57, 58, 59, 60, 61, 62, 63, 64, 65, 66, 67] (by decide +kernel) (by decide +kernel)
set_option maxRecDepth 20000 in
theorem gX5_ladyItem_X5_number : GoodIn wsX5_ladyItem (wsV RX5 145 RX5 yX5_number wsX5_number) := goodIn_app (goodIn_of _ (by decide +kernel)) ggX5_ladyItem_X5_number
set_option maxRecDepth 20000 in
theorem ggX5_ladyItem_X5_more : GoodIn wsX5_ladyItem wsX5_more := goodIn_r _ [25, 2, 12, 13, 14, 15, 8, 16, 17, 18, 5, 6, 7, 9, 10, 11, 19, 20, 21, 29, 30, 31, 32, 33, 34, 35, 36, 37, 38, 39, 40, 41, 42, 43, 44, 45, 46, 47, 48, 49, 50, 51, 52, 53, 54, 55, 56, 57, 58, 59, 60, 61, 62, 63, 64, 65, 66, 67] (by decide +kernel) (by decide +kernel)
set_option maxRecDepth 20000 in
theorem gX5_ladyItem_X5_more : GoodIn wsX5_ladyItem (wsV RX5 149 RX5 yX5_more wsX5_more) := goodIn_app (goodIn_of _ (by decide +kernel)) ggX5_ladyItem_X5_more
set_option maxRecDepth 20000 in
theorem ggX5_ladyItem_X5_next : GoodIn wsX5_ladyItem wsX5_next := goodIn_r _ [16, 12, 17, 18, 29, 30, 31, 32, 33, 34, 35, 36, 37, 38, 39, 40, 41, 42, 43, 44, 45, 46, 47, 48, 49, 50, 51, 52, 53, 54, 55, 56, 57, 58, 59, 60, 61, 62, 63, 64, 65, 66, 67] (by decide +kernel) (by decide +kernel)
set_option maxRecDepth 20000 in
theorem gX5_ladyItem_X5_next : GoodIn wsX5_ladyItem (wsV RX5 133 RX5 yX5_next wsX5_next) := goodIn_app (goodIn_of _ (by decide +kernel)) ggX5_ladyItem_X5_next
set_option maxRecDepth 20000 in
theorem ggX5_ladyItem_X5_has : GoodIn wsX5_ladyItem wsX5_has := goodIn_r _ [28] (by decide +kernel) (by decide +kernel)
set_option maxRecDepth 20000 in
theorem gX5_ladyItem_X5_has : GoodIn wsX5_ladyItem (va_wsS RX5 152 yX5_has wsX5_has) := goodIn_app (goodIn_of _ (by decide +kernel)) ggX5_ladyItem_X5_has
theorem dX5_ladyItem_0 : decode cX5_ladyItem 0 = .ok (.aload_n 0, 1) := by decide +kernel
theorem dX5_ladyItem_1 : decode cX5_ladyItem 1 = .ok (.aload_n 0, 1) := by decide +kernel
theorem dX5_ladyItem_2 : decode cX5_ladyItem 2 = .ok (.getfield 98, 3) := by decide +kernel
theorem dX5_ladyItem_5 : decode cX5_ladyItem 5 = .ok (.iconst 4, 1) := by decide +kernel
theorem dX5_ladyItem_6 : decode cX5_ladyItem 6 = .ok (.if_icmp .ne 7, 3) := by decide +kernel
theorem dX5_ladyItem_9 : decode cX5_ladyItem 9 = .ok (.iconst 1, 1) := by decide +kernel
theorem dX5_ladyItem_10 : decode cX5_ladyItem 10 = .ok (.goto 4, 3) := by decide +kernel
theorem dX5_ladyItem_13 : decode cX5_ladyItem 13 = .ok (.iconst 0, 1) := by decide +kernel
theorem dX5_ladyItem_14 : decode cX5_ladyItem 14 = .ok (.putfield 141, 3) := by decide +kernel
theorem dX5_ladyItem_17 : decode cX5_ladyItem 17 = .ok (.aload_n 0, 1) := by decide +kernel
theorem dX5_ladyItem_18 : decode cX5_ladyItem 18 = .ok (.getfield 141, 3) := by decide +kernel
theorem dX5_ladyItem_21 : decode cX5_ladyItem 21 = .ok (.ifCond .eq 7, 3) := by decide +kernel
theorem dX5_ladyItem_24 : decode cX5_ladyItem 24 = .ok (.iconst 0, 1) := by decide +kernel
theorem dX5_ladyItem_25 : decode cX5_ladyItem 25 = .ok (.goto 10, 3) := by decide +kernel
theorem dX5_ladyItem_28 : decode cX5_ladyItem 28 = .ok (.aload_n 0, 1) := by decide +kernel
theorem dX5_ladyItem_29 : decode cX5_ladyItem 29 = .ok (.iconst 0, 1) := by decide +kernel
theorem dX5_ladyItem_30 : decode cX5_ladyItem 30 = .ok (.bipush 9, 2) := by decide +kernel
theorem dX5_ladyItem_32 : decode cX5_ladyItem 32 = .ok (.invokevirtual 145, 3) := by decide +kernel
theorem dX5_ladyItem_35 : decode cX5_ladyItem 35 = .ok (.istore_n 1, 1) := by decide +kernel
theorem dX5_ladyItem_36 : decode cX5_ladyItem 36 = .ok (.iconst 1, 1) := by decide +kernel
theorem dX5_ladyItem_37 : decode cX5_ladyItem 37 = .ok (.aload_n 0, 1) := by decide +kernel
theorem dX5_ladyItem_38 : decode cX5_ladyItem 38 = .ok (.iconst 0, 1) := by decide +kernel
theorem dX5_ladyItem_39 : decode cX5_ladyItem 39 = .ok (.iconst 3, 1) := by decide +kernel
theorem dX5_ladyItem_40 : decode cX5_ladyItem 40 = .ok (.invokevirtual 149, 3) := by decide +kernel
theorem dX5_ladyItem_43 : decode cX5_ladyItem 43 = .ok (.ishl, 1) := by decide +kernel
theorem dX5_ladyItem_44 : decode cX5_ladyItem 44 = .ok (.istore_n 2, 1) := by decide +kernel
theorem dX5_ladyItem_45 : decode cX5_ladyItem 45 = .ok (.aload_n 0, 1) := by decide +kernel
theorem dX5_ladyItem_46 : decode cX5_ladyItem 46 = .ok (.getfield 141, 3) := by decide +kernel
theorem dX5_ladyItem_49 : decode cX5_ladyItem 49 = .ok (.ifCond .ne 52, 3) := by decide +kernel
theorem dX5_ladyItem_52 : decode cX5_ladyItem 52 = .ok (.aload_n 0, 1) := by decide +kernel
theorem dX5_ladyItem_53 : decode cX5_ladyItem 53 = .ok (.invokevirtual 133, 3) := by decide +kernel
theorem dX5_ladyItem_56 : decode cX5_ladyItem 56 = .ok (.bipush 44, 2) := by decide +kernel
theorem dX5_ladyItem_58 : decode cX5_ladyItem 58 = .ok (.if_icmp .ne 43, 3) := by decide +kernel
theorem dX5_ladyItem_61 : decode cX5_ladyItem 61 = .ok (.aload_n 0, 1) := by decide +kernel
theorem dX5_ladyItem_62 : decode cX5_ladyItem 62 = .ok (.iconst 0, 1) := by decide +kernel
theorem dX5_ladyItem_63 : decode cX5_ladyItem 63 = .ok (.iconst 3, 1) := by decide +kernel
theorem dX5_ladyItem_64 : decode cX5_ladyItem 64 = .ok (.invokevirtual 149, 3) := by decide +kernel
theorem dX5_ladyItem_67 : decode cX5_ladyItem 67 = .ok (.istore_n 3, 1) := by decide +kernel
theorem dX5_ladyItem_68 : decode cX5_ladyItem 68 = .ok (.aload_n 0, 1) := by decide +kernel
theorem dX5_ladyItem_69 : decode cX5_ladyItem 69 = .ok (.aload_n 0, 1) := by decide +kernel
theorem dX5_ladyItem_70 : decode cX5_ladyItem 70 = .ok (.getfield 141, 3) := by decide +kernel
theorem dX5_ladyItem_73 : decode cX5_ladyItem 73 = .ok (.ifCond .ne 11, 3) := by decide +kernel
theorem dX5_ladyItem_76 : decode cX5_ladyItem 76 = .ok (.iload_n 2, 1) := by decide +kernel
theorem dX5_ladyItem_77 : decode cX5_ladyItem 77 = .ok (.iload_n 3, 1) := by decide +kernel
theorem dX5_ladyItem_78 : decode cX5_ladyItem 78 = .ok (.invokestatic 152, 3) := by decide +kernel
theorem dX5_ladyItem_81 : decode cX5_ladyItem 81 = .ok (.ifCond .eq 7, 3) := by decide +kernel
theorem dX5_ladyItem_84 : decode cX5_ladyItem 84 = .ok (.iconst 1, 1) := by decide +kernel
theorem dX5_ladyItem_85 : decode cX5_ladyItem 85 = .ok (.goto 4, 3) := by decide +kernel
theorem dX5_ladyItem_88 : decode cX5_ladyItem 88 = .ok (.iconst 0, 1) := by decide +kernel
theorem dX5_ladyItem_89 : decode cX5_ladyItem 89 = .ok (.putfield 141, 3) := by decide +kernel
theorem dX5_ladyItem_92 : decode cX5_ladyItem 92 = .ok (.iload_n 2, 1) := by decide +kernel
theorem dX5_ladyItem_93 : decode cX5_ladyItem 93 = .ok (.iconst 1, 1) := by decide +kernel
theorem dX5_ladyItem_94 : decode cX5_ladyItem 94 = .ok (.iload_n 3, 1) := by decide +kernel
theorem dX5_ladyItem_95 : decode cX5_ladyItem 95 = .ok (.ishl, 1) := by decide +kernel
theorem dX5_ladyItem_96 : decode cX5_ladyItem 96 = .ok (.ior, 1) := by decide +kernel
theorem dX5_ladyItem_97 : decode cX5_ladyItem 97 = .ok (.istore_n 2, 1) := by decide +kernel
theorem dX5_ladyItem_98 : decode cX5_ladyItem 98 = .ok (.goto (-53), 3) := by decide +kernel
theorem dX5_ladyItem_101 : decode cX5_ladyItem 101 = .ok (.aload_n 0, 1) := by decide +kernel
theorem dX5_ladyItem_102 : decode cX5_ladyItem 102 = .ok (.getfield 141, 3) := by decide +kernel
theorem dX5_ladyItem_105 : decode cX5_ladyItem 105 = .ok (.ifCond .ne 33, 3) := by decide +kernel
theorem dX5_ladyItem_108 : decode cX5_ladyItem 108 = .ok (.aload_n 0, 1) := by decide +kernel
theorem dX5_ladyItem_109 : decode cX5_ladyItem 109 = .ok (.getfield 64, 3) := by decide +kernel
theorem dX5_ladyItem_112 : decode cX5_ladyItem 112 = .ok (.aload_n 0, 1) := by decide +kernel
theorem dX5_ladyItem_113 : decode cX5_ladyItem 113 = .ok (.getfield 98, 3) := by decide +kernel
theorem dX5_ladyItem_116 : decode cX5_ladyItem 116 = .ok (.iload_n 1, 1) := by decide +kernel
theorem dX5_ladyItem_117 : decode cX5_ladyItem 117 = .ok (.iastore, 1) := by decide +kernel
theorem dX5_ladyItem_118 : decode cX5_ladyItem 118 = .ok (.aload_n 0, 1) := by decide +kernel
theorem dX5_ladyItem_119 : decode cX5_ladyItem 119 = .ok (.getfield 67, 3) := by decide +kernel
theorem dX5_ladyItem_122 : decode cX5_ladyItem 122 = .ok (.aload_n 0, 1) := by decide +kernel
theorem dX5_ladyItem_123 : decode cX5_ladyItem 123 = .ok (.getfield 98, 3) := by decide +kernel
theorem dX5_ladyItem_126 : decode cX5_ladyItem 126 = .ok (.iload_n 2, 1) := by decide +kernel
theorem dX5_ladyItem_127 : decode cX5_ladyItem 127 = .ok (.iastore, 1) := by decide +kernel
theorem dX5_ladyItem_128 : decode cX5_ladyItem 128 = .ok (.aload_n 0, 1) := by decide +kernel
theorem dX5_ladyItem_129 : decode cX5_ladyItem 129 = .ok (.dup, 1) := by decide +kernel
theorem dX5_ladyItem_130 : decode cX5_ladyItem 130 = .ok (.getfield 98, 3) := by decide +kernel
theorem dX5_ladyItem_133 : decode cX5_ladyItem 133 = .ok (.iconst 1, 1) := by decide +kernel
theorem dX5_ladyItem_134 : decode cX5_ladyItem 134 = .ok (.iadd, 1) := by decide +kernel
theorem dX5_ladyItem_135 : decode cX5_ladyItem 135 = .ok (.putfield 98, 3) := by decide +kernel
theorem dX5_ladyItem_138 : decode cX5_ladyItem 138 = .ok (.return_, 1) := by decide +kernel
set_option maxRecDepth 20000 in
theorem ggX5_item_X5_goingItem : GoodIn wsX5_item wsX5_goingItem := goodIn_r _ [6, 7, 1, 8, 9, 10, 5, 11, 12, 13, 14, 15, 16, 17, 18, 19, 20, 21, 22, 23, 24, 25, 26, 27, 28, 29, 30, 31, 32, 33, 34, 35, 36, 59, 60, 61, 62, 63, 64, 65, 66, 67, 68, 69, 70, 71, 72, 73, 74, 75, 76, 77, 78, 79, 80, 81, 82, 83, 84, 85, 86, 87, 88, 89, 90, 91, 92, 93, 94, 95, 96, 97] (by decide +kernel) (by decide +kernel)
set_option maxRecDepth 20000 in
theorem gX5_item_X5_goingItem : GoodIn wsX5_item (wsV RX5 156 RX5 yX5_goingItem wsX5_goingItem) := goodIn_app (goodIn_of _ (by decide +kernel)) ggX5_item_X5_goingItem
set_option maxRecDepth 20000 in
theorem ggX5_item_X5_followItem : GoodIn wsX5_item wsX5_followItem := goodIn_r _ [40, 41, 1, 7, 8, 9, 10, 5, 11, 12, 13, 14, 15, 16, 17, 18, 19, 20, 21, 22, 23, 24, 25, 26, 27, 42, 43, 44, 45, 46, 47, 48, 59, 60, 61, 62, 63, 64, 65, 66, 67, 68, 69, 70, 71, 72, 73, 74, 75, 76, 77, 78, 79, 80, 81, 82, 83, 84, 85, 86, 87, 88, 89, 90, 91, 92, 93, 94, 95, 96, 97] (by decide +kernel) (by decide +kernel)
set_option maxRecDepth 20000 in
theorem gX5_item_X5_followItem : GoodIn wsX5_item (wsV RX5 159 RX5 yX5_followItem wsX5_followItem) := goodIn_app (goodIn_of _ (by decide +kernel)) ggX5_item_X5_followItem
set_option maxRecDepth 20000 in
theorem ggX5_item_X5_ladyItem : GoodIn wsX5_item wsX5_ladyItem := goodIn_r _ [52, 53, 1, 54, 55, 8, 9, 10, 5, 11, 12, 13, 14, 15, 16, 17, 18, 19, 20, 21, 22, 23, 24, 25, 26, 27, 56, 57, 58, 59, 60, 61, 62, 63, 64, 65, 66, 67, 68, 69, 70, 71, 72, 73, 74, 75, 76, 77, 78, 79, 80, 81, 82, 83, 84, 85, 86, 87, 88, 89, 90, 91, 92, 93, 94, 95, 96, 97] (by decide +kernel) (by decide +kernel)
set_option maxRecDepth 20000 in
theorem gX5_item_X5_ladyItem : GoodIn wsX5_item (wsV RX5 162 RX5 yX5_ladyItem wsX5_ladyItem) := goodIn_app (goodIn_of _ (by decide +kernel)) ggX5_item_X5_ladyItem
theorem dX5_item_0 : decode cX5_item 0 = .ok (.iload_n 1, 1) := by decide +kernel
theorem dX5_item_1 : decode cX5_item 1 = .ok (.bipush 103, 2) := by decide +kernel
theorem dX5_item_3 : decode cX5_item 3 = .ok (.if_icmp .ne 10, 3) := by decide +kernel
theorem dX5_item_6 : decode cX5_item 6 = .ok (.aload_n 0, 1) := by decide +kernel
theorem dX5_item_7 : decode cX5_item 7 = .ok (.invokevirtual 156, 3) := by decide +kernel
theorem dX5_item_10 : decode cX5_item 10 = .ok (.goto 34, 3) := by decide +kernel
theorem dX5_item_13 : decode cX5_item 13 = .ok (.iload_n 1, 1) := by decide +kernel
theorem dX5_item_14 : decode cX5_item 14 = .ok (.bipush 102, 2) := by decide +kernel
theorem dX5_item_16 : decode cX5_item 16 = .ok (.if_icmp .ne 10, 3) := by decide +kernel
theorem dX5_item_19 : decode cX5_item 19 = .ok (.aload_n 0, 1) := by decide +kernel
theorem dX5_item_20 : decode cX5_item 20 = .ok (.invokevirtual 159, 3) := by decide +kernel
theorem dX5_item_23 : decode cX5_item 23 = .ok (.goto 21, 3) := by decide +kernel
theorem dX5_item_26 : decode cX5_item 26 = .ok (.iload_n 1, 1) := by decide +kernel
theorem dX5_item_27 : decode cX5_item 27 = .ok (.bipush 108, 2) := by decide +kernel
theorem dX5_item_29 : decode cX5_item 29 = .ok (.if_icmp .ne 10, 3) := by decide +kernel
theorem dX5_item_32 : decode cX5_item 32 = .ok (.aload_n 0, 1) := by decide +kernel
theorem dX5_item_33 : decode cX5_item 33 = .ok (.invokevirtual 162, 3) := by decide +kernel
theorem dX5_item_36 : decode cX5_item 36 = .ok (.goto 8, 3) := by decide +kernel
theorem dX5_item_39 : decode cX5_item 39 = .ok (.aload_n 0, 1) := by decide +kernel
theorem dX5_item_40 : decode cX5_item 40 = .ok (.iconst 1, 1) := by decide +kernel
theorem dX5_item_41 : decode cX5_item 41 = .ok (.putfield 141, 3) := by decide +kernel
theorem dX5_item_44 : decode cX5_item 44 = .ok (.return_, 1) := by decide +kernel
set_option maxRecDepth 20000 in
theorem ggX5_reads_X5_clears : GoodIn wsX5_reads wsX5_clears := goodIn_r _ [9, 10, 11, 12, 68, 69, 70, 71, 72, 73, 74, 75, 76, 77, 78, 79, 80, 81, 82, 83, 84, 85, 86, 87, 88, 89, 90, 91, 92, 93, 94, 95, 96, 97, 98, 99, 100, 101, 102, 103, 104, 105, 106] (by decide +kernel) (by decide +kernel)
set_option maxRecDepth 20000 in
theorem gX5_reads_X5_clears : GoodIn wsX5_reads (wsV RX5 87 RX5 yX5_clears wsX5_clears) := goodIn_app (goodIn_of _ (by decide +kernel)) ggX5_reads_X5_clears
set_option maxRecDepth 20000 in
theorem ggX5_reads_X5_next : GoodIn wsX5_reads wsX5_next := goodIn_r _ [16, 1, 3, 17, 68, 69, 70, 71, 72, 73, 74, 75, 76, 77, 78, 79, 80, 81, 82, 83, 84, 85, 86, 87, 88, 89, 90, 91, 92, 93, 94, 95, 96, 97, 98, 99, 100, 101, 102, 103, 104, 105, 106] (by decide +kernel) (by decide +kernel)
set_option maxRecDepth 20000 in
theorem gX5_reads_X5_next : GoodIn wsX5_reads (wsV RX5 133 RX5 yX5_next wsX5_next) := goodIn_app (goodIn_of _ (by decide +kernel)) ggX5_reads_X5_next
set_option maxRecDepth 20000 in
theorem ggX5_reads_X5_item : GoodIn wsX5_reads wsX5_item := goodIn_r _ [21, 2, 22, 23, 24, 8, 25, 10, 26, 27, 28, 29, 30, 31, 1, 13, 14, 15, 16, 3, 17, 32, 33, 34, 35, 36, 37, 38, 39, 40, 41, 42, 43, 44, 45, 46, 47, 48, 49, 50, 51, 11, 52, 53, 54, 55, 56, 57, 58, 59, 60, 61, 62, 12, 63, 64, 65, 66, 67, 68, 69, 70, 71, 72, 73, 74, 75, 76, 77, 78, 79, 80, 81, 82, 83, 84, 85, 86, 87, 88, 89, 90, 91, 92, 93, 94, 95, 96, 97, 98, 99, 100, 101, 102, 103, 104, 105, 106] (by decide +kernel) (by decide +kernel)
set_option maxRecDepth 20000 in
theorem gX5_reads_X5_item : GoodIn wsX5_reads (wsV RX5 168 RX5 yX5_item wsX5_item) := goodIn_app (goodIn_of _ (by decide +kernel)) ggX5_reads_X5_item
theorem dX5_reads_0 : decode cX5_reads 0 = .ok (.aload_n 0, 1) := by decide +kernel
theorem dX5_reads_1 : decode cX5_reads 1 = .ok (.invokevirtual 87, 3) := by decide +kernel
theorem dX5_reads_4 : decode cX5_reads 4 = .ok (.aload_n 0, 1) := by decide +kernel
theorem dX5_reads_5 : decode cX5_reads 5 = .ok (.iconst 0, 1) := by decide +kernel
theorem dX5_reads_6 : decode cX5_reads 6 = .ok (.putfield 130, 3) := by decide +kernel
theorem dX5_reads_9 : decode cX5_reads 9 = .ok (.aload_n 0, 1) := by decide +kernel
theorem dX5_reads_10 : decode cX5_reads 10 = .ok (.iconst 0, 1) := by decide +kernel
theorem dX5_reads_11 : decode cX5_reads 11 = .ok (.putfield 141, 3) := by decide +kernel
theorem dX5_reads_14 : decode cX5_reads 14 = .ok (.aload_n 0, 1) := by decide +kernel
theorem dX5_reads_15 : decode cX5_reads 15 = .ok (.getfield 130, 3) := by decide +kernel
theorem dX5_reads_18 : decode cX5_reads 18 = .ok (.aload_n 0, 1) := by decide +kernel
theorem dX5_reads_19 : decode cX5_reads 19 = .ok (.getfield 127, 3) := by decide +kernel
theorem dX5_reads_22 : decode cX5_reads 22 = .ok (.if_icmp .ge 76, 3) := by decide +kernel
theorem dX5_reads_25 : decode cX5_reads 25 = .ok (.aload_n 0, 1) := by decide +kernel
theorem dX5_reads_26 : decode cX5_reads 26 = .ok (.getfield 141, 3) := by decide +kernel
theorem dX5_reads_29 : decode cX5_reads 29 = .ok (.ifCond .ne 69, 3) := by decide +kernel
theorem dX5_reads_32 : decode cX5_reads 32 = .ok (.aload_n 0, 1) := by decide +kernel
theorem dX5_reads_33 : decode cX5_reads 33 = .ok (.aload_n 0, 1) := by decide +kernel
theorem dX5_reads_34 : decode cX5_reads 34 = .ok (.getfield 130, 3) := by decide +kernel
theorem dX5_reads_37 : decode cX5_reads 37 = .ok (.putfield 165, 3) := by decide +kernel
theorem dX5_reads_40 : decode cX5_reads 40 = .ok (.aload_n 0, 1) := by decide +kernel
theorem dX5_reads_41 : decode cX5_reads 41 = .ok (.invokevirtual 133, 3) := by decide +kernel
theorem dX5_reads_44 : decode cX5_reads 44 = .ok (.istore_n 1, 1) := by decide +kernel
theorem dX5_reads_45 : decode cX5_reads 45 = .ok (.aload_n 0, 1) := by decide +kernel
theorem dX5_reads_46 : decode cX5_reads 46 = .ok (.dup, 1) := by decide +kernel
theorem dX5_reads_47 : decode cX5_reads 47 = .ok (.getfield 130, 3) := by decide +kernel
theorem dX5_reads_50 : decode cX5_reads 50 = .ok (.iconst 1, 1) := by decide +kernel
theorem dX5_reads_51 : decode cX5_reads 51 = .ok (.iadd, 1) := by decide +kernel
theorem dX5_reads_52 : decode cX5_reads 52 = .ok (.putfield 130, 3) := by decide +kernel
theorem dX5_reads_55 : decode cX5_reads 55 = .ok (.aload_n 0, 1) := by decide +kernel
theorem dX5_reads_56 : decode cX5_reads 56 = .ok (.iload_n 1, 1) := by decide +kernel
theorem dX5_reads_57 : decode cX5_reads 57 = .ok (.invokevirtual 168, 3) := by decide +kernel
theorem dX5_reads_60 : decode cX5_reads 60 = .ok (.aload_n 0, 1) := by decide +kernel
theorem dX5_reads_61 : decode cX5_reads 61 = .ok (.aload_n 0, 1) := by decide +kernel
theorem dX5_reads_62 : decode cX5_reads 62 = .ok (.getfield 141, 3) := by decide +kernel
theorem dX5_reads_65 : decode cX5_reads 65 = .ok (.ifCond .ne 12, 3) := by decide +kernel
theorem dX5_reads_68 : decode cX5_reads 68 = .ok (.aload_n 0, 1) := by decide +kernel
theorem dX5_reads_69 : decode cX5_reads 69 = .ok (.invokevirtual 133, 3) := by decide +kernel
theorem dX5_reads_72 : decode cX5_reads 72 = .ok (.bipush 59, 2) := by decide +kernel
theorem dX5_reads_74 : decode cX5_reads 74 = .ok (.if_icmp .eq 7, 3) := by decide +kernel
theorem dX5_reads_77 : decode cX5_reads 77 = .ok (.iconst 1, 1) := by decide +kernel
theorem dX5_reads_78 : decode cX5_reads 78 = .ok (.goto 4, 3) := by decide +kernel
theorem dX5_reads_81 : decode cX5_reads 81 = .ok (.iconst 0, 1) := by decide +kernel
theorem dX5_reads_82 : decode cX5_reads 82 = .ok (.putfield 141, 3) := by decide +kernel
theorem dX5_reads_85 : decode cX5_reads 85 = .ok (.aload_n 0, 1) := by decide +kernel
theorem dX5_reads_86 : decode cX5_reads 86 = .ok (.dup, 1) := by decide +kernel
theorem dX5_reads_87 : decode cX5_reads 87 = .ok (.getfield 130, 3) := by decide +kernel
theorem dX5_reads_90 : decode cX5_reads 90 = .ok (.iconst 1, 1) := by decide +kernel
theorem dX5_reads_91 : decode cX5_reads 91 = .ok (.iadd, 1) := by decide +kernel
theorem dX5_reads_92 : decode cX5_reads 92 = .ok (.putfield 130, 3) := by decide +kernel
theorem dX5_reads_95 : decode cX5_reads 95 = .ok (.goto (-81), 3) := by decide +kernel
theorem dX5_reads_98 : decode cX5_reads 98 = .ok (.aload_n 0, 1) := by decide +kernel
theorem dX5_reads_99 : decode cX5_reads 99 = .ok (.getfield 141, 3) := by decide +kernel
theorem dX5_reads_102 : decode cX5_reads 102 = .ok (.ifCond .ne 7, 3) := by decide +kernel
theorem dX5_reads_105 : decode cX5_reads 105 = .ok (.iconst 1, 1) := by decide +kernel
theorem dX5_reads_106 : decode cX5_reads 106 = .ok (.goto 4, 3) := by decide +kernel
theorem dX5_reads_109 : decode cX5_reads 109 = .ok (.iconst 0, 1) := by decide +kernel
theorem dX5_reads_110 : decode cX5_reads 110 = .ok (.ireturn, 1) := by decide +kernel
set_option maxRecDepth 20000 in
theorem ggX5_fault_X5_reads : GoodIn wsX5_fault wsX5_reads := goodIn_r _ [6, 7, 8, 9, 1, 10, 11, 12, 5, 13, 14, 15, 16, 17, 18, 19, 20, 21, 22, 23, 24, 25, 26, 27, 28, 29, 30, 31, 32, 33, 34, 35, 36, 37, 38, 39, 40, 41, 42, 43, 44, 45, 46, 47, 48, 49, 50, 51, 52, 53, 54, 55, 56, 57, 58, 59, 60, 61, 62, 63, 64, 65, 66, 67, 68, 69, 70, 71, 72, 73, 74, 75, 76, 77, 78, 79, 80, 81, 82, 83, 84, 85, 86, 87, 88, 89, 90, 91, 92, 93, 94, 95, 96, 97, 98, 99, 100, 101, 102, 103, 104, 105, 106, 107, 108, 109, 110] (by decide +kernel) (by decide +kernel)
set_option maxRecDepth 20000 in
theorem gX5_fault_X5_reads : GoodIn wsX5_fault (wsV RX5 172 RX5 yX5_reads wsX5_reads) := goodIn_app (goodIn_of _ (by decide +kernel)) ggX5_fault_X5_reads
theorem dX5_fault_0 : decode cX5_fault 0 = .ok (.aload_n 0, 1) := by decide +kernel
theorem dX5_fault_1 : decode cX5_fault 1 = .ok (.invokevirtual 172, 3) := by decide +kernel
theorem dX5_fault_4 : decode cX5_fault 4 = .ok (.ifCond .eq 8, 3) := by decide +kernel
theorem dX5_fault_7 : decode cX5_fault 7 = .ok (.bipush (-4), 2) := by decide +kernel
theorem dX5_fault_9 : decode cX5_fault 9 = .ok (.goto 7, 3) := by decide +kernel
theorem dX5_fault_12 : decode cX5_fault 12 = .ok (.aload_n 0, 1) := by decide +kernel
theorem dX5_fault_13 : decode cX5_fault 13 = .ok (.getfield 165, 3) := by decide +kernel
theorem dX5_fault_16 : decode cX5_fault 16 = .ok (.ireturn, 1) := by decide +kernel
set_option maxRecDepth 20000 in
theorem ggX5_lay_X5_reads : GoodIn wsX5_lay wsX5_reads := goodIn_r _ [10, 11, 12, 13, 14, 15, 16, 17, 9, 18, 1, 19, 20, 21, 22, 23, 24, 25, 26, 27, 28, 29, 30, 31, 32, 33, 34, 35, 36, 37, 38, 39, 40, 41, 42, 43, 44, 45, 46, 47, 48, 49, 50, 51, 52, 53, 54, 55, 56, 57, 58, 59, 60, 61, 62, 63, 64, 65, 66, 67, 68, 69, 70, 71, 72, 73, 74, 75, 93, 94, 95, 96, 97, 98, 99, 100, 101, 102, 103, 104, 105, 106, 107, 108, 109, 110, 111, 112, 113, 114, 115, 116, 117, 118, 119, 120, 121, 122, 123, 124, 125, 126, 127, 128, 129, 130, 131] (by decide +kernel) (by decide +kernel)
set_option maxRecDepth 20000 in
theorem gX5_lay_X5_reads : GoodIn wsX5_lay (wsV RX5 172 RX5 yX5_reads wsX5_reads) := goodIn_app (goodIn_of _ (by decide +kernel)) ggX5_lay_X5_reads
set_option maxRecDepth 20000 in
theorem ggX5_lay_X5_settles : GoodIn wsX5_lay wsX5_settles := goodIn_r _ [79, 1, 5, 19, 80, 20, 81, 82, 51, 83, 52, 84, 53, 85, 54, 86, 55, 87, 88, 64, 89, 65, 90, 66, 91, 71, 92, 72, 93, 94, 95, 96, 97, 98, 99, 100, 101, 102, 103, 104, 105, 106, 107, 108, 109, 110, 111, 112, 113, 114, 115, 116, 117, 118, 119, 120, 121, 122, 123, 124, 125, 126, 127, 128, 129, 130, 131] (by decide +kernel) (by decide +kernel)
set_option maxRecDepth 20000 in
theorem gX5_lay_X5_settles : GoodIn wsX5_lay (wsV RX5 101 RX5 yX5_settles wsX5_settles) := goodIn_app (goodIn_of _ (by decide +kernel)) ggX5_lay_X5_settles
theorem dX5_lay_0 : decode cX5_lay 0 = .ok (.aload_n 0, 1) := by decide +kernel
theorem dX5_lay_1 : decode cX5_lay 1 = .ok (.invokevirtual 172, 3) := by decide +kernel
theorem dX5_lay_4 : decode cX5_lay 4 = .ok (.ifCond .eq 10, 3) := by decide +kernel
theorem dX5_lay_7 : decode cX5_lay 7 = .ok (.aload_n 0, 1) := by decide +kernel
theorem dX5_lay_8 : decode cX5_lay 8 = .ok (.getfield 104, 3) := by decide +kernel
theorem dX5_lay_11 : decode cX5_lay 11 = .ok (.ifCond .ne 6, 3) := by decide +kernel
theorem dX5_lay_14 : decode cX5_lay 14 = .ok (.bipush (-2), 2) := by decide +kernel
theorem dX5_lay_16 : decode cX5_lay 16 = .ok (.ireturn, 1) := by decide +kernel
theorem dX5_lay_17 : decode cX5_lay 17 = .ok (.aload_n 0, 1) := by decide +kernel
theorem dX5_lay_18 : decode cX5_lay 18 = .ok (.invokevirtual 101, 3) := by decide +kernel
theorem dX5_lay_21 : decode cX5_lay 21 = .ok (.aload_n 0, 1) := by decide +kernel
theorem dX5_lay_22 : decode cX5_lay 22 = .ok (.iconst 0, 1) := by decide +kernel
theorem dX5_lay_23 : decode cX5_lay 23 = .ok (.putfield 176, 3) := by decide +kernel
theorem dX5_lay_26 : decode cX5_lay 26 = .ok (.aload_n 0, 1) := by decide +kernel
theorem dX5_lay_27 : decode cX5_lay 27 = .ok (.iconst 0, 1) := by decide +kernel
theorem dX5_lay_28 : decode cX5_lay 28 = .ok (.putfield 179, 3) := by decide +kernel
theorem dX5_lay_31 : decode cX5_lay 31 = .ok (.aload_n 0, 1) := by decide +kernel
theorem dX5_lay_32 : decode cX5_lay 32 = .ok (.iconst 0, 1) := by decide +kernel
theorem dX5_lay_33 : decode cX5_lay 33 = .ok (.putfield 182, 3) := by decide +kernel
theorem dX5_lay_36 : decode cX5_lay 36 = .ok (.aload_n 0, 1) := by decide +kernel
theorem dX5_lay_37 : decode cX5_lay 37 = .ok (.getfield 110, 3) := by decide +kernel
theorem dX5_lay_40 : decode cX5_lay 40 = .ok (.ireturn, 1) := by decide +kernel
set_option maxRecDepth 20000 in
theorem ggX5_worthOf_X5_smaller : GoodIn wsX5_worthOf wsX5_smaller := goodIn_r _ [4] (by decide +kernel) (by decide +kernel)
set_option maxRecDepth 20000 in
theorem gX5_worthOf_X5_smaller : GoodIn wsX5_worthOf (va_wsS RX5 185 yX5_smaller wsX5_smaller) := goodIn_app (goodIn_of _ (by decide +kernel)) ggX5_worthOf_X5_smaller
set_option maxRecDepth 20000 in
theorem ggX5_worthOf_X5_larger : GoodIn wsX5_worthOf wsX5_larger := goodIn_r _ [7] (by decide +kernel) (by decide +kernel)
set_option maxRecDepth 20000 in
theorem gX5_worthOf_X5_larger : GoodIn wsX5_worthOf (va_wsS RX5 188 yX5_larger wsX5_larger) := goodIn_app (goodIn_of _ (by decide +kernel)) ggX5_worthOf_X5_larger
theorem dX5_worthOf_0 : decode cX5_worthOf 0 = .ok (.iload_n 0, 1) := by decide +kernel
theorem dX5_worthOf_1 : decode cX5_worthOf 1 = .ok (.iconst 1, 1) := by decide +kernel
theorem dX5_worthOf_2 : decode cX5_worthOf 2 = .ok (.if_icmp .ne 13, 3) := by decide +kernel
theorem dX5_worthOf_5 : decode cX5_worthOf 5 = .ok (.iload_n 1, 1) := by decide +kernel
theorem dX5_worthOf_6 : decode cX5_worthOf 6 = .ok (.iload_n 2, 1) := by decide +kernel
theorem dX5_worthOf_7 : decode cX5_worthOf 7 = .ok (.iload_n 3, 1) := by decide +kernel
theorem dX5_worthOf_8 : decode cX5_worthOf 8 = .ok (.iconst 2, 1) := by decide +kernel
theorem dX5_worthOf_9 : decode cX5_worthOf 9 = .ok (.idiv, 1) := by decide +kernel
theorem dX5_worthOf_10 : decode cX5_worthOf 10 = .ok (.imul, 1) := by decide +kernel
theorem dX5_worthOf_11 : decode cX5_worthOf 11 = .ok (.isub, 1) := by decide +kernel
theorem dX5_worthOf_12 : decode cX5_worthOf 12 = .ok (.goto 26, 3) := by decide +kernel
theorem dX5_worthOf_15 : decode cX5_worthOf 15 = .ok (.iload_n 0, 1) := by decide +kernel
theorem dX5_worthOf_16 : decode cX5_worthOf 16 = .ok (.iconst 2, 1) := by decide +kernel
theorem dX5_worthOf_17 : decode cX5_worthOf 17 = .ok (.if_icmp .ne 16, 3) := by decide +kernel
theorem dX5_worthOf_20 : decode cX5_worthOf 20 = .ok (.bipush 40, 2) := by decide +kernel
theorem dX5_worthOf_22 : decode cX5_worthOf 22 = .ok (.iload_n 1, 1) := by decide +kernel
theorem dX5_worthOf_23 : decode cX5_worthOf 23 = .ok (.iload_n 2, 1) := by decide +kernel
theorem dX5_worthOf_24 : decode cX5_worthOf 24 = .ok (.iload_n 3, 1) := by decide +kernel
theorem dX5_worthOf_25 : decode cX5_worthOf 25 = .ok (.imul, 1) := by decide +kernel
theorem dX5_worthOf_26 : decode cX5_worthOf 26 = .ok (.iadd, 1) := by decide +kernel
theorem dX5_worthOf_27 : decode cX5_worthOf 27 = .ok (.invokestatic 185, 3) := by decide +kernel
theorem dX5_worthOf_30 : decode cX5_worthOf 30 = .ok (.goto 8, 3) := by decide +kernel
theorem dX5_worthOf_33 : decode cX5_worthOf 33 = .ok (.iload_n 1, 1) := by decide +kernel
theorem dX5_worthOf_34 : decode cX5_worthOf 34 = .ok (.iload_n 2, 1) := by decide +kernel
theorem dX5_worthOf_35 : decode cX5_worthOf 35 = .ok (.iload_n 3, 1) := by decide +kernel
theorem dX5_worthOf_36 : decode cX5_worthOf 36 = .ok (.imul, 1) := by decide +kernel
theorem dX5_worthOf_37 : decode cX5_worthOf 37 = .ok (.isub, 1) := by decide +kernel
theorem dX5_worthOf_38 : decode cX5_worthOf 38 = .ok (.istore 4, 2) := by decide +kernel
theorem dX5_worthOf_40 : decode cX5_worthOf 40 = .ok (.bipush (-20), 2) := by decide +kernel
theorem dX5_worthOf_42 : decode cX5_worthOf 42 = .ok (.iload_n 0, 1) := by decide +kernel
theorem dX5_worthOf_43 : decode cX5_worthOf 43 = .ok (.iconst 3, 1) := by decide +kernel
theorem dX5_worthOf_44 : decode cX5_worthOf 44 = .ok (.if_icmp .ne 12, 3) := by decide +kernel
theorem dX5_worthOf_47 : decode cX5_worthOf 47 = .ok (.iconst 0, 1) := by decide +kernel
theorem dX5_worthOf_48 : decode cX5_worthOf 48 = .ok (.iload 4, 2) := by decide +kernel
theorem dX5_worthOf_50 : decode cX5_worthOf 50 = .ok (.invokestatic 188, 3) := by decide +kernel
theorem dX5_worthOf_53 : decode cX5_worthOf 53 = .ok (.goto 5, 3) := by decide +kernel
theorem dX5_worthOf_56 : decode cX5_worthOf 56 = .ok (.iload 4, 2) := by decide +kernel
theorem dX5_worthOf_58 : decode cX5_worthOf 58 = .ok (.invokestatic 188, 3) := by decide +kernel
theorem dX5_worthOf_61 : decode cX5_worthOf 61 = .ok (.ireturn, 1) := by decide +kernel
set_option maxRecDepth 20000 in
theorem ggX5_worth_X5_worthOf : GoodIn wsX5_worth wsX5_worthOf := goodIn_r _ [8, 9, 10, 7, 11, 12, 13, 14] (by decide +kernel) (by decide +kernel)
set_option maxRecDepth 20000 in
theorem gX5_worth_X5_worthOf : GoodIn wsX5_worth (va_wsS RX5 191 yX5_worthOf wsX5_worthOf) := goodIn_app (goodIn_of _ (by decide +kernel)) ggX5_worth_X5_worthOf
theorem dX5_worth_0 : decode cX5_worth 0 = .ok (.aload_n 0, 1) := by decide +kernel
theorem dX5_worth_1 : decode cX5_worth 1 = .ok (.getfield 70, 3) := by decide +kernel
theorem dX5_worth_4 : decode cX5_worth 4 = .ok (.iload_n 1, 1) := by decide +kernel
theorem dX5_worth_5 : decode cX5_worth 5 = .ok (.iload_n 2, 1) := by decide +kernel
theorem dX5_worth_6 : decode cX5_worth 6 = .ok (.iadd, 1) := by decide +kernel
theorem dX5_worth_7 : decode cX5_worth 7 = .ok (.iaload, 1) := by decide +kernel
theorem dX5_worth_8 : decode cX5_worth 8 = .ok (.iconst 1, 1) := by decide +kernel
theorem dX5_worth_9 : decode cX5_worth 9 = .ok (.if_icmp .ne 48, 3) := by decide +kernel
theorem dX5_worth_12 : decode cX5_worth 12 = .ok (.aload_n 0, 1) := by decide +kernel
theorem dX5_worth_13 : decode cX5_worth 13 = .ok (.getfield 7, 3) := by decide +kernel
theorem dX5_worth_16 : decode cX5_worth 16 = .ok (.iload_n 2, 1) := by decide +kernel
theorem dX5_worth_17 : decode cX5_worth 17 = .ok (.iaload, 1) := by decide +kernel
theorem dX5_worth_18 : decode cX5_worth 18 = .ok (.aload_n 0, 1) := by decide +kernel
theorem dX5_worth_19 : decode cX5_worth 19 = .ok (.getfield 16, 3) := by decide +kernel
theorem dX5_worth_22 : decode cX5_worth 22 = .ok (.iload_n 2, 1) := by decide +kernel
theorem dX5_worth_23 : decode cX5_worth 23 = .ok (.iaload, 1) := by decide +kernel
theorem dX5_worth_24 : decode cX5_worth 24 = .ok (.aload_n 0, 1) := by decide +kernel
theorem dX5_worth_25 : decode cX5_worth 25 = .ok (.getfield 19, 3) := by decide +kernel
theorem dX5_worth_28 : decode cX5_worth 28 = .ok (.iload_n 2, 1) := by decide +kernel
theorem dX5_worth_29 : decode cX5_worth 29 = .ok (.iaload, 1) := by decide +kernel
theorem dX5_worth_30 : decode cX5_worth 30 = .ok (.aload_n 0, 1) := by decide +kernel
theorem dX5_worth_31 : decode cX5_worth 31 = .ok (.getfield 70, 3) := by decide +kernel
theorem dX5_worth_34 : decode cX5_worth 34 = .ok (.iload_n 1, 1) := by decide +kernel
theorem dX5_worth_35 : decode cX5_worth 35 = .ok (.bipush 18, 2) := by decide +kernel
theorem dX5_worth_37 : decode cX5_worth 37 = .ok (.iadd, 1) := by decide +kernel
theorem dX5_worth_38 : decode cX5_worth 38 = .ok (.iaload, 1) := by decide +kernel
theorem dX5_worth_39 : decode cX5_worth 39 = .ok (.aload_n 0, 1) := by decide +kernel
theorem dX5_worth_40 : decode cX5_worth 40 = .ok (.getfield 70, 3) := by decide +kernel
theorem dX5_worth_43 : decode cX5_worth 43 = .ok (.iload_n 1, 1) := by decide +kernel
theorem dX5_worth_44 : decode cX5_worth 44 = .ok (.bipush 7, 2) := by decide +kernel
theorem dX5_worth_46 : decode cX5_worth 46 = .ok (.iadd, 1) := by decide +kernel
theorem dX5_worth_47 : decode cX5_worth 47 = .ok (.iload_n 2, 1) := by decide +kernel
theorem dX5_worth_48 : decode cX5_worth 48 = .ok (.iadd, 1) := by decide +kernel
theorem dX5_worth_49 : decode cX5_worth 49 = .ok (.iaload, 1) := by decide +kernel
theorem dX5_worth_50 : decode cX5_worth 50 = .ok (.isub, 1) := by decide +kernel
theorem dX5_worth_51 : decode cX5_worth 51 = .ok (.invokestatic 191, 3) := by decide +kernel
theorem dX5_worth_54 : decode cX5_worth 54 = .ok (.goto 4, 3) := by decide +kernel
theorem dX5_worth_57 : decode cX5_worth 57 = .ok (.iconst 0, 1) := by decide +kernel
theorem dX5_worth_58 : decode cX5_worth 58 = .ok (.ireturn, 1) := by decide +kernel
set_option maxRecDepth 20000 in
theorem ggX5_ends_X5_smaller : GoodIn wsX5_ends wsX5_smaller := goodIn_r _ [10] (by decide +kernel) (by decide +kernel)
set_option maxRecDepth 20000 in
theorem gX5_ends_X5_smaller : GoodIn wsX5_ends (va_wsS RX5 185 yX5_smaller wsX5_smaller) := goodIn_app (goodIn_of _ (by decide +kernel)) ggX5_ends_X5_smaller
theorem dX5_ends_0 : decode cX5_ends 0 = .ok (.aload_n 0, 1) := by decide +kernel
theorem dX5_ends_1 : decode cX5_ends 1 = .ok (.getfield 70, 3) := by decide +kernel
theorem dX5_ends_4 : decode cX5_ends 4 = .ok (.iload_n 1, 1) := by decide +kernel
theorem dX5_ends_5 : decode cX5_ends 5 = .ok (.iload_n 2, 1) := by decide +kernel
theorem dX5_ends_6 : decode cX5_ends 6 = .ok (.iadd, 1) := by decide +kernel
theorem dX5_ends_7 : decode cX5_ends 7 = .ok (.iload_n 3, 1) := by decide +kernel
theorem dX5_ends_8 : decode cX5_ends 8 = .ok (.iastore, 1) := by decide +kernel
theorem dX5_ends_9 : decode cX5_ends 9 = .ok (.iconst 0, 1) := by decide +kernel
theorem dX5_ends_10 : decode cX5_ends 10 = .ok (.istore 5, 2) := by decide +kernel
theorem dX5_ends_12 : decode cX5_ends 12 = .ok (.iload 5, 2) := by decide +kernel
theorem dX5_ends_14 : decode cX5_ends 14 = .ok (.aload_n 0, 1) := by decide +kernel
theorem dX5_ends_15 : decode cX5_ends 15 = .ok (.getfield 113, 3) := by decide +kernel
theorem dX5_ends_18 : decode cX5_ends 18 = .ok (.if_icmp .ge 111, 3) := by decide +kernel
theorem dX5_ends_21 : decode cX5_ends 21 = .ok (.aload_n 0, 1) := by decide +kernel
theorem dX5_ends_22 : decode cX5_ends 22 = .ok (.getfield 28, 3) := by decide +kernel
theorem dX5_ends_25 : decode cX5_ends 25 = .ok (.iload 5, 2) := by decide +kernel
theorem dX5_ends_27 : decode cX5_ends 27 = .ok (.iaload, 1) := by decide +kernel
theorem dX5_ends_28 : decode cX5_ends 28 = .ok (.istore 6, 2) := by decide +kernel
theorem dX5_ends_30 : decode cX5_ends 30 = .ok (.aload_n 0, 1) := by decide +kernel
theorem dX5_ends_31 : decode cX5_ends 31 = .ok (.getfield 25, 3) := by decide +kernel
theorem dX5_ends_34 : decode cX5_ends 34 = .ok (.iload 5, 2) := by decide +kernel
theorem dX5_ends_36 : decode cX5_ends 36 = .ok (.iaload, 1) := by decide +kernel
theorem dX5_ends_37 : decode cX5_ends 37 = .ok (.iload_n 2, 1) := by decide +kernel
theorem dX5_ends_38 : decode cX5_ends 38 = .ok (.if_icmp .ne 85, 3) := by decide +kernel
theorem dX5_ends_41 : decode cX5_ends 41 = .ok (.aload_n 0, 1) := by decide +kernel
theorem dX5_ends_42 : decode cX5_ends 42 = .ok (.getfield 70, 3) := by decide +kernel
theorem dX5_ends_45 : decode cX5_ends 45 = .ok (.iload_n 1, 1) := by decide +kernel
theorem dX5_ends_46 : decode cX5_ends 46 = .ok (.iload 6, 2) := by decide +kernel
theorem dX5_ends_48 : decode cX5_ends 48 = .ok (.iadd, 1) := by decide +kernel
theorem dX5_ends_49 : decode cX5_ends 49 = .ok (.iaload, 1) := by decide +kernel
theorem dX5_ends_50 : decode cX5_ends 50 = .ok (.ifCond .ne 73, 3) := by decide +kernel
theorem dX5_ends_53 : decode cX5_ends 53 = .ok (.iload 6, 2) := by decide +kernel
theorem dX5_ends_55 : decode cX5_ends 55 = .ok (.aload_n 0, 1) := by decide +kernel
theorem dX5_ends_56 : decode cX5_ends 56 = .ok (.getfield 83, 3) := by decide +kernel
theorem dX5_ends_59 : decode cX5_ends 59 = .ok (.if_icmp .eq 64, 3) := by decide +kernel
theorem dX5_ends_62 : decode cX5_ends 62 = .ok (.iload 4, 2) := by decide +kernel
theorem dX5_ends_64 : decode cX5_ends 64 = .ok (.aload_n 0, 1) := by decide +kernel
theorem dX5_ends_65 : decode cX5_ends 65 = .ok (.getfield 31, 3) := by decide +kernel
theorem dX5_ends_68 : decode cX5_ends 68 = .ok (.iload 5, 2) := by decide +kernel
theorem dX5_ends_70 : decode cX5_ends 70 = .ok (.iaload, 1) := by decide +kernel
theorem dX5_ends_71 : decode cX5_ends 71 = .ok (.iadd, 1) := by decide +kernel
theorem dX5_ends_72 : decode cX5_ends 72 = .ok (.istore 7, 2) := by decide +kernel
theorem dX5_ends_74 : decode cX5_ends 74 = .ok (.aload_n 0, 1) := by decide +kernel
theorem dX5_ends_75 : decode cX5_ends 75 = .ok (.getfield 70, 3) := by decide +kernel
theorem dX5_ends_78 : decode cX5_ends 78 = .ok (.iload_n 1, 1) := by decide +kernel
theorem dX5_ends_79 : decode cX5_ends 79 = .ok (.bipush 7, 2) := by decide +kernel
theorem dX5_ends_81 : decode cX5_ends 81 = .ok (.iadd, 1) := by decide +kernel
theorem dX5_ends_82 : decode cX5_ends 82 = .ok (.iload 6, 2) := by decide +kernel
theorem dX5_ends_84 : decode cX5_ends 84 = .ok (.iadd, 1) := by decide +kernel
theorem dX5_ends_85 : decode cX5_ends 85 = .ok (.aload_n 0, 1) := by decide +kernel
theorem dX5_ends_86 : decode cX5_ends 86 = .ok (.getfield 70, 3) := by decide +kernel
theorem dX5_ends_89 : decode cX5_ends 89 = .ok (.iload_n 1, 1) := by decide +kernel
theorem dX5_ends_90 : decode cX5_ends 90 = .ok (.bipush 7, 2) := by decide +kernel
theorem dX5_ends_92 : decode cX5_ends 92 = .ok (.iadd, 1) := by decide +kernel
theorem dX5_ends_93 : decode cX5_ends 93 = .ok (.iload 6, 2) := by decide +kernel
theorem dX5_ends_95 : decode cX5_ends 95 = .ok (.iadd, 1) := by decide +kernel
theorem dX5_ends_96 : decode cX5_ends 96 = .ok (.iaload, 1) := by decide +kernel
theorem dX5_ends_97 : decode cX5_ends 97 = .ok (.ifCond .ge 8, 3) := by decide +kernel
theorem dX5_ends_100 : decode cX5_ends 100 = .ok (.iload 7, 2) := by decide +kernel
theorem dX5_ends_102 : decode cX5_ends 102 = .ok (.goto 20, 3) := by decide +kernel
theorem dX5_ends_105 : decode cX5_ends 105 = .ok (.iload 7, 2) := by decide +kernel
theorem dX5_ends_107 : decode cX5_ends 107 = .ok (.aload_n 0, 1) := by decide +kernel
theorem dX5_ends_108 : decode cX5_ends 108 = .ok (.getfield 70, 3) := by decide +kernel
theorem dX5_ends_111 : decode cX5_ends 111 = .ok (.iload_n 1, 1) := by decide +kernel
theorem dX5_ends_112 : decode cX5_ends 112 = .ok (.bipush 7, 2) := by decide +kernel
theorem dX5_ends_114 : decode cX5_ends 114 = .ok (.iadd, 1) := by decide +kernel
theorem dX5_ends_115 : decode cX5_ends 115 = .ok (.iload 6, 2) := by decide +kernel
theorem dX5_ends_117 : decode cX5_ends 117 = .ok (.iadd, 1) := by decide +kernel
theorem dX5_ends_118 : decode cX5_ends 118 = .ok (.iaload, 1) := by decide +kernel
theorem dX5_ends_119 : decode cX5_ends 119 = .ok (.invokestatic 185, 3) := by decide +kernel
theorem dX5_ends_122 : decode cX5_ends 122 = .ok (.iastore, 1) := by decide +kernel
theorem dX5_ends_123 : decode cX5_ends 123 = .ok (.iinc 5 1, 3) := by decide +kernel
theorem dX5_ends_126 : decode cX5_ends 126 = .ok (.goto (-114), 3) := by decide +kernel
theorem dX5_ends_129 : decode cX5_ends 129 = .ok (.return_, 1) := by decide +kernel
theorem dX5_starts_0 : decode cX5_starts 0 = .ok (.iconst 0, 1) := by decide +kernel
theorem dX5_starts_1 : decode cX5_starts 1 = .ok (.istore_n 2, 1) := by decide +kernel
theorem dX5_starts_2 : decode cX5_starts 2 = .ok (.iconst 0, 1) := by decide +kernel
theorem dX5_starts_3 : decode cX5_starts 3 = .ok (.istore_n 3, 1) := by decide +kernel
theorem dX5_starts_4 : decode cX5_starts 4 = .ok (.iload_n 3, 1) := by decide +kernel
theorem dX5_starts_5 : decode cX5_starts 5 = .ok (.aload_n 0, 1) := by decide +kernel
theorem dX5_starts_6 : decode cX5_starts 6 = .ok (.getfield 110, 3) := by decide +kernel
theorem dX5_starts_9 : decode cX5_starts 9 = .ok (.if_icmp .ge 103, 3) := by decide +kernel
theorem dX5_starts_12 : decode cX5_starts 12 = .ok (.aload_n 0, 1) := by decide +kernel
theorem dX5_starts_13 : decode cX5_starts 13 = .ok (.getfield 70, 3) := by decide +kernel
theorem dX5_starts_16 : decode cX5_starts 16 = .ok (.iload_n 1, 1) := by decide +kernel
theorem dX5_starts_17 : decode cX5_starts 17 = .ok (.bipush 7, 2) := by decide +kernel
theorem dX5_starts_19 : decode cX5_starts 19 = .ok (.iadd, 1) := by decide +kernel
theorem dX5_starts_20 : decode cX5_starts 20 = .ok (.iload_n 3, 1) := by decide +kernel
theorem dX5_starts_21 : decode cX5_starts 21 = .ok (.iadd, 1) := by decide +kernel
theorem dX5_starts_22 : decode cX5_starts 22 = .ok (.iaload, 1) := by decide +kernel
theorem dX5_starts_23 : decode cX5_starts 23 = .ok (.istore 4, 2) := by decide +kernel
theorem dX5_starts_25 : decode cX5_starts 25 = .ok (.aload_n 0, 1) := by decide +kernel
theorem dX5_starts_26 : decode cX5_starts 26 = .ok (.getfield 70, 3) := by decide +kernel
theorem dX5_starts_29 : decode cX5_starts 29 = .ok (.iload_n 1, 1) := by decide +kernel
theorem dX5_starts_30 : decode cX5_starts 30 = .ok (.iload_n 3, 1) := by decide +kernel
theorem dX5_starts_31 : decode cX5_starts 31 = .ok (.iadd, 1) := by decide +kernel
theorem dX5_starts_32 : decode cX5_starts 32 = .ok (.iaload, 1) := by decide +kernel
theorem dX5_starts_33 : decode cX5_starts 33 = .ok (.ifCond .ne 51, 3) := by decide +kernel
theorem dX5_starts_36 : decode cX5_starts 36 = .ok (.iload 4, 2) := by decide +kernel
theorem dX5_starts_38 : decode cX5_starts 38 = .ok (.ifCond .lt 46, 3) := by decide +kernel
theorem dX5_starts_41 : decode cX5_starts 41 = .ok (.iload 4, 2) := by decide +kernel
theorem dX5_starts_43 : decode cX5_starts 43 = .ok (.aload_n 0, 1) := by decide +kernel
theorem dX5_starts_44 : decode cX5_starts 44 = .ok (.getfield 70, 3) := by decide +kernel
theorem dX5_starts_47 : decode cX5_starts 47 = .ok (.iload_n 1, 1) := by decide +kernel
theorem dX5_starts_48 : decode cX5_starts 48 = .ok (.bipush 18, 2) := by decide +kernel
theorem dX5_starts_50 : decode cX5_starts 50 = .ok (.iadd, 1) := by decide +kernel
theorem dX5_starts_51 : decode cX5_starts 51 = .ok (.iaload, 1) := by decide +kernel
theorem dX5_starts_52 : decode cX5_starts 52 = .ok (.if_icmp .gt 32, 3) := by decide +kernel
theorem dX5_starts_55 : decode cX5_starts 55 = .ok (.aload_n 0, 1) := by decide +kernel
theorem dX5_starts_56 : decode cX5_starts 56 = .ok (.getfield 70, 3) := by decide +kernel
theorem dX5_starts_59 : decode cX5_starts 59 = .ok (.iload_n 1, 1) := by decide +kernel
theorem dX5_starts_60 : decode cX5_starts 60 = .ok (.iload_n 3, 1) := by decide +kernel
theorem dX5_starts_61 : decode cX5_starts 61 = .ok (.iadd, 1) := by decide +kernel
theorem dX5_starts_62 : decode cX5_starts 62 = .ok (.iconst 1, 1) := by decide +kernel
theorem dX5_starts_63 : decode cX5_starts 63 = .ok (.iastore, 1) := by decide +kernel
theorem dX5_starts_64 : decode cX5_starts 64 = .ok (.aload_n 0, 1) := by decide +kernel
theorem dX5_starts_65 : decode cX5_starts 65 = .ok (.getfield 70, 3) := by decide +kernel
theorem dX5_starts_68 : decode cX5_starts 68 = .ok (.iload_n 1, 1) := by decide +kernel
theorem dX5_starts_69 : decode cX5_starts 69 = .ok (.bipush 7, 2) := by decide +kernel
theorem dX5_starts_71 : decode cX5_starts 71 = .ok (.iadd, 1) := by decide +kernel
theorem dX5_starts_72 : decode cX5_starts 72 = .ok (.iload_n 3, 1) := by decide +kernel
theorem dX5_starts_73 : decode cX5_starts 73 = .ok (.iadd, 1) := by decide +kernel
theorem dX5_starts_74 : decode cX5_starts 74 = .ok (.aload_n 0, 1) := by decide +kernel
theorem dX5_starts_75 : decode cX5_starts 75 = .ok (.getfield 70, 3) := by decide +kernel
theorem dX5_starts_78 : decode cX5_starts 78 = .ok (.iload_n 1, 1) := by decide +kernel
theorem dX5_starts_79 : decode cX5_starts 79 = .ok (.bipush 18, 2) := by decide +kernel
theorem dX5_starts_81 : decode cX5_starts 81 = .ok (.iadd, 1) := by decide +kernel
theorem dX5_starts_82 : decode cX5_starts 82 = .ok (.iaload, 1) := by decide +kernel
theorem dX5_starts_83 : decode cX5_starts 83 = .ok (.iastore, 1) := by decide +kernel
theorem dX5_starts_84 : decode cX5_starts 84 = .ok (.iload_n 2, 1) := by decide +kernel
theorem dX5_starts_85 : decode cX5_starts 85 = .ok (.aload_n 0, 1) := by decide +kernel
theorem dX5_starts_86 : decode cX5_starts 86 = .ok (.getfield 70, 3) := by decide +kernel
theorem dX5_starts_89 : decode cX5_starts 89 = .ok (.iload_n 1, 1) := by decide +kernel
theorem dX5_starts_90 : decode cX5_starts 90 = .ok (.iload_n 3, 1) := by decide +kernel
theorem dX5_starts_91 : decode cX5_starts 91 = .ok (.iadd, 1) := by decide +kernel
theorem dX5_starts_92 : decode cX5_starts 92 = .ok (.iaload, 1) := by decide +kernel
theorem dX5_starts_93 : decode cX5_starts 93 = .ok (.iconst 1, 1) := by decide +kernel
theorem dX5_starts_94 : decode cX5_starts 94 = .ok (.if_icmp .ne 9, 3) := by decide +kernel
theorem dX5_starts_97 : decode cX5_starts 97 = .ok (.iconst 1, 1) := by decide +kernel
theorem dX5_starts_98 : decode cX5_starts 98 = .ok (.iload_n 3, 1) := by decide +kernel
theorem dX5_starts_99 : decode cX5_starts 99 = .ok (.ishl, 1) := by decide +kernel
theorem dX5_starts_100 : decode cX5_starts 100 = .ok (.goto 4, 3) := by decide +kernel
theorem dX5_starts_103 : decode cX5_starts 103 = .ok (.iconst 0, 1) := by decide +kernel
theorem dX5_starts_104 : decode cX5_starts 104 = .ok (.ior, 1) := by decide +kernel
theorem dX5_starts_105 : decode cX5_starts 105 = .ok (.istore_n 2, 1) := by decide +kernel
theorem dX5_starts_106 : decode cX5_starts 106 = .ok (.iinc 3 1, 3) := by decide +kernel
theorem dX5_starts_109 : decode cX5_starts 109 = .ok (.goto (-105), 3) := by decide +kernel
theorem dX5_starts_112 : decode cX5_starts 112 = .ok (.iload_n 2, 1) := by decide +kernel
theorem dX5_starts_113 : decode cX5_starts 113 = .ok (.ireturn, 1) := by decide +kernel
set_option maxRecDepth 20000 in
theorem ggX5_all_X5_worth : GoodIn wsX5_all wsX5_worth := goodIn_r _ [6, 7, 8, 9, 10, 11, 12, 5, 13, 14, 15, 16, 17, 18, 19, 20, 21, 22, 23, 24, 25, 26, 27, 28, 29, 30, 31, 32, 33, 34, 35, 36, 37, 38, 39, 40, 41, 42, 43, 44, 45, 46, 47, 48, 49, 50, 51, 52, 53, 54, 55, 56, 57, 58] (by decide +kernel) (by decide +kernel)
set_option maxRecDepth 20000 in
theorem gX5_all_X5_worth : GoodIn wsX5_all (wsV RX5 195 RX5 yX5_worth wsX5_worth) := goodIn_app (goodIn_of _ (by decide +kernel)) ggX5_all_X5_worth
theorem dX5_all_0 : decode cX5_all 0 = .ok (.iconst 0, 1) := by decide +kernel
theorem dX5_all_1 : decode cX5_all 1 = .ok (.istore_n 2, 1) := by decide +kernel
theorem dX5_all_2 : decode cX5_all 2 = .ok (.iconst 0, 1) := by decide +kernel
theorem dX5_all_3 : decode cX5_all 3 = .ok (.istore_n 3, 1) := by decide +kernel
theorem dX5_all_4 : decode cX5_all 4 = .ok (.iload_n 3, 1) := by decide +kernel
theorem dX5_all_5 : decode cX5_all 5 = .ok (.aload_n 0, 1) := by decide +kernel
theorem dX5_all_6 : decode cX5_all 6 = .ok (.getfield 110, 3) := by decide +kernel
theorem dX5_all_9 : decode cX5_all 9 = .ok (.if_icmp .ge 18, 3) := by decide +kernel
theorem dX5_all_12 : decode cX5_all 12 = .ok (.iload_n 2, 1) := by decide +kernel
theorem dX5_all_13 : decode cX5_all 13 = .ok (.aload_n 0, 1) := by decide +kernel
theorem dX5_all_14 : decode cX5_all 14 = .ok (.iload_n 1, 1) := by decide +kernel
theorem dX5_all_15 : decode cX5_all 15 = .ok (.iload_n 3, 1) := by decide +kernel
theorem dX5_all_16 : decode cX5_all 16 = .ok (.invokevirtual 195, 3) := by decide +kernel
theorem dX5_all_19 : decode cX5_all 19 = .ok (.iadd, 1) := by decide +kernel
theorem dX5_all_20 : decode cX5_all 20 = .ok (.istore_n 2, 1) := by decide +kernel
theorem dX5_all_21 : decode cX5_all 21 = .ok (.iinc 3 1, 3) := by decide +kernel
theorem dX5_all_24 : decode cX5_all 24 = .ok (.goto (-20), 3) := by decide +kernel
theorem dX5_all_27 : decode cX5_all 27 = .ok (.iload_n 2, 1) := by decide +kernel
theorem dX5_all_28 : decode cX5_all 28 = .ok (.ireturn, 1) := by decide +kernel
set_option maxRecDepth 20000 in
theorem ggX5_goesOn_X5_starts : GoodIn wsX5_goesOn wsX5_starts := goodIn_r _ [8, 2, 1, 38, 39, 40, 41, 42, 43, 44, 45, 46, 47, 48, 49, 50, 51, 52, 53, 54, 55, 56, 57, 58, 59, 60, 61, 62, 63, 64, 65, 66, 67, 68, 69, 70, 71, 72, 73, 74, 75, 76] (by decide +kernel) (by decide +kernel)
set_option maxRecDepth 20000 in
theorem gX5_goesOn_X5_starts : GoodIn wsX5_goesOn (wsV RX5 198 RX5 yX5_starts wsX5_starts) := goodIn_app (goodIn_of _ (by decide +kernel)) ggX5_goesOn_X5_starts
set_option maxRecDepth 20000 in
theorem ggX5_goesOn_X5_all : GoodIn wsX5_goesOn wsX5_all := goodIn_r _ [12, 2, 13, 14, 15, 7, 16, 1, 17, 18, 19, 20, 21, 22, 23, 24, 25, 26, 27, 28, 38, 39, 40, 41, 42, 43, 44, 45, 46, 47, 48, 49, 50, 51, 52, 53, 54, 55, 56, 57, 58, 59, 60, 61, 62, 63, 64, 65, 66, 67, 68, 69, 70, 71, 72, 73, 74, 75, 76] (by decide +kernel) (by decide +kernel)
set_option maxRecDepth 20000 in
theorem gX5_goesOn_X5_all : GoodIn wsX5_goesOn (wsV RX5 202 RX5 yX5_all wsX5_all) := goodIn_app (goodIn_of _ (by decide +kernel)) ggX5_goesOn_X5_all
set_option maxRecDepth 20000 in
theorem ggX5_goesOn_X5_ends : GoodIn wsX5_goesOn wsX5_ends := goodIn_r _ [32, 1, 33, 34, 35, 36, 37, 23, 24, 7, 25, 38, 39, 40, 41, 42, 43, 44, 45, 46, 47, 48, 49, 50, 51, 52, 53, 54, 55, 56, 57, 58, 59, 60, 61, 62, 63, 64, 65, 66, 67, 68, 69, 70, 71, 72, 73, 74, 75, 76] (by decide +kernel) (by decide +kernel)
set_option maxRecDepth 20000 in
theorem gX5_goesOn_X5_ends : GoodIn wsX5_goesOn (wsV RX5 205 RX5 yX5_ends wsX5_ends) := goodIn_app (goodIn_of _ (by decide +kernel)) ggX5_goesOn_X5_ends
theorem dX5_goesOn_0 : decode cX5_goesOn 0 = .ok (.aload_n 0, 1) := by decide +kernel
theorem dX5_goesOn_1 : decode cX5_goesOn 1 = .ok (.iload_n 1, 1) := by decide +kernel
theorem dX5_goesOn_2 : decode cX5_goesOn 2 = .ok (.invokevirtual 198, 3) := by decide +kernel
theorem dX5_goesOn_5 : decode cX5_goesOn 5 = .ok (.istore_n 2, 1) := by decide +kernel
theorem dX5_goesOn_6 : decode cX5_goesOn 6 = .ok (.aload_n 0, 1) := by decide +kernel
theorem dX5_goesOn_7 : decode cX5_goesOn 7 = .ok (.getfield 70, 3) := by decide +kernel
theorem dX5_goesOn_10 : decode cX5_goesOn 10 = .ok (.iload_n 1, 1) := by decide +kernel
theorem dX5_goesOn_11 : decode cX5_goesOn 11 = .ok (.bipush 19, 2) := by decide +kernel
theorem dX5_goesOn_13 : decode cX5_goesOn 13 = .ok (.iadd, 1) := by decide +kernel
theorem dX5_goesOn_14 : decode cX5_goesOn 14 = .ok (.dup2, 1) := by decide +kernel
theorem dX5_goesOn_15 : decode cX5_goesOn 15 = .ok (.iaload, 1) := by decide +kernel
theorem dX5_goesOn_16 : decode cX5_goesOn 16 = .ok (.aload_n 0, 1) := by decide +kernel
theorem dX5_goesOn_17 : decode cX5_goesOn 17 = .ok (.iload_n 1, 1) := by decide +kernel
theorem dX5_goesOn_18 : decode cX5_goesOn 18 = .ok (.invokevirtual 202, 3) := by decide +kernel
theorem dX5_goesOn_21 : decode cX5_goesOn 21 = .ok (.iadd, 1) := by decide +kernel
theorem dX5_goesOn_22 : decode cX5_goesOn 22 = .ok (.iastore, 1) := by decide +kernel
theorem dX5_goesOn_23 : decode cX5_goesOn 23 = .ok (.aload_n 0, 1) := by decide +kernel
theorem dX5_goesOn_24 : decode cX5_goesOn 24 = .ok (.getfield 70, 3) := by decide +kernel
theorem dX5_goesOn_27 : decode cX5_goesOn 27 = .ok (.iload_n 1, 1) := by decide +kernel
theorem dX5_goesOn_28 : decode cX5_goesOn 28 = .ok (.bipush 18, 2) := by decide +kernel
theorem dX5_goesOn_30 : decode cX5_goesOn 30 = .ok (.iadd, 1) := by decide +kernel
theorem dX5_goesOn_31 : decode cX5_goesOn 31 = .ok (.iaload, 1) := by decide +kernel
theorem dX5_goesOn_32 : decode cX5_goesOn 32 = .ok (.istore_n 3, 1) := by decide +kernel
theorem dX5_goesOn_33 : decode cX5_goesOn 33 = .ok (.iconst 0, 1) := by decide +kernel
theorem dX5_goesOn_34 : decode cX5_goesOn 34 = .ok (.istore 4, 2) := by decide +kernel
theorem dX5_goesOn_36 : decode cX5_goesOn 36 = .ok (.iload 4, 2) := by decide +kernel
theorem dX5_goesOn_38 : decode cX5_goesOn 38 = .ok (.aload_n 0, 1) := by decide +kernel
theorem dX5_goesOn_39 : decode cX5_goesOn 39 = .ok (.getfield 110, 3) := by decide +kernel
theorem dX5_goesOn_42 : decode cX5_goesOn 42 = .ok (.if_icmp .ge 59, 3) := by decide +kernel
theorem dX5_goesOn_45 : decode cX5_goesOn 45 = .ok (.aload_n 0, 1) := by decide +kernel
theorem dX5_goesOn_46 : decode cX5_goesOn 46 = .ok (.getfield 70, 3) := by decide +kernel
theorem dX5_goesOn_49 : decode cX5_goesOn 49 = .ok (.iload_n 1, 1) := by decide +kernel
theorem dX5_goesOn_50 : decode cX5_goesOn 50 = .ok (.iload 4, 2) := by decide +kernel
theorem dX5_goesOn_52 : decode cX5_goesOn 52 = .ok (.iadd, 1) := by decide +kernel
theorem dX5_goesOn_53 : decode cX5_goesOn 53 = .ok (.iaload, 1) := by decide +kernel
theorem dX5_goesOn_54 : decode cX5_goesOn 54 = .ok (.iconst 1, 1) := by decide +kernel
theorem dX5_goesOn_55 : decode cX5_goesOn 55 = .ok (.if_icmp .ne 40, 3) := by decide +kernel
theorem dX5_goesOn_58 : decode cX5_goesOn 58 = .ok (.iload_n 3, 1) := by decide +kernel
theorem dX5_goesOn_59 : decode cX5_goesOn 59 = .ok (.aload_n 0, 1) := by decide +kernel
theorem dX5_goesOn_60 : decode cX5_goesOn 60 = .ok (.getfield 70, 3) := by decide +kernel
theorem dX5_goesOn_63 : decode cX5_goesOn 63 = .ok (.iload_n 1, 1) := by decide +kernel
theorem dX5_goesOn_64 : decode cX5_goesOn 64 = .ok (.bipush 7, 2) := by decide +kernel
theorem dX5_goesOn_66 : decode cX5_goesOn 66 = .ok (.iadd, 1) := by decide +kernel
theorem dX5_goesOn_67 : decode cX5_goesOn 67 = .ok (.iload 4, 2) := by decide +kernel
theorem dX5_goesOn_69 : decode cX5_goesOn 69 = .ok (.iadd, 1) := by decide +kernel
theorem dX5_goesOn_70 : decode cX5_goesOn 70 = .ok (.iaload, 1) := by decide +kernel
theorem dX5_goesOn_71 : decode cX5_goesOn 71 = .ok (.isub, 1) := by decide +kernel
theorem dX5_goesOn_72 : decode cX5_goesOn 72 = .ok (.iconst 1, 1) := by decide +kernel
theorem dX5_goesOn_73 : decode cX5_goesOn 73 = .ok (.iadd, 1) := by decide +kernel
theorem dX5_goesOn_74 : decode cX5_goesOn 74 = .ok (.aload_n 0, 1) := by decide +kernel
theorem dX5_goesOn_75 : decode cX5_goesOn 75 = .ok (.getfield 22, 3) := by decide +kernel
theorem dX5_goesOn_78 : decode cX5_goesOn 78 = .ok (.iload 4, 2) := by decide +kernel
theorem dX5_goesOn_80 : decode cX5_goesOn 80 = .ok (.iaload, 1) := by decide +kernel
theorem dX5_goesOn_81 : decode cX5_goesOn 81 = .ok (.if_icmp .lt 14, 3) := by decide +kernel
theorem dX5_goesOn_84 : decode cX5_goesOn 84 = .ok (.aload_n 0, 1) := by decide +kernel
theorem dX5_goesOn_85 : decode cX5_goesOn 85 = .ok (.iload_n 1, 1) := by decide +kernel
theorem dX5_goesOn_86 : decode cX5_goesOn 86 = .ok (.iload 4, 2) := by decide +kernel

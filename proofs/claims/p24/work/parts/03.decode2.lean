theorem dL_act_205 : decode cL_act 205 = .ok (.iload_n 2, 1) := by decide +kernel
theorem dL_act_206 : decode cL_act 206 = .ok (.bipush 9, 2) := by decide +kernel
theorem dL_act_208 : decode cL_act 208 = .ok (.ishr, 1) := by decide +kernel
theorem dL_act_209 : decode cL_act 209 = .ok (.iconst 3, 1) := by decide +kernel
theorem dL_act_210 : decode cL_act 210 = .ok (.invokestatic 57, 3) := by decide +kernel
theorem dL_act_213 : decode cL_act 213 = .ok (.ifCond .ne 9, 3) := by decide +kernel
theorem dL_act_216 : decode cL_act 216 = .ok (.sipush 150, 3) := by decide +kernel
theorem dL_act_219 : decode cL_act 219 = .ok (.goto 5, 3) := by decide +kernel
theorem dL_act_222 : decode cL_act 222 = .ok (.bipush 100, 2) := by decide +kernel
theorem dL_act_224 : decode cL_act 224 = .ok (.invokestatic 57, 3) := by decide +kernel
theorem dL_act_227 : decode cL_act 227 = .ok (.iadd, 1) := by decide +kernel
theorem dL_act_228 : decode cL_act 228 = .ok (.invokestatic 79, 3) := by decide +kernel
theorem dL_act_231 : decode cL_act 231 = .ok (.ireturn, 1) := by decide +kernel
theorem dL_hangs_0 : decode cL_hangs 0 = .ok (.iconst 0, 1) := by decide +kernel
theorem dL_hangs_1 : decode cL_hangs 1 = .ok (.istore_n 1, 1) := by decide +kernel
theorem dL_hangs_2 : decode cL_hangs 2 = .ok (.iconst 0, 1) := by decide +kernel
theorem dL_hangs_3 : decode cL_hangs 3 = .ok (.istore_n 2, 1) := by decide +kernel
theorem dL_hangs_4 : decode cL_hangs 4 = .ok (.bipush 9, 2) := by decide +kernel
theorem dL_hangs_6 : decode cL_hangs 6 = .ok (.newarray .int, 2) := by decide +kernel
theorem dL_hangs_8 : decode cL_hangs 8 = .ok (.astore_n 3, 1) := by decide +kernel
theorem dL_hangs_9 : decode cL_hangs 9 = .ok (.iconst 0, 1) := by decide +kernel
theorem dL_hangs_10 : decode cL_hangs 10 = .ok (.istore 4, 2) := by decide +kernel
theorem dL_hangs_12 : decode cL_hangs 12 = .ok (.iload 4, 2) := by decide +kernel
theorem dL_hangs_14 : decode cL_hangs 14 = .ok (.iconst 3, 1) := by decide +kernel
theorem dL_hangs_15 : decode cL_hangs 15 = .ok (.if_icmp .ge 166, 3) := by decide +kernel
theorem dL_hangs_18 : decode cL_hangs 18 = .ok (.bipush (-5), 2) := by decide +kernel
theorem dL_hangs_20 : decode cL_hangs 20 = .ok (.istore 5, 2) := by decide +kernel
theorem dL_hangs_22 : decode cL_hangs 22 = .ok (.iconst 0, 1) := by decide +kernel
theorem dL_hangs_23 : decode cL_hangs 23 = .ok (.istore 6, 2) := by decide +kernel
theorem dL_hangs_25 : decode cL_hangs 25 = .ok (.aload_n 0, 1) := by decide +kernel
theorem dL_hangs_26 : decode cL_hangs 26 = .ok (.iload 4, 2) := by decide +kernel
theorem dL_hangs_28 : decode cL_hangs 28 = .ok (.iload 6, 2) := by decide +kernel
theorem dL_hangs_30 : decode cL_hangs 30 = .ok (.invokestatic 82, 3) := by decide +kernel
theorem dL_hangs_33 : decode cL_hangs 33 = .ok (.iconst (-1), 1) := by decide +kernel
theorem dL_hangs_34 : decode cL_hangs 34 = .ok (.if_icmp .eq 141, 3) := by decide +kernel
theorem dL_hangs_37 : decode cL_hangs 37 = .ok (.aload_n 0, 1) := by decide +kernel
theorem dL_hangs_38 : decode cL_hangs 38 = .ok (.iload 4, 2) := by decide +kernel
theorem dL_hangs_40 : decode cL_hangs 40 = .ok (.iload 6, 2) := by decide +kernel
theorem dL_hangs_42 : decode cL_hangs 42 = .ok (.invokestatic 82, 3) := by decide +kernel
theorem dL_hangs_45 : decode cL_hangs 45 = .ok (.istore 7, 2) := by decide +kernel
theorem dL_hangs_47 : decode cL_hangs 47 = .ok (.iload 7, 2) := by decide +kernel
theorem dL_hangs_49 : decode cL_hangs 49 = .ok (.iconst 2, 1) := by decide +kernel
theorem dL_hangs_50 : decode cL_hangs 50 = .ok (.iadd, 1) := by decide +kernel
theorem dL_hangs_51 : decode cL_hangs 51 = .ok (.bipush 10, 2) := by decide +kernel
theorem dL_hangs_53 : decode cL_hangs 53 = .ok (.idiv, 1) := by decide +kernel
theorem dL_hangs_54 : decode cL_hangs 54 = .ok (.iconst 1, 1) := by decide +kernel
theorem dL_hangs_55 : decode cL_hangs 55 = .ok (.isub, 1) := by decide +kernel
theorem dL_hangs_56 : decode cL_hangs 56 = .ok (.istore 8, 2) := by decide +kernel
theorem dL_hangs_58 : decode cL_hangs 58 = .ok (.iload 7, 2) := by decide +kernel
theorem dL_hangs_60 : decode cL_hangs 60 = .ok (.iconst 2, 1) := by decide +kernel
theorem dL_hangs_61 : decode cL_hangs 61 = .ok (.iadd, 1) := by decide +kernel
theorem dL_hangs_62 : decode cL_hangs 62 = .ok (.bipush 10, 2) := by decide +kernel
theorem dL_hangs_64 : decode cL_hangs 64 = .ok (.irem, 1) := by decide +kernel
theorem dL_hangs_65 : decode cL_hangs 65 = .ok (.iconst 5, 1) := by decide +kernel
theorem dL_hangs_66 : decode cL_hangs 66 = .ok (.if_icmp .ge 19, 3) := by decide +kernel
theorem dL_hangs_69 : decode cL_hangs 69 = .ok (.iload 8, 2) := by decide +kernel
theorem dL_hangs_71 : decode cL_hangs 71 = .ok (.ifCond .lt 14, 3) := by decide +kernel
theorem dL_hangs_74 : decode cL_hangs 74 = .ok (.iload 8, 2) := by decide +kernel
theorem dL_hangs_76 : decode cL_hangs 76 = .ok (.bipush 9, 2) := by decide +kernel
theorem dL_hangs_78 : decode cL_hangs 78 = .ok (.if_icmp .ge 7, 3) := by decide +kernel
theorem dL_hangs_81 : decode cL_hangs 81 = .ok (.iconst 1, 1) := by decide +kernel
theorem dL_hangs_82 : decode cL_hangs 82 = .ok (.goto 4, 3) := by decide +kernel
theorem dL_hangs_85 : decode cL_hangs 85 = .ok (.iconst 0, 1) := by decide +kernel
theorem dL_hangs_86 : decode cL_hangs 86 = .ok (.istore 9, 2) := by decide +kernel
theorem dL_hangs_88 : decode cL_hangs 88 = .ok (.iload 7, 2) := by decide +kernel
theorem dL_hangs_90 : decode cL_hangs 90 = .ok (.ifCond .lt 31, 3) := by decide +kernel
theorem dL_hangs_93 : decode cL_hangs 93 = .ok (.iload 7, 2) := by decide +kernel
theorem dL_hangs_95 : decode cL_hangs 95 = .ok (.bipush 99, 2) := by decide +kernel
theorem dL_hangs_97 : decode cL_hangs 97 = .ok (.if_icmp .gt 24, 3) := by decide +kernel
theorem dL_hangs_100 : decode cL_hangs 100 = .ok (.iload 6, 2) := by decide +kernel
theorem dL_hangs_102 : decode cL_hangs 102 = .ok (.ifCond .le 12, 3) := by decide +kernel
theorem dL_hangs_105 : decode cL_hangs 105 = .ok (.iload 7, 2) := by decide +kernel
theorem dL_hangs_107 : decode cL_hangs 107 = .ok (.iload 5, 2) := by decide +kernel
theorem dL_hangs_109 : decode cL_hangs 109 = .ok (.isub, 1) := by decide +kernel
theorem dL_hangs_110 : decode cL_hangs 110 = .ok (.iconst 5, 1) := by decide +kernel
theorem dL_hangs_111 : decode cL_hangs 111 = .ok (.if_icmp .lt 10, 3) := by decide +kernel
theorem dL_hangs_114 : decode cL_hangs 114 = .ok (.iload 6, 2) := by decide +kernel
theorem dL_hangs_116 : decode cL_hangs 116 = .ok (.bipush 19, 2) := by decide +kernel
theorem dL_hangs_118 : decode cL_hangs 118 = .ok (.if_icmp .le 5, 3) := by decide +kernel
theorem dL_hangs_121 : decode cL_hangs 121 = .ok (.iconst 0, 1) := by decide +kernel
theorem dL_hangs_122 : decode cL_hangs 122 = .ok (.ireturn, 1) := by decide +kernel
theorem dL_hangs_123 : decode cL_hangs 123 = .ok (.aload_n 3, 1) := by decide +kernel
theorem dL_hangs_124 : decode cL_hangs 124 = .ok (.iload 9, 2) := by decide +kernel
theorem dL_hangs_126 : decode cL_hangs 126 = .ok (.ifCond .eq 8, 3) := by decide +kernel
theorem dL_hangs_129 : decode cL_hangs 129 = .ok (.iload 8, 2) := by decide +kernel
theorem dL_hangs_131 : decode cL_hangs 131 = .ok (.goto 4, 3) := by decide +kernel
theorem dL_hangs_134 : decode cL_hangs 134 = .ok (.iconst 0, 1) := by decide +kernel
theorem dL_hangs_135 : decode cL_hangs 135 = .ok (.dup2, 1) := by decide +kernel
theorem dL_hangs_136 : decode cL_hangs 136 = .ok (.iaload, 1) := by decide +kernel
theorem dL_hangs_137 : decode cL_hangs 137 = .ok (.iload 9, 2) := by decide +kernel
theorem dL_hangs_139 : decode cL_hangs 139 = .ok (.ifCond .eq 7, 3) := by decide +kernel
theorem dL_hangs_142 : decode cL_hangs 142 = .ok (.iconst 1, 1) := by decide +kernel
theorem dL_hangs_143 : decode cL_hangs 143 = .ok (.goto 4, 3) := by decide +kernel
theorem dL_hangs_146 : decode cL_hangs 146 = .ok (.iconst 0, 1) := by decide +kernel
theorem dL_hangs_147 : decode cL_hangs 147 = .ok (.iadd, 1) := by decide +kernel
theorem dL_hangs_148 : decode cL_hangs 148 = .ok (.iastore, 1) := by decide +kernel
theorem dL_hangs_149 : decode cL_hangs 149 = .ok (.iload_n 2, 1) := by decide +kernel
theorem dL_hangs_150 : decode cL_hangs 150 = .ok (.iload 9, 2) := by decide +kernel
theorem dL_hangs_152 : decode cL_hangs 152 = .ok (.ifCond .eq 7, 3) := by decide +kernel
theorem dL_hangs_155 : decode cL_hangs 155 = .ok (.iconst 1, 1) := by decide +kernel
theorem dL_hangs_156 : decode cL_hangs 156 = .ok (.goto 4, 3) := by decide +kernel
theorem dL_hangs_159 : decode cL_hangs 159 = .ok (.iconst 0, 1) := by decide +kernel
theorem dL_hangs_160 : decode cL_hangs 160 = .ok (.iadd, 1) := by decide +kernel
theorem dL_hangs_161 : decode cL_hangs 161 = .ok (.istore_n 2, 1) := by decide +kernel
theorem dL_hangs_162 : decode cL_hangs 162 = .ok (.iinc 1 1, 3) := by decide +kernel
theorem dL_hangs_165 : decode cL_hangs 165 = .ok (.iload 7, 2) := by decide +kernel
theorem dL_hangs_167 : decode cL_hangs 167 = .ok (.istore 5, 2) := by decide +kernel
theorem dL_hangs_169 : decode cL_hangs 169 = .ok (.iinc 6 1, 3) := by decide +kernel
theorem dL_hangs_172 : decode cL_hangs 172 = .ok (.goto (-147), 3) := by decide +kernel
theorem dL_hangs_175 : decode cL_hangs 175 = .ok (.iinc 4 1, 3) := by decide +kernel
theorem dL_hangs_178 : decode cL_hangs 178 = .ok (.goto (-166), 3) := by decide +kernel
theorem dL_hangs_181 : decode cL_hangs 181 = .ok (.iconst 0, 1) := by decide +kernel
theorem dL_hangs_182 : decode cL_hangs 182 = .ok (.istore 4, 2) := by decide +kernel
theorem dL_hangs_184 : decode cL_hangs 184 = .ok (.iconst 0, 1) := by decide +kernel
theorem dL_hangs_185 : decode cL_hangs 185 = .ok (.istore 5, 2) := by decide +kernel
theorem dL_hangs_187 : decode cL_hangs 187 = .ok (.iconst 1, 1) := by decide +kernel
theorem dL_hangs_188 : decode cL_hangs 188 = .ok (.istore 6, 2) := by decide +kernel
theorem dL_hangs_190 : decode cL_hangs 190 = .ok (.iconst 1, 1) := by decide +kernel
theorem dL_hangs_191 : decode cL_hangs 191 = .ok (.istore 7, 2) := by decide +kernel
theorem dL_hangs_193 : decode cL_hangs 193 = .ok (.iconst 0, 1) := by decide +kernel
theorem dL_hangs_194 : decode cL_hangs 194 = .ok (.istore 8, 2) := by decide +kernel
theorem dL_hangs_196 : decode cL_hangs 196 = .ok (.iload 8, 2) := by decide +kernel
theorem dL_hangs_198 : decode cL_hangs 198 = .ok (.bipush 9, 2) := by decide +kernel
theorem dL_hangs_200 : decode cL_hangs 200 = .ok (.if_icmp .ge 223, 3) := by decide +kernel
theorem dL_hangs_203 : decode cL_hangs 203 = .ok (.aload_n 0, 1) := by decide +kernel
theorem dL_hangs_204 : decode cL_hangs 204 = .ok (.iload 8, 2) := by decide +kernel
theorem dL_hangs_206 : decode cL_hangs 206 = .ok (.iconst 1, 1) := by decide +kernel
theorem dL_hangs_207 : decode cL_hangs 207 = .ok (.invokestatic 84, 3) := by decide +kernel
theorem dL_hangs_210 : decode cL_hangs 210 = .ok (.istore 9, 2) := by decide +kernel
theorem dL_hangs_212 : decode cL_hangs 212 = .ok (.aload_n 0, 1) := by decide +kernel
theorem dL_hangs_213 : decode cL_hangs 213 = .ok (.iload 8, 2) := by decide +kernel
theorem dL_hangs_215 : decode cL_hangs 215 = .ok (.iconst 2, 1) := by decide +kernel
theorem dL_hangs_216 : decode cL_hangs 216 = .ok (.invokestatic 84, 3) := by decide +kernel
theorem dL_hangs_219 : decode cL_hangs 219 = .ok (.istore 10, 2) := by decide +kernel
theorem dL_hangs_221 : decode cL_hangs 221 = .ok (.aload_n 0, 1) := by decide +kernel
theorem dL_hangs_222 : decode cL_hangs 222 = .ok (.iconst 0, 1) := by decide +kernel
theorem dL_hangs_223 : decode cL_hangs 223 = .ok (.invokestatic 86, 3) := by decide +kernel
theorem dL_hangs_226 : decode cL_hangs 226 = .ok (.ifCond .ne 8, 3) := by decide +kernel
theorem dL_hangs_229 : decode cL_hangs 229 = .ok (.iload 9, 2) := by decide +kernel
theorem dL_hangs_231 : decode cL_hangs 231 = .ok (.goto 5, 3) := by decide +kernel
theorem dL_hangs_234 : decode cL_hangs 234 = .ok (.iload 10, 2) := by decide +kernel
theorem dL_hangs_236 : decode cL_hangs 236 = .ok (.istore 11, 2) := by decide +kernel
theorem dL_hangs_238 : decode cL_hangs 238 = .ok (.iload 9, 2) := by decide +kernel
theorem dL_hangs_240 : decode cL_hangs 240 = .ok (.iload 10, 2) := by decide +kernel
theorem dL_hangs_242 : decode cL_hangs 242 = .ok (.iadd, 1) := by decide +kernel
theorem dL_hangs_243 : decode cL_hangs 243 = .ok (.iload 11, 2) := by decide +kernel
theorem dL_hangs_245 : decode cL_hangs 245 = .ok (.isub, 1) := by decide +kernel
theorem dL_hangs_246 : decode cL_hangs 246 = .ok (.istore 12, 2) := by decide +kernel
theorem dL_hangs_248 : decode cL_hangs 248 = .ok (.iload 4, 2) := by decide +kernel
theorem dL_hangs_250 : decode cL_hangs 250 = .ok (.iload 9, 2) := by decide +kernel
theorem dL_hangs_252 : decode cL_hangs 252 = .ok (.iadd, 1) := by decide +kernel
theorem dL_hangs_253 : decode cL_hangs 253 = .ok (.istore 4, 2) := by decide +kernel
theorem dL_hangs_255 : decode cL_hangs 255 = .ok (.iload 5, 2) := by decide +kernel
theorem dL_hangs_257 : decode cL_hangs 257 = .ok (.iload 10, 2) := by decide +kernel
theorem dL_hangs_259 : decode cL_hangs 259 = .ok (.iadd, 1) := by decide +kernel
theorem dL_hangs_260 : decode cL_hangs 260 = .ok (.istore 5, 2) := by decide +kernel
theorem dL_hangs_262 : decode cL_hangs 262 = .ok (.iload 6, 2) := by decide +kernel
theorem dL_hangs_264 : decode cL_hangs 264 = .ok (.ifCond .eq 13, 3) := by decide +kernel
theorem dL_hangs_267 : decode cL_hangs 267 = .ok (.iload 9, 2) := by decide +kernel
theorem dL_hangs_269 : decode cL_hangs 269 = .ok (.iconst 3, 1) := by decide +kernel
theorem dL_hangs_270 : decode cL_hangs 270 = .ok (.if_icmp .ne 7, 3) := by decide +kernel
theorem dL_hangs_273 : decode cL_hangs 273 = .ok (.iconst 1, 1) := by decide +kernel
theorem dL_hangs_274 : decode cL_hangs 274 = .ok (.goto 4, 3) := by decide +kernel
theorem dL_hangs_277 : decode cL_hangs 277 = .ok (.iconst 0, 1) := by decide +kernel
theorem dL_hangs_278 : decode cL_hangs 278 = .ok (.istore 6, 2) := by decide +kernel
theorem dL_hangs_280 : decode cL_hangs 280 = .ok (.iload 7, 2) := by decide +kernel
theorem dL_hangs_282 : decode cL_hangs 282 = .ok (.ifCond .eq 13, 3) := by decide +kernel
theorem dL_hangs_285 : decode cL_hangs 285 = .ok (.iload 10, 2) := by decide +kernel
theorem dL_hangs_287 : decode cL_hangs 287 = .ok (.iconst 3, 1) := by decide +kernel
theorem dL_hangs_288 : decode cL_hangs 288 = .ok (.if_icmp .ne 7, 3) := by decide +kernel
theorem dL_hangs_291 : decode cL_hangs 291 = .ok (.iconst 1, 1) := by decide +kernel
theorem dL_hangs_292 : decode cL_hangs 292 = .ok (.goto 4, 3) := by decide +kernel
theorem dL_hangs_295 : decode cL_hangs 295 = .ok (.iconst 0, 1) := by decide +kernel
theorem dL_hangs_296 : decode cL_hangs 296 = .ok (.istore 7, 2) := by decide +kernel
theorem dL_hangs_298 : decode cL_hangs 298 = .ok (.aload_n 3, 1) := by decide +kernel
theorem dL_hangs_299 : decode cL_hangs 299 = .ok (.iload 8, 2) := by decide +kernel
theorem dL_hangs_301 : decode cL_hangs 301 = .ok (.iaload, 1) := by decide +kernel
theorem dL_hangs_302 : decode cL_hangs 302 = .ok (.iconst 3, 1) := by decide +kernel
theorem dL_hangs_303 : decode cL_hangs 303 = .ok (.iload 11, 2) := by decide +kernel
theorem dL_hangs_305 : decode cL_hangs 305 = .ok (.isub, 1) := by decide +kernel
theorem dL_hangs_306 : decode cL_hangs 306 = .ok (.if_icmp .ge 10, 3) := by decide +kernel
theorem dL_hangs_309 : decode cL_hangs 309 = .ok (.aload_n 3, 1) := by decide +kernel
theorem dL_hangs_310 : decode cL_hangs 310 = .ok (.iload 8, 2) := by decide +kernel
theorem dL_hangs_312 : decode cL_hangs 312 = .ok (.iaload, 1) := by decide +kernel
theorem dL_hangs_313 : decode cL_hangs 313 = .ok (.goto 7, 3) := by decide +kernel
theorem dL_hangs_316 : decode cL_hangs 316 = .ok (.iconst 3, 1) := by decide +kernel
theorem dL_hangs_317 : decode cL_hangs 317 = .ok (.iload 11, 2) := by decide +kernel
theorem dL_hangs_319 : decode cL_hangs 319 = .ok (.isub, 1) := by decide +kernel
theorem dL_hangs_320 : decode cL_hangs 320 = .ok (.istore 13, 2) := by decide +kernel
theorem dL_hangs_322 : decode cL_hangs 322 = .ok (.aload_n 3, 1) := by decide +kernel
theorem dL_hangs_323 : decode cL_hangs 323 = .ok (.iload 8, 2) := by decide +kernel
theorem dL_hangs_325 : decode cL_hangs 325 = .ok (.iaload, 1) := by decide +kernel
theorem dL_hangs_326 : decode cL_hangs 326 = .ok (.iload 13, 2) := by decide +kernel
theorem dL_hangs_328 : decode cL_hangs 328 = .ok (.isub, 1) := by decide +kernel
theorem dL_hangs_329 : decode cL_hangs 329 = .ok (.istore 14, 2) := by decide +kernel
theorem dL_hangs_331 : decode cL_hangs 331 = .ok (.aload_n 0, 1) := by decide +kernel
theorem dL_hangs_332 : decode cL_hangs 332 = .ok (.iload 8, 2) := by decide +kernel
theorem dL_hangs_334 : decode cL_hangs 334 = .ok (.iconst 0, 1) := by decide +kernel
theorem dL_hangs_335 : decode cL_hangs 335 = .ok (.invokestatic 84, 3) := by decide +kernel
theorem dL_hangs_338 : decode cL_hangs 338 = .ok (.aload_n 3, 1) := by decide +kernel
theorem dL_hangs_339 : decode cL_hangs 339 = .ok (.iload 8, 2) := by decide +kernel
theorem dL_hangs_341 : decode cL_hangs 341 = .ok (.iaload, 1) := by decide +kernel
theorem dL_hangs_342 : decode cL_hangs 342 = .ok (.if_icmp .ne 73, 3) := by decide +kernel
theorem dL_hangs_345 : decode cL_hangs 345 = .ok (.aload_n 3, 1) := by decide +kernel
theorem dL_hangs_346 : decode cL_hangs 346 = .ok (.iload 8, 2) := by decide +kernel
theorem dL_hangs_348 : decode cL_hangs 348 = .ok (.iaload, 1) := by decide +kernel
theorem dL_hangs_349 : decode cL_hangs 349 = .ok (.iconst 3, 1) := by decide +kernel
theorem dL_hangs_350 : decode cL_hangs 350 = .ok (.if_icmp .gt 65, 3) := by decide +kernel
theorem dL_hangs_353 : decode cL_hangs 353 = .ok (.iload 9, 2) := by decide +kernel
theorem dL_hangs_355 : decode cL_hangs 355 = .ok (.ifCond .lt 60, 3) := by decide +kernel
theorem dL_hangs_358 : decode cL_hangs 358 = .ok (.iload 9, 2) := by decide +kernel
theorem dL_hangs_360 : decode cL_hangs 360 = .ok (.iconst 3, 1) := by decide +kernel
theorem dL_hangs_361 : decode cL_hangs 361 = .ok (.if_icmp .gt 54, 3) := by decide +kernel
theorem dL_hangs_364 : decode cL_hangs 364 = .ok (.iload 10, 2) := by decide +kernel
theorem dL_hangs_366 : decode cL_hangs 366 = .ok (.ifCond .lt 49, 3) := by decide +kernel
theorem dL_hangs_369 : decode cL_hangs 369 = .ok (.iload 10, 2) := by decide +kernel
theorem dL_hangs_371 : decode cL_hangs 371 = .ok (.iconst 3, 1) := by decide +kernel
theorem dL_hangs_372 : decode cL_hangs 372 = .ok (.if_icmp .gt 43, 3) := by decide +kernel
theorem dL_hangs_375 : decode cL_hangs 375 = .ok (.aload_n 0, 1) := by decide +kernel
theorem dL_hangs_376 : decode cL_hangs 376 = .ok (.iload 8, 2) := by decide +kernel
theorem dL_hangs_378 : decode cL_hangs 378 = .ok (.iconst 3, 1) := by decide +kernel
theorem dL_hangs_379 : decode cL_hangs 379 = .ok (.invokestatic 84, 3) := by decide +kernel
theorem dL_hangs_382 : decode cL_hangs 382 = .ok (.iload 13, 2) := by decide +kernel
theorem dL_hangs_384 : decode cL_hangs 384 = .ok (.if_icmp .ne 31, 3) := by decide +kernel
theorem dL_hangs_387 : decode cL_hangs 387 = .ok (.aload_n 0, 1) := by decide +kernel
theorem dL_hangs_388 : decode cL_hangs 388 = .ok (.iload 8, 2) := by decide +kernel
theorem dL_hangs_390 : decode cL_hangs 390 = .ok (.iconst 4, 1) := by decide +kernel
theorem dL_hangs_391 : decode cL_hangs 391 = .ok (.invokestatic 84, 3) := by decide +kernel
theorem dL_hangs_394 : decode cL_hangs 394 = .ok (.iload 14, 2) := by decide +kernel
theorem dL_hangs_396 : decode cL_hangs 396 = .ok (.iconst 3, 1) := by decide +kernel
theorem dL_hangs_397 : decode cL_hangs 397 = .ok (.iload 12, 2) := by decide +kernel
theorem dL_hangs_399 : decode cL_hangs 399 = .ok (.isub, 1) := by decide +kernel
theorem dL_hangs_400 : decode cL_hangs 400 = .ok (.if_icmp .ge 8, 3) := by decide +kernel
theorem dL_hangs_403 : decode cL_hangs 403 = .ok (.iload 14, 2) := by decide +kernel
theorem dL_hangs_405 : decode cL_hangs 405 = .ok (.goto 7, 3) := by decide +kernel
theorem dL_hangs_408 : decode cL_hangs 408 = .ok (.iconst 3, 1) := by decide +kernel
theorem dL_hangs_409 : decode cL_hangs 409 = .ok (.iload 12, 2) := by decide +kernel
theorem dL_hangs_411 : decode cL_hangs 411 = .ok (.isub, 1) := by decide +kernel
theorem dL_hangs_412 : decode cL_hangs 412 = .ok (.if_icmp .eq 5, 3) := by decide +kernel
theorem dL_hangs_415 : decode cL_hangs 415 = .ok (.iconst 0, 1) := by decide +kernel
theorem dL_hangs_416 : decode cL_hangs 416 = .ok (.ireturn, 1) := by decide +kernel
theorem dL_hangs_417 : decode cL_hangs 417 = .ok (.iinc 8 1, 3) := by decide +kernel
theorem dL_hangs_420 : decode cL_hangs 420 = .ok (.goto (-224), 3) := by decide +kernel
theorem dL_hangs_423 : decode cL_hangs 423 = .ok (.aload_n 0, 1) := by decide +kernel
theorem dL_hangs_424 : decode cL_hangs 424 = .ok (.iconst 2, 1) := by decide +kernel
theorem dL_hangs_425 : decode cL_hangs 425 = .ok (.invokestatic 86, 3) := by decide +kernel
theorem dL_hangs_428 : decode cL_hangs 428 = .ok (.iload_n 1, 1) := by decide +kernel
theorem dL_hangs_429 : decode cL_hangs 429 = .ok (.if_icmp .ne 54, 3) := by decide +kernel
theorem dL_hangs_432 : decode cL_hangs 432 = .ok (.aload_n 0, 1) := by decide +kernel
theorem dL_hangs_433 : decode cL_hangs 433 = .ok (.iconst 3, 1) := by decide +kernel
theorem dL_hangs_434 : decode cL_hangs 434 = .ok (.invokestatic 86, 3) := by decide +kernel
theorem dL_hangs_437 : decode cL_hangs 437 = .ok (.iload_n 2, 1) := by decide +kernel
theorem dL_hangs_438 : decode cL_hangs 438 = .ok (.if_icmp .ne 45, 3) := by decide +kernel
theorem dL_hangs_441 : decode cL_hangs 441 = .ok (.aload_n 0, 1) := by decide +kernel
theorem dL_hangs_442 : decode cL_hangs 442 = .ok (.iconst 4, 1) := by decide +kernel
theorem dL_hangs_443 : decode cL_hangs 443 = .ok (.invokestatic 86, 3) := by decide +kernel
theorem dL_hangs_446 : decode cL_hangs 446 = .ok (.iload 4, 2) := by decide +kernel
theorem dL_hangs_448 : decode cL_hangs 448 = .ok (.if_icmp .ne 35, 3) := by decide +kernel
theorem dL_hangs_451 : decode cL_hangs 451 = .ok (.aload_n 0, 1) := by decide +kernel
theorem dL_hangs_452 : decode cL_hangs 452 = .ok (.iconst 5, 1) := by decide +kernel
theorem dL_hangs_453 : decode cL_hangs 453 = .ok (.invokestatic 86, 3) := by decide +kernel
theorem dL_hangs_456 : decode cL_hangs 456 = .ok (.iload 5, 2) := by decide +kernel
theorem dL_hangs_458 : decode cL_hangs 458 = .ok (.if_icmp .ne 25, 3) := by decide +kernel
theorem dL_hangs_461 : decode cL_hangs 461 = .ok (.aload_n 0, 1) := by decide +kernel
theorem dL_hangs_462 : decode cL_hangs 462 = .ok (.invokevirtual 88, 3) := by decide +kernel
theorem dL_hangs_465 : decode cL_hangs 465 = .ok (.iload 4, 2) := by decide +kernel
theorem dL_hangs_467 : decode cL_hangs 467 = .ok (.iload 5, 2) := by decide +kernel
theorem dL_hangs_469 : decode cL_hangs 469 = .ok (.iadd, 1) := by decide +kernel
theorem dL_hangs_470 : decode cL_hangs 470 = .ok (.i2d, 1) := by decide +kernel
theorem dL_hangs_471 : decode cL_hangs 471 = .ok (.ldc2_w 92, 3) := by decide +kernel
theorem dL_hangs_474 : decode cL_hangs 474 = .ok (.ddiv, 1) := by decide +kernel
theorem dL_hangs_475 : decode cL_hangs 475 = .ok (.dcmp .l, 1) := by decide +kernel
theorem dL_hangs_476 : decode cL_hangs 476 = .ok (.ifCond .ne 7, 3) := by decide +kernel
theorem dL_hangs_479 : decode cL_hangs 479 = .ok (.iconst 1, 1) := by decide +kernel
theorem dL_hangs_480 : decode cL_hangs 480 = .ok (.goto 4, 3) := by decide +kernel
theorem dL_hangs_483 : decode cL_hangs 483 = .ok (.iconst 0, 1) := by decide +kernel
theorem dL_hangs_484 : decode cL_hangs 484 = .ok (.istore 8, 2) := by decide +kernel
theorem dL_hangs_486 : decode cL_hangs 486 = .ok (.iload 8, 2) := by decide +kernel
theorem dL_hangs_488 : decode cL_hangs 488 = .ok (.ifCond .eq 86, 3) := by decide +kernel
theorem dL_hangs_491 : decode cL_hangs 491 = .ok (.aload_n 0, 1) := by decide +kernel
theorem dL_hangs_492 : decode cL_hangs 492 = .ok (.iconst 1, 1) := by decide +kernel
theorem dL_hangs_493 : decode cL_hangs 493 = .ok (.invokestatic 86, 3) := by decide +kernel
theorem dL_hangs_496 : decode cL_hangs 496 = .ok (.ifCond .lt 78, 3) := by decide +kernel
theorem dL_hangs_499 : decode cL_hangs 499 = .ok (.aload_n 0, 1) := by decide +kernel
theorem dL_hangs_500 : decode cL_hangs 500 = .ok (.iconst 1, 1) := by decide +kernel
theorem dL_hangs_501 : decode cL_hangs 501 = .ok (.invokestatic 86, 3) := by decide +kernel
theorem dL_hangs_504 : decode cL_hangs 504 = .ok (.iconst 5, 1) := by decide +kernel
theorem dL_hangs_505 : decode cL_hangs 505 = .ok (.if_icmp .ge 69, 3) := by decide +kernel
theorem dL_hangs_508 : decode cL_hangs 508 = .ok (.aload_n 0, 1) := by decide +kernel
theorem dL_hangs_509 : decode cL_hangs 509 = .ok (.bipush 6, 2) := by decide +kernel
theorem dL_hangs_511 : decode cL_hangs 511 = .ok (.invokestatic 86, 3) := by decide +kernel
theorem dL_hangs_514 : decode cL_hangs 514 = .ok (.ifCond .le 7, 3) := by decide +kernel
theorem dL_hangs_517 : decode cL_hangs 517 = .ok (.iconst 1, 1) := by decide +kernel
theorem dL_hangs_518 : decode cL_hangs 518 = .ok (.goto 4, 3) := by decide +kernel
theorem dL_hangs_521 : decode cL_hangs 521 = .ok (.iconst 0, 1) := by decide +kernel
theorem dL_hangs_522 : decode cL_hangs 522 = .ok (.iload 6, 2) := by decide +kernel
theorem dL_hangs_524 : decode cL_hangs 524 = .ok (.ifCond .ne 8, 3) := by decide +kernel
theorem dL_hangs_527 : decode cL_hangs 527 = .ok (.iload 7, 2) := by decide +kernel
theorem dL_hangs_529 : decode cL_hangs 529 = .ok (.ifCond .eq 7, 3) := by decide +kernel
theorem dL_hangs_532 : decode cL_hangs 532 = .ok (.iconst 1, 1) := by decide +kernel
theorem dL_hangs_533 : decode cL_hangs 533 = .ok (.goto 4, 3) := by decide +kernel
theorem dL_hangs_536 : decode cL_hangs 536 = .ok (.iconst 0, 1) := by decide +kernel
theorem dL_hangs_537 : decode cL_hangs 537 = .ok (.if_icmp .ne 37, 3) := by decide +kernel
theorem dL_hangs_540 : decode cL_hangs 540 = .ok (.aload_n 0, 1) := by decide +kernel
theorem dL_hangs_541 : decode cL_hangs 541 = .ok (.bipush 6, 2) := by decide +kernel
theorem dL_hangs_543 : decode cL_hangs 543 = .ok (.invokestatic 86, 3) := by decide +kernel
theorem dL_hangs_546 : decode cL_hangs 546 = .ok (.iconst 1, 1) := by decide +kernel
theorem dL_hangs_547 : decode cL_hangs 547 = .ok (.if_icmp .ne 8, 3) := by decide +kernel
theorem dL_hangs_550 : decode cL_hangs 550 = .ok (.iload 6, 2) := by decide +kernel
theorem dL_hangs_552 : decode cL_hangs 552 = .ok (.ifCond .eq 22, 3) := by decide +kernel
theorem dL_hangs_555 : decode cL_hangs 555 = .ok (.aload_n 0, 1) := by decide +kernel
theorem dL_hangs_556 : decode cL_hangs 556 = .ok (.bipush 6, 2) := by decide +kernel
theorem dL_hangs_558 : decode cL_hangs 558 = .ok (.invokestatic 86, 3) := by decide +kernel
theorem dL_hangs_561 : decode cL_hangs 561 = .ok (.iconst 2, 1) := by decide +kernel
theorem dL_hangs_562 : decode cL_hangs 562 = .ok (.if_icmp .ne 8, 3) := by decide +kernel
theorem dL_hangs_565 : decode cL_hangs 565 = .ok (.iload 7, 2) := by decide +kernel
theorem dL_hangs_567 : decode cL_hangs 567 = .ok (.ifCond .eq 7, 3) := by decide +kernel
theorem dL_hangs_570 : decode cL_hangs 570 = .ok (.iconst 1, 1) := by decide +kernel
theorem dL_hangs_571 : decode cL_hangs 571 = .ok (.goto 4, 3) := by decide +kernel
theorem dL_hangs_574 : decode cL_hangs 574 = .ok (.iconst 0, 1) := by decide +kernel
theorem dL_hangs_575 : decode cL_hangs 575 = .ok (.istore 8, 2) := by decide +kernel
theorem dL_hangs_577 : decode cL_hangs 577 = .ok (.iload 8, 2) := by decide +kernel
theorem dL_hangs_579 : decode cL_hangs 579 = .ok (.ifCond .eq 32, 3) := by decide +kernel
theorem dL_hangs_582 : decode cL_hangs 582 = .ok (.aload_n 0, 1) := by decide +kernel
theorem dL_hangs_583 : decode cL_hangs 583 = .ok (.bipush 6, 2) := by decide +kernel
theorem dL_hangs_585 : decode cL_hangs 585 = .ok (.invokestatic 86, 3) := by decide +kernel
theorem dL_hangs_588 : decode cL_hangs 588 = .ok (.ifCond .gt 19, 3) := by decide +kernel
theorem dL_hangs_591 : decode cL_hangs 591 = .ok (.aload_n 0, 1) := by decide +kernel
theorem dL_hangs_592 : decode cL_hangs 592 = .ok (.iconst 0, 1) := by decide +kernel
theorem dL_hangs_593 : decode cL_hangs 593 = .ok (.invokestatic 86, 3) := by decide +kernel
theorem dL_hangs_596 : decode cL_hangs 596 = .ok (.aload_n 0, 1) := by decide +kernel
theorem dL_hangs_597 : decode cL_hangs 597 = .ok (.bipush 7, 2) := by decide +kernel
theorem dL_hangs_599 : decode cL_hangs 599 = .ok (.invokestatic 86, 3) := by decide +kernel
theorem dL_hangs_602 : decode cL_hangs 602 = .ok (.iconst 2, 1) := by decide +kernel
theorem dL_hangs_603 : decode cL_hangs 603 = .ok (.irem, 1) := by decide +kernel
theorem dL_hangs_604 : decode cL_hangs 604 = .ok (.if_icmp .ne 7, 3) := by decide +kernel
theorem dL_hangs_607 : decode cL_hangs 607 = .ok (.iconst 1, 1) := by decide +kernel
theorem dL_hangs_608 : decode cL_hangs 608 = .ok (.goto 4, 3) := by decide +kernel
theorem dL_hangs_611 : decode cL_hangs 611 = .ok (.iconst 0, 1) := by decide +kernel
theorem dL_hangs_612 : decode cL_hangs 612 = .ok (.ireturn, 1) := by decide +kernel
theorem dL_print_0 : decode cL_print 0 = .ok (.aload_n 0, 1) := by decide +kernel
theorem dL_print_1 : decode cL_print 1 = .ok (.invokevirtual 94, 3) := by decide +kernel
theorem dL_print_4 : decode cL_print 4 = .ok (.i2l, 1) := by decide +kernel
theorem dL_print_5 : decode cL_print 5 = .ok (.lstore_n 1, 1) := by decide +kernel
theorem dL_print_6 : decode cL_print 6 = .ok (.iconst 0, 1) := by decide +kernel
theorem dL_print_7 : decode cL_print 7 = .ok (.istore_n 3, 1) := by decide +kernel
theorem dL_print_8 : decode cL_print 8 = .ok (.iload_n 3, 1) := by decide +kernel
theorem dL_print_9 : decode cL_print 9 = .ok (.bipush 12, 2) := by decide +kernel
theorem dL_print_11 : decode cL_print 11 = .ok (.if_icmp .ge 22, 3) := by decide +kernel
theorem dL_print_14 : decode cL_print 14 = .ok (.ldc2_w 97, 3) := by decide +kernel
theorem dL_print_17 : decode cL_print 17 = .ok (.lload_n 1, 1) := by decide +kernel
theorem dL_print_18 : decode cL_print 18 = .ok (.lmul, 1) := by decide +kernel
theorem dL_print_19 : decode cL_print 19 = .ok (.aload_n 0, 1) := by decide +kernel
theorem dL_print_20 : decode cL_print 20 = .ok (.iload_n 3, 1) := by decide +kernel
theorem dL_print_21 : decode cL_print 21 = .ok (.invokestatic 86, 3) := by decide +kernel
theorem dL_print_24 : decode cL_print 24 = .ok (.i2l, 1) := by decide +kernel
theorem dL_print_25 : decode cL_print 25 = .ok (.ladd, 1) := by decide +kernel
theorem dL_print_26 : decode cL_print 26 = .ok (.lstore_n 1, 1) := by decide +kernel
theorem dL_print_27 : decode cL_print 27 = .ok (.iinc 3 1, 3) := by decide +kernel
theorem dL_print_30 : decode cL_print 30 = .ok (.goto (-22), 3) := by decide +kernel
theorem dL_print_33 : decode cL_print 33 = .ok (.iconst 0, 1) := by decide +kernel
theorem dL_print_34 : decode cL_print 34 = .ok (.istore_n 3, 1) := by decide +kernel
theorem dL_print_35 : decode cL_print 35 = .ok (.iload_n 3, 1) := by decide +kernel
theorem dL_print_36 : decode cL_print 36 = .ok (.bipush 60, 2) := by decide +kernel
theorem dL_print_38 : decode cL_print 38 = .ok (.if_icmp .ge 29, 3) := by decide +kernel
theorem dL_print_41 : decode cL_print 41 = .ok (.ldc2_w 97, 3) := by decide +kernel
theorem dL_print_44 : decode cL_print 44 = .ok (.lload_n 1, 1) := by decide +kernel
theorem dL_print_45 : decode cL_print 45 = .ok (.lmul, 1) := by decide +kernel
theorem dL_print_46 : decode cL_print 46 = .ok (.aload_n 0, 1) := by decide +kernel
theorem dL_print_47 : decode cL_print 47 = .ok (.iload_n 3, 1) := by decide +kernel
theorem dL_print_48 : decode cL_print 48 = .ok (.bipush 20, 2) := by decide +kernel
theorem dL_print_50 : decode cL_print 50 = .ok (.idiv, 1) := by decide +kernel
theorem dL_print_51 : decode cL_print 51 = .ok (.iload_n 3, 1) := by decide +kernel
theorem dL_print_52 : decode cL_print 52 = .ok (.bipush 20, 2) := by decide +kernel
theorem dL_print_54 : decode cL_print 54 = .ok (.irem, 1) := by decide +kernel
theorem dL_print_55 : decode cL_print 55 = .ok (.invokestatic 82, 3) := by decide +kernel
theorem dL_print_58 : decode cL_print 58 = .ok (.i2l, 1) := by decide +kernel
theorem dL_print_59 : decode cL_print 59 = .ok (.ladd, 1) := by decide +kernel
theorem dL_print_60 : decode cL_print 60 = .ok (.lstore_n 1, 1) := by decide +kernel
theorem dL_print_61 : decode cL_print 61 = .ok (.iinc 3 1, 3) := by decide +kernel
theorem dL_print_64 : decode cL_print 64 = .ok (.goto (-29), 3) := by decide +kernel
theorem dL_print_67 : decode cL_print 67 = .ok (.iconst 0, 1) := by decide +kernel
theorem dL_print_68 : decode cL_print 68 = .ok (.istore_n 3, 1) := by decide +kernel
theorem dL_print_69 : decode cL_print 69 = .ok (.iload_n 3, 1) := by decide +kernel
theorem dL_print_70 : decode cL_print 70 = .ok (.bipush 18, 2) := by decide +kernel
theorem dL_print_72 : decode cL_print 72 = .ok (.if_icmp .ge 29, 3) := by decide +kernel
theorem dL_print_75 : decode cL_print 75 = .ok (.ldc2_w 97, 3) := by decide +kernel
theorem dL_print_78 : decode cL_print 78 = .ok (.lload_n 1, 1) := by decide +kernel
theorem dL_print_79 : decode cL_print 79 = .ok (.lmul, 1) := by decide +kernel
theorem dL_print_80 : decode cL_print 80 = .ok (.aload_n 0, 1) := by decide +kernel
theorem dL_print_81 : decode cL_print 81 = .ok (.iload_n 3, 1) := by decide +kernel
theorem dL_print_82 : decode cL_print 82 = .ok (.iconst 2, 1) := by decide +kernel
theorem dL_print_83 : decode cL_print 83 = .ok (.idiv, 1) := by decide +kernel
theorem dL_print_84 : decode cL_print 84 = .ok (.iconst 1, 1) := by decide +kernel
theorem dL_print_85 : decode cL_print 85 = .ok (.iload_n 3, 1) := by decide +kernel
theorem dL_print_86 : decode cL_print 86 = .ok (.iconst 2, 1) := by decide +kernel
theorem dL_print_87 : decode cL_print 87 = .ok (.irem, 1) := by decide +kernel
theorem dL_print_88 : decode cL_print 88 = .ok (.iadd, 1) := by decide +kernel
theorem dL_print_89 : decode cL_print 89 = .ok (.invokestatic 84, 3) := by decide +kernel
theorem dL_print_92 : decode cL_print 92 = .ok (.i2l, 1) := by decide +kernel
theorem dL_print_93 : decode cL_print 93 = .ok (.ladd, 1) := by decide +kernel
theorem dL_print_94 : decode cL_print 94 = .ok (.lstore_n 1, 1) := by decide +kernel
theorem dL_print_95 : decode cL_print 95 = .ok (.iinc 3 1, 3) := by decide +kernel
theorem dL_print_98 : decode cL_print 98 = .ok (.goto (-29), 3) := by decide +kernel
theorem dL_print_101 : decode cL_print 101 = .ok (.lload_n 1, 1) := by decide +kernel
theorem dL_print_102 : decode cL_print 102 = .ok (.lreturn, 1) := by decide +kernel
theorem dL_pushes_0 : decode cL_pushes 0 = .ok (.aload_n 0, 1) := by decide +kernel
theorem dL_pushes_1 : decode cL_pushes 1 = .ok (.invokestatic 99, 3) := by decide +kernel
theorem dL_pushes_4 : decode cL_pushes 4 = .ok (.lstore_n 3, 1) := by decide +kernel
theorem dL_pushes_5 : decode cL_pushes 5 = .ok (.aload_n 0, 1) := by decide +kernel
theorem dL_pushes_6 : decode cL_pushes 6 = .ok (.iload_n 1, 1) := by decide +kernel
theorem dL_pushes_7 : decode cL_pushes 7 = .ok (.iload_n 2, 1) := by decide +kernel
theorem dL_pushes_8 : decode cL_pushes 8 = .ok (.iconst 0, 1) := by decide +kernel
theorem dL_pushes_9 : decode cL_pushes 9 = .ok (.invokestatic 103, 3) := by decide +kernel
theorem dL_pushes_12 : decode cL_pushes 12 = .ok (.istore 5, 2) := by decide +kernel
theorem dL_pushes_14 : decode cL_pushes 14 = .ok (.aload_n 0, 1) := by decide +kernel
theorem dL_pushes_15 : decode cL_pushes 15 = .ok (.iload_n 1, 1) := by decide +kernel
theorem dL_pushes_16 : decode cL_pushes 16 = .ok (.iload_n 2, 1) := by decide +kernel
theorem dL_pushes_17 : decode cL_pushes 17 = .ok (.invokestatic 106, 3) := by decide +kernel
theorem dL_pushes_20 : decode cL_pushes 20 = .ok (.istore 6, 2) := by decide +kernel
theorem dL_pushes_22 : decode cL_pushes 22 = .ok (.aload_n 0, 1) := by decide +kernel
theorem dL_pushes_23 : decode cL_pushes 23 = .ok (.iconst 2, 1) := by decide +kernel
theorem dL_pushes_24 : decode cL_pushes 24 = .ok (.invokestatic 86, 3) := by decide +kernel
theorem dL_pushes_27 : decode cL_pushes 27 = .ok (.istore 7, 2) := by decide +kernel
theorem dL_pushes_29 : decode cL_pushes 29 = .ok (.aload_n 0, 1) := by decide +kernel
theorem dL_pushes_30 : decode cL_pushes 30 = .ok (.bipush 8, 2) := by decide +kernel
theorem dL_pushes_32 : decode cL_pushes 32 = .ok (.invokestatic 86, 3) := by decide +kernel
theorem dL_pushes_35 : decode cL_pushes 35 = .ok (.istore 8, 2) := by decide +kernel
theorem dL_pushes_37 : decode cL_pushes 37 = .ok (.aload_n 0, 1) := by decide +kernel
theorem dL_pushes_38 : decode cL_pushes 38 = .ok (.bipush 9, 2) := by decide +kernel
theorem dL_pushes_40 : decode cL_pushes 40 = .ok (.invokestatic 86, 3) := by decide +kernel
theorem dL_pushes_43 : decode cL_pushes 43 = .ok (.istore 9, 2) := by decide +kernel
theorem dL_pushes_45 : decode cL_pushes 45 = .ok (.aload_n 0, 1) := by decide +kernel
theorem dL_pushes_46 : decode cL_pushes 46 = .ok (.bipush 10, 2) := by decide +kernel
theorem dL_pushes_48 : decode cL_pushes 48 = .ok (.invokestatic 86, 3) := by decide +kernel
theorem dL_pushes_51 : decode cL_pushes 51 = .ok (.istore 10, 2) := by decide +kernel
theorem dL_pushes_53 : decode cL_pushes 53 = .ok (.aload_n 0, 1) := by decide +kernel
theorem dL_pushes_54 : decode cL_pushes 54 = .ok (.bipush 6, 2) := by decide +kernel
theorem dL_pushes_56 : decode cL_pushes 56 = .ok (.invokestatic 86, 3) := by decide +kernel
theorem dL_pushes_59 : decode cL_pushes 59 = .ok (.ifCond .le 7, 3) := by decide +kernel
theorem dL_pushes_62 : decode cL_pushes 62 = .ok (.iconst 1, 1) := by decide +kernel
theorem dL_pushes_63 : decode cL_pushes 63 = .ok (.goto 4, 3) := by decide +kernel
theorem dL_pushes_66 : decode cL_pushes 66 = .ok (.iconst 0, 1) := by decide +kernel
theorem dL_pushes_67 : decode cL_pushes 67 = .ok (.istore 11, 2) := by decide +kernel
theorem dL_pushes_69 : decode cL_pushes 69 = .ok (.aload_n 0, 1) := by decide +kernel
theorem dL_pushes_70 : decode cL_pushes 70 = .ok (.iconst 1, 1) := by decide +kernel
theorem dL_pushes_71 : decode cL_pushes 71 = .ok (.invokestatic 86, 3) := by decide +kernel
theorem dL_pushes_74 : decode cL_pushes 74 = .ok (.iconst 4, 1) := by decide +kernel
theorem dL_pushes_75 : decode cL_pushes 75 = .ok (.if_icmp .ne 7, 3) := by decide +kernel
theorem dL_pushes_78 : decode cL_pushes 78 = .ok (.iconst 1, 1) := by decide +kernel
theorem dL_pushes_79 : decode cL_pushes 79 = .ok (.goto 4, 3) := by decide +kernel
theorem dL_pushes_82 : decode cL_pushes 82 = .ok (.iconst 0, 1) := by decide +kernel
theorem dL_pushes_83 : decode cL_pushes 83 = .ok (.istore 12, 2) := by decide +kernel
theorem dL_pushes_85 : decode cL_pushes 85 = .ok (.aload_n 0, 1) := by decide +kernel
theorem dL_pushes_86 : decode cL_pushes 86 = .ok (.bipush 7, 2) := by decide +kernel
theorem dL_pushes_88 : decode cL_pushes 88 = .ok (.invokestatic 86, 3) := by decide +kernel
theorem dL_pushes_91 : decode cL_pushes 91 = .ok (.istore 13, 2) := by decide +kernel
theorem dL_pushes_93 : decode cL_pushes 93 = .ok (.aload_n 0, 1) := by decide +kernel
theorem dL_pushes_94 : decode cL_pushes 94 = .ok (.iload_n 1, 1) := by decide +kernel
theorem dL_pushes_95 : decode cL_pushes 95 = .ok (.iload_n 2, 1) := by decide +kernel
theorem dL_pushes_96 : decode cL_pushes 96 = .ok (.invokestatic 79, 3) := by decide +kernel
theorem dL_pushes_99 : decode cL_pushes 99 = .ok (.istore 14, 2) := by decide +kernel
theorem dL_pushes_101 : decode cL_pushes 101 = .ok (.iload 5, 2) := by decide +kernel
theorem dL_pushes_103 : decode cL_pushes 103 = .ok (.bipush (-5), 2) := by decide +kernel
theorem dL_pushes_105 : decode cL_pushes 105 = .ok (.if_icmp .lt 14, 3) := by decide +kernel
theorem dL_pushes_108 : decode cL_pushes 108 = .ok (.iload 5, 2) := by decide +kernel
theorem dL_pushes_110 : decode cL_pushes 110 = .ok (.bipush 100, 2) := by decide +kernel
theorem dL_pushes_112 : decode cL_pushes 112 = .ok (.if_icmp .gt 7, 3) := by decide +kernel
theorem dL_pushes_115 : decode cL_pushes 115 = .ok (.iconst 1, 1) := by decide +kernel
theorem dL_pushes_116 : decode cL_pushes 116 = .ok (.goto 4, 3) := by decide +kernel
theorem dL_pushes_119 : decode cL_pushes 119 = .ok (.iconst 0, 1) := by decide +kernel
theorem dL_pushes_120 : decode cL_pushes 120 = .ok (.istore 15, 2) := by decide +kernel
theorem dL_pushes_122 : decode cL_pushes 122 = .ok (.iload 11, 2) := by decide +kernel
theorem dL_pushes_124 : decode cL_pushes 124 = .ok (.ifCond .eq 24, 3) := by decide +kernel
theorem dL_pushes_127 : decode cL_pushes 127 = .ok (.iload 15, 2) := by decide +kernel
theorem dL_pushes_129 : decode cL_pushes 129 = .ok (.ifCond .eq 13, 3) := by decide +kernel
theorem dL_pushes_132 : decode cL_pushes 132 = .ok (.iload 14, 2) := by decide +kernel
theorem dL_pushes_134 : decode cL_pushes 134 = .ok (.iconst (-1), 1) := by decide +kernel
theorem dL_pushes_135 : decode cL_pushes 135 = .ok (.if_icmp .ne 7, 3) := by decide +kernel
theorem dL_pushes_138 : decode cL_pushes 138 = .ok (.iconst 1, 1) := by decide +kernel
theorem dL_pushes_139 : decode cL_pushes 139 = .ok (.goto 4, 3) := by decide +kernel
theorem dL_pushes_142 : decode cL_pushes 142 = .ok (.iconst 0, 1) := by decide +kernel
theorem dL_pushes_143 : decode cL_pushes 143 = .ok (.istore 15, 2) := by decide +kernel
theorem dL_pushes_145 : decode cL_pushes 145 = .ok (.goto 242, 3) := by decide +kernel
theorem dL_pushes_148 : decode cL_pushes 148 = .ok (.iload 12, 2) := by decide +kernel
theorem dL_pushes_150 : decode cL_pushes 150 = .ok (.ifCond .eq 52, 3) := by decide +kernel
theorem dL_pushes_153 : decode cL_pushes 153 = .ok (.iload 15, 2) := by decide +kernel
theorem dL_pushes_155 : decode cL_pushes 155 = .ok (.ifCond .eq 41, 3) := by decide +kernel
theorem dL_pushes_158 : decode cL_pushes 158 = .ok (.iload 14, 2) := by decide +kernel
theorem dL_pushes_160 : decode cL_pushes 160 = .ok (.ifCond .lt 36, 3) := by decide +kernel
theorem dL_pushes_163 : decode cL_pushes 163 = .ok (.aload_n 0, 1) := by decide +kernel
theorem dL_pushes_164 : decode cL_pushes 164 = .ok (.bipush 7, 2) := by decide +kernel
theorem dL_pushes_166 : decode cL_pushes 166 = .ok (.invokestatic 86, 3) := by decide +kernel
theorem dL_pushes_169 : decode cL_pushes 169 = .ok (.iload 13, 2) := by decide +kernel
theorem dL_pushes_171 : decode cL_pushes 171 = .ok (.iconst 1, 1) := by decide +kernel
theorem dL_pushes_172 : decode cL_pushes 172 = .ok (.iadd, 1) := by decide +kernel
theorem dL_pushes_173 : decode cL_pushes 173 = .ok (.if_icmp .ne 23, 3) := by decide +kernel
theorem dL_pushes_176 : decode cL_pushes 176 = .ok (.aload_n 0, 1) := by decide +kernel
theorem dL_pushes_177 : decode cL_pushes 177 = .ok (.iconst 2, 1) := by decide +kernel
theorem dL_pushes_178 : decode cL_pushes 178 = .ok (.invokestatic 86, 3) := by decide +kernel
theorem dL_pushes_181 : decode cL_pushes 181 = .ok (.ifCond .ne 15, 3) := by decide +kernel
theorem dL_pushes_184 : decode cL_pushes 184 = .ok (.aload_n 0, 1) := by decide +kernel
theorem dL_pushes_185 : decode cL_pushes 185 = .ok (.iconst 1, 1) := by decide +kernel
theorem dL_pushes_186 : decode cL_pushes 186 = .ok (.invokestatic 86, 3) := by decide +kernel
theorem dL_pushes_189 : decode cL_pushes 189 = .ok (.ifCond .ne 7, 3) := by decide +kernel
theorem dL_pushes_192 : decode cL_pushes 192 = .ok (.iconst 1, 1) := by decide +kernel
theorem dL_pushes_193 : decode cL_pushes 193 = .ok (.goto 4, 3) := by decide +kernel
theorem dL_pushes_196 : decode cL_pushes 196 = .ok (.iconst 0, 1) := by decide +kernel
theorem dL_pushes_197 : decode cL_pushes 197 = .ok (.istore 15, 2) := by decide +kernel
theorem dL_pushes_199 : decode cL_pushes 199 = .ok (.goto 188, 3) := by decide +kernel
theorem dL_pushes_202 : decode cL_pushes 202 = .ok (.aload_n 0, 1) := by decide +kernel
theorem dL_pushes_203 : decode cL_pushes 203 = .ok (.bipush 8, 2) := by decide +kernel
theorem dL_pushes_205 : decode cL_pushes 205 = .ok (.invokestatic 86, 3) := by decide +kernel
theorem dL_pushes_208 : decode cL_pushes 208 = .ok (.iload 8, 2) := by decide +kernel
theorem dL_pushes_210 : decode cL_pushes 210 = .ok (.isub, 1) := by decide +kernel
theorem dL_pushes_211 : decode cL_pushes 211 = .ok (.aload_n 0, 1) := by decide +kernel
theorem dL_pushes_212 : decode cL_pushes 212 = .ok (.bipush 9, 2) := by decide +kernel
theorem dL_pushes_214 : decode cL_pushes 214 = .ok (.invokestatic 86, 3) := by decide +kernel
theorem dL_pushes_217 : decode cL_pushes 217 = .ok (.iadd, 1) := by decide +kernel
theorem dL_pushes_218 : decode cL_pushes 218 = .ok (.iload 9, 2) := by decide +kernel
theorem dL_pushes_220 : decode cL_pushes 220 = .ok (.isub, 1) := by decide +kernel
theorem dL_pushes_221 : decode cL_pushes 221 = .ok (.istore 16, 2) := by decide +kernel
theorem dL_pushes_223 : decode cL_pushes 223 = .ok (.iload 5, 2) := by decide +kernel
theorem dL_pushes_225 : decode cL_pushes 225 = .ok (.ifCond .lt 10, 3) := by decide +kernel
theorem dL_pushes_228 : decode cL_pushes 228 = .ok (.iload 5, 2) := by decide +kernel
theorem dL_pushes_230 : decode cL_pushes 230 = .ok (.bipush 100, 2) := by decide +kernel
theorem dL_pushes_232 : decode cL_pushes 232 = .ok (.if_icmp .ne 7, 3) := by decide +kernel
theorem dL_pushes_235 : decode cL_pushes 235 = .ok (.iconst 1, 1) := by decide +kernel
theorem dL_pushes_236 : decode cL_pushes 236 = .ok (.goto 4, 3) := by decide +kernel
theorem dL_pushes_239 : decode cL_pushes 239 = .ok (.iconst 0, 1) := by decide +kernel
theorem dL_pushes_240 : decode cL_pushes 240 = .ok (.istore 17, 2) := by decide +kernel
theorem dL_pushes_242 : decode cL_pushes 242 = .ok (.iconst 0, 1) := by decide +kernel
theorem dL_pushes_243 : decode cL_pushes 243 = .ok (.istore 18, 2) := by decide +kernel
theorem dL_pushes_245 : decode cL_pushes 245 = .ok (.iload 18, 2) := by decide +kernel
theorem dL_pushes_247 : decode cL_pushes 247 = .ok (.bipush 20, 2) := by decide +kernel
theorem dL_pushes_249 : decode cL_pushes 249 = .ok (.if_icmp .ge 33, 3) := by decide +kernel
theorem dL_pushes_252 : decode cL_pushes 252 = .ok (.iload 17, 2) := by decide +kernel
theorem dL_pushes_254 : decode cL_pushes 254 = .ok (.ifCond .ne 15, 3) := by decide +kernel
theorem dL_pushes_257 : decode cL_pushes 257 = .ok (.aload_n 0, 1) := by decide +kernel
theorem dL_pushes_258 : decode cL_pushes 258 = .ok (.iload_n 1, 1) := by decide +kernel
theorem dL_pushes_259 : decode cL_pushes 259 = .ok (.iload 18, 2) := by decide +kernel
theorem dL_pushes_261 : decode cL_pushes 261 = .ok (.invokestatic 82, 3) := by decide +kernel
theorem dL_pushes_264 : decode cL_pushes 264 = .ok (.iload 5, 2) := by decide +kernel
theorem dL_pushes_266 : decode cL_pushes 266 = .ok (.if_icmp .ne 7, 3) := by decide +kernel
theorem dL_pushes_269 : decode cL_pushes 269 = .ok (.iconst 1, 1) := by decide +kernel
theorem dL_pushes_270 : decode cL_pushes 270 = .ok (.goto 4, 3) := by decide +kernel
theorem dL_pushes_273 : decode cL_pushes 273 = .ok (.iconst 0, 1) := by decide +kernel
theorem dL_pushes_274 : decode cL_pushes 274 = .ok (.istore 17, 2) := by decide +kernel
theorem dL_pushes_276 : decode cL_pushes 276 = .ok (.iinc 18 1, 3) := by decide +kernel
theorem dL_pushes_279 : decode cL_pushes 279 = .ok (.goto (-34), 3) := by decide +kernel
theorem dL_pushes_282 : decode cL_pushes 282 = .ok (.iload 15, 2) := by decide +kernel
theorem dL_pushes_284 : decode cL_pushes 284 = .ok (.ifCond .eq 100, 3) := by decide +kernel
theorem dL_pushes_287 : decode cL_pushes 287 = .ok (.iload 17, 2) := by decide +kernel
theorem dL_pushes_289 : decode cL_pushes 289 = .ok (.ifCond .eq 95, 3) := by decide +kernel
theorem dL_pushes_292 : decode cL_pushes 292 = .ok (.aload_n 0, 1) := by decide +kernel
theorem dL_pushes_293 : decode cL_pushes 293 = .ok (.iconst 2, 1) := by decide +kernel
theorem dL_pushes_294 : decode cL_pushes 294 = .ok (.invokestatic 86, 3) := by decide +kernel
theorem dL_pushes_297 : decode cL_pushes 297 = .ok (.iload 7, 2) := by decide +kernel
theorem dL_pushes_299 : decode cL_pushes 299 = .ok (.iconst 1, 1) := by decide +kernel
theorem dL_pushes_300 : decode cL_pushes 300 = .ok (.iadd, 1) := by decide +kernel
theorem dL_pushes_301 : decode cL_pushes 301 = .ok (.iload 16, 2) := by decide +kernel
theorem dL_pushes_303 : decode cL_pushes 303 = .ok (.isub, 1) := by decide +kernel
theorem dL_pushes_304 : decode cL_pushes 304 = .ok (.if_icmp .ne 80, 3) := by decide +kernel
theorem dL_pushes_307 : decode cL_pushes 307 = .ok (.aload_n 0, 1) := by decide +kernel
theorem dL_pushes_308 : decode cL_pushes 308 = .ok (.bipush 8, 2) := by decide +kernel
theorem dL_pushes_310 : decode cL_pushes 310 = .ok (.invokestatic 86, 3) := by decide +kernel
theorem dL_pushes_313 : decode cL_pushes 313 = .ok (.iload 8, 2) := by decide +kernel
theorem dL_pushes_315 : decode cL_pushes 315 = .ok (.isub, 1) := by decide +kernel
theorem dL_pushes_316 : decode cL_pushes 316 = .ok (.iload 5, 2) := by decide +kernel
theorem dL_pushes_318 : decode cL_pushes 318 = .ok (.bipush 100, 2) := by decide +kernel
theorem dL_pushes_320 : decode cL_pushes 320 = .ok (.if_icmp .ne 7, 3) := by decide +kernel
theorem dL_pushes_323 : decode cL_pushes 323 = .ok (.iconst 1, 1) := by decide +kernel
theorem dL_pushes_324 : decode cL_pushes 324 = .ok (.goto 4, 3) := by decide +kernel
theorem dL_pushes_327 : decode cL_pushes 327 = .ok (.iconst 0, 1) := by decide +kernel
theorem dL_pushes_328 : decode cL_pushes 328 = .ok (.if_icmp .ne 56, 3) := by decide +kernel
theorem dL_pushes_331 : decode cL_pushes 331 = .ok (.iload 5, 2) := by decide +kernel
theorem dL_pushes_333 : decode cL_pushes 333 = .ok (.ifCond .ge 16, 3) := by decide +kernel
theorem dL_pushes_336 : decode cL_pushes 336 = .ok (.aload_n 0, 1) := by decide +kernel
theorem dL_pushes_337 : decode cL_pushes 337 = .ok (.bipush 9, 2) := by decide +kernel
theorem dL_pushes_339 : decode cL_pushes 339 = .ok (.invokestatic 86, 3) := by decide +kernel
theorem dL_pushes_342 : decode cL_pushes 342 = .ok (.iload 9, 2) := by decide +kernel
theorem dL_pushes_344 : decode cL_pushes 344 = .ok (.iconst 1, 1) := by decide +kernel
theorem dL_pushes_345 : decode cL_pushes 345 = .ok (.iadd, 1) := by decide +kernel
theorem dL_pushes_346 : decode cL_pushes 346 = .ok (.if_icmp .ne 38, 3) := by decide +kernel
theorem dL_pushes_349 : decode cL_pushes 349 = .ok (.aload_n 0, 1) := by decide +kernel
theorem dL_pushes_350 : decode cL_pushes 350 = .ok (.bipush 10, 2) := by decide +kernel
theorem dL_pushes_352 : decode cL_pushes 352 = .ok (.invokestatic 86, 3) := by decide +kernel
theorem dL_pushes_355 : decode cL_pushes 355 = .ok (.iload 10, 2) := by decide +kernel
theorem dL_pushes_357 : decode cL_pushes 357 = .ok (.iload 14, 2) := by decide +kernel
theorem dL_pushes_359 : decode cL_pushes 359 = .ok (.iadd, 1) := by decide +kernel
theorem dL_pushes_360 : decode cL_pushes 360 = .ok (.if_icmp .ne 24, 3) := by decide +kernel
theorem dL_pushes_363 : decode cL_pushes 363 = .ok (.aload_n 0, 1) := by decide +kernel
theorem dL_pushes_364 : decode cL_pushes 364 = .ok (.iconst 3, 1) := by decide +kernel
theorem dL_pushes_365 : decode cL_pushes 365 = .ok (.invokestatic 86, 3) := by decide +kernel
theorem dL_pushes_368 : decode cL_pushes 368 = .ok (.iload 6, 2) := by decide +kernel
theorem dL_pushes_370 : decode cL_pushes 370 = .ok (.if_icmp .ne 14, 3) := by decide +kernel
theorem dL_pushes_373 : decode cL_pushes 373 = .ok (.aload_n 0, 1) := by decide +kernel
theorem dL_pushes_374 : decode cL_pushes 374 = .ok (.invokestatic 108, 3) := by decide +kernel
theorem dL_pushes_377 : decode cL_pushes 377 = .ok (.ifCond .eq 7, 3) := by decide +kernel
theorem dL_pushes_380 : decode cL_pushes 380 = .ok (.iconst 1, 1) := by decide +kernel
theorem dL_pushes_381 : decode cL_pushes 381 = .ok (.goto 4, 3) := by decide +kernel
theorem dL_pushes_384 : decode cL_pushes 384 = .ok (.iconst 0, 1) := by decide +kernel
theorem dL_pushes_385 : decode cL_pushes 385 = .ok (.istore 15, 2) := by decide +kernel
theorem dL_pushes_387 : decode cL_pushes 387 = .ok (.iload 15, 2) := by decide +kernel
theorem dL_pushes_389 : decode cL_pushes 389 = .ok (.ifCond .eq 35, 3) := by decide +kernel
theorem dL_pushes_392 : decode cL_pushes 392 = .ok (.aload_n 0, 1) := by decide +kernel
theorem dL_pushes_393 : decode cL_pushes 393 = .ok (.invokestatic 112, 3) := by decide +kernel
theorem dL_pushes_396 : decode cL_pushes 396 = .ok (.ifCond .lt 28, 3) := by decide +kernel
theorem dL_pushes_399 : decode cL_pushes 399 = .ok (.aload_n 0, 1) := by decide +kernel
theorem dL_pushes_400 : decode cL_pushes 400 = .ok (.invokestatic 99, 3) := by decide +kernel
theorem dL_pushes_403 : decode cL_pushes 403 = .ok (.lload_n 3, 1) := by decide +kernel
theorem dL_pushes_404 : decode cL_pushes 404 = .ok (.lcmp, 1) := by decide +kernel
theorem dL_pushes_405 : decode cL_pushes 405 = .ok (.ifCond .ne 19, 3) := by decide +kernel
theorem dL_pushes_408 : decode cL_pushes 408 = .ok (.aload_n 0, 1) := by decide +kernel
theorem dL_pushes_409 : decode cL_pushes 409 = .ok (.iload_n 1, 1) := by decide +kernel
theorem dL_pushes_410 : decode cL_pushes 410 = .ok (.iload_n 2, 1) := by decide +kernel
theorem dL_pushes_411 : decode cL_pushes 411 = .ok (.iconst 1, 1) := by decide +kernel
theorem dL_pushes_412 : decode cL_pushes 412 = .ok (.invokestatic 103, 3) := by decide +kernel
theorem dL_pushes_415 : decode cL_pushes 415 = .ok (.iload 5, 2) := by decide +kernel
theorem dL_pushes_417 : decode cL_pushes 417 = .ok (.if_icmp .ne 7, 3) := by decide +kernel
theorem dL_pushes_420 : decode cL_pushes 420 = .ok (.iconst 1, 1) := by decide +kernel
theorem dL_pushes_421 : decode cL_pushes 421 = .ok (.goto 4, 3) := by decide +kernel
theorem dL_pushes_424 : decode cL_pushes 424 = .ok (.iconst 0, 1) := by decide +kernel
theorem dL_pushes_425 : decode cL_pushes 425 = .ok (.ireturn, 1) := by decide +kernel
theorem dL_fills_0 : decode cL_fills 0 = .ok (.aload_n 0, 1) := by decide +kernel
theorem dL_fills_1 : decode cL_fills 1 = .ok (.iload_n 1, 1) := by decide +kernel
theorem dL_fills_2 : decode cL_fills 2 = .ok (.iload_n 2, 1) := by decide +kernel
theorem dL_fills_3 : decode cL_fills 3 = .ok (.invokestatic 114, 3) := by decide +kernel
theorem dL_fills_6 : decode cL_fills 6 = .ok (.istore 4, 2) := by decide +kernel
theorem dL_fills_8 : decode cL_fills 8 = .ok (.aload_n 0, 1) := by decide +kernel
theorem dL_fills_9 : decode cL_fills 9 = .ok (.iload_n 2, 1) := by decide +kernel
theorem dL_fills_10 : decode cL_fills 10 = .ok (.iconst 0, 1) := by decide +kernel
theorem dL_fills_11 : decode cL_fills 11 = .ok (.invokestatic 84, 3) := by decide +kernel
theorem dL_fills_14 : decode cL_fills 14 = .ok (.istore 5, 2) := by decide +kernel
theorem dL_fills_16 : decode cL_fills 16 = .ok (.aload_n 0, 1) := by decide +kernel
theorem dL_fills_17 : decode cL_fills 17 = .ok (.invokestatic 99, 3) := by decide +kernel
theorem dL_fills_20 : decode cL_fills 20 = .ok (.lstore 6, 2) := by decide +kernel
theorem dL_fills_22 : decode cL_fills 22 = .ok (.aload_n 0, 1) := by decide +kernel
theorem dL_fills_23 : decode cL_fills 23 = .ok (.bipush 6, 2) := by decide +kernel
theorem dL_fills_25 : decode cL_fills 25 = .ok (.invokestatic 86, 3) := by decide +kernel
theorem dL_fills_28 : decode cL_fills 28 = .ok (.ifCond .gt 12, 3) := by decide +kernel
theorem dL_fills_31 : decode cL_fills 31 = .ok (.aload_n 0, 1) := by decide +kernel
theorem dL_fills_32 : decode cL_fills 32 = .ok (.iconst 1, 1) := by decide +kernel
theorem dL_fills_33 : decode cL_fills 33 = .ok (.invokestatic 86, 3) := by decide +kernel
theorem dL_fills_36 : decode cL_fills 36 = .ok (.iconst 4, 1) := by decide +kernel
theorem dL_fills_37 : decode cL_fills 37 = .ok (.if_icmp .ne 28, 3) := by decide +kernel
theorem dL_fills_40 : decode cL_fills 40 = .ok (.iload 4, 2) := by decide +kernel
theorem dL_fills_42 : decode cL_fills 42 = .ok (.iconst (-1), 1) := by decide +kernel
theorem dL_fills_43 : decode cL_fills 43 = .ok (.if_icmp .eq 16, 3) := by decide +kernel
theorem dL_fills_46 : decode cL_fills 46 = .ok (.iload 4, 2) := by decide +kernel
theorem dL_fills_48 : decode cL_fills 48 = .ok (.ifCond .le 15, 3) := by decide +kernel
theorem dL_fills_51 : decode cL_fills 51 = .ok (.iload 4, 2) := by decide +kernel
theorem dL_fills_53 : decode cL_fills 53 = .ok (.sipush 150, 3) := by decide +kernel
theorem dL_fills_56 : decode cL_fills 56 = .ok (.if_icmp .gt 7, 3) := by decide +kernel
theorem dL_fills_59 : decode cL_fills 59 = .ok (.iconst 1, 1) := by decide +kernel
theorem dL_fills_60 : decode cL_fills 60 = .ok (.goto 4, 3) := by decide +kernel
theorem dL_fills_63 : decode cL_fills 63 = .ok (.iconst 0, 1) := by decide +kernel
theorem dL_fills_64 : decode cL_fills 64 = .ok (.ireturn, 1) := by decide +kernel
theorem dL_fills_65 : decode cL_fills 65 = .ok (.iload 4, 2) := by decide +kernel
theorem dL_fills_67 : decode cL_fills 67 = .ok (.iconst (-1), 1) := by decide +kernel
theorem dL_fills_68 : decode cL_fills 68 = .ok (.if_icmp .ne 7, 3) := by decide +kernel
theorem dL_fills_71 : decode cL_fills 71 = .ok (.iload_n 3, 1) := by decide +kernel
theorem dL_fills_72 : decode cL_fills 72 = .ok (.goto 15, 3) := by decide +kernel
theorem dL_fills_75 : decode cL_fills 75 = .ok (.iload_n 3, 1) := by decide +kernel
theorem dL_fills_76 : decode cL_fills 76 = .ok (.iload 4, 2) := by decide +kernel
theorem dL_fills_78 : decode cL_fills 78 = .ok (.if_icmp .ge 7, 3) := by decide +kernel
theorem dL_fills_81 : decode cL_fills 81 = .ok (.iload_n 3, 1) := by decide +kernel
theorem dL_fills_82 : decode cL_fills 82 = .ok (.goto 5, 3) := by decide +kernel
theorem dL_fills_85 : decode cL_fills 85 = .ok (.iload 4, 2) := by decide +kernel
theorem dL_fills_87 : decode cL_fills 87 = .ok (.istore 8, 2) := by decide +kernel
theorem dL_fills_89 : decode cL_fills 89 = .ok (.aload_n 0, 1) := by decide +kernel
theorem dL_fills_90 : decode cL_fills 90 = .ok (.iload_n 1, 1) := by decide +kernel
theorem dL_fills_91 : decode cL_fills 91 = .ok (.iload 8, 2) := by decide +kernel
theorem dL_fills_93 : decode cL_fills 93 = .ok (.invokestatic 79, 3) := by decide +kernel
theorem dL_fills_96 : decode cL_fills 96 = .ok (.ifCond .lt 38, 3) := by decide +kernel
theorem dL_fills_99 : decode cL_fills 99 = .ok (.aload_n 0, 1) := by decide +kernel
theorem dL_fills_100 : decode cL_fills 100 = .ok (.iload_n 2, 1) := by decide +kernel
theorem dL_fills_101 : decode cL_fills 101 = .ok (.iconst 0, 1) := by decide +kernel
theorem dL_fills_102 : decode cL_fills 102 = .ok (.invokestatic 84, 3) := by decide +kernel
theorem dL_fills_105 : decode cL_fills 105 = .ok (.iload 5, 2) := by decide +kernel
theorem dL_fills_107 : decode cL_fills 107 = .ok (.if_icmp .le 7, 3) := by decide +kernel
theorem dL_fills_110 : decode cL_fills 110 = .ok (.iconst 1, 1) := by decide +kernel
theorem dL_fills_111 : decode cL_fills 111 = .ok (.goto 4, 3) := by decide +kernel
theorem dL_fills_114 : decode cL_fills 114 = .ok (.iconst 0, 1) := by decide +kernel
theorem dL_fills_115 : decode cL_fills 115 = .ok (.iload 8, 2) := by decide +kernel
theorem dL_fills_117 : decode cL_fills 117 = .ok (.iload 4, 2) := by decide +kernel
theorem dL_fills_119 : decode cL_fills 119 = .ok (.if_icmp .ne 7, 3) := by decide +kernel
theorem dL_fills_122 : decode cL_fills 122 = .ok (.iconst 1, 1) := by decide +kernel
theorem dL_fills_123 : decode cL_fills 123 = .ok (.goto 4, 3) := by decide +kernel
theorem dL_fills_126 : decode cL_fills 126 = .ok (.iconst 0, 1) := by decide +kernel
theorem dL_fills_127 : decode cL_fills 127 = .ok (.if_icmp .ne 7, 3) := by decide +kernel
theorem dL_fills_130 : decode cL_fills 130 = .ok (.iconst 1, 1) := by decide +kernel
theorem dL_fills_131 : decode cL_fills 131 = .ok (.goto 4, 3) := by decide +kernel
theorem dL_fills_134 : decode cL_fills 134 = .ok (.iconst 0, 1) := by decide +kernel
theorem dL_fills_135 : decode cL_fills 135 = .ok (.istore 9, 2) := by decide +kernel
theorem dL_fills_137 : decode cL_fills 137 = .ok (.iload 9, 2) := by decide +kernel
theorem dL_fills_139 : decode cL_fills 139 = .ok (.ifCond .eq 24, 3) := by decide +kernel
theorem dL_fills_142 : decode cL_fills 142 = .ok (.aload_n 0, 1) := by decide +kernel
theorem dL_fills_143 : decode cL_fills 143 = .ok (.invokestatic 112, 3) := by decide +kernel
theorem dL_fills_146 : decode cL_fills 146 = .ok (.ifCond .lt 17, 3) := by decide +kernel
theorem dL_fills_149 : decode cL_fills 149 = .ok (.aload_n 0, 1) := by decide +kernel
theorem dL_fills_150 : decode cL_fills 150 = .ok (.invokestatic 99, 3) := by decide +kernel
theorem dL_fills_153 : decode cL_fills 153 = .ok (.lload 6, 2) := by decide +kernel
theorem dL_fills_155 : decode cL_fills 155 = .ok (.lcmp, 1) := by decide +kernel
theorem dL_fills_156 : decode cL_fills 156 = .ok (.ifCond .ne 7, 3) := by decide +kernel
theorem dL_fills_159 : decode cL_fills 159 = .ok (.iconst 1, 1) := by decide +kernel
theorem dL_fills_160 : decode cL_fills 160 = .ok (.goto 4, 3) := by decide +kernel
theorem dL_fills_163 : decode cL_fills 163 = .ok (.iconst 0, 1) := by decide +kernel
theorem dL_fills_164 : decode cL_fills 164 = .ok (.ireturn, 1) := by decide +kernel
theorem dL_best_0 : decode cL_best 0 = .ok (.aload_n 0, 1) := by decide +kernel
theorem dL_best_1 : decode cL_best 1 = .ok (.invokevirtual 116, 3) := by decide +kernel
theorem dL_best_4 : decode cL_best 4 = .ok (.istore_n 3, 1) := by decide +kernel
theorem dL_best_5 : decode cL_best 5 = .ok (.aload_n 0, 1) := by decide +kernel
theorem dL_best_6 : decode cL_best 6 = .ok (.bipush 6, 2) := by decide +kernel
theorem dL_best_8 : decode cL_best 8 = .ok (.invokestatic 86, 3) := by decide +kernel
theorem dL_best_11 : decode cL_best 11 = .ok (.ifCond .gt 12, 3) := by decide +kernel
theorem dL_best_14 : decode cL_best 14 = .ok (.aload_n 0, 1) := by decide +kernel
theorem dL_best_15 : decode cL_best 15 = .ok (.iconst 1, 1) := by decide +kernel
theorem dL_best_16 : decode cL_best 16 = .ok (.invokestatic 86, 3) := by decide +kernel
theorem dL_best_19 : decode cL_best 19 = .ok (.iconst 4, 1) := by decide +kernel
theorem dL_best_20 : decode cL_best 20 = .ok (.if_icmp .ne 20, 3) := by decide +kernel
theorem dL_best_23 : decode cL_best 23 = .ok (.iload_n 3, 1) := by decide +kernel
theorem dL_best_24 : decode cL_best 24 = .ok (.ifCond .le 14, 3) := by decide +kernel
theorem dL_best_27 : decode cL_best 27 = .ok (.iload_n 3, 1) := by decide +kernel
theorem dL_best_28 : decode cL_best 28 = .ok (.sipush 2150, 3) := by decide +kernel
theorem dL_best_31 : decode cL_best 31 = .ok (.if_icmp .gt 7, 3) := by decide +kernel
theorem dL_best_34 : decode cL_best 34 = .ok (.iconst 1, 1) := by decide +kernel
theorem dL_best_35 : decode cL_best 35 = .ok (.goto 4, 3) := by decide +kernel
theorem dL_best_38 : decode cL_best 38 = .ok (.iconst 0, 1) := by decide +kernel
theorem dL_best_39 : decode cL_best 39 = .ok (.ireturn, 1) := by decide +kernel
theorem dL_best_40 : decode cL_best 40 = .ok (.aload_n 0, 1) := by decide +kernel
theorem dL_best_41 : decode cL_best 41 = .ok (.invokestatic 99, 3) := by decide +kernel
theorem dL_best_44 : decode cL_best 44 = .ok (.lstore 4, 2) := by decide +kernel
theorem dL_best_46 : decode cL_best 46 = .ok (.iconst 0, 1) := by decide +kernel
theorem dL_best_47 : decode cL_best 47 = .ok (.istore 6, 2) := by decide +kernel
theorem dL_best_49 : decode cL_best 49 = .ok (.iconst 0, 1) := by decide +kernel
theorem dL_best_50 : decode cL_best 50 = .ok (.istore 7, 2) := by decide +kernel
theorem dL_best_52 : decode cL_best 52 = .ok (.aload_n 0, 1) := by decide +kernel
theorem dL_best_53 : decode cL_best 53 = .ok (.iload_n 3, 1) := by decide +kernel
theorem dL_best_54 : decode cL_best 54 = .ok (.sipush 1000, 3) := by decide +kernel
theorem dL_best_57 : decode cL_best 57 = .ok (.idiv, 1) := by decide +kernel
theorem dL_best_58 : decode cL_best 58 = .ok (.iload_n 3, 1) := by decide +kernel
theorem dL_best_59 : decode cL_best 59 = .ok (.sipush 1000, 3) := by decide +kernel
theorem dL_best_62 : decode cL_best 62 = .ok (.irem, 1) := by decide +kernel
theorem dL_best_63 : decode cL_best 63 = .ok (.invokestatic 79, 3) := by decide +kernel
theorem dL_best_66 : decode cL_best 66 = .ok (.ifCond .lt 7, 3) := by decide +kernel
theorem dL_best_69 : decode cL_best 69 = .ok (.iconst 1, 1) := by decide +kernel
theorem dL_best_70 : decode cL_best 70 = .ok (.goto 4, 3) := by decide +kernel
theorem dL_best_73 : decode cL_best 73 = .ok (.iconst 0, 1) := by decide +kernel
theorem dL_best_74 : decode cL_best 74 = .ok (.istore 8, 2) := by decide +kernel
theorem dL_best_76 : decode cL_best 76 = .ok (.iconst 0, 1) := by decide +kernel
theorem dL_best_77 : decode cL_best 77 = .ok (.istore 9, 2) := by decide +kernel
theorem dL_best_79 : decode cL_best 79 = .ok (.iload 9, 2) := by decide +kernel
theorem dL_best_81 : decode cL_best 81 = .ok (.bipush 9, 2) := by decide +kernel
theorem dL_best_83 : decode cL_best 83 = .ok (.if_icmp .ge 29, 3) := by decide +kernel
theorem dL_best_86 : decode cL_best 86 = .ok (.iload 6, 2) := by decide +kernel
theorem dL_best_88 : decode cL_best 88 = .ok (.aload_n 0, 1) := by decide +kernel
theorem dL_best_89 : decode cL_best 89 = .ok (.iload 9, 2) := by decide +kernel
theorem dL_best_91 : decode cL_best 91 = .ok (.iconst 3, 1) := by decide +kernel
theorem dL_best_92 : decode cL_best 92 = .ok (.invokestatic 84, 3) := by decide +kernel
theorem dL_best_95 : decode cL_best 95 = .ok (.aload_n 0, 1) := by decide +kernel
theorem dL_best_96 : decode cL_best 96 = .ok (.iload 9, 2) := by decide +kernel
theorem dL_best_98 : decode cL_best 98 = .ok (.iconst 4, 1) := by decide +kernel
theorem dL_best_99 : decode cL_best 99 = .ok (.invokestatic 84, 3) := by decide +kernel
theorem dL_best_102 : decode cL_best 102 = .ok (.isub, 1) := by decide +kernel
theorem dL_best_103 : decode cL_best 103 = .ok (.iadd, 1) := by decide +kernel
theorem dL_best_104 : decode cL_best 104 = .ok (.istore 6, 2) := by decide +kernel
theorem dL_best_106 : decode cL_best 106 = .ok (.iinc 9 1, 3) := by decide +kernel
theorem dL_best_109 : decode cL_best 109 = .ok (.goto (-30), 3) := by decide +kernel
theorem dL_best_112 : decode cL_best 112 = .ok (.iload 8, 2) := by decide +kernel
theorem dL_best_114 : decode cL_best 114 = .ok (.ifCond .eq 23, 3) := by decide +kernel
theorem dL_best_117 : decode cL_best 117 = .ok (.aload_n 0, 1) := by decide +kernel
theorem dL_best_118 : decode cL_best 118 = .ok (.invokestatic 112, 3) := by decide +kernel
theorem dL_best_121 : decode cL_best 121 = .ok (.ifCond .lt 16, 3) := by decide +kernel
theorem dL_best_124 : decode cL_best 124 = .ok (.aload_n 0, 1) := by decide +kernel
theorem dL_best_125 : decode cL_best 125 = .ok (.iload_n 1, 1) := by decide +kernel
theorem dL_best_126 : decode cL_best 126 = .ok (.iload_n 2, 1) := by decide +kernel
theorem dL_best_127 : decode cL_best 127 = .ok (.invokestatic 79, 3) := by decide +kernel
theorem dL_best_130 : decode cL_best 130 = .ok (.ifCond .lt 7, 3) := by decide +kernel
theorem dL_best_133 : decode cL_best 133 = .ok (.iconst 1, 1) := by decide +kernel
theorem dL_best_134 : decode cL_best 134 = .ok (.goto 4, 3) := by decide +kernel
theorem dL_best_137 : decode cL_best 137 = .ok (.iconst 0, 1) := by decide +kernel
theorem dL_best_138 : decode cL_best 138 = .ok (.istore 8, 2) := by decide +kernel
theorem dL_best_140 : decode cL_best 140 = .ok (.iconst 0, 1) := by decide +kernel
theorem dL_best_141 : decode cL_best 141 = .ok (.istore 9, 2) := by decide +kernel
theorem dL_best_143 : decode cL_best 143 = .ok (.iload 9, 2) := by decide +kernel
theorem dL_best_145 : decode cL_best 145 = .ok (.bipush 9, 2) := by decide +kernel
theorem dL_best_147 : decode cL_best 147 = .ok (.if_icmp .ge 29, 3) := by decide +kernel
theorem dL_best_150 : decode cL_best 150 = .ok (.iload 7, 2) := by decide +kernel
theorem dL_best_152 : decode cL_best 152 = .ok (.aload_n 0, 1) := by decide +kernel
theorem dL_best_153 : decode cL_best 153 = .ok (.iload 9, 2) := by decide +kernel
theorem dL_best_155 : decode cL_best 155 = .ok (.iconst 3, 1) := by decide +kernel
theorem dL_best_156 : decode cL_best 156 = .ok (.invokestatic 84, 3) := by decide +kernel
theorem dL_best_159 : decode cL_best 159 = .ok (.aload_n 0, 1) := by decide +kernel
theorem dL_best_160 : decode cL_best 160 = .ok (.iload 9, 2) := by decide +kernel
theorem dL_best_162 : decode cL_best 162 = .ok (.iconst 4, 1) := by decide +kernel
theorem dL_best_163 : decode cL_best 163 = .ok (.invokestatic 84, 3) := by decide +kernel
theorem dL_best_166 : decode cL_best 166 = .ok (.isub, 1) := by decide +kernel
theorem dL_best_167 : decode cL_best 167 = .ok (.iadd, 1) := by decide +kernel
theorem dL_best_168 : decode cL_best 168 = .ok (.istore 7, 2) := by decide +kernel
theorem dL_best_170 : decode cL_best 170 = .ok (.iinc 9 1, 3) := by decide +kernel
theorem dL_best_173 : decode cL_best 173 = .ok (.goto (-30), 3) := by decide +kernel
theorem dL_best_176 : decode cL_best 176 = .ok (.iload 8, 2) := by decide +kernel
theorem dL_best_178 : decode cL_best 178 = .ok (.ifCond .eq 52, 3) := by decide +kernel
theorem dL_best_181 : decode cL_best 181 = .ok (.sipush 1000, 3) := by decide +kernel
theorem dL_best_184 : decode cL_best 184 = .ok (.iload_n 1, 1) := by decide +kernel
theorem dL_best_185 : decode cL_best 185 = .ok (.imul, 1) := by decide +kernel
theorem dL_best_186 : decode cL_best 186 = .ok (.iload_n 2, 1) := by decide +kernel
theorem dL_best_187 : decode cL_best 187 = .ok (.iadd, 1) := by decide +kernel
theorem dL_best_188 : decode cL_best 188 = .ok (.iload_n 3, 1) := by decide +kernel
theorem dL_best_189 : decode cL_best 189 = .ok (.if_icmp .ge 13, 3) := by decide +kernel
theorem dL_best_192 : decode cL_best 192 = .ok (.iload 7, 2) := by decide +kernel
theorem dL_best_194 : decode cL_best 194 = .ok (.iload 6, 2) := by decide +kernel
theorem dL_best_196 : decode cL_best 196 = .ok (.if_icmp .ge 34, 3) := by decide +kernel
theorem dL_best_199 : decode cL_best 199 = .ok (.goto 10, 3) := by decide +kernel
theorem dL_best_202 : decode cL_best 202 = .ok (.iload 7, 2) := by decide +kernel
theorem dL_best_204 : decode cL_best 204 = .ok (.iload 6, 2) := by decide +kernel
theorem dL_best_206 : decode cL_best 206 = .ok (.if_icmp .gt 24, 3) := by decide +kernel
theorem dL_best_209 : decode cL_best 209 = .ok (.aload_n 0, 1) := by decide +kernel
theorem dL_best_210 : decode cL_best 210 = .ok (.invokestatic 112, 3) := by decide +kernel
theorem dL_best_213 : decode cL_best 213 = .ok (.ifCond .lt 17, 3) := by decide +kernel
theorem dL_best_216 : decode cL_best 216 = .ok (.aload_n 0, 1) := by decide +kernel
theorem dL_best_217 : decode cL_best 217 = .ok (.invokestatic 99, 3) := by decide +kernel
theorem dL_best_220 : decode cL_best 220 = .ok (.lload 4, 2) := by decide +kernel
theorem dL_best_222 : decode cL_best 222 = .ok (.lcmp, 1) := by decide +kernel
theorem dL_best_223 : decode cL_best 223 = .ok (.ifCond .ne 7, 3) := by decide +kernel
theorem dL_best_226 : decode cL_best 226 = .ok (.iconst 1, 1) := by decide +kernel
theorem dL_best_227 : decode cL_best 227 = .ok (.goto 4, 3) := by decide +kernel
theorem dL_best_230 : decode cL_best 230 = .ok (.iconst 0, 1) := by decide +kernel
theorem dL_best_231 : decode cL_best 231 = .ok (.ireturn, 1) := by decide +kernel
theorem dL_chalks_0 : decode cL_chalks 0 = .ok (.aload_n 0, 1) := by decide +kernel
theorem dL_chalks_1 : decode cL_chalks 1 = .ok (.invokestatic 99, 3) := by decide +kernel
theorem dL_chalks_4 : decode cL_chalks 4 = .ok (.lstore_n 1, 1) := by decide +kernel
theorem dL_chalks_5 : decode cL_chalks 5 = .ok (.iconst 0, 1) := by decide +kernel
theorem dL_chalks_6 : decode cL_chalks 6 = .ok (.istore_n 3, 1) := by decide +kernel
theorem dL_chalks_7 : decode cL_chalks 7 = .ok (.iconst 0, 1) := by decide +kernel
theorem dL_chalks_8 : decode cL_chalks 8 = .ok (.istore 4, 2) := by decide +kernel
theorem dL_chalks_10 : decode cL_chalks 10 = .ok (.iload 4, 2) := by decide +kernel
theorem dL_chalks_12 : decode cL_chalks 12 = .ok (.bipush 9, 2) := by decide +kernel
theorem dL_chalks_14 : decode cL_chalks 14 = .ok (.if_icmp .ge 27, 3) := by decide +kernel
theorem dL_chalks_17 : decode cL_chalks 17 = .ok (.iload_n 3, 1) := by decide +kernel
theorem dL_chalks_18 : decode cL_chalks 18 = .ok (.aload_n 0, 1) := by decide +kernel
theorem dL_chalks_19 : decode cL_chalks 19 = .ok (.iload 4, 2) := by decide +kernel
theorem dL_chalks_21 : decode cL_chalks 21 = .ok (.iconst 3, 1) := by decide +kernel
theorem dL_chalks_22 : decode cL_chalks 22 = .ok (.invokestatic 84, 3) := by decide +kernel
theorem dL_chalks_25 : decode cL_chalks 25 = .ok (.aload_n 0, 1) := by decide +kernel
theorem dL_chalks_26 : decode cL_chalks 26 = .ok (.iload 4, 2) := by decide +kernel
theorem dL_chalks_28 : decode cL_chalks 28 = .ok (.iconst 4, 1) := by decide +kernel
theorem dL_chalks_29 : decode cL_chalks 29 = .ok (.invokestatic 84, 3) := by decide +kernel
theorem dL_chalks_32 : decode cL_chalks 32 = .ok (.iadd, 1) := by decide +kernel
theorem dL_chalks_33 : decode cL_chalks 33 = .ok (.iadd, 1) := by decide +kernel
theorem dL_chalks_34 : decode cL_chalks 34 = .ok (.istore_n 3, 1) := by decide +kernel
theorem dL_chalks_35 : decode cL_chalks 35 = .ok (.iinc 4 1, 3) := by decide +kernel
theorem dL_chalks_38 : decode cL_chalks 38 = .ok (.goto (-28), 3) := by decide +kernel
theorem dL_chalks_41 : decode cL_chalks 41 = .ok (.aload_n 0, 1) := by decide +kernel
theorem dL_chalks_42 : decode cL_chalks 42 = .ok (.iconst 4, 1) := by decide +kernel
theorem dL_chalks_43 : decode cL_chalks 43 = .ok (.invokestatic 86, 3) := by decide +kernel
theorem dL_chalks_46 : decode cL_chalks 46 = .ok (.aload_n 0, 1) := by decide +kernel
theorem dL_chalks_47 : decode cL_chalks 47 = .ok (.iconst 5, 1) := by decide +kernel
theorem dL_chalks_48 : decode cL_chalks 48 = .ok (.invokestatic 86, 3) := by decide +kernel
theorem dL_chalks_51 : decode cL_chalks 51 = .ok (.iadd, 1) := by decide +kernel
theorem dL_chalks_52 : decode cL_chalks 52 = .ok (.istore 4, 2) := by decide +kernel
theorem dL_chalks_54 : decode cL_chalks 54 = .ok (.aload_n 0, 1) := by decide +kernel
theorem dL_chalks_55 : decode cL_chalks 55 = .ok (.bipush 6, 2) := by decide +kernel
theorem dL_chalks_57 : decode cL_chalks 57 = .ok (.invokestatic 86, 3) := by decide +kernel
theorem dL_chalks_60 : decode cL_chalks 60 = .ok (.ifCond .le 7, 3) := by decide +kernel
theorem dL_chalks_63 : decode cL_chalks 63 = .ok (.iconst 1, 1) := by decide +kernel
theorem dL_chalks_64 : decode cL_chalks 64 = .ok (.goto 4, 3) := by decide +kernel
theorem dL_chalks_67 : decode cL_chalks 67 = .ok (.iconst 0, 1) := by decide +kernel
theorem dL_chalks_68 : decode cL_chalks 68 = .ok (.istore 5, 2) := by decide +kernel
theorem dL_chalks_70 : decode cL_chalks 70 = .ok (.aload_n 0, 1) := by decide +kernel
theorem dL_chalks_71 : decode cL_chalks 71 = .ok (.invokevirtual 76, 3) := by decide +kernel
theorem dL_chalks_74 : decode cL_chalks 74 = .ok (.iload 5, 2) := by decide +kernel
theorem dL_chalks_76 : decode cL_chalks 76 = .ok (.ifCond .eq 7, 3) := by decide +kernel
theorem dL_chalks_79 : decode cL_chalks 79 = .ok (.iconst (-1), 1) := by decide +kernel
theorem dL_chalks_80 : decode cL_chalks 80 = .ok (.goto 4, 3) := by decide +kernel
theorem dL_chalks_83 : decode cL_chalks 83 = .ok (.iload_n 3, 1) := by decide +kernel
theorem dL_chalks_84 : decode cL_chalks 84 = .ok (.if_icmp .ne 54, 3) := by decide +kernel
theorem dL_chalks_87 : decode cL_chalks 87 = .ok (.aload_n 0, 1) := by decide +kernel
theorem dL_chalks_88 : decode cL_chalks 88 = .ok (.iconst 4, 1) := by decide +kernel
theorem dL_chalks_89 : decode cL_chalks 89 = .ok (.invokestatic 86, 3) := by decide +kernel
theorem dL_chalks_92 : decode cL_chalks 92 = .ok (.aload_n 0, 1) := by decide +kernel
theorem dL_chalks_93 : decode cL_chalks 93 = .ok (.iconst 5, 1) := by decide +kernel
theorem dL_chalks_94 : decode cL_chalks 94 = .ok (.invokestatic 86, 3) := by decide +kernel
theorem dL_chalks_97 : decode cL_chalks 97 = .ok (.iadd, 1) := by decide +kernel
theorem dL_chalks_98 : decode cL_chalks 98 = .ok (.iload 4, 2) := by decide +kernel
theorem dL_chalks_100 : decode cL_chalks 100 = .ok (.iload 5, 2) := by decide +kernel
theorem dL_chalks_102 : decode cL_chalks 102 = .ok (.ifCond .eq 7, 3) := by decide +kernel
theorem dL_chalks_105 : decode cL_chalks 105 = .ok (.iconst 0, 1) := by decide +kernel
theorem dL_chalks_106 : decode cL_chalks 106 = .ok (.goto 4, 3) := by decide +kernel
theorem dL_chalks_109 : decode cL_chalks 109 = .ok (.iload_n 3, 1) := by decide +kernel
theorem dL_chalks_110 : decode cL_chalks 110 = .ok (.iadd, 1) := by decide +kernel
theorem dL_chalks_111 : decode cL_chalks 111 = .ok (.if_icmp .ne 27, 3) := by decide +kernel
theorem dL_chalks_114 : decode cL_chalks 114 = .ok (.iload 5, 2) := by decide +kernel
theorem dL_chalks_116 : decode cL_chalks 116 = .ok (.ifCond .ne 11, 3) := by decide +kernel
theorem dL_chalks_119 : decode cL_chalks 119 = .ok (.aload_n 0, 1) := by decide +kernel
theorem dL_chalks_120 : decode cL_chalks 120 = .ok (.iconst 2, 1) := by decide +kernel
theorem dL_chalks_121 : decode cL_chalks 121 = .ok (.invokestatic 86, 3) := by decide +kernel
theorem dL_chalks_124 : decode cL_chalks 124 = .ok (.ifCond .ne 14, 3) := by decide +kernel
theorem dL_chalks_127 : decode cL_chalks 127 = .ok (.aload_n 0, 1) := by decide +kernel
theorem dL_chalks_128 : decode cL_chalks 128 = .ok (.invokestatic 108, 3) := by decide +kernel
theorem dL_chalks_131 : decode cL_chalks 131 = .ok (.ifCond .eq 7, 3) := by decide +kernel
theorem dL_chalks_134 : decode cL_chalks 134 = .ok (.iconst 1, 1) := by decide +kernel
theorem dL_chalks_135 : decode cL_chalks 135 = .ok (.goto 4, 3) := by decide +kernel
theorem dL_chalks_138 : decode cL_chalks 138 = .ok (.iconst 0, 1) := by decide +kernel
theorem dL_chalks_139 : decode cL_chalks 139 = .ok (.istore 6, 2) := by decide +kernel
theorem dL_chalks_141 : decode cL_chalks 141 = .ok (.iload 6, 2) := by decide +kernel
theorem dL_chalks_143 : decode cL_chalks 143 = .ok (.ifCond .eq 23, 3) := by decide +kernel
theorem dL_chalks_146 : decode cL_chalks 146 = .ok (.aload_n 0, 1) := by decide +kernel
theorem dL_chalks_147 : decode cL_chalks 147 = .ok (.invokestatic 112, 3) := by decide +kernel
theorem dL_chalks_150 : decode cL_chalks 150 = .ok (.ifCond .lt 16, 3) := by decide +kernel
theorem dL_chalks_153 : decode cL_chalks 153 = .ok (.aload_n 0, 1) := by decide +kernel
theorem dL_chalks_154 : decode cL_chalks 154 = .ok (.invokestatic 99, 3) := by decide +kernel
theorem dL_chalks_157 : decode cL_chalks 157 = .ok (.lload_n 1, 1) := by decide +kernel
theorem dL_chalks_158 : decode cL_chalks 158 = .ok (.lcmp, 1) := by decide +kernel
theorem dL_chalks_159 : decode cL_chalks 159 = .ok (.ifCond .ne 7, 3) := by decide +kernel
theorem dL_chalks_162 : decode cL_chalks 162 = .ok (.iconst 1, 1) := by decide +kernel
theorem dL_chalks_163 : decode cL_chalks 163 = .ok (.goto 4, 3) := by decide +kernel
theorem dL_chalks_166 : decode cL_chalks 166 = .ok (.iconst 0, 1) := by decide +kernel
theorem dL_chalks_167 : decode cL_chalks 167 = .ok (.ireturn, 1) := by decide +kernel
theorem dL_law_0 : decode cL_law 0 = .ok (.new 11, 3) := by decide +kernel
theorem dL_law_3 : decode cL_law 3 = .ok (.dup, 1) := by decide +kernel
theorem dL_law_4 : decode cL_law 4 = .ok (.invokespecial 119, 3) := by decide +kernel
theorem dL_law_7 : decode cL_law 7 = .ok (.astore_n 1, 1) := by decide +kernel
theorem dL_law_8 : decode cL_law 8 = .ok (.aload_n 1, 1) := by decide +kernel
theorem dL_law_9 : decode cL_law 9 = .ok (.invokestatic 108, 3) := by decide +kernel
theorem dL_law_12 : decode cL_law 12 = .ok (.ifCond .eq 17, 3) := by decide +kernel
theorem dL_law_15 : decode cL_law 15 = .ok (.aload_n 1, 1) := by decide +kernel
theorem dL_law_16 : decode cL_law 16 = .ok (.iconst 0, 1) := by decide +kernel
theorem dL_law_17 : decode cL_law 17 = .ok (.bipush 20, 2) := by decide +kernel
theorem dL_law_19 : decode cL_law 19 = .ok (.invokestatic 120, 3) := by decide +kernel
theorem dL_law_22 : decode cL_law 22 = .ok (.ifCond .eq 7, 3) := by decide +kernel
theorem dL_law_25 : decode cL_law 25 = .ok (.iconst 1, 1) := by decide +kernel
theorem dL_law_26 : decode cL_law 26 = .ok (.goto 4, 3) := by decide +kernel
theorem dL_law_29 : decode cL_law 29 = .ok (.iconst 0, 1) := by decide +kernel
theorem dL_law_30 : decode cL_law 30 = .ok (.istore_n 2, 1) := by decide +kernel
theorem dL_law_31 : decode cL_law 31 = .ok (.iconst 0, 1) := by decide +kernel
theorem dL_law_32 : decode cL_law 32 = .ok (.istore_n 3, 1) := by decide +kernel
theorem dL_law_33 : decode cL_law 33 = .ok (.iload_n 3, 1) := by decide +kernel
theorem dL_law_34 : decode cL_law 34 = .ok (.bipush 46, 2) := by decide +kernel
theorem dL_law_36 : decode cL_law 36 = .ok (.if_icmp .ge 281, 3) := by decide +kernel
theorem dL_law_39 : decode cL_law 39 = .ok (.iload_n 2, 1) := by decide +kernel
theorem dL_law_40 : decode cL_law 40 = .ok (.ifCond .eq 277, 3) := by decide +kernel
theorem dL_law_43 : decode cL_law 43 = .ok (.aload_n 0, 1) := by decide +kernel
theorem dL_law_44 : decode cL_law 44 = .ok (.iconst 2, 1) := by decide +kernel
theorem dL_law_45 : decode cL_law 45 = .ok (.iload_n 3, 1) := by decide +kernel
theorem dL_law_46 : decode cL_law 46 = .ok (.imul, 1) := by decide +kernel
theorem dL_law_47 : decode cL_law 47 = .ok (.invokestatic 124, 3) := by decide +kernel
theorem dL_law_50 : decode cL_law 50 = .ok (.istore 4, 2) := by decide +kernel
theorem dL_law_52 : decode cL_law 52 = .ok (.aload_n 0, 1) := by decide +kernel
theorem dL_law_53 : decode cL_law 53 = .ok (.iconst 2, 1) := by decide +kernel
theorem dL_law_54 : decode cL_law 54 = .ok (.iload_n 3, 1) := by decide +kernel
theorem dL_law_55 : decode cL_law 55 = .ok (.imul, 1) := by decide +kernel
theorem dL_law_56 : decode cL_law 56 = .ok (.iconst 1, 1) := by decide +kernel
theorem dL_law_57 : decode cL_law 57 = .ok (.iadd, 1) := by decide +kernel
theorem dL_law_58 : decode cL_law 58 = .ok (.invokestatic 124, 3) := by decide +kernel
theorem dL_law_61 : decode cL_law 61 = .ok (.istore 5, 2) := by decide +kernel
theorem dL_law_63 : decode cL_law 63 = .ok (.aload_n 1, 1) := by decide +kernel
theorem dL_law_64 : decode cL_law 64 = .ok (.bipush 12, 2) := by decide +kernel
theorem dL_law_66 : decode cL_law 66 = .ok (.invokestatic 86, 3) := by decide +kernel
theorem dL_law_69 : decode cL_law 69 = .ok (.istore 6, 2) := by decide +kernel
theorem dL_law_71 : decode cL_law 71 = .ok (.aload_n 1, 1) := by decide +kernel
theorem dL_law_72 : decode cL_law 72 = .ok (.invokestatic 99, 3) := by decide +kernel
theorem dL_law_75 : decode cL_law 75 = .ok (.lstore 7, 2) := by decide +kernel
theorem dL_law_77 : decode cL_law 77 = .ok (.aload_n 1, 1) := by decide +kernel
theorem dL_law_78 : decode cL_law 78 = .ok (.iload 4, 2) := by decide +kernel
theorem dL_law_80 : decode cL_law 80 = .ok (.iload 5, 2) := by decide +kernel
theorem dL_law_82 : decode cL_law 82 = .ok (.invokestatic 128, 3) := by decide +kernel
theorem dL_law_85 : decode cL_law 85 = .ok (.istore 9, 2) := by decide +kernel
theorem dL_law_87 : decode cL_law 87 = .ok (.iload 9, 2) := by decide +kernel
theorem dL_law_89 : decode cL_law 89 = .ok (.bipush (-2), 2) := by decide +kernel
theorem dL_law_91 : decode cL_law 91 = .ok (.if_icmp .le 32, 3) := by decide +kernel
theorem dL_law_94 : decode cL_law 94 = .ok (.aload_n 1, 1) := by decide +kernel
theorem dL_law_95 : decode cL_law 95 = .ok (.bipush 12, 2) := by decide +kernel
theorem dL_law_97 : decode cL_law 97 = .ok (.invokestatic 86, 3) := by decide +kernel
theorem dL_law_100 : decode cL_law 100 = .ok (.iload 6, 2) := by decide +kernel
theorem dL_law_102 : decode cL_law 102 = .ok (.bipush 6, 2) := by decide +kernel
theorem dL_law_104 : decode cL_law 104 = .ok (.if_icmp .ge 10, 3) := by decide +kernel
theorem dL_law_107 : decode cL_law 107 = .ok (.iload 6, 2) := by decide +kernel
theorem dL_law_109 : decode cL_law 109 = .ok (.iconst 1, 1) := by decide +kernel
theorem dL_law_110 : decode cL_law 110 = .ok (.iadd, 1) := by decide +kernel
theorem dL_law_111 : decode cL_law 111 = .ok (.goto 5, 3) := by decide +kernel
theorem dL_law_114 : decode cL_law 114 = .ok (.bipush 6, 2) := by decide +kernel
theorem dL_law_116 : decode cL_law 116 = .ok (.if_icmp .ne 7, 3) := by decide +kernel
theorem dL_law_119 : decode cL_law 119 = .ok (.iconst 1, 1) := by decide +kernel
theorem dL_law_120 : decode cL_law 120 = .ok (.goto 4, 3) := by decide +kernel
theorem dL_law_123 : decode cL_law 123 = .ok (.iconst 0, 1) := by decide +kernel
theorem dL_law_124 : decode cL_law 124 = .ok (.istore_n 2, 1) := by decide +kernel
theorem dL_law_125 : decode cL_law 125 = .ok (.iload_n 2, 1) := by decide +kernel
theorem dL_law_126 : decode cL_law 126 = .ok (.ifCond .eq 59, 3) := by decide +kernel
theorem dL_law_129 : decode cL_law 129 = .ok (.iload 6, 2) := by decide +kernel
theorem dL_law_131 : decode cL_law 131 = .ok (.bipush 6, 2) := by decide +kernel
theorem dL_law_133 : decode cL_law 133 = .ok (.if_icmp .ge 52, 3) := by decide +kernel
theorem dL_law_136 : decode cL_law 136 = .ok (.iload 5, 2) := by decide +kernel
theorem dL_law_138 : decode cL_law 138 = .ok (.iconst 5, 1) := by decide +kernel
theorem dL_law_139 : decode cL_law 139 = .ok (.ishr, 1) := by decide +kernel
theorem dL_law_140 : decode cL_law 140 = .ok (.iconst 3, 1) := by decide +kernel
theorem dL_law_141 : decode cL_law 141 = .ok (.invokestatic 57, 3) := by decide +kernel
theorem dL_law_144 : decode cL_law 144 = .ok (.ifCond .ne 41, 3) := by decide +kernel
theorem dL_law_147 : decode cL_law 147 = .ok (.aload_n 1, 1) := by decide +kernel
theorem dL_law_148 : decode cL_law 148 = .ok (.invokestatic 112, 3) := by decide +kernel
theorem dL_law_151 : decode cL_law 151 = .ok (.iload 6, 2) := by decide +kernel
theorem dL_law_153 : decode cL_law 153 = .ok (.if_icmp .ne 30, 3) := by decide +kernel
theorem dL_law_156 : decode cL_law 156 = .ok (.aload_n 1, 1) := by decide +kernel
theorem dL_law_157 : decode cL_law 157 = .ok (.invokestatic 99, 3) := by decide +kernel
theorem dL_law_160 : decode cL_law 160 = .ok (.lload 7, 2) := by decide +kernel
theorem dL_law_162 : decode cL_law 162 = .ok (.lcmp, 1) := by decide +kernel
theorem dL_law_163 : decode cL_law 163 = .ok (.ifCond .ne 20, 3) := by decide +kernel
theorem dL_law_166 : decode cL_law 166 = .ok (.aload_n 1, 1) := by decide +kernel
theorem dL_law_167 : decode cL_law 167 = .ok (.iload 4, 2) := by decide +kernel
theorem dL_law_169 : decode cL_law 169 = .ok (.iload 5, 2) := by decide +kernel
theorem dL_law_171 : decode cL_law 171 = .ok (.invokestatic 128, 3) := by decide +kernel
theorem dL_law_174 : decode cL_law 174 = .ok (.iload 9, 2) := by decide +kernel
theorem dL_law_176 : decode cL_law 176 = .ok (.if_icmp .ne 7, 3) := by decide +kernel
theorem dL_law_179 : decode cL_law 179 = .ok (.iconst 1, 1) := by decide +kernel
theorem dL_law_180 : decode cL_law 180 = .ok (.goto 4, 3) := by decide +kernel
theorem dL_law_183 : decode cL_law 183 = .ok (.iconst 0, 1) := by decide +kernel
theorem dL_law_184 : decode cL_law 184 = .ok (.istore_n 2, 1) := by decide +kernel
theorem dL_law_185 : decode cL_law 185 = .ok (.iload_n 2, 1) := by decide +kernel
theorem dL_law_186 : decode cL_law 186 = .ok (.ifCond .eq 123, 3) := by decide +kernel
theorem dL_law_189 : decode cL_law 189 = .ok (.aload_n 1, 1) := by decide +kernel
theorem dL_law_190 : decode cL_law 190 = .ok (.invokestatic 108, 3) := by decide +kernel
theorem dL_law_193 : decode cL_law 193 = .ok (.ifCond .eq 116, 3) := by decide +kernel
theorem dL_law_196 : decode cL_law 196 = .ok (.aload_n 1, 1) := by decide +kernel
theorem dL_law_197 : decode cL_law 197 = .ok (.iload 4, 2) := by decide +kernel
theorem dL_law_199 : decode cL_law 199 = .ok (.iconst 5, 1) := by decide +kernel
theorem dL_law_200 : decode cL_law 200 = .ok (.ishr, 1) := by decide +kernel
theorem dL_law_201 : decode cL_law 201 = .ok (.iconst 3, 1) := by decide +kernel
theorem dL_law_202 : decode cL_law 202 = .ok (.invokestatic 57, 3) := by decide +kernel
theorem dL_law_205 : decode cL_law 205 = .ok (.iconst 1, 1) := by decide +kernel
theorem dL_law_206 : decode cL_law 206 = .ok (.iload 5, 2) := by decide +kernel
theorem dL_law_208 : decode cL_law 208 = .ok (.iconst 3, 1) := by decide +kernel
theorem dL_law_209 : decode cL_law 209 = .ok (.ishr, 1) := by decide +kernel
theorem dL_law_210 : decode cL_law 210 = .ok (.sipush 150, 3) := by decide +kernel
theorem dL_law_213 : decode cL_law 213 = .ok (.invokestatic 57, 3) := by decide +kernel
theorem dL_law_216 : decode cL_law 216 = .ok (.iadd, 1) := by decide +kernel
theorem dL_law_217 : decode cL_law 217 = .ok (.invokestatic 120, 3) := by decide +kernel
theorem dL_law_220 : decode cL_law 220 = .ok (.ifCond .eq 89, 3) := by decide +kernel
theorem dL_law_223 : decode cL_law 223 = .ok (.aload_n 1, 1) := by decide +kernel
theorem dL_law_224 : decode cL_law 224 = .ok (.iload 5, 2) := by decide +kernel
theorem dL_law_226 : decode cL_law 226 = .ok (.bipush 6, 2) := by decide +kernel
theorem dL_law_228 : decode cL_law 228 = .ok (.ishr, 1) := by decide +kernel
theorem dL_law_229 : decode cL_law 229 = .ok (.iconst 3, 1) := by decide +kernel
theorem dL_law_230 : decode cL_law 230 = .ok (.invokestatic 57, 3) := by decide +kernel
theorem dL_law_233 : decode cL_law 233 = .ok (.iload 4, 2) := by decide +kernel
theorem dL_law_235 : decode cL_law 235 = .ok (.bipush 7, 2) := by decide +kernel
theorem dL_law_237 : decode cL_law 237 = .ok (.ishr, 1) := by decide +kernel
theorem dL_law_238 : decode cL_law 238 = .ok (.bipush 9, 2) := by decide +kernel
theorem dL_law_240 : decode cL_law 240 = .ok (.invokestatic 57, 3) := by decide +kernel
theorem dL_law_243 : decode cL_law 243 = .ok (.iconst 1, 1) := by decide +kernel
theorem dL_law_244 : decode cL_law 244 = .ok (.iload 4, 2) := by decide +kernel
theorem dL_law_246 : decode cL_law 246 = .ok (.bipush 9, 2) := by decide +kernel
theorem dL_law_248 : decode cL_law 248 = .ok (.ishr, 1) := by decide +kernel
theorem dL_law_249 : decode cL_law 249 = .ok (.sipush 150, 3) := by decide +kernel
theorem dL_law_252 : decode cL_law 252 = .ok (.invokestatic 57, 3) := by decide +kernel
theorem dL_law_255 : decode cL_law 255 = .ok (.iadd, 1) := by decide +kernel
theorem dL_law_256 : decode cL_law 256 = .ok (.invokestatic 131, 3) := by decide +kernel
theorem dL_law_259 : decode cL_law 259 = .ok (.ifCond .eq 50, 3) := by decide +kernel
theorem dL_law_262 : decode cL_law 262 = .ok (.aload_n 1, 1) := by decide +kernel
theorem dL_law_263 : decode cL_law 263 = .ok (.invokestatic 135, 3) := by decide +kernel
theorem dL_law_266 : decode cL_law 266 = .ok (.ifCond .eq 43, 3) := by decide +kernel
theorem dL_law_269 : decode cL_law 269 = .ok (.iload_n 3, 1) := by decide +kernel
theorem dL_law_270 : decode cL_law 270 = .ok (.bipush 6, 2) := by decide +kernel
theorem dL_law_272 : decode cL_law 272 = .ok (.irem, 1) := by decide +kernel
theorem dL_law_273 : decode cL_law 273 = .ok (.ifCond .gt 32, 3) := by decide +kernel
theorem dL_law_276 : decode cL_law 276 = .ok (.aload_n 1, 1) := by decide +kernel
theorem dL_law_277 : decode cL_law 277 = .ok (.iload 4, 2) := by decide +kernel
theorem dL_law_279 : decode cL_law 279 = .ok (.bipush 6, 2) := by decide +kernel
theorem dL_law_281 : decode cL_law 281 = .ok (.ishr, 1) := by decide +kernel
theorem dL_law_282 : decode cL_law 282 = .ok (.iconst 3, 1) := by decide +kernel
theorem dL_law_283 : decode cL_law 283 = .ok (.invokestatic 57, 3) := by decide +kernel
theorem dL_law_286 : decode cL_law 286 = .ok (.iconst 1, 1) := by decide +kernel
theorem dL_law_287 : decode cL_law 287 = .ok (.iload 5, 2) := by decide +kernel
theorem dL_law_289 : decode cL_law 289 = .ok (.bipush 7, 2) := by decide +kernel
theorem dL_law_291 : decode cL_law 291 = .ok (.ishr, 1) := by decide +kernel
theorem dL_law_292 : decode cL_law 292 = .ok (.sipush 150, 3) := by decide +kernel
theorem dL_law_295 : decode cL_law 295 = .ok (.invokestatic 57, 3) := by decide +kernel
theorem dL_law_298 : decode cL_law 298 = .ok (.iadd, 1) := by decide +kernel
theorem dL_law_299 : decode cL_law 299 = .ok (.invokestatic 138, 3) := by decide +kernel
theorem dL_law_302 : decode cL_law 302 = .ok (.ifCond .eq 7, 3) := by decide +kernel
theorem dL_law_305 : decode cL_law 305 = .ok (.iconst 1, 1) := by decide +kernel
theorem dL_law_306 : decode cL_law 306 = .ok (.goto 4, 3) := by decide +kernel
theorem dL_law_309 : decode cL_law 309 = .ok (.iconst 0, 1) := by decide +kernel
theorem dL_law_310 : decode cL_law 310 = .ok (.istore_n 2, 1) := by decide +kernel
theorem dL_law_311 : decode cL_law 311 = .ok (.iinc 3 1, 3) := by decide +kernel
theorem dL_law_314 : decode cL_law 314 = .ok (.goto (-281), 3) := by decide +kernel
theorem dL_law_317 : decode cL_law 317 = .ok (.iload_n 2, 1) := by decide +kernel
theorem dL_law_318 : decode cL_law 318 = .ok (.ireturn, 1) := by decide +kernel
